/-! when they are at the end -/
def en (c p : Nat → Nat) (k : Nat) : Nat := (c k + p k - 1) / p k
def eo (w : Nat) (c p : Nat → Nat) : Nat → Option Nat
  | 0 => none
  | i + 1 => if w.testBit i then (match eo w c p i with
    | none => some (en c p i)
    | some v => some (if v < en c p i then en c p i else v)) else eo w c p i
theorem en_le {c p : Nat → Nat} {k : Nat} (h : c k ≤ 1000000) (hp : 1 ≤ p k) (hp9 : p k ≤ 9) : en c p k ≤ 1000008 := by
  unfold en
  exact Nat.le_trans (Nat.div_le_self _ _) (by omega)
theorem eo_ok {w : Nat} {c p : Nat → Nat} (hB : ∀ k, k < 8 → c k ≤ 1000000) (hp : ∀ k, k < 8 → w.testBit k = true → 1 ≤ p k) (hp9 : ∀ k, k < 8 → p k ≤ 9) : ∀ {i : Nat}, i ≤ 8 → ∀ v, eo w c p i = some v → v ≤ 1000008
  | 0, _, v, h => by cases h
  | i + 1, hi, v, h => by
    have ih := eo_ok hB hp hp9 (i := i) (by omega)
    unfold eo at h
    by_cases hb : w.testBit i = true
    · have := en_le (hB i (by omega)) (hp i (by omega) hb) (hp9 i (by omega))
      rw [if_pos hb] at h
      cases h1 : eo w c p i with
      | none => rw [h1] at h; cases h; exact this
      | some u =>
        rw [h1] at h
        simp only at h
        have := ih u h1
        cases h
        split <;> omega
    · rw [if_neg hb] at h; exact ih v h
theorem en_I {c p : Nat → Nat} {k : Nat} (h : c k ≤ 1000000) (hp : 1 ≤ p k) (hp9 : p k ≤ 9) : (nI (c k) + nI (p k) - 1) / nI (p k) = nI (en c p k) := by
  unfold en
  rw [nI_add, show nI (c k + p k) - 1 = nI (c k + p k - 1) from pk_sub (b := 1) (by omega), pk_div (by omega) (by omega) (by omega)]
theorem c_toEnd {w : Nat} {c p : Nat → Nat} {C P : Nat → Int32} (hw : w < 256) (hC : Row 8 1000000 C c) (hP : Row 8 9 P p) (hp : ∀ k, k < 8 → w.testBit k = true → 1 ≤ p k) : fX2_breathsToEnd C P (nI w) = some (oI (-6) (eo w c p 8)) := by
  have hB : ∀ k, k < 8 → c k ≤ 1000000 := fun k hk => (hC k hk).2
  have hp9 : ∀ k, k < 8 → p k ≤ 9 := fun k hk => (hP k hk).2
  unfold fX2_breathsToEnd
  refine loopF_run 8 (fun i => (oI (-6) (eo w c p i), nI i)) _ ?_ ?_ (FU_gt (by decide))
  · intro i hi K
    show bX2_breathsToEnd_5 K C P (nI w) (oI (-6) (eo w c p i)) (nI i) = K (oI (-6) (eo w c p (i + 1)), nI (i + 1))
    unfold bX2_breathsToEnd_5
    obtain ⟨e1, b1⟩ := hC i hi
    obtain ⟨e2, b2⟩ := hP i hi
    rw [if_neg (n8 hi), nI_1]
    cases hb : w.testBit i with
    | false => rw [if_pos ((bt_c w hw i hi).mpr hb)]; simp [eo, hb]
    | true =>
      have h1 := hp i hi hb
      have hen := en_le b1 h1 b2
      rw [if_neg (fun e => by rw [bt_c w hw i hi, hb] at e; cases e)]
      simp only [ge0 hi, cl8 hi, e1, e2]
      rw [if_neg (nI_nle (by omega) (by omega)), gNz_ok (nI_ne0 (by omega) (by omega)), en_I b1 h1 b2]
      cases h2 : eo w c p i with
      | none =>
        rw [oI_n, if_pos (show (-6 : Int32) < nI (en c p i) from Int32.lt_of_lt_of_le (by decide) (nI_pos' (by omega)))]
        simp [eo, hb, h2, oI]
      | some v =>
        have := eo_ok hB hp hp9 (by omega) v h2
        rw [oI_s]
        by_cases d : v < en c p i
        · rw [if_pos ((nI_ltI (by omega) (by omega)).mpr d)]; simp [eo, hb, h2, oI, d]
        · rw [if_neg (fun e => d ((nI_ltI (by omega) (by omega)).mp e))]; simp [eo, hb, h2, oI, d]
  · intro K
    show bX2_breathsToEnd_5 K C P (nI w) (oI (-6) (eo w c p 8)) (nI 8) = _
    unfold bX2_breathsToEnd_5
    rw [if_pos n88]
theorem m_endOf {c p : Nat → Nat} {C P : Nat → Int32} (hC : Row 8 1000000 C c) (hP : Row 8 9 P p) {k : Nat} (hk : k < 8) (h1 : 1 ≤ p k) : fX10_endOf C P (nI k) = some (nI (en c p k)) := by
  obtain ⟨e1, b1⟩ := hC k hk
  obtain ⟨e2, b2⟩ := hP k hk
  unfold fX10_endOf
  simp only [ge0 hk, cl8 hk, e1, e2]
  rw [gNz_ok (nI_ne0 (by omega) (by omega)), en_I b1 h1 b2]
theorem m_ends15 {W w : Nat} {c p : Nat → Nat} {C P : Nat → Int32} {a1 : Int32} (hW : W < 256) (hC : Row 8 1000000 C c) (hP : Row 8 9 P p) (hp : ∀ k, k < 8 → W.testBit k = true → 1 ≤ p k) (hsel : ∀ k, k < 8 → w.testBit k = (W.testBit k && (decide (a1 < 0) || decide (nI k = a1)))) : bX10_ends_15 (nI W) C P a1 = some (oI (-6) (eo w c p 8)) := by
  have hB : ∀ k, k < 8 → c k ≤ 1000000 := fun k hk => (hC k hk).2
  have hp9 : ∀ k, k < 8 → p k ≤ 9 := fun k hk => (hP k hk).2
  have hpw : ∀ k, k < 8 → w.testBit k = true → 1 ≤ p k := fun k hk hb => by
    rw [hsel k hk, Bool.and_eq_true] at hb
    exact hp k hk hb.1
  unfold bX10_ends_15
  refine loopF_run 8 (fun i => (oI (-6) (eo w c p i), nI i)) _ ?_ ?_ (FU_gt (by decide))
  · intro i hi K
    show bX10_ends_20 K (nI W) C P a1 (oI (-6) (eo w c p i)) (nI i) = K (oI (-6) (eo w c p (i + 1)), nI (i + 1))
    have hs := hsel i hi
    have h35 : (a1 < 0 ∨ nI i = a1) → bX10_ends_35 K (nI W) C P (oI (-6) (eo w c p i)) (nI i) = K (oI (-6) (eo w c p (i + 1)), nI (i + 1)) := by
      intro hor
      have hsel2 : (decide (a1 < 0) || decide (nI i = a1)) = true := by simpa using hor
      rw [hsel2, Bool.and_true] at hs
      unfold bX10_ends_35 bX10_ends_63
      rw [m_has hW hi, bnd_some, nI_1]
      cases hb : W.testBit i with
      | false => rw [if_pos (by simp)]; rw [hb] at hs; simp [eo, hs]
      | true =>
        rw [hb] at hs
        have h1 := hp i hi hb
        have hen := en_le (hB i hi) h1 (hp9 i hi)
        rw [if_neg (by simp), m_endOf hC hP hi h1, bnd_some, bnd_some]
        cases h2 : eo w c p i with
        | none =>
          rw [oI_n, if_neg (fun e => absurd (Int32.le_trans (nI_pos' (show en c p i < 2 ^ 31 by omega)) e) (by decide))]
          simp [eo, hs, h2, oI]
        | some v =>
          have := eo_ok hB hpw hp9 (by omega) v h2
          rw [oI_s]
          by_cases d : v < en c p i
          · rw [if_neg (fun e => by have := (nI_leI (by omega) (by omega)).mp e; omega)]; simp [eo, hs, h2, oI, d]
          · rw [if_pos ((nI_leI (by omega) (by omega)).mpr (by omega))]; simp [eo, hs, h2, oI, d]
    unfold bX10_ends_20
    rw [if_neg (n8 hi)]
    by_cases d1 : a1 < 0
    · rw [if_pos d1]; exact h35 (Or.inl d1)
    · rw [if_neg d1]
      by_cases d2 : nI i = a1
      · rw [if_pos d2]; exact h35 (Or.inr d2)
      · rw [if_neg d2]
        unfold bX10_ends_63
        have : w.testBit i = false := by rw [hs]; simp [d1, d2]
        rw [nI_1]
        simp [eo, this]
  · intro K
    show bX10_ends_20 K (nI W) C P a1 (oI (-6) (eo w c p 8)) (nI 8) = _
    unfold bX10_ends_20
    rw [if_pos n88]
theorem bt_t1 : ∀ w, w < 256 → ∀ k, k < 8 → ∀ i, i < 8 → (w &&& 2 ^ k).testBit i = (w.testBit i && decide (i = k)) := by decide +kernel
theorem r_ends {T W h sh : Nat} {c p : Nat → Nat} {C C' P P' : Nat → Int32} (hG : GH T W h sh p) (hC : R2 8 1000000 C C' c) (hP : R2 8 9 P P' p) (a1 : Int32) : ∃ r, fX9_ends (nI T) (nI W) C P a1 = some r ∧ fX10_ends (nI T) (nI W) C' P' a1 = some r := by
  obtain ⟨g1, g2, g3, g4, g5, g6, g7⟩ := hG
  have hp : ∀ k, k < 8 → W.testBit k = true → 1 ≤ p k := fun k hk hb => g7 k hk (g3 k hk hb)
  unfold fX9_ends fX10_ends
  by_cases d : a1 = (-1)
  · subst d
    rw [if_pos rfl, if_pos rfl, c_toEnd g2 hC.1 hP.1 hp, bnd_some, m_ends15 (w := W) g2 hC.2 hP.2 hp (fun k hk => by rw [show decide ((-1 : Int32) < 0) = true from rfl]; simp)]
    exact ⟨_, rfl, rfl⟩
  · rw [if_neg d, if_neg d]
    rcases thr g1 a1 with ⟨e1, e2⟩ | ⟨j, hj, rfl, hb, e1, e2⟩
    · rw [e1, e2, bnd_some, bnd_some, if_pos rfl, if_pos rfl]; exact ⟨_, rfl, rfl⟩
    · rw [e1, e2, bnd_some, bnd_some, if_neg n10, if_neg n10, bt_an1 W g2 j hj]
      have hs : ∀ k, k < 8 → (W &&& 2 ^ j).testBit k = (W.testBit k && (decide (nI j < 0) || decide (nI k = nI j))) := by
        intro k hk
        rw [bt_t1 W g2 j hj k hk]
        have : decide (nI j < 0) = false := by simp; exact (n0 (by omega) : ¬ nI j < 0) |> fun h => Int32.not_lt.mp h
        rw [this, Bool.false_or]
        congr 1
        by_cases e : k = j
        · simp [e]
        · simp [e]; exact ne_lit (by omega) (by omega) e
      rw [c_toEnd (bt_lta g2) hC.1 hP.1 (fun k hk h2 => hp k hk (by rw [bt_t1 W g2 j hj k hk, Bool.and_eq_true] at h2; exact h2.1)), bnd_some, m_ends15 g2 hC.2 hP.2 hp hs]
      exact ⟨_, rfl, rfl⟩
/-! who meet -/
theorem awk {T W : Nat} (hT : T < 256) (hW : W < 256) (hs : ∀ k, k < 8 → W.testBit k = true → T.testBit k = true) (a : Int32) : (fX2_isAwake (nI W) a = some 0 ∧ fX10_isAwake (nI T) (nI W) a = some 0) ∨ ∃ k, k < 8 ∧ a = nI k ∧ W.testBit k = true ∧ fX2_isAwake (nI W) a = some 1 ∧ fX10_isAwake (nI T) (nI W) a = some 1 := by
  unfold fX10_isAwake
  rcases thr hW a with ⟨e1, e2⟩ | ⟨k, hk, rfl, hb, e1, e2⟩
  · refine Or.inl ⟨e1, ?_⟩
    rcases thr hT a with ⟨f1, f2⟩ | ⟨j, hj, rfl, hb, f1, f2⟩
    · rw [f2, bnd_some, if_pos rfl]
    · rw [f2, bnd_some, if_neg n10, m_has hW hj, bnd_some]
      have : fX2_isAwake (nI W) (nI j) = some 0 := e1
      rw [c_isAwake hW hj] at this
      cases hb : W.testBit j with
      | false => rfl
      | true => rw [hb] at this; cases this
  · refine Or.inr ⟨k, hk, rfl, hb, e1, ?_⟩
    rw [m_isThere hT hk, hs k hk hb, bnd_some, if_neg (by simp), m_has hW hk, hb, bnd_some]
    rfl
theorem r_meet {T W h sh : Nat} {c p : Nat → Nat} {C C' P P' : Nat → Int32} (hG : GH T W h sh p) (hC : R2 8 1000000 C C' c) (hP : R2 8 9 P P' p) (a1 a2 : Int32) : ∃ r, fX9_meet (nI W) C P a1 a2 = some r ∧ fX10_meet (nI T) (nI W) C' P' a1 a2 = some r := by
  obtain ⟨g1, g2, g3, g4, g5, g6, g7⟩ := hG
  unfold fX9_meet fX10_meet
  rcases awk g1 g2 g3 a1 with ⟨e1, e2⟩ | ⟨i, hi, rfl, hbi, e1, e2⟩
  · rw [e1, e2, bnd_some, bnd_some, if_pos rfl, if_pos rfl]
    split <;> exact ⟨_, rfl, rfl⟩
  · rw [e1, e2, bnd_some, bnd_some, if_neg n10, if_neg n10]
    rcases awk g1 g2 g3 a2 with ⟨f1, f2⟩ | ⟨j, hj, rfl, hbj, f1, f2⟩
    · rw [f1, f2, bnd_some, bnd_some, if_pos rfl, if_pos rfl]
      split <;> exact ⟨_, rfl, rfl⟩
    · rw [f1, f2, bnd_some, bnd_some, if_neg n10, if_neg n10]
      by_cases d : nI i = nI j
      · rw [if_pos d, if_pos d]; exact ⟨_, rfl, rfl⟩
      · rw [if_neg d, if_neg d]
        unfold fX2_breathsToMeet
        obtain ⟨c1, b1⟩ := hC.1 i hi
        obtain ⟨c2, b2⟩ := hC.1 j hj
        obtain ⟨c3, -⟩ := hC.2 i hi
        obtain ⟨c4, -⟩ := hC.2 j hj
        obtain ⟨p1, q1⟩ := hP.1 i hi
        obtain ⟨p2, q2⟩ := hP.1 j hj
        obtain ⟨p3, -⟩ := hP.2 i hi
        obtain ⟨p4, -⟩ := hP.2 j hj
        simp only [ge0 hi, ge0 hj, cl8 hi, cl8 hj, c1, c2, c3, c4, p1, p2, p3, p4]
        generalize hx : nI (c i) - nI (c j) = x
        generalize hy : nI (p i) - nI (p j) = y
        have hxI : x.toInt = (c i : Int) - c j := by rw [← hx]; exact pk_sub_toInt (by omega) (by omega)
        have l0 : (lg_cmp ((nI (c i)).toInt64 - (0 : Int32).toInt64 * (nI (p i)).toInt64) 0 ≤ 0) ↔ nI (c i) ≤ 0 := by
          rw [lg_cmp_le, nI_l (by omega), nI_l (by omega), show (0 : Int32).toInt64 = lN 0 from rfl, lN_mul, show 0 * p i = 0 by omega, lN_sub (by omega), show c i - 0 = c i by omega]
          constructor
          · intro e; exact (nI_leI (b := 0) (by omega) (by decide)).mpr ((lN_le (b := 0) (by omega) (by decide)).mp e)
          · intro e; exact (lN_le (b := 0) (by omega) (by decide)).mpr ((nI_leI (b := 0) (by omega) (by decide)).mp e)
        have m86 : bX10_meet_86 C' P' (nI i) 0 = if nI (c i) ≤ 0 then some (-6) else some 0 := by
          unfold bX10_meet_86
          rw [if_neg (by decide)]
          simp only [ge0 hi, cl8 hi, c3, p3, l0]
        have m86n : bX10_meet_86 C' P' (nI i) (-6) = some (-6) := by
          unfold bX10_meet_86
          rw [if_pos (by decide)]
        by_cases dx : x = 0
        · rw [if_pos dx]
          have hz : x - x / y * y = 0 := by rw [dx, Int32.zero_div, Int32.zero_mul]; rfl
          have hz2 : x / y = 0 := by rw [dx, Int32.zero_div]
          rw [hz, hz2, if_pos rfl, m86]
          by_cases dy : y = 0
          · rw [if_pos dy, if_pos dx]
            split <;> exact ⟨_, rfl, rfl⟩
          · rw [if_neg dy, gNz_ok dy, gNz_ok dy]
            split <;> exact ⟨_, rfl, rfl⟩
        · rw [if_neg dx, if_neg dx]
          by_cases dy : y = 0
          · rw [if_pos dy, if_pos dy, m86n]; exact ⟨_, rfl, rfl⟩
          · rw [if_neg dy, if_neg dy, gNz_ok dy, gNz_ok dy, gNz_ok dy, gNz_ok dy]
            by_cases dv : x - x / y * y = 0
            · rw [if_pos dv, if_pos dv]
              generalize ht : x / y = t
              have hmin : x ≠ Int32.minValue := fun e => by
                rw [e] at hxI
                have : Int32.minValue.toInt = -2147483648 := by decide
                omega
              have htI : t.toInt = x.toInt.tdiv y.toInt := by rw [← ht]; exact Int32.toInt_div_of_ne_left x y hmin
              have hta : t.toInt.natAbs ≤ 1000000 := by
                rw [htI]
                refine Nat.le_trans (Int.natAbs_tdiv_le_natAbs _ _) ?_
                omega
              by_cases dt : t < 0
              · rw [if_pos (Int32.le_of_lt dt)]
                unfold bX10_meet_86
                rw [if_pos dt]
                exact ⟨_, rfl, rfl⟩
              · obtain ⟨m, hm, rfl⟩ := nI_of dt
                have hm2 : m ≤ 1000000 := by rw [nI_toInt hm] at hta; omega
                unfold bX10_meet_86
                simp only [ge0 hi, cl8 hi, c3, p3]
                rw [if_neg (n0 hm)]
                by_cases dz : m = 0
                · subst dz
                  rw [if_pos (show nI 0 ≤ 0 by decide)]
                  exfalso
                  have e0 : x.toInt.tdiv y.toInt = 0 := by rw [← htI]; rfl
                  rw [ht, show nI 0 * y = 0 from Int32.zero_mul, Int32.sub_zero] at dv
                  exact dx dv
                · rw [if_neg (nI_nle (by omega) hm), show fX2_countBehind C P (nI i) 0 (nI m) = _ from c_countBehind hC.1 hP.1 hi (v := 0) (b := m) (by omega) hm2, bnd_some]
                  have hmul : m * p i ≤ 1000000 * 9 := Nat.mul_le_mul hm2 q1
                  have key : (lg_cmp ((nI (c i)).toInt64 - (nI m).toInt64 * (nI (p i)).toInt64) 0 ≤ 0) ↔ nI (c i - 0 - m * p i) ≤ 0 := by
                    rw [lg_cmp_le, nI_l (by omega), nI_l hm, nI_l (by omega), lN_mul]
                    constructor
                    · intro e
                      have h2 : c i ≤ m * p i := by
                        by_cases hc : m * p i < c i
                        · rw [lN_sub (by omega)] at e
                          have := (lN_le (b := 0) (by omega) (by decide)).mp e
                          omega
                        · omega
                      rw [show c i - 0 - m * p i = 0 by omega]; decide
                    · intro e
                      have h2 := (nI_leI (b := 0) (by omega) (by decide)).mp e
                      have e3 : (lN (c i) - lN (m * p i)).toInt ≤ 0 := by
                        rw [Int64.toInt_sub, lN_toInt (by omega), lN_toInt (by omega), Int.bmod_eq_of_le (by omega) (by omega)]
                        omega
                      exact Int64.le_iff_toInt_le.mpr e3
                  by_cases dk : nI (c i - 0 - m * p i) ≤ 0
                  · rw [if_pos dk, if_pos (key.mpr dk)]; exact ⟨_, rfl, rfl⟩
                  · rw [if_neg dk, if_neg (fun e => dk (key.mp e))]; exact ⟨_, rfl, rfl⟩
            · rw [if_neg dv, if_neg dv, m86n]; exact ⟨_, rfl, rfl⟩
