/-! a year by draws -/
def yMo (x : Nat) : Option Nat := if 2 ≤ x % 8 ∧ x % 8 ≤ 5 then some (x / 8 % 8) else none
def yS (x : Nat) : Nat := if x % 8 = 0 then 33 else if x % 8 = 1 then 42 else if x % 8 = 2 then 107 else if x % 8 = 3 then 101 else if x % 8 = 4 then 65 + x / 64 % 8 else if x % 8 = 5 then 119 else 58
theorem rem8 {x : Nat} (hx : x < 2 ^ 31) : nI x - nI x / 8 * 8 = nI (x % 8) := pk_rem (d := 8) hx (by decide) (by decide)
theorem rem88 {x : Nat} (hx : x < 2 ^ 31) : nI x / 8 - nI x / 8 / 8 * 8 = nI (x / 8 % 8) := by
  rw [show nI x / 8 = nI (x / 8) from pk_div (d := 8) hx (by decide) (by decide)]
  exact rem8 (Nat.lt_of_le_of_lt (Nat.div_le_self _ _) hx)
theorem rem64 {x : Nat} (hx : x < 2 ^ 31) : nI x / 64 - nI x / 64 / 8 * 8 = nI (x / 64 % 8) := by
  rw [show nI x / 64 = nI (x / 64) from pk_div (d := 64) hx (by decide) (by decide)]
  exact rem8 (Nat.lt_of_le_of_lt (Nat.div_le_self _ _) hx)
theorem c_monkDrawn {x : Nat} (hx : x < 2 ^ 31) : fX8_monkDrawn (nI x) = some (oM (yMo x)) := by
  unfold fX8_monkDrawn yMo
  rw [rem8 hx, rem88 hx]
  have hm : x % 8 < 8 := Nat.mod_lt _ (by decide)
  rcases win (nI (x % 8)) 2 5 (by decide) (by decide) with ⟨e1, -⟩ | ⟨k, k1, k2, e, e1, -⟩
  · rw [show fX9_isWithin (nI (x % 8)) 2 5 = some 0 from e1, bnd_some, if_pos rfl, if_neg]
    · rfl
    · intro hh
      have := m_in (a := x % 8) (l := 2) (h := 5) (by omega) (by decide) (by decide)
      rw [if_pos hh] at this
      have e2 : fX9_isWithin (nI (x % 8)) (nI 2) (nI 5) = some 1 := this
      rw [e1] at e2; cases e2
  · have ek : x % 8 = k := (nI_eq (by omega) (by omega)).mp e
    rw [show fX9_isWithin (nI (x % 8)) 2 5 = some 1 from e1, bnd_some, if_neg n10, if_pos (by omega)]
    rfl
theorem c_signDrawn {x : Nat} (hx : x < 2 ^ 31) : fX8_signDrawn (nI x) = some (nI (yS x)) := by
  unfold fX8_signDrawn yS
  rw [rem8 hx, rem64 hx]
  have hm : x % 8 < 8 := Nat.mod_lt _ (by decide)
  have l : ∀ d : Nat, d < 8 → (nI (x % 8) = nI d ↔ x % 8 = d) := fun d hd => nI_eq (by omega) (by omega)
  have l0 : (nI (x % 8) = 0) ↔ x % 8 = 0 := l 0 (by decide)
  have l1 : (nI (x % 8) = 1) ↔ x % 8 = 1 := l 1 (by decide)
  have l2 : (nI (x % 8) = 2) ↔ x % 8 = 2 := l 2 (by decide)
  have l3 : (nI (x % 8) = 3) ↔ x % 8 = 3 := l 3 (by decide)
  have l4 : (nI (x % 8) = 4) ↔ x % 8 = 4 := l 4 (by decide)
  have l5 : (nI (x % 8) = 5) ↔ x % 8 = 5 := l 5 (by decide)
  simp only [l0, l1, l2, l3, l4, l5]
  rw [show (65 : Int32) + nI (x / 64 % 8) = nI (65 + x / 64 % 8) from nI_add 65 _]
  by_cases d0 : x % 8 = 0
  · simp only [d0]; rfl
  by_cases d1 : x % 8 = 1
  · simp only [d1]; rfl
  by_cases d2 : x % 8 = 2
  · simp only [d2]; rfl
  by_cases d3 : x % 8 = 3
  · simp only [d3]; rfl
  by_cases d4 : x % 8 = 4
  · simp only [d4]; rfl
  by_cases d5 : x % 8 = 5
  · simp only [d5]; rfl
  simp only [d0, d1, d2, d3, d4, d5, if_false]; rfl
theorem y_ok (x : Nat) : okA (yMo x) (yS x) := by
  have hm : x % 8 < 8 := Nat.mod_lt _ (by decide)
  have h8 : x / 8 % 8 < 8 := Nat.mod_lt _ (by decide)
  have h64 : x / 64 % 8 < 8 := Nat.mod_lt _ (by decide)
  unfold yMo yS
  by_cases d0 : x % 8 = 0
  · simp only [d0]; exact Or.inl rfl
  by_cases d1 : x % 8 = 1
  · simp only [d1]; exact Or.inr (Or.inl rfl)
  by_cases d2 : x % 8 = 2
  · simp only [d2]; exact ⟨h8, Or.inr (Or.inr (Or.inl rfl))⟩
  by_cases d3 : x % 8 = 3
  · simp only [d3]; exact ⟨h8, Or.inr (Or.inr (Or.inr rfl))⟩
  by_cases d4 : x % 8 = 4
  · simp only [d4]; exact ⟨h8, Or.inl (isL_iff.mpr (by simp; omega))⟩
  by_cases d5 : x % 8 = 5
  · simp only [d5]; exact ⟨h8, Or.inr (Or.inl rfl)⟩
  · simp only [d0, d1, d2, d3, d4, d5, if_false]
    rw [if_neg (by omega)]
    exact Or.inr (Or.inr (Or.inr rfl))
theorem brs_at (w : Nat) (p c : Nat → Nat) (k : Nat) : ∀ i, brs w p c i k = if w.testBit k = true then c k - i * p k else c k
  | 0 => by simp [brs]
  | i + 1 => by
    have ih := brs_at w p c k i
    show brf w 1 (brs w p c i) p k = _
    unfold brf
    by_cases hb : w.testBit k = true
    · rw [if_pos hb] at ih
      have e : (i + 1) * p k = i * p k + p k := Nat.succ_mul i (p k)
      rw [if_pos hb, if_pos hb, ih, e]
      omega
    · rw [if_neg hb] at ih
      rw [if_neg hb, if_neg hb, ih]
def yW (T w : Nat) (mo : Option Nat) (s : Nat) : Nat := if why T w mo s = 0 then aW w mo s else w
def yC (T w h : Nat) (p c : Nat → Nat) (mo : Option Nat) (s : Nat) : Nat → Nat := if why T w mo s = 0 then nC w h p c mo s else c
theorem c_passAct {T w h s : Nat} {mo : Option Nat} {C P : Nat → Int32} {c p : Nat → Nat} (hT : T < 256) (hw : w < 256) (hh : h ≤ 1000000) (hC : Row 8 1000000 C c) (hP : Row 8 9 P p) (ho : okA mo s) (h46 : s ≠ 46) : ∃ C2, fX8_passAct (nI T) (nI w) (nI h) C P (oM mo) (nI s) = some (nI (yW T w mo s), C2) ∧ Row 8 1000000 C2 (yC T w h p c mo s) := by
  unfold fX8_passAct yW yC
  have hwl := why_lt T w mo s
  rw [c_whyNot hT hw (okA_m ho) (okA_lt ho), bnd_some]
  by_cases h0 : why T w mo s = 0
  · rw [if_pos (show nI (why T w mo s) = 0 by rw [h0]; rfl), if_pos h0, if_pos h0]
    by_cases h58 : s = 58
    · subst h58
      have hmo : mo = none := by
        cases mo with
        | none => rfl
        | some k => have h2 := ho.2; simp [isL] at h2
      subst hmo
      obtain ⟨C2, e, hR⟩ := c_breathe hw hC hP (b := 10) (by decide)
      unfold fX2_act
      rw [if_neg (show ¬ nI 58 = 33 by decide), if_neg (show ¬ nI 58 = 42 by decide), if_neg (show ¬ nI 58 = 46 by decide), if_pos (show nI 58 = 58 from rfl), show fX2_breathe (nI w) C P 10 = _ from e, bnd_some, bnd_some]
      refine ⟨C2, rfl, hR.cong (fun k hk => ?_)⟩
      show brf w 10 c p k = nC w h p c none 58 k
      unfold nC
      rw [if_pos (Or.inr rfl)]
      exact (brs_at w p c k 10).symm
    · obtain ⟨C2, e, hR⟩ := c_act (P := P) hw hh hC ho h46 h58
      rw [e, bnd_some]
      refine ⟨C2, rfl, ?_⟩
      unfold nC
      rw [if_neg (by omega)]
      exact hR
  · rw [if_neg (fun e => h0 ((nI_eq0 (by omega)).mp e)), if_neg h0, if_neg h0]
    exact ⟨C, rfl, hC⟩
theorem m_turn84 {T w h k s : Nat} {C : Nat → Int32} {c p : Nat → Nat} (hT : T < 256) (hw : w < 256) (hh : h ≤ 1000000) (hC : Row 8 1000000 C c) (hk : k < 8) (hs : s = 119 ∨ s = 107 ∨ s = 101) : ∃ C2, bX10_turn_84 (nI T) (nI h) (nI k) (nI s) (nI w) C = some (nI (yW T w (some k) s), C2) ∧ Row 8 1000000 C2 (yC T w h p c (some k) s) := by
  unfold bX10_turn_84 yW yC
  have hL : isL s = false := by rcases hs with rfl | rfl | rfl <;> rfl
  have hwl := why_lt T w (some k) s
  rw [m_why hT hw hk (by omega) hL, bnd_some]
  by_cases h0 : why T w (some k) s = 0
  · have hel : s = 101 → w.testBit k = true := by
      intro e
      subst e
      cases hb5 : w.testBit k with
      | true => rfl
      | false =>
        simp only [why, hb5, show isL 101 = false from rfl] at h0
        split at h0 <;> simp at h0
    obtain ⟨C2, e, hR⟩ := m_act hw hh hC hk hs hel
    rw [if_pos (show nI (why T w (some k) s) = 0 by rw [h0]; rfl), if_pos h0, if_pos h0, e, bnd_some]
    refine ⟨C2, rfl, ?_⟩
    unfold nC
    rw [if_neg (by omega)]
    exact hR
  · rw [if_neg (fun e => h0 ((nI_eq0 (by omega)).mp e)), if_neg h0, if_neg h0]
    exact ⟨C, rfl, hC⟩
theorem m_turn {T w h x : Nat} {C P : Nat → Int32} {c p : Nat → Nat} (hT : T < 256) (hw : w < 256) (hh : h ≤ 1000000) (hC : Row 8 1000000 C c) (hP : Row 8 9 P p) (hx : x < 2 ^ 31) : ∃ C2, fX10_turn (nI T) (nI h) (nI w) P C (nI x) = some (nI (yW T w (yMo x) (yS x)), C2) ∧ Row 8 1000000 C2 (yC T w h p c (yMo x) (yS x)) := by
  unfold fX10_turn
  rw [rem8 hx, rem88 hx, rem64 hx]
  have hm : x % 8 < 8 := Nat.mod_lt _ (by decide)
  have h8 : x / 8 % 8 < 8 := Nat.mod_lt _ (by decide)
  have h64 : x / 64 % 8 < 8 := Nat.mod_lt _ (by decide)
  have l : ∀ d : Nat, d < 8 → (nI (x % 8) = nI d ↔ x % 8 = d) := fun d hd => nI_eq (by omega) (by omega)
  have l0 : (nI (x % 8) = 0) ↔ x % 8 = 0 := l 0 (by decide)
  have l1 : (nI (x % 8) = 1) ↔ x % 8 = 1 := l 1 (by decide)
  have l2 : (nI (x % 8) = 2) ↔ x % 8 = 2 := l 2 (by decide)
  have l3 : (nI (x % 8) = 3) ↔ x % 8 = 3 := l 3 (by decide)
  have l4 : (nI (x % 8) = 4) ↔ x % 8 = 4 := l 4 (by decide)
  have l5 : (nI (x % 8) = 5) ↔ x % 8 = 5 := l 5 (by decide)
  unfold bX10_turn_62
  simp only [l0, l1, l2, l3, l4, l5]
  by_cases d4 : x % 8 = 4
  · rw [if_pos d4]
    have em : yMo x = some (x / 8 % 8) := by unfold yMo; rw [if_pos (by omega)]
    have es : yS x = x / 64 % 8 + 65 := by unfold yS; simp only [d4]; simp; omega
    rw [em, es, m_whySleep hT hw h8 h64, bnd_some]
    have hwl := why_lt T w (some (x / 8 % 8)) (x / 64 % 8 + 65)
    unfold yW yC
    by_cases h0 : why T w (some (x / 8 % 8)) (x / 64 % 8 + 65) = 0
    · obtain ⟨C2, e, hR⟩ := m_sleep hw hC h8 h64 h
      rw [if_pos (show nI (why T w (some (x / 8 % 8)) (x / 64 % 8 + 65)) = 0 by rw [h0]; rfl), if_pos h0, if_pos h0, e, bnd_some]
      refine ⟨C2, rfl, ?_⟩
      unfold nC
      rw [if_neg (by omega)]
      exact hR
    · rw [if_neg (fun e => h0 ((nI_eq0 (by omega)).mp e)), if_neg h0, if_neg h0]
      exact ⟨C, rfl, hC⟩
  rw [if_neg d4]
  by_cases d2 : x % 8 = 2
  · have em : yMo x = some (x / 8 % 8) := by unfold yMo; rw [if_pos (by omega)]
    have es : yS x = 107 := by unfold yS; simp only [d2]; rfl
    rw [if_pos d2, if_pos d2, em, es]
    exact m_turn84 (s := 107) hT hw hh hC h8 (Or.inr (Or.inl rfl))
  rw [if_neg d2]
  by_cases d3 : x % 8 = 3
  · have em : yMo x = some (x / 8 % 8) := by unfold yMo; rw [if_pos (by omega)]
    have es : yS x = 101 := by unfold yS; simp only [d3]; rfl
    rw [if_pos d3, if_neg d2, if_pos d3, em, es]
    exact m_turn84 (s := 101) hT hw hh hC h8 (Or.inr (Or.inr rfl))
  rw [if_neg d3]
  by_cases d5 : x % 8 = 5
  · have em : yMo x = some (x / 8 % 8) := by unfold yMo; rw [if_pos (by omega)]
    have es : yS x = 119 := by unfold yS; simp only [d5]; rfl
    rw [if_pos d5, if_neg d2, if_neg d3, em, es]
    exact m_turn84 (s := 119) hT hw hh hC h8 (Or.inl rfl)
  rw [if_neg d5]
  have em : yMo x = none := by unfold yMo; rw [if_neg (by omega)]
  rw [em]
  have hwhy : ∀ s, why T w none s = if w = 0 then 5 else 0 := fun s => rfl
  unfold yW yC
  rw [hwhy]
  by_cases hw0 : w = 0
  · rw [if_pos (show nI w = 0 by rw [hw0]; rfl), if_pos hw0, if_neg (by decide), if_neg (by decide)]
    exact ⟨C, rfl, hC⟩
  · rw [if_neg (fun e => hw0 ((nI_eq0 (by omega)).mp e)), if_neg hw0, if_pos rfl, if_pos rfl]
    by_cases d0 : x % 8 = 0
    · have es : yS x = 33 := by unfold yS; simp only [d0]; rfl
      obtain ⟨C2, e, hR⟩ := m_bell hw hh hC
      rw [if_pos d0, e, bnd_some, es]
      exact ⟨C2, rfl, hR⟩
    · rw [if_neg d0]
      by_cases d1 : x % 8 = 1
      · have es : yS x = 42 := by unfold yS; simp only [d1]; rfl
        obtain ⟨b, e, hb8, hR⟩ := m_sting hw hh hC hw0
        rw [if_pos d1, e, bnd_some, ge0 hb8, cl8 hb8, es]
        exact ⟨_, rfl, hR⟩
      · rw [if_neg d1]
        have es : yS x = 58 := by unfold yS; rw [if_neg d0, if_neg d1, if_neg d2, if_neg d3, if_neg d4, if_neg d5]
        rw [es]
        refine ⟨mbr (nI w) P C 10, ?_, (mbr_ok hw hC hP 10).1⟩
        refine loopF_run 10 (fun i => (nI i, nI w, mbr (nI w) P C i)) _ ?_ ?_ (FU_gt (by decide))
        · intro i hi K
          show bX10_turn_148 K P (nI i) (nI w) (mbr (nI w) P C i) = _
          unfold bX10_turn_148
          rw [if_neg (show ¬ (10 : Int32) ≤ nI i from fun e => by have := (nI_leI (a := 10) (by decide) (by omega)).mp e; omega), (mbr_ok hw hC hP i).2, bnd_some, nI_1]
        · intro K
          show bX10_turn_148 K P (nI 10) (nI w) (mbr (nI w) P C 10) = _
          unfold bX10_turn_148
          rw [if_pos (by decide)]
          rfl

theorem n255 : ∀ a, a < 256 → nI a = nI a &&& 255 := by decide +kernel
theorem not255 : ∀ b, b < 256 → 255 &&& (nI b ^^^ (-1)) = nI (255 ^^^ b) := by decide +kernel
theorem and_not {a b : Nat} (ha : a < 256) (hb : b < 256) : nI a &&& (nI b ^^^ (-1)) = nI (a &&& (255 ^^^ b)) := by
  rw [n255 a ha, Int32.and_assoc, not255 b hb, nI_and]
theorem t255 : ∀ k, k < 8 → Nat.testBit 255 k = true := by decide
/-- somebody there is at 0 who was not before -/
def nz (T : Nat) (c c2 : Nat → Nat) : Nat → Bool
  | 0 => false
  | i + 1 => nz T c c2 i || (T.testBit i && decide (c2 i = 0) && !decide (c i = 0))
theorem nz_iff (T : Nat) (c c2 : Nat → Nat) : ∀ i, nz T c c2 i = true ↔ ∃ k, k < i ∧ T.testBit k = true ∧ c2 k = 0 ∧ c k ≠ 0
  | 0 => by simp [nz]
  | i + 1 => by
    have ih := nz_iff T c c2 i
    unfold nz
    rw [Bool.or_eq_true, ih]
    simp only [Bool.and_eq_true, decide_eq_true_eq, Bool.not_eq_true', decide_eq_false_iff_not]
    constructor
    · rintro (⟨k, h1, h2⟩ | h)
      · exact ⟨k, by omega, h2⟩
      · exact ⟨i, by omega, h.1.1, h.1.2, h.2⟩
    · rintro ⟨k, h1, h2, h3, h4⟩
      by_cases e : k = i
      · subst e; exact Or.inr ⟨⟨h2, h3⟩, h4⟩
      · exact Or.inl ⟨k, by omega, h2, h3, h4⟩
theorem c_nz {T : Nat} {c c2 : Nat → Nat} : (nI (zs T c2 8) &&& (nI (zs T c 8) ^^^ (-1))) = 0 ↔ nz T c c2 8 = false := by
  have l1 := zs_lt T c2 (Nat.le_refl 8)
  have l2 := zs_lt T c (Nat.le_refl 8)
  rw [and_not l1 l2, nI_eq0 (by have := bt_lta (x := 255 ^^^ zs T c 8) l1; omega), ← bt_ext _ (bt_lta l1)]
  have hbit : ∀ k, k < 8 → (zs T c2 8 &&& (255 ^^^ zs T c 8)).testBit k = (T.testBit k && decide (c2 k = 0) && !decide (c k = 0)) := by
    intro k hk
    rw [Nat.testBit_and, Nat.testBit_xor, t255 k hk, zs_bit, zs_bit]
    simp only [hk, decide_true, Bool.true_and]
    cases T.testBit k <;> cases decide (c k = 0) <;> simp
  constructor
  · intro h
    cases hn : nz T c c2 8 with
    | false => rfl
    | true =>
      obtain ⟨k, h1, h2, h3, h4⟩ := (nz_iff T c c2 8).mp hn
      have := h k h1
      rw [hbit k h1, h2] at this
      simp [h3, h4] at this
  · intro h k hk
    rw [hbit k hk]
    cases hb : (T.testBit k && decide (c2 k = 0) && !decide (c k = 0)) with
    | false => rfl
    | true =>
      simp only [Bool.and_eq_true, decide_eq_true_eq, Bool.not_eq_true', decide_eq_false_iff_not] at hb
      have := (nz_iff T c c2 8).mpr ⟨k, hk, hb.1.1, hb.1.2, hb.2⟩
      rw [h] at this; cases this
def sumT (T : Nat) (c : Nat → Nat) : Nat → Nat
  | 0 => 0
  | i + 1 => sumT T c i + if T.testBit i then c i else 0
theorem c_sum {T : Nat} {C : Nat → Int32} {c : Nat → Nat} (hT : T < 256) (hC : Row 8 1000000 C c) : fX2_sumOfCounts (nI T) C = some (nI (sumT T c 8)) := by
  unfold fX2_sumOfCounts
  refine loopF_run 8 (fun i => (nI (sumT T c i), nI i)) _ ?_ ?_ (FU_gt (by decide))
  · intro i hi K
    show bX2_sumOfCounts_4 K (nI T) C (nI (sumT T c i)) (nI i) = K (nI (sumT T c (i + 1)), nI (i + 1))
    unfold bX2_sumOfCounts_4
    rw [if_neg (n8 hi), c_isThere hT hi, bnd_some, nI_1]
    cases hb : T.testBit i with
    | false => rw [if_pos (by simp)]; simp [sumT, hb]
    | true => rw [if_neg (by simp), ge0 hi, cl8 hi, (hC i hi).1, nI_add]; simp [sumT, hb]
  · intro K
    show bX2_sumOfCounts_4 K (nI T) C (nI (sumT T c 8)) (nI 8) = _
    unfold bX2_sumOfCounts_4
    rw [if_pos n88]
/-- the year's course: x, who is awake, the counts, acts behind which somebody is newly at 0 -/
def yst (T h : Nat) (p : Nat → Nat) (x0 w0 : Nat) (c0 : Nat → Nat) : Nat → Nat × Nat × (Nat → Nat) × Nat
  | 0 => (x0, w0, c0, 0)
  | i + 1 => ((75 * (yst T h p x0 w0 c0 i).1 + 74) % 65537, yW T (yst T h p x0 w0 c0 i).2.1 (yMo ((75 * (yst T h p x0 w0 c0 i).1 + 74) % 65537)) (yS ((75 * (yst T h p x0 w0 c0 i).1 + 74) % 65537)), yC T (yst T h p x0 w0 c0 i).2.1 h p (yst T h p x0 w0 c0 i).2.2.1 (yMo ((75 * (yst T h p x0 w0 c0 i).1 + 74) % 65537)) (yS ((75 * (yst T h p x0 w0 c0 i).1 + 74) % 65537)), (yst T h p x0 w0 c0 i).2.2.2 + if nz T (yst T h p x0 w0 c0 i).2.2.1 (yC T (yst T h p x0 w0 c0 i).2.1 h p (yst T h p x0 w0 c0 i).2.2.1 (yMo ((75 * (yst T h p x0 w0 c0 i).1 + 74) % 65537)) (yS ((75 * (yst T h p x0 w0 c0 i).1 + 74) % 65537))) 8 then 1 else 0)
theorem yW_lt {T w s : Nat} {mo : Option Nat} (hw : w < 256) (ho : okA mo s) : yW T w mo s < 256 := by
  unfold yW
  split
  · exact aW_lt hw ho
  · exact hw
theorem yst_ok {T h : Nat} {p : Nat → Nat} {x0 w0 : Nat} {c0 : Nat → Nat} (hx : x0 < 65537) (hw : w0 < 256) : ∀ i, (yst T h p x0 w0 c0 i).1 < 65537 ∧ (yst T h p x0 w0 c0 i).2.1 < 256
  | 0 => ⟨hx, hw⟩
  | i + 1 => by
    have ih := yst_ok (T := T) (h := h) (p := p) (c0 := c0) hx hw i
    exact ⟨Nat.mod_lt _ (by decide), yW_lt ih.2 (y_ok _)⟩
theorem y_next {x : Nat} (hx : x < 65537) : (75 * nI x + 74) - (75 * nI x + 74) / 65537 * 65537 = nI ((75 * x + 74) % 65537) := by
  rw [show (75 : Int32) * nI x = nI (75 * x) from pk_mul 75 x, show nI (75 * x) + 74 = nI (75 * x + 74) from nI_add (75 * x) 74]
  exact pk_rem (d := 65537) (by omega) (by decide) (by decide)
theorem yS_46 (x : Nat) : yS x ≠ 46 := by
  unfold yS
  repeat' split
  all_goals omega
theorem c_yearPass {T W h sh m x0 : Nat} {z0 y1 y2 y3 y4 : Int32} {Y5 Y6 C P : Nat → Int32} {c p : Nat → Nat} (hT : T < 256) (hW : W < 256) (hh : h ≤ 1000000) (hC : Row 8 1000000 C c) (hP : Row 8 9 P p) (hx : x0 < 65537) (hm : m ≤ 99) : ∃ C2 P2, fX8_pass z0 y1 y2 y3 y4 Y5 Y6 (nI T) (nI W) (nI h) (nI sh) C P (nI x0) (nI m) = some (nI (yst T h p x0 W c m).2.2.2, nI T, nI (yst T h p x0 W c m).2.1, nI h, nI sh, C2, P2) ∧ Row 8 1000000 C2 (yst T h p x0 W c m).2.2.1 := by
  unfold fX8_pass fX2_copyFrom
  rw [bnd_some]
  simp only
  have hok := yst_ok (T := T) (h := h) (p := p) (c0 := c) hx hW
  have hP2 : Row 8 9 (va_cpy P Y6 0 0 8) p := hP.cpy
  generalize va_cpy P Y6 0 0 8 = P2 at hP2 ⊢
  refine loopF_inv m (fun i q => ∃ F, q = (nI (yst T h p x0 W c i).1, nI i, nI (yst T h p x0 W c i).2.2.2, nI T, nI (yst T h p x0 W c i).2.1, nI h, nI sh, F, P2) ∧ Row 8 1000000 F (yst T h p x0 W c i).2.2.1) (fun y => ∃ C2 P2, y = some (nI (yst T h p x0 W c m).2.2.2, nI T, nI (yst T h p x0 W c m).2.1, nI h, nI sh, C2, P2) ∧ Row 8 1000000 C2 (yst T h p x0 W c m).2.2.1) ?_ ?_ FU _ (FU_gt (by omega)) ⟨_, rfl, hC.cpy⟩
  · rintro i q hi ⟨F, rfl, hF⟩
    obtain ⟨k1, k2⟩ := hok i
    obtain ⟨k3, k4⟩ := hok (i + 1)
    have hxx : (yst T h p x0 W c (i + 1)).1 = (75 * (yst T h p x0 W c i).1 + 74) % 65537 := rfl
    obtain ⟨F2, e, hF2⟩ := c_passAct (p := p) hT k2 hh hF hP2 (y_ok (yst T h p x0 W c (i + 1)).1) (yS_46 _)
    have hF2 : Row 8 1000000 F2 (yst T h p x0 W c (i + 1)).2.2.1 := hF2
    refine ⟨(nI (yst T h p x0 W c (i + 1)).1, nI (i + 1), nI (yst T h p x0 W c (i + 1)).2.2.2, nI T, nI (yst T h p x0 W c (i + 1)).2.1, nI h, nI sh, F2, P2), ⟨F2, rfl, hF2⟩, fun K => ?_⟩
    show bX8_pass_19 K (nI m) (nI (yst T h p x0 W c i).1) (nI i) (nI (yst T h p x0 W c i).2.2.2) (nI T) (nI (yst T h p x0 W c i).2.1) (nI h) (nI sh) F P2 = _
    unfold bX8_pass_19
    rw [if_neg (fun e => by have := (nI_leI (by omega) (by omega)).mp e; omega), c_atNought hT hF, bnd_some, y_next k1, ← hxx, c_monkDrawn (by omega), bnd_some, c_signDrawn (by omega), bnd_some, e, bnd_some]
    simp only
    rw [c_atNought hT hF2, bnd_some, nI_1, nI_1]
    by_cases hz : nz T (yst T h p x0 W c i).2.2.1 (yst T h p x0 W c (i + 1)).2.2.1 8 = true
    · rw [if_neg (fun e => by have := c_nz.mp e; rw [hz] at this; cases this)]
      have e4 : (yst T h p x0 W c (i + 1)).2.2.2 = (yst T h p x0 W c i).2.2.2 + 1 := by
        show _ + (if nz T (yst T h p x0 W c i).2.2.1 (yst T h p x0 W c (i + 1)).2.2.1 8 = true then 1 else 0) = _
        rw [if_pos hz]
      rw [e4]
      rfl
    · have hz2 : nz T (yst T h p x0 W c i).2.2.1 (yst T h p x0 W c (i + 1)).2.2.1 8 = false := by simpa using hz
      rw [if_pos (c_nz.mpr hz2)]
      have e4 : (yst T h p x0 W c (i + 1)).2.2.2 = (yst T h p x0 W c i).2.2.2 := by
        show _ + (if nz T (yst T h p x0 W c i).2.2.1 (yst T h p x0 W c (i + 1)).2.2.1 8 = true then 1 else 0) = _
        rw [if_neg hz]; rfl
      rw [e4]
      rfl
  · rintro q ⟨F, rfl, hF⟩ K
    refine ⟨F, P2, ?_, hF⟩
    show bX8_pass_19 K (nI m) _ (nI m) (nI (yst T h p x0 W c m).2.2.2) (nI T) (nI (yst T h p x0 W c m).2.1) (nI h) (nI sh) F P2 = _
    unfold bX8_pass_19
    rw [if_pos (Int32.le_refl _)]
