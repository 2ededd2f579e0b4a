/-! the greatest; how much they differ -/
def mxf (w : Nat) (c : Nat → Nat) : Nat → Nat
  | 0 => 0
  | i + 1 => if w.testBit i = true ∧ mxf w c i < c i then c i else mxf w c i
theorem mxf_le {w B : Nat} {c : Nat → Nat} (hB : ∀ k, k < 8 → c k ≤ B) : ∀ {i : Nat}, i ≤ 8 → mxf w c i ≤ B
  | 0, _ => Nat.zero_le _
  | i + 1, h => by
    have ih := mxf_le (w := w) hB (i := i) (by omega)
    have := hB i (by omega)
    unfold mxf
    split <;> omega
theorem mxf_ge {w : Nat} {c : Nat → Nat} {k : Nat} (hb : w.testBit k = true) : ∀ {i : Nat}, k < i → c k ≤ mxf w c i
  | 0, h => by omega
  | i + 1, h => by
    show _ ≤ (if w.testBit i = true ∧ mxf w c i < c i then c i else mxf w c i)
    by_cases e : k = i
    · subst e
      split
      · exact Nat.le_refl _
      · rename_i h2; simp [hb] at h2; exact h2
    · have ih := mxf_ge hb (i := i) (c := c) (by omega)
      split <;> omega
theorem c_greatest {w : Nat} {C : Nat → Int32} {c : Nat → Nat} (hw : w < 256) (hC : Row 8 1000000 C c) : fX2_greatestCount C (nI w) = some (nI (mxf w c 8)) := by
  have hB : ∀ k, k < 8 → c k ≤ 1000000 := fun k hk => (hC k hk).2
  unfold fX2_greatestCount
  refine loopF_run 8 (fun i => (nI (mxf w c i), nI i)) _ ?_ ?_ (FU_gt (by decide))
  · intro i hi K
    show bX2_greatestCount_4 K C (nI w) (nI (mxf w c i)) (nI i) = K (nI (mxf w c (i + 1)), nI (i + 1))
    unfold bX2_greatestCount_4
    obtain ⟨e1, b1⟩ := hC i hi
    have hm := mxf_le (w := w) hB (i := i) (by omega)
    rw [if_neg (n8 hi), nI_1]
    cases hb : w.testBit i with
    | false => rw [if_pos ((bt_c w hw i hi).mpr hb)]; simp [mxf, hb]
    | true =>
      rw [if_neg (fun e => by rw [bt_c w hw i hi, hb] at e; cases e), ge0 hi, cl8 hi, e1]
      by_cases d : mxf w c i < c i
      · rw [if_pos ((nI_ltI (by omega) (by omega)).mpr d)]; simp [mxf, hb, d]
      · rw [if_neg (fun e => d ((nI_ltI (by omega) (by omega)).mp e))]; simp [mxf, hb, d]
  · intro K
    show bX2_greatestCount_4 K C (nI w) (nI (mxf w c 8)) (nI 8) = _
    unfold bX2_greatestCount_4
    rw [if_pos n88]
def spr (w : Nat) (c : Nat → Nat) : Nat := match fo w c 8 with
  | none => 0
  | some b => mxf w c 8 - c b
theorem spr_le {w B : Nat} {c : Nat → Nat} (hB : ∀ k, k < 8 → c k ≤ B) : spr w c ≤ B := by
  have := mxf_le (w := w) hB (i := 8) (Nat.le_refl _)
  unfold spr
  split <;> omega
theorem c_spread {w : Nat} {C : Nat → Int32} {c : Nat → Nat} (hw : w < 256) (hC : Row 8 1000000 C c) : fX2_spread (nI w) C = some (nI (spr w c)) := by
  unfold fX2_spread spr
  rw [c_foremost hw hC, bnd_some]
  cases h1 : fo w c 8 with
  | none => rw [oI_n, if_pos rfl]; rfl
  | some b =>
    obtain ⟨hb, hbt⟩ := fo_some h1
    rw [oI_s, if_neg (nI_m1 (by omega)), c_greatest hw hC, bnd_some, ge0 hb, cl8 hb, (hC b hb).1, pk_sub (mxf_ge hbt hb)]
def mnf (w : Nat) (c : Nat → Nat) (i : Nat) : Option Nat := (fo w c i).map c
theorem mnf_s {w : Nat} {c : Nat → Nat} {i : Nat} (hb : w.testBit i = true) : mnf w c (i + 1) = match mnf w c i with
    | none => some (c i)
    | some v => some (if v ≤ c i then v else c i) := by
  unfold mnf
  show Option.map c (match fo w c i with
    | none => if w.testBit i then some i else none
    | some b => if w.testBit i ∧ c i < c b then some i else some b) = _
  cases h : fo w c i with
  | none => simp [hb]
  | some b =>
    simp only [hb, true_and, Option.map_some]
    by_cases d : c i < c b
    · rw [if_pos d, if_neg (by omega)]; rfl
    · rw [if_neg d, if_pos (by omega)]; rfl
theorem mnf_n {w : Nat} {c : Nat → Nat} {i : Nat} (hb : w.testBit i = false) : mnf w c (i + 1) = mnf w c i := by
  unfold mnf
  show Option.map c (match fo w c i with
    | none => if w.testBit i then some i else none
    | some b => if w.testBit i ∧ c i < c b then some i else some b) = _
  cases h : fo w c i <;> simp [hb]
theorem m_spread {w : Nat} {C : Nat → Int32} {c : Nat → Nat} (hw : w < 256) (hC : Row 8 1000000 C c) : fX10_spread (nI w) C = some (nI (spr w c)) := by
  have hB : ∀ k, k < 8 → c k ≤ 1000000 := fun k hk => (hC k hk).2
  unfold fX10_spread
  refine loopF_run 8 (fun i => (oI 100000000 (mnf w c i), nI (mxf w c i), nI i)) _ ?_ ?_ (FU_gt (by decide))
  · intro i hi K
    show bX10_spread_7 K (nI w) C (oI 100000000 (mnf w c i)) (nI (mxf w c i)) (nI i) = K (oI 100000000 (mnf w c (i + 1)), nI (mxf w c (i + 1)), nI (i + 1))
    unfold bX10_spread_7 bX10_spread_44
    obtain ⟨e1, b1⟩ := hC i hi
    have hm := mxf_le (w := w) hB (i := i) (by omega)
    rw [if_neg (n8 hi), m_has hw hi, bnd_some, nI_1]
    cases hb : w.testBit i with
    | false => rw [if_pos (by simp), mnf_n hb]; simp [mxf, hb]
    | true =>
      rw [if_neg (by simp), mnf_s hb]
      simp only [ge0 hi, cl8 hi, e1]
      have hmx : (if nI (c i) ≤ nI (mxf w c i) then nI (mxf w c i) else nI (c i)) = nI (mxf w c (i + 1)) := by
        by_cases d : mxf w c i < c i
        · rw [if_neg (fun e => by have := (nI_leI (by omega) (by omega)).mp e; omega)]; simp [mxf, hb, d]
        · rw [if_pos ((nI_leI (by omega) (by omega)).mpr (by omega))]; simp [mxf, hb, d]
      have hcases : ∀ x : Int32, (if nI (c i) ≤ nI (mxf w c i) then K (x, nI (mxf w c i), nI (i + 1)) else K (x, nI (c i), nI (i + 1))) = K (x, nI (mxf w c (i + 1)), nI (i + 1)) := by
        intro x
        rw [← hmx]
        split <;> rfl
      rw [hcases, hcases]
      cases h : mnf w c i with
      | none =>
        rw [oI_n, if_neg (show ¬ (100000000 : Int32) ≤ nI (c i) from fun e => by have := (nI_leI (a := 100000000) (by decide) (by omega)).mp e; omega)]
        rfl
      | some v =>
        have hv : v ≤ 1000000 := by
          unfold mnf at h
          cases h5 : fo w c i with
          | none => rw [h5] at h; cases h
          | some b => rw [h5] at h; cases h; exact hB b (by have := (fo_some h5).1; omega)
        rw [oI_s]
        by_cases d : v ≤ c i
        · rw [if_pos ((nI_leI (by omega) (by omega)).mpr d)]; simp [d, oI]
        · rw [if_neg (fun e => d ((nI_leI (by omega) (by omega)).mp e))]; simp [d, oI]
  · intro K
    show bX10_spread_7 K (nI w) C (oI 100000000 (mnf w c 8)) (nI (mxf w c 8)) (nI 8) = _
    unfold bX10_spread_7 spr mnf
    rw [if_pos n88]
    cases h1 : fo w c 8 with
    | none => rfl
    | some b =>
      obtain ⟨hb, hbt⟩ := fo_some h1
      have := hB b hb
      rw [Option.map_some, oI_s, if_neg (fun e => by have := (nI_eq (b := 100000000) (by omega) (by decide)).mp e; omega), pk_sub (mxf_ge hbt hb)]
theorem nI_eq0 {a : Nat} (h : a < 2 ^ 31) : nI a = 0 ↔ a = 0 := nI_eq (b := 0) h (by decide)
/-! who is at 0 -/
def zs (T : Nat) (c : Nat → Nat) : Nat → Nat
  | 0 => 0
  | i + 1 => if T.testBit i = true ∧ c i = 0 then zs T c i ||| 2 ^ i else zs T c i
theorem zs_lt (T : Nat) (c : Nat → Nat) : ∀ {i : Nat}, i ≤ 8 → zs T c i < 256
  | 0, _ => by show 0 < 256; decide
  | i + 1, h => by
    have ih := zs_lt T c (i := i) (by omega)
    unfold zs
    split
    · exact bt_lt ih (by omega)
    · exact ih
theorem zs_bit (T : Nat) (c : Nat → Nat) : ∀ (i k : Nat), (zs T c i).testBit k = (decide (k < i) && (T.testBit k && decide (c k = 0)))
  | 0, k => by simp [zs]
  | i + 1, k => by
    have ih := zs_bit T c i k
    unfold zs
    by_cases h : T.testBit i = true ∧ c i = 0
    · rw [if_pos h, bt_tor, ih]
      by_cases e : k = i
      · subst e; simp [h]
      · have : (k < i + 1) ↔ (k < i) := by omega
        simp [e, this]
    · rw [if_neg h, ih]
      by_cases e : k = i
      · subst e
        have h3 : (T.testBit k && decide (c k = 0)) = false := by
          cases hb : T.testBit k with
          | false => rfl
          | true => simp [hb] at h; simp [h]
        rw [h3]; simp
      · have : (k < i + 1) ↔ (k < i) := by omega
        simp [this]
theorem c_atNought {T : Nat} {C : Nat → Int32} {c : Nat → Nat} (hT : T < 256) (hC : Row 8 1000000 C c) : fX2_atNought (nI T) C = some (nI (zs T c 8)) := by
  unfold fX2_atNought
  refine loopF_run 8 (fun i => (nI (zs T c i), nI i)) _ ?_ ?_ (FU_gt (by decide))
  · intro i hi K
    show bX2_atNought_4 K (nI T) C (nI (zs T c i)) (nI i) = K (nI (zs T c (i + 1)), nI (i + 1))
    unfold bX2_atNought_4
    obtain ⟨e1, b1⟩ := hC i hi
    rw [if_neg (n8 hi), c_isThere hT hi, bnd_some, nI_1]
    cases hb : T.testBit i with
    | false => rw [if_pos (by simp)]; simp [zs, hb]
    | true =>
      rw [if_neg (by simp), ge0 hi, cl8 hi, e1, bt_or _ (zs_lt T c (by omega)) i hi]
      by_cases d : c i = 0
      · rw [if_pos (by rw [d]; rfl)]; simp [zs, hb, d]
      · rw [if_neg (fun e => d ((nI_eq0 (by omega)).mp e))]; simp [zs, hb, d]
  · intro K
    show bX2_atNought_4 K (nI T) C (nI (zs T c 8)) (nI 8) = _
    unfold bX2_atNought_4
    rw [if_pos n88]
def zany (T : Nat) (c : Nat → Nat) : Nat → Bool
  | 0 => false
  | i + 1 => zany T c i || (T.testBit i && decide (c i = 0))
theorem m_isZero {T : Nat} {C : Nat → Int32} {c : Nat → Nat} (hT : T < 256) (hC : Row 8 1000000 C c) : fX10_isZero (nI T) C = some (if zany T c 8 then 1 else 0) := by
  unfold fX10_isZero
  refine loopF_run 8 (fun i => (if zany T c i then 1 else 0, nI i)) _ ?_ ?_ (FU_gt (by decide))
  · intro i hi K
    show bX10_isZero_4 K (nI T) C (if zany T c i then 1 else 0) (nI i) = K (if zany T c (i + 1) then 1 else 0, nI (i + 1))
    unfold bX10_isZero_4 bX10_isZero_34 bX10_isZero_38
    obtain ⟨e1, b1⟩ := hC i hi
    rw [if_neg (n8 hi), m_has hT hi, bnd_some, nI_1]
    cases hz : zany T c i with
    | true => rw [if_neg (by simp)]; simp [zany, hz]
    | false =>
      rw [if_pos (by simp)]
      cases hb : T.testBit i with
      | false => rw [if_pos (by simp)]; simp [zany, hz, hb]
      | true =>
        rw [if_neg (by simp), ge0 hi, cl8 hi, e1]
        by_cases d : c i = 0
        · rw [if_pos (by rw [d]; rfl)]; simp [zany, hz, hb, d]
        · rw [if_neg (fun e => d ((nI_eq0 (by omega)).mp e))]; simp [zany, hz, hb, d]
  · intro K
    show bX10_isZero_4 K (nI T) C (if zany T c 8 then 1 else 0) (nI 8) = _
    unfold bX10_isZero_4
    rw [if_pos n88, gB_ok (by cases zany T c 8 <;> simp)]
theorem zany_iff (T : Nat) (c : Nat → Nat) : ∀ i, zany T c i = true ↔ ∃ k, k < i ∧ T.testBit k = true ∧ c k = 0
  | 0 => by simp [zany]
  | i + 1 => by
    have ih := zany_iff T c i
    unfold zany
    rw [Bool.or_eq_true, ih, Bool.and_eq_true, decide_eq_true_eq]
    constructor
    · rintro (⟨k, h1, h2⟩ | h)
      · exact ⟨k, by omega, h2⟩
      · exact ⟨i, by omega, h⟩
    · rintro ⟨k, h1, h2⟩
      by_cases e : k = i
      · subst e; exact Or.inr h2
      · exact Or.inl ⟨k, by omega, h2⟩
theorem zs_ne {T : Nat} {c : Nat → Nat} : zs T c 8 = 0 ↔ zany T c 8 = false := by
  rw [← bt_ext _ (zs_lt T c (Nat.le_refl 8))]
  constructor
  · intro h
    cases hz : zany T c 8 with
    | false => rfl
    | true =>
      obtain ⟨k, h1, h2, h3⟩ := (zany_iff T c 8).mp hz
      have := h k h1
      rw [zs_bit] at this
      simp [h1, h2, h3] at this
  · intro h k hk
    rw [zs_bit]
    cases hb : T.testBit k with
    | false => simp
    | true =>
      by_cases d : c k = 0
      · have := (zany_iff T c 8).mpr ⟨k, hk, hb, d⟩
        rw [h] at this; cases this
      · simp [d]
