/-! acts: why one can not be; what it makes -/
def isL (s : Nat) : Bool := decide (65 ≤ s) && decide (s ≤ 72)
theorem isL_iff {s : Nat} : isL s = true ↔ 65 ≤ s ∧ s ≤ 72 := by simp [isL]
theorem sub_lit {s d : Nat} (h : d ≤ s) : nI s - nI d = nI (s - d) := pk_sub h
theorem c_isMonk {k : Nat} (hk : k < 2 ^ 31) : fX9_isMonk (nI k) = some (if k < 8 then 1 else 0) := by
  unfold fX9_isMonk
  rw [if_neg (n0 hk)]
  by_cases h : k < 8
  · rw [if_neg (n8 h), if_pos h]
  · rw [if_pos (show (8 : Int32) ≤ nI k from nI_le (a := 8) (by omega) hk), if_neg h]
theorem c_isLetter {s : Nat} (hs : s < 2 ^ 30) : fX5_isLetter (nI s) = some (if isL s then 1 else 0) := by
  unfold fX5_isLetter
  by_cases h : 65 ≤ s
  · rw [show nI s - 65 = nI (s - 65) from pk_sub h, c_isMonk (by omega), bnd_some]
    by_cases h2 : s ≤ 72
    · rw [if_pos (by omega), gB_ok (Or.inr rfl), if_pos (isL_iff.mpr ⟨h, h2⟩)]
    · rw [if_neg (by omega), gB_ok (Or.inl rfl), if_neg (fun e => h2 (isL_iff.mp e).2)]
  · have h1 : nI s - 65 < 0 := pk_sneg (a := s) (b := 65) (by decide) (by omega)
    unfold fX9_isMonk
    rw [if_pos h1, bnd_some, gB_ok (Or.inl rfl), if_neg (fun e => h (isL_iff.mp e).1)]
theorem m_in {a l h : Nat} (ha : a < 2 ^ 31) (hl : l < 2 ^ 31) (hh : h < 2 ^ 31) : fX10_in (nI a) (nI l) (nI h) = some (if l ≤ a ∧ a ≤ h then 1 else 0) := by
  unfold fX10_in
  by_cases h1 : a < l
  · rw [if_pos ((nI_ltI ha hl).mpr h1), if_neg (by omega)]
  · rw [if_neg (fun e => h1 ((nI_ltI ha hl).mp e))]
    by_cases h2 : h < a
    · rw [if_pos ((nI_ltI hh ha).mpr h2), if_neg (by omega)]
    · rw [if_neg (fun e => h2 ((nI_ltI hh ha).mp e)), if_pos (by omega)]
theorem m_isMonk {s : Nat} (hs : s < 2 ^ 31) : fX10_isMonk (nI s) = some (if isL s then 1 else 0) := by
  unfold fX10_isMonk
  rw [show fX10_in (nI s) 65 72 = _ from m_in (l := 65) (h := 72) hs (by decide) (by decide), bnd_some]
  by_cases h : 65 ≤ s ∧ s ≤ 72
  · rw [if_pos h, if_pos (isL_iff.mpr h), gB_ok (Or.inr rfl)]
  · rw [if_neg h, if_neg (fun e => h (isL_iff.mp e)), gB_ok (Or.inl rfl)]
theorem m_isThere {T k : Nat} (hT : T < 256) (hk : k < 8) : fX10_isThere (nI T) (nI k) = some (if T.testBit k then 1 else 0) := by
  unfold fX10_isThere
  rw [show fX10_in (nI k) 0 7 = _ from m_in (l := 0) (h := 7) (by omega) (by decide) (by decide), bnd_some, if_pos (show 0 ≤ k ∧ k ≤ 7 by omega), if_neg (by decide), m_has hT hk, bnd_some]
  cases T.testBit k <;> rfl
def oM (o : Option Nat) : Int32 := oI (-1) o
def why (T w : Nat) (mo : Option Nat) (s : Nat) : Nat := match mo with
  | none => if w = 0 then 5 else 0
  | some k => if T.testBit k = false then 1 else
      if isL s then (if T.testBit (s - 65) = false then 1 else if k = s - 65 then 2 else if w.testBit k = false then 3 else if w.testBit (s - 65) = false then 3 else 0)
      else if s = 119 then (if w.testBit k then 4 else 0) else (if w.testBit k then 0 else 3)
theorem ne_lit {s d : Nat} (hs : s < 2 ^ 31) (hd : d < 2 ^ 31) (h : s ≠ d) : ¬ nI s = nI d := fun e => h ((nI_eq hs hd).mp e)
theorem bool_if (b : Bool) : ((if b = true then (1 : Int32) else 0) = 0) ↔ b = false := by cases b <;> simp
theorem c_whyNoHand {T w k j : Nat} (hT : T < 256) (hw : w < 256) (hk : k < 8) (hj : j < 8) : fX2_whyNoHandOver (nI T) (nI w) (nI k) (nI j) = some (nI (if T.testBit j = false then 1 else if k = j then 2 else if w.testBit k = false then 3 else if w.testBit j = false then 3 else 0)) := by
  unfold fX2_whyNoHandOver
  rw [c_isThere hT hj, bnd_some, c_isAwake hw hk, bnd_some, c_isAwake hw hj, bnd_some]
  simp only [bool_if]
  by_cases h1 : T.testBit j = false
  · rw [if_pos h1, if_pos h1]; rfl
  · rw [if_neg h1, if_neg h1]
    by_cases h2 : k = j
    · rw [if_pos (by rw [h2]), if_pos h2]; rfl
    · rw [if_neg (ne_lit (by omega) (by omega) h2), if_neg h2]
      by_cases h3 : w.testBit k = false
      · rw [if_pos h3, if_pos h3]; rfl
      · rw [if_neg h3, if_neg h3]
        by_cases h4 : w.testBit j = false
        · rw [if_pos h4, if_pos h4]; rfl
        · rw [if_neg h4, if_neg h4]; rfl
theorem c_whyNot {T w s : Nat} {mo : Option Nat} (hT : T < 256) (hw : w < 256) (hm : ∀ k, mo = some k → k < 8) (hs : s < 256) : fX2_whyNot (nI T) (nI w) (oM mo) (nI s) = some (nI (why T w mo s)) := by
  unfold fX2_whyNot why oM
  cases mo with
  | none =>
    rw [oI_n, if_pos rfl]
    by_cases h : w = 0
    · rw [if_pos ((nI_eq0 (by omega)).mpr h)]; simp [h]; rfl
    · rw [if_neg (fun e => h ((nI_eq0 (by omega)).mp e))]; simp [h]; rfl
  | some k =>
    have hk := hm k rfl
    rw [oI_s, if_neg (nI_m1 (by omega)), c_isThere hT hk, bnd_some, c_isLetter (by omega), bnd_some, c_isAwake hw hk, bnd_some, bnd_some]
    simp only [bool_if]
    by_cases h1 : T.testBit k = false
    · rw [if_pos h1, if_pos h1]; rfl
    · rw [if_neg h1, if_neg h1]
      cases hL : isL s with
      | true =>
        obtain ⟨l1, l2⟩ := isL_iff.mp hL
        rw [if_neg (by simp), if_pos rfl, show nI s - 65 = nI (s - 65) from pk_sub l1, c_whyNoHand hT hw hk (by omega), bnd_some]
      | false =>
        rw [if_pos rfl]
        simp only [Bool.false_eq_true, if_false]
        by_cases h2 : s = 119
        · rw [if_pos (show nI s = 119 by rw [h2]; rfl), if_pos h2]
          cases w.testBit k <;> rfl
        · rw [if_neg (show ¬ nI s = 119 from ne_lit (d := 119) (by omega) (by decide) h2), if_neg h2]
          cases w.testBit k <;> rfl
theorem m_whySleep {T w k j : Nat} (hT : T < 256) (hw : w < 256) (hk : k < 8) (hj : j < 8) : fX10_whyNotSleep (nI T) (nI w) (nI k) (nI j) = some (nI (why T w (some k) (j + 65))) := by
  unfold fX10_whyNotSleep why
  have hL : isL (j + 65) = true := isL_iff.mpr (by omega)
  have e : j + 65 - 65 = j := by omega
  rw [m_isThere hT hk, bnd_some, m_isThere hT hj, bnd_some, m_has hw hk, bnd_some, m_has hw hj, bnd_some]
  simp only [bool_if, hL, if_true, e]
  by_cases h1 : T.testBit k = false
  · rw [if_pos h1, if_pos h1]; rfl
  · rw [if_neg h1, if_neg h1]
    by_cases h5 : T.testBit j = false
    · rw [if_pos h5, if_pos h5]; rfl
    · rw [if_neg h5, if_neg h5]
      by_cases h2 : k = j
      · rw [if_pos (by rw [h2]), if_pos h2]; rfl
      · rw [if_neg (ne_lit (by omega) (by omega) h2), if_neg h2]
        by_cases h3 : w.testBit k = false
        · rw [if_pos h3, if_pos h3]; rfl
        · rw [if_neg h3, if_neg h3]
          by_cases h4 : w.testBit j = false
          · rw [if_pos h4, if_pos h4]; rfl
          · rw [if_neg h4, if_neg h4]; rfl
theorem m_why {T w k s : Nat} (hT : T < 256) (hw : w < 256) (hk : k < 8) (hs : s < 256) (hL : isL s = false) : fX10_whyNot (nI T) (nI w) (nI k) (nI s) = some (nI (why T w (some k) s)) := by
  unfold fX10_whyNot why
  rw [m_isThere hT hk, bnd_some, m_has hw hk, bnd_some, bnd_some]
  simp only [bool_if, hL]
  by_cases h1 : T.testBit k = false
  · rw [if_pos h1, if_pos h1]; rfl
  · rw [if_neg h1, if_neg h1]
    by_cases h2 : s = 119
    · rw [if_pos (show nI s = 119 by rw [h2]; rfl)]
      simp only [h2, if_true]
      cases w.testBit k <;> rfl
    · rw [if_neg (show ¬ nI s = 119 from ne_lit (d := 119) (by omega) (by decide) h2)]
      simp only [h2, if_false]
      cases w.testBit k <;> rfl
/-- what an act but a breath makes: who is awake, the counts -/
def aW (w : Nat) (mo : Option Nat) (s : Nat) : Nat := match mo with
  | none => w
  | some k => if isL s then w &&& (255 ^^^ 2 ^ k) else if s = 119 then w ||| 2 ^ k else w
def aC (w h : Nat) (c : Nat → Nat) (mo : Option Nat) (s : Nat) : Nat → Nat := match mo with
  | none => if s = 33 then rgf w h c else stf w h c
  | some k => if isL s then (fun i => if i = s - 65 then (c k + c (s - 65)) / 2 else c i) else if s = 119 then c else if s = 107 then (fun i => if i = k then (if c k + 3 < h then c k + 3 else h) else c i) else (fun i => if i = k then coV 0 (co w c 8) else c i)
def okA (mo : Option Nat) (s : Nat) : Prop := match mo with
  | none => s = 33 ∨ s = 42 ∨ s = 46 ∨ s = 58
  | some k => k < 8 ∧ (isL s = true ∨ s = 119 ∨ s = 107 ∨ s = 101)
theorem okA_lt {mo : Option Nat} {s : Nat} (h : okA mo s) : s < 256 := by
  cases mo with
  | none => simp only [okA] at h; omega
  | some k =>
    simp only [okA] at h
    rcases h.2 with h | h | h | h
    · have := isL_iff.mp h; omega
    · omega
    · omega
    · omega
theorem okA_m {mo : Option Nat} {s : Nat} (h : okA mo s) : ∀ k, mo = some k → k < 8 := by
  intro k e
  subst e
  exact h.1
theorem div2 {a b : Nat} (ha : a ≤ 1000000) (hb : b ≤ 1000000) : (nI a + nI b) / 2 = nI ((a + b) / 2) := by
  rw [nI_add]
  exact pk_div (a := a + b) (d := 2) (by omega) (by decide) (by decide)
theorem coV_le {w : Nat} {c : Nat → Nat} (hB : ∀ k, k < 8 → c k ≤ 1000000) : coV 0 (co w c 8) ≤ 1000000 := by
  cases h : co w c 8 with
  | none => simp [coV]
  | some q => exact (coS hB (Nat.le_refl 8) h).1
theorem c_act {w h s : Nat} {mo : Option Nat} {C P : Nat → Int32} {c : Nat → Nat} (hw : w < 256) (hh : h ≤ 1000000) (hC : Row 8 1000000 C c) (ho : okA mo s) (h46 : s ≠ 46) (h58 : s ≠ 58) : ∃ C2, fX2_act (nI w) (nI h) C P (oM mo) (nI s) = some (nI (aW w mo s), C2) ∧ Row 8 1000000 C2 (aC w h c mo s) := by
  have hs := okA_lt ho
  have hB : ∀ k, k < 8 → c k ≤ 1000000 := fun k hk => (hC k hk).2
  unfold fX2_act
  cases mo with
  | none =>
    simp only [okA] at ho
    by_cases h33 : s = 33
    · subst h33
      obtain ⟨C2, e, hR⟩ := c_ring hw hh hC
      rw [if_pos (show nI 33 = 33 from rfl), e, bnd_some]
      exact ⟨C2, rfl, hR⟩
    · have h42 : s = 42 := by omega
      subst h42
      obtain ⟨C2, e, hR⟩ := c_sting hw hh hC
      rw [if_neg (show ¬ nI 42 = 33 by decide), if_pos (show nI 42 = 42 from rfl), e, bnd_some]
      exact ⟨C2, rfl, hR⟩
  | some k =>
    have hk : k < 8 := ho.1
    have ho2 := ho.2
    rw [if_neg (show ¬ nI s = 33 from ne_lit (d := 33) (by omega) (by decide) (fun e => by subst e; simp [isL] at ho2))]
    rw [if_neg (show ¬ nI s = 42 from ne_lit (d := 42) (by omega) (by decide) (fun e => by subst e; simp [isL] at ho2))]
    rw [if_neg (show ¬ nI s = 46 from ne_lit (d := 46) (by omega) (by decide) h46), if_neg (show ¬ nI s = 58 from ne_lit (d := 58) (by omega) (by decide) h58)]
    unfold oM
    rw [oI_s]
    obtain ⟨e1, b1⟩ := hC k hk
    by_cases hL : isL s = true
    · obtain ⟨l1, l2⟩ := isL_iff.mp hL
      have hj : s - 65 < 8 := by omega
      obtain ⟨e2, b2⟩ := hC (s - 65) hj
      rw [if_neg (show ¬ nI s = 101 from ne_lit (d := 101) (by omega) (by decide) (by omega)), if_neg (show ¬ nI s = 107 from ne_lit (d := 107) (by omega) (by decide) (by omega)), if_neg (show ¬ nI s = 119 from ne_lit (d := 119) (by omega) (by decide) (by omega))]
      rw [show nI s - 65 = nI (s - 65) from pk_sub l1]
      unfold fX2_handOver
      simp only [ge0 hk, ge0 hj, cl8 hk, cl8 hj, e1, e2, bnd_some]
      rw [bt_an w hw k hk, div2 b1 b2]
      refine ⟨_, by simp [aW, hL]; rfl, ?_⟩
      simp only [aC, hL, if_true]
      exact hC.upd rfl (by omega)
    · by_cases h119 : s = 119
      · subst h119
        rw [if_neg (show ¬ nI 119 = 101 by decide), if_neg (show ¬ nI 119 = 107 by decide), if_pos (show nI 119 = 119 from rfl), bt_or w hw k hk]
        exact ⟨C, by simp [aW, isL], by simpa [aC, isL] using hC⟩
      · by_cases h107 : s = 107
        · subst h107
          rw [if_neg (show ¬ nI 107 = 101 by decide), if_pos (show nI 107 = 107 from rfl)]
          simp only [ge0 hk, cl8 hk, e1]
          refine ⟨_, by simp [aW, isL]; rfl, ?_⟩
          have e3 : (if nI (c k) + 3 < nI h then nI (c k) + 3 else nI h) = nI (if c k + 3 < h then c k + 3 else h) := by
            rw [show nI (c k) + 3 = nI (c k + 3) from nI_add (c k) 3]
            by_cases hlt : c k + 3 < h
            · rw [if_pos ((nI_ltI (by omega) (by omega)).mpr hlt), if_pos hlt]
            · rw [if_neg (fun e => hlt ((nI_ltI (by omega) (by omega)).mp e)), if_neg hlt]
          have := hC.upd (k := k) e3 (by split <;> omega)
          simpa [aC, isL] using this
        · have h101 : s = 101 := by rcases ho2 with h | h | h | h <;> simp_all
          subst h101
          rw [if_pos (show nI 101 = 101 from rfl), c_common hw hC, bnd_some, ge0 hk, cl8 hk]
          refine ⟨_, by simp [aW, isL]; rfl, ?_⟩
          have := hC.upd (k := k) (x := nI (coV 0 (co w c 8))) rfl (coV_le hB)
          simpa [aC, isL] using this
