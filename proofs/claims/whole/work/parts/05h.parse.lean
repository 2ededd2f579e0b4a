/-! the signs read: acts, the fault -/
def isW (s : Nat) : Bool := decide (s = 46) || decide (s = 58) || decide (s = 33) || decide (s = 42)
def isS2 (s : Nat) : Bool := isL s || decide (s = 119) || decide (s = 107) || decide (s = 101)
def pos (sg : Nat → Nat) : Nat → Nat
  | 0 => 0
  | a + 1 => pos sg a + if isL (sg (pos sg a)) then 2 else 1
def vA (sg : Nat → Nat) (n a : Nat) : Bool := if isL (sg (pos sg a)) then decide (pos sg a + 1 < n) && isS2 (sg (pos sg a + 1)) else isW (sg (pos sg a))
def moA (sg : Nat → Nat) (a : Nat) : Option Nat := if isL (sg (pos sg a)) then some (sg (pos sg a) - 65) else none
def sA (sg : Nat → Nat) (a : Nat) : Nat := if isL (sg (pos sg a)) then sg (pos sg a + 1) else sg (pos sg a)
/-- A acts are read, then comes the end or the fault -/
def Acts (sg : Nat → Nat) (n A : Nat) : Prop := (n ≤ pos sg A ∨ vA sg n A = false) ∧ ∀ a, a < A → pos sg a < n ∧ vA sg n a = true
theorem pos_ge (sg : Nat → Nat) : ∀ a, a ≤ pos sg a
  | 0 => Nat.le_refl _
  | a + 1 => by have := pos_ge sg a; unfold pos; split <;> omega
theorem acts_ex (sg : Nat → Nat) (n : Nat) : ∃ A, Acts sg n A := by
  obtain ⟨A, h1, h2⟩ := pk_least (fun a => n ≤ pos sg a ∨ vA sg n a = false) ⟨n, Or.inl (pos_ge sg n)⟩
  refine ⟨A, h1, fun a ha => ?_⟩
  have := h2 a ha
  constructor
  · exact Nat.lt_of_not_le (fun e => this (Or.inl e))
  · cases h : vA sg n a with
    | true => rfl
    | false => exact absurd (Or.inr h) this
theorem acts_le {sg : Nat → Nat} {n A : Nat} (h : Acts sg n A) : pos sg A ≤ n := by
  cases A with
  | zero => exact Nat.zero_le _
  | succ a =>
    obtain ⟨h1, h2⟩ := h.2 a (by omega)
    unfold pos
    unfold vA at h2
    split
    · rename_i hL; rw [if_pos hL] at h2; simp at h2; omega
    · omega
theorem acts_lt {sg : Nat → Nat} {n A : Nat} (h : Acts sg n A) : A ≤ n := Nat.le_trans (pos_ge sg A) (acts_le h)
theorem act_ok {sg : Nat → Nat} {n A a : Nat} (h : Acts sg n A) (ha : a < A) : okA (moA sg a) (sA sg a) ∧ atP sg n (pos sg a) (moA sg a) (sA sg a) ∧ pos sg (a + 1) = pos sg a + lenA (moA sg a) := by
  obtain ⟨h1, h2⟩ := h.2 a ha
  unfold vA at h2
  unfold moA sA
  by_cases hL : isL (sg (pos sg a)) = true
  · obtain ⟨l1, l2⟩ := isL_iff.mp hL
    rw [if_pos hL] at h2
    simp only [Bool.and_eq_true, decide_eq_true_eq] at h2
    simp only [hL, if_true]
    refine ⟨⟨by omega, ?_⟩, ⟨h2.1, by omega, rfl⟩, by simp [pos, hL, lenA]⟩
    have h3 := h2.2
    simp only [isS2, Bool.or_eq_true, decide_eq_true_eq] at h3
    rcases h3 with ((h | h) | h) | h
    · exact Or.inl h
    · exact Or.inr (Or.inl h)
    · exact Or.inr (Or.inr (Or.inl h))
    · exact Or.inr (Or.inr (Or.inr h))
  · rw [if_neg hL] at h2
    have hL2 : isL (sg (pos sg a)) = false := by simpa using hL
    simp only [hL2]
    refine ⟨?_, ⟨h1, rfl⟩, by simp [pos, hL2, lenA]⟩
    simp only [isW, Bool.or_eq_true, decide_eq_true_eq] at h2
    show _ ∨ _
    simp only [Bool.false_eq_true, if_false]
    omega
def fltN (sg : Nat → Nat) (A : Nat) : Nat := if isL (sg (pos sg A)) then pos sg A + 1 else pos sg A
def flt (sg : Nat → Nat) (n A : Nat) : Int32 := if n ≤ pos sg A then (-6) else nI (fltN sg A)
theorem c_isWhole {s : Nat} (hs : s < 256) : fX5_isWhole (nI s) = some (if isW s then 1 else 0) := by
  unfold fX5_isWhole isW
  by_cases h1 : s = 46
  · rw [if_pos (show nI s = 46 by rw [h1]; rfl)]; simp [h1]
  · rw [if_neg (show ¬ nI s = 46 from ne_lit (d := 46) (by omega) (by decide) h1)]
    by_cases h2 : s = 58
    · rw [if_pos (show nI s = 58 by rw [h2]; rfl)]; simp [h2]
    · rw [if_neg (show ¬ nI s = 58 from ne_lit (d := 58) (by omega) (by decide) h2)]
      by_cases h3 : s = 33
      · rw [if_pos (show nI s = 33 by rw [h3]; rfl)]; simp [h3]
      · rw [if_neg (show ¬ nI s = 33 from ne_lit (d := 33) (by omega) (by decide) h3)]
        by_cases h4 : s = 42
        · rw [if_pos (show nI s = 42 by rw [h4]; rfl)]; simp [h4]
        · rw [if_neg (show ¬ nI s = 42 from ne_lit (d := 42) (by omega) (by decide) h4)]; simp [h1, h2, h3, h4]
theorem c_isSecond {s : Nat} (hs : s < 256) : fX5_isSecond (nI s) = some (if isS2 s then 1 else 0) := by
  unfold fX5_isSecond isS2
  rw [c_isLetter (by omega), bnd_some]
  simp only [bool_if]
  cases hL : isL s with
  | true => rw [if_neg (by simp)]; simp
  | false =>
    rw [if_pos rfl]
    by_cases h1 : s = 119
    · rw [if_pos (show nI s = 119 by rw [h1]; rfl)]; simp [h1]
    · rw [if_neg (show ¬ nI s = 119 from ne_lit (d := 119) (by omega) (by decide) h1)]
      by_cases h2 : s = 107
      · rw [if_pos (show nI s = 107 by rw [h2]; rfl)]; simp [h2]
      · rw [if_neg (show ¬ nI s = 107 from ne_lit (d := 107) (by omega) (by decide) h2)]
        by_cases h3 : s = 101
        · rw [if_pos (show nI s = 101 by rw [h3]; rfl)]; simp [h3]
        · rw [if_neg (show ¬ nI s = 101 from ne_lit (d := 101) (by omega) (by decide) h3)]; simp [h1, h2, h3]
theorem isWL {s : Nat} (h : isW s = true) : isL s = false := by
  simp only [isW, Bool.or_eq_true, decide_eq_true_eq] at h
  have : ¬ (65 ≤ s ∧ s ≤ 72) := by omega
  cases hL : isL s with
  | false => rfl
  | true => exact absurd (isL_iff.mp hL) this
theorem c_addAct {a : Nat} {M S : Nat → Int32} {x y : Int32} (ha : a < 60) : fX5_addAct (nI a) M S x y = some (nI (a + 1), upd M a x, upd S a y) := by
  unfold fX5_addAct
  rw [ge60 ha, ge60 ha, cl60 ha, nI_1]
theorem c_readActs {sg : Nat → Nat} {n A : Nat} {ac0 : Int32} {Q M0 S0 : Nat → Int32} (hA : Acts sg n A) (hn : n ≤ 60) (hQ : Row n 126 Q sg) : ∃ (M S : Nat → Int32), fX5_readActs (nI n) ac0 Q M0 S0 = some (flt sg n A, nI A, M, S) ∧ ∀ b, b < A → M b = oM (moA sg b) ∧ S b = nI (sA sg b) := by
  have hA60 := acts_lt hA
  unfold fX5_readActs
  refine loopF_inv A (fun a q => ∃ (M S : Nat → Int32), q = (nI (pos sg a), nI a, M, S) ∧ ∀ b, b < a → M b = oM (moA sg b) ∧ S b = nI (sA sg b)) (fun y => ∃ (M S : Nat → Int32), y = some (flt sg n A, nI A, M, S) ∧ ∀ b, b < A → M b = oM (moA sg b) ∧ S b = nI (sA sg b)) ?_ ?_ FU (0, 0, M0, S0) (FU_gt (by omega)) ⟨M0, S0, rfl, fun b hb => by omega⟩
  · rintro a q ha ⟨M, S, rfl, hMS⟩
    obtain ⟨hp, hv⟩ := hA.2 a ha
    have hs := (hQ (pos sg a) hp).2
    have hq := (hQ (pos sg a) hp).1
    unfold vA at hv
    have hle : ¬ nI n ≤ nI (pos sg a) := fun e => by have := (nI_leI (by omega) (by omega)).mp e; omega
    refine ⟨(nI (pos sg (a + 1)), nI (a + 1), upd M a (oM (moA sg a)), upd S a (nI (sA sg a))), ⟨_, _, rfl, ?_⟩, fun K => ?_⟩
    · intro b hb
      by_cases e : b = a
      · subst e; rw [pk_us, pk_us]; exact ⟨rfl, rfl⟩
      · rw [pk_un e, pk_un e]; exact hMS b (by omega)
    · show bX5_readActs_7 K (nI n) Q (nI (pos sg a)) (nI a) M S = _
      unfold bX5_readActs_7
      rw [if_neg hle]
      simp only [ge60 (show pos sg a < 60 by omega), cl60 (show pos sg a < 60 by omega), hq, c_isWhole (show sg (pos sg a) < 256 by omega), c_isLetter (show sg (pos sg a) < 2 ^ 30 by omega), bnd_some, bool_if]
      by_cases hL : isL (sg (pos sg a)) = true
      · obtain ⟨l1, l2⟩ := isL_iff.mp hL
        rw [if_pos hL] at hv
        simp only [Bool.and_eq_true, decide_eq_true_eq] at hv
        have hW : isW (sg (pos sg a)) = false := by
          cases hW : isW (sg (pos sg a)) with
          | false => rfl
          | true => rw [isWL hW] at hL; cases hL
        have hq2 := (hQ (pos sg a + 1) hv.1).1
        have hs2 := (hQ (pos sg a + 1) hv.1).2
        rw [if_pos hW, if_neg (by rw [hL]; simp), nI_1, if_neg (fun e => by have := (nI_leI (by omega) (by omega)).mp e; omega), ge60 (by omega), cl60 (by omega), hq2, c_isSecond (by omega), bnd_some, hv.2, if_neg (by simp), ge60 (by omega), c_addAct (by omega), bnd_some, nI_1]
        have e1 : nI (sg (pos sg a)) - 65 = oM (moA sg a) := by
          unfold moA
          rw [if_pos hL]
          exact pk_sub (b := 65) l1
        have e2 : sA sg a = sg (pos sg a + 1) := by unfold sA; rw [if_pos hL]
        have e3 : pos sg (a + 1) = pos sg a + 1 + 1 := by show pos sg a + (if isL (sg (pos sg a)) then 2 else 1) = _; rw [if_pos hL]
        rw [e1, e2, e3]
      · rw [if_neg hL] at hv
        rw [hv, if_neg (by simp), c_addAct (by omega), bnd_some, nI_1]
        have e1 : (-1 : Int32) = oM (moA sg a) := by
          unfold moA
          rw [if_neg hL]
          rfl
        have e2 : sA sg a = sg (pos sg a) := by unfold sA; rw [if_neg hL]
        have e3 : pos sg (a + 1) = pos sg a + 1 := by show pos sg a + (if isL (sg (pos sg a)) then 2 else 1) = _; rw [if_neg hL]
        rw [e1, e2, e3]
  · rintro q ⟨M, S, rfl, hMS⟩ K
    refine ⟨M, S, ?_, hMS⟩
    have hle0 := acts_le hA
    show bX5_readActs_7 K (nI n) Q (nI (pos sg A)) (nI A) M S = _
    unfold bX5_readActs_7 flt
    by_cases hE : n ≤ pos sg A
    · rw [if_pos ((nI_leI (by omega) (by omega)).mpr hE), if_pos hE]
    · have hv : vA sg n A = false := by rcases hA.1 with h | h
                                        · exact absurd h hE
                                        · exact h
      have hp : pos sg A < n := by omega
      have hs := (hQ (pos sg A) hp).2
      have hq := (hQ (pos sg A) hp).1
      unfold vA at hv
      rw [if_neg (fun e => hE ((nI_leI (by omega) (by omega)).mp e)), if_neg hE]
      unfold fltN
      simp only [ge60 (show pos sg A < 60 by omega), cl60 (show pos sg A < 60 by omega), hq, c_isWhole (show sg (pos sg A) < 256 by omega), c_isLetter (show sg (pos sg A) < 2 ^ 30 by omega), bnd_some, bool_if]
      by_cases hL : isL (sg (pos sg A)) = true
      · rw [if_pos hL] at hv
        have hW : isW (sg (pos sg A)) = false := by
          cases hW : isW (sg (pos sg A)) with
          | false => rfl
          | true => rw [isWL hW] at hL; cases hL
        rw [if_pos hW, if_neg (by rw [hL]; simp), nI_1, if_pos hL]
        by_cases hl : n ≤ pos sg A + 1
        · rw [if_pos ((nI_leI (by omega) (by omega)).mpr hl)]
        · have hq2 := (hQ (pos sg A + 1) (by omega)).1
          have hs2 := (hQ (pos sg A + 1) (by omega)).2
          have hv2 : isS2 (sg (pos sg A + 1)) = false := by
            have : decide (pos sg A + 1 < n) = true := by simp; omega
            rw [this] at hv; simpa using hv
          rw [if_neg (fun e => hl ((nI_leI (by omega) (by omega)).mp e)), ge60 (by omega), cl60 (by omega), hq2, c_isSecond (by omega), bnd_some, hv2, if_pos (by simp)]
      · rw [if_neg hL] at hv
        have hL2 : isL (sg (pos sg A)) = false := by simpa using hL
        rw [if_pos hv, if_pos hL2, if_neg hL]
