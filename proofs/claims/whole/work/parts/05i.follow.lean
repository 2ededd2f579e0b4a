/-! the reference's fault -/
def wn (sg : Nat → Nat) : Nat → Bool
  | 0 => false
  | j + 1 => !wn sg j && isL (sg j)
theorem wn_pos {sg : Nat → Nat} {n A : Nat} (h : Acts sg n A) : ∀ a, a ≤ A → wn sg (pos sg a) = false
  | 0, _ => rfl
  | a + 1, ha => by
    have ih := wn_pos h a (by omega)
    show wn sg (pos sg a + if isL (sg (pos sg a)) then 2 else 1) = false
    by_cases hL : isL (sg (pos sg a)) = true
    · rw [if_pos hL]
      have e : wn sg (pos sg a + 1) = true := by show (!wn sg (pos sg a) && isL (sg (pos sg a))) = true; rw [ih, hL]; rfl
      show (!wn sg (pos sg a + 1) && isL (sg (pos sg a + 1))) = false
      rw [e]; rfl
    · rw [if_neg hL]
      show (!wn sg (pos sg a) && isL (sg (pos sg a))) = false
      have : isL (sg (pos sg a)) = false := by simpa using hL
      rw [this]; simp
theorem cover (sg : Nat → Nat) : ∀ A j, j < pos sg A → ∃ a, a < A ∧ (j = pos sg a ∨ (isL (sg (pos sg a)) = true ∧ j = pos sg a + 1))
  | 0, j, h => by simp [pos] at h
  | A + 1, j, h => by
    by_cases hj : j < pos sg A
    · obtain ⟨a, h1, h2⟩ := cover sg A j hj
      exact ⟨a, by omega, h2⟩
    · refine ⟨A, by omega, ?_⟩
      have h' : j < pos sg A + if isL (sg (pos sg A)) then 2 else 1 := h
      by_cases hL : isL (sg (pos sg A)) = true
      · rw [if_pos hL] at h'
        by_cases e : j = pos sg A
        · exact Or.inl e
        · exact Or.inr ⟨hL, by omega⟩
      · rw [if_neg hL] at h'
        exact Or.inl (by omega)
def fits2 (sg : Nat → Nat) (j : Nat) : Bool := if wn sg j then isS2 (sg j) else isL (sg j) || isW (sg j)
theorem m_fault_body {sg : Nat → Nat} {n j : Nat} {Q : Nat → Int32} {K : Int32 × Int32 → Option Int32} (hn : n ≤ 60) (hQ : Row n 126 Q sg) (hj : j < n) : bX10_faultOf_4 K (nI n) Q (if wn sg j then 1 else 0) (nI j) = if fits2 sg j then K (if wn sg (j + 1) then 1 else 0, nI (j + 1)) else some (nI j) := by
  obtain ⟨e1, b1⟩ := hQ j hj
  unfold bX10_faultOf_4 bX10_faultOf_92 bX10_faultOf_116
  have n10 : ¬ (1 : Int32) = 0 := by decide
  rw [if_neg (fun e => by have := (nI_leI (by omega) (by omega)).mp e; omega), ge60 (by omega), cl60 (by omega), e1, m_isMonk (by omega), bnd_some, nI_1]
  simp only [bool_if, bnd_some, if_neg n10, if_true]
  unfold fits2
  show _ = if (if wn sg j then isS2 (sg j) else isL (sg j) || isW (sg j)) = true then K (if (!wn sg j && isL (sg j)) = true then 1 else 0, nI (j + 1)) else some (nI j)
  have l46 : ∀ d : Nat, d < 256 → (nI (sg j) = nI d ↔ sg j = d) := fun d hd => nI_eq (by omega) (by omega)
  have h46 : (nI (sg j) = 46) ↔ sg j = 46 := l46 46 (by decide)
  have h58 : (nI (sg j) = 58) ↔ sg j = 58 := l46 58 (by decide)
  have h33 : (nI (sg j) = 33) ↔ sg j = 33 := l46 33 (by decide)
  have h42 : (nI (sg j) = 42) ↔ sg j = 42 := l46 42 (by decide)
  have h119 : (nI (sg j) = 119) ↔ sg j = 119 := l46 119 (by decide)
  have h107 : (nI (sg j) = 107) ↔ sg j = 107 := l46 107 (by decide)
  have h101 : (nI (sg j) = 101) ↔ sg j = 101 := l46 101 (by decide)
  simp only [h46, h58, h33, h42, h119, h107, h101]
  cases hw : wn sg j with
  | true =>
    cases hL : isL (sg j) with
    | true => simp [isS2, hL]
    | false =>
      by_cases d1 : sg j = 119
      · simp [isS2, hL, d1]
      · by_cases d2 : sg j = 107
        · simp [isS2, hL, d2]
        · by_cases d3 : sg j = 101
          · simp [isS2, hL, d3]
          · simp [isS2, hL, d1, d2, d3]
  | false =>
    cases hL : isL (sg j) with
    | true => simp
    | false =>
      by_cases d1 : sg j = 46
      · simp [isW, d1]
      · by_cases d2 : sg j = 58
        · simp [isW, d2]
        · by_cases d3 : sg j = 33
          · simp [isW, d3]
          · by_cases d4 : sg j = 42
            · simp [isW, d4]
            · simp [isW, d1, d2, d3, d4]
theorem m_faultOf {sg : Nat → Nat} {n A : Nat} {Q : Nat → Int32} (hA : Acts sg n A) (hn : n ≤ 60) (hQ : Row n 126 Q sg) : fX10_faultOf (nI n) Q = some (flt sg n A) := by
  have hle := acts_le hA
  have hfit : ∀ j, j < pos sg A → fits2 sg j = true := by
    intro j hj
    obtain ⟨a, ha, h⟩ := cover sg A j hj
    obtain ⟨hp, hv⟩ := hA.2 a ha
    have hw := wn_pos hA a (by omega)
    unfold vA at hv
    rcases h with rfl | ⟨hL, rfl⟩
    · unfold fits2
      rw [hw]
      by_cases hL : isL (sg (pos sg a)) = true
      · simp [hL]
      · rw [if_neg hL] at hv; simp [hv]
    · rw [if_pos hL] at hv
      simp only [Bool.and_eq_true] at hv
      have e : wn sg (pos sg a + 1) = true := by show (!wn sg (pos sg a) && isL (sg (pos sg a))) = true; rw [hw, hL]; rfl
      unfold fits2
      rw [e]; simp [hv.2]
  have hwA := wn_pos hA A (Nat.le_refl _)
  unfold fX10_faultOf flt
  have step : ∀ j, j < n → fits2 sg j = true → ∀ K, bX10_faultOf_4 K (nI n) Q (if wn sg j then 1 else 0) (nI j) = K (if wn sg (j + 1) then 1 else 0, nI (j + 1)) := by
    intro j hj hf K
    rw [m_fault_body hn hQ hj, if_pos hf]
  by_cases hE : n ≤ pos sg A
  · have e : pos sg A = n := by omega
    rw [if_pos hE]
    refine loopF_run n (fun j => (if wn sg j then 1 else 0, nI j)) _ (fun j hj K => step j hj (hfit j (by omega)) K) (fun K => ?_) (FU_gt (by omega))
    show bX10_faultOf_4 K (nI n) Q (if wn sg n then 1 else 0) (nI n) = _
    unfold bX10_faultOf_4
    rw [if_pos (Int32.le_refl _), ← e, hwA]
    rfl
  · have hv : vA sg n A = false := by rcases hA.1 with h | h
                                      · exact absurd h hE
                                      · exact h
    unfold vA at hv
    rw [if_neg hE]
    unfold fltN
    by_cases hL : isL (sg (pos sg A)) = true
    · rw [if_pos hL] at hv
      have e1 : wn sg (pos sg A + 1) = true := by show (!wn sg (pos sg A) && isL (sg (pos sg A))) = true; rw [hwA, hL]; rfl
      have hfA : fits2 sg (pos sg A) = true := by unfold fits2; rw [hwA]; simp [hL]
      rw [if_pos hL]
      refine loopF_run (pos sg A + 1) (fun j => (if wn sg j then 1 else 0, nI j)) _ (fun j hj K => step j (by omega) (by by_cases d : j = pos sg A; (· rw [d]; exact hfA); (· exact hfit j (by omega))) K) (fun K => ?_) (FU_gt (by omega))
      show bX10_faultOf_4 K (nI n) Q (if wn sg (pos sg A + 1) then 1 else 0) (nI (pos sg A + 1)) = _
      by_cases hl : n ≤ pos sg A + 1
      · have e2 : pos sg A + 1 = n := by omega
        unfold bX10_faultOf_4
        rw [e1, if_pos ((nI_leI (by omega) (by omega)).mpr hl), if_neg (by simp), e2]
      · rw [m_fault_body hn hQ (by omega), if_neg]
        have : decide (pos sg A + 1 < n) = true := by simp; omega
        rw [this] at hv
        unfold fits2
        rw [e1]; simpa using hv
    · rw [if_neg hL] at hv
      have hL2 : isL (sg (pos sg A)) = false := by simpa using hL
      rw [if_neg hL]
      refine loopF_run (pos sg A) (fun j => (if wn sg j then 1 else 0, nI j)) _ (fun j hj K => step j (by omega) (hfit j hj) K) (fun K => ?_) (FU_gt (by omega))
      show bX10_faultOf_4 K (nI n) Q (if wn sg (pos sg A) then 1 else 0) (nI (pos sg A)) = _
      rw [m_fault_body hn hQ (by omega), if_neg]
      unfold fits2
      rw [hwA, hL2, hv]; simp
/-! the hours: the state behind the first a acts -/
abbrev HSt : Type := Nat × (Nat → Nat) × Nat × Option Nat × Option Nat
def hst (T h sh : Nat) (p : Nat → Nat) (mo : Nat → Option Nat) (sa : Nat → Nat) (w0 : Nat) (c0 : Nat → Nat) : Nat → HSt
  | 0 => (w0, c0, 0, if zany T c0 8 then some 0 else none, none)
  | a + 1 => (aW (hst T h sh p mo sa w0 c0 a).1 (mo a) (sa a), nC (hst T h sh p mo sa w0 c0 a).1 h p (hst T h sh p mo sa w0 c0 a).2.1 (mo a) (sa a), (hst T h sh p mo sa w0 c0 a).2.2.1 + nB (sa a), nZ T (hst T h sh p mo sa w0 c0 a).1 p (hst T h sh p mo sa w0 c0 a).2.1 (hst T h sh p mo sa w0 c0 a).2.2.1 (hst T h sh p mo sa w0 c0 a).2.2.2.1 (sa a), nN sh (aW (hst T h sh p mo sa w0 c0 a).1 (mo a) (sa a)) (nC (hst T h sh p mo sa w0 c0 a).1 h p (hst T h sh p mo sa w0 c0 a).2.1 (mo a) (sa a)) a (hst T h sh p mo sa w0 c0 a).2.2.2.2)
def okS (a : Nat) (S : HSt) : Prop := S.1 < 256 ∧ S.2.2.1 ≤ 10 * a ∧ okZ S.2.2.2.1 ∧ okZ S.2.2.2.2
theorem hst_ok {T h sh : Nat} {p : Nat → Nat} {mo : Nat → Option Nat} {sa : Nat → Nat} {w0 : Nat} {c0 : Nat → Nat} {A : Nat} (hw : w0 < 256) (hA : A ≤ 60) (ho : ∀ a, a < A → okA (mo a) (sa a)) : ∀ a, a ≤ A → okS a (hst T h sh p mo sa w0 c0 a)
  | 0, _ => ⟨hw, Nat.zero_le _, by show okZ (if _ then _ else _); split; (· exact okZ_s (by decide)); (· exact okZ_n), okZ_n⟩
  | a + 1, ha => by
    obtain ⟨h1, h2, h3, h4⟩ := hst_ok hw hA ho (T := T) (h := h) (sh := sh) (p := p) (c0 := c0) a (by omega)
    have := nB_le (sa a)
    exact ⟨aW_lt h1 (ho a (by omega)), by show _ + _ ≤ _; omega, nZ_ok h3 (by omega), nN_ok h4 (by omega)⟩
/-- E: the first act that can not be, or A -/
def FirstBad (T h sh : Nat) (p : Nat → Nat) (mo : Nat → Option Nat) (sa : Nat → Nat) (w0 : Nat) (c0 : Nat → Nat) (A E : Nat) : Prop := E ≤ A ∧ (∀ a, a < E → why T (hst T h sh p mo sa w0 c0 a).1 (mo a) (sa a) = 0) ∧ (E < A → why T (hst T h sh p mo sa w0 c0 E).1 (mo E) (sa E) ≠ 0)
theorem firstBad_ex (T h sh : Nat) (p : Nat → Nat) (mo : Nat → Option Nat) (sa : Nat → Nat) (w0 : Nat) (c0 : Nat → Nat) (A : Nat) : ∃ E, FirstBad T h sh p mo sa w0 c0 A E := by
  obtain ⟨E, h1, h2⟩ := pk_least (fun a => a = A ∨ why T (hst T h sh p mo sa w0 c0 a).1 (mo a) (sa a) ≠ 0) ⟨A, Or.inl rfl⟩
  have hle : E ≤ A := Nat.le_of_not_lt (fun h => h2 A h (Or.inl rfl))
  refine ⟨E, hle, fun a ha => ?_, fun hlt => ?_⟩
  · have := h2 a ha
    exact Decidable.byContradiction (fun e => this (Or.inr e))
  · rcases h1 with h | h
    · omega
    · exact h
theorem Row.cpy {n B : Nat} {f g : Nat → Int32} {c : Nat → Nat} (h : Row n B f c) : Row n B (va_cpy f g 0 0 n) c := by
  intro k hk
  rw [pk_cpy_in (Nat.zero_le _) (by omega)]
  simpa using h k hk
def FolP (T h sh A E : Nat) (p c0 : Nat → Nat) (mo : Nat → Option Nat) (sa : Nat → Nat) (w0 : Nat) (P M S : Nat → Int32) (y : Option (Int32 × Int32 × Int32 × Int32 × Int32 × Int32 × Int32 × Int32 × Int32 × Int32 × Int32 × (Nat → Int32) × (Nat → Int32) × Int32 × (Nat → Int32) × (Nat → Int32))) : Prop :=
  ∃ (wy bI zI nt wI : Int32) (C2 : Nat → Int32), y = some (if E = A then 1 else 0, 0, if E = A then -6 else nI E, wy, bI, zI, nt, nI T, wI, nI h, nI sh, C2, P, nI A, M, S) ∧
      (E = A → wy = -6 ∧ bI = nI (hst T h sh p mo sa w0 c0 A).2.2.1 ∧ zI = oI (-6) (hst T h sh p mo sa w0 c0 A).2.2.2.1 ∧ nt = oI (-6) (hst T h sh p mo sa w0 c0 A).2.2.2.2 ∧ wI = nI (hst T h sh p mo sa w0 c0 A).1 ∧ Row 8 1000000 C2 (hst T h sh p mo sa w0 c0 A).2.1) ∧
      (E < A → wy = nI (why T (hst T h sh p mo sa w0 c0 E).1 (mo E) (sa E)))
/-- what follow answers where the signs can stand so -/
theorem c_loop {T h sh A E : Nat} {p c0 : Nat → Nat} {mo : Nat → Option Nat} {sa : Nat → Nat} {w0 : Nat} {C P M S : Nat → Int32} (hT : T < 256) (hw : w0 < 256) (hh : h ≤ 1000000) (hsh : sh ≤ 99) (hC : Row 8 1000000 C c0) (hP : Row 8 9 P p) (hA : A ≤ 60) (ho : ∀ a, a < A → okA (mo a) (sa a)) (hM : ∀ a, a < A → M a = oM (mo a) ∧ S a = nI (sa a)) (hE : FirstBad T h sh p mo sa w0 c0 A E) :
    FolP T h sh A E p c0 mo sa w0 P M S (loopF (fun k q => bX1_follow_25 k q.1 q.2.1 q.2.2.1 q.2.2.2.1 q.2.2.2.2.1 q.2.2.2.2.2.1 q.2.2.2.2.2.2.1 q.2.2.2.2.2.2.2.1 q.2.2.2.2.2.2.2.2.1 q.2.2.2.2.2.2.2.2.2.1 q.2.2.2.2.2.2.2.2.2.2.1 q.2.2.2.2.2.2.2.2.2.2.2.1 q.2.2.2.2.2.2.2.2.2.2.2.2.1 q.2.2.2.2.2.2.2.2.2.2.2.2.2.1 q.2.2.2.2.2.2.2.2.2.2.2.2.2.2.1 q.2.2.2.2.2.2.2.2.2.2.2.2.2.2.2) FU (0, 0, -6, -6, 0, oI (-6) (if zany T c0 8 then some 0 else none), -6, nI T, nI w0, nI h, nI sh, C, P, nI A, M, S)) := by
  obtain ⟨hEA, hgood, hbad⟩ := hE
  have hok := hst_ok (T := T) (h := h) (sh := sh) (p := p) (c0 := c0) hw hA ho
  let G : Nat → (Nat → Int32) → Int32 × Int32 × Int32 × Int32 × Int32 × Int32 × Int32 × Int32 × Int32 × Int32 × Int32 × (Nat → Int32) × (Nat → Int32) × Int32 × (Nat → Int32) × (Nat → Int32) := fun a F => (nI a, 0, -6, -6, nI (hst T h sh p mo sa w0 c0 a).2.2.1, oI (-6) (hst T h sh p mo sa w0 c0 a).2.2.2.1, oI (-6) (hst T h sh p mo sa w0 c0 a).2.2.2.2, nI T, nI (hst T h sh p mo sa w0 c0 a).1, nI h, nI sh, F, P, nI A, M, S)
  have hpass : ∀ a F, a < A → Row 8 1000000 F (hst T h sh p mo sa w0 c0 a).2.1 → _ := fun a F ha hF => c_pass (a := a) (br := (hst T h sh p mo sa w0 c0 a).2.2.1) (z := (hst T h sh p mo sa w0 c0 a).2.2.2.1) (nt := (hst T h sh p mo sa w0 c0 a).2.2.2.2) hT (hok a (by omega)).1 hh hsh hF hP (hok a (by omega)).2.2.1 (hok a (by omega)).2.2.2 (by have := (hok a (by omega)).2.1; omega) (ho a ha)
  have hbody : ∀ K a F, a < A → bX1_follow_25 K (nI a) 0 (-6) (-6) (nI (hst T h sh p mo sa w0 c0 a).2.2.1) (oI (-6) (hst T h sh p mo sa w0 c0 a).2.2.2.1) (oI (-6) (hst T h sh p mo sa w0 c0 a).2.2.2.2) (nI T) (nI (hst T h sh p mo sa w0 c0 a).1) (nI h) (nI sh) F P (nI A) M S = (fX1_pass (-6) (-6) (nI (hst T h sh p mo sa w0 c0 a).2.2.1) (oI (-6) (hst T h sh p mo sa w0 c0 a).2.2.2.1) (oI (-6) (hst T h sh p mo sa w0 c0 a).2.2.2.2) (nI T) (nI (hst T h sh p mo sa w0 c0 a).1) (nI h) (nI sh) F P (nI a) (oM (mo a)) (nI (sa a))).bind fun r63 => K (nI (a + 1), 0, r63.1, r63.2.1, r63.2.2.1, r63.2.2.2.1, r63.2.2.2.2.1, nI T, r63.2.2.2.2.2.1, nI h, nI sh, r63.2.2.2.2.2.2, P, nI A, M, S) := by
    intro K a F ha
    unfold bX1_follow_25
    rw [if_neg (fun e => by have := (nI_leI (by omega) (by omega)).mp e; omega), if_pos rfl, if_pos rfl, ge60 (by omega), ge60 (by omega), cl60 (by omega), (hM a ha).1, (hM a ha).2, nI_1]
  by_cases hEq : E = A
  · subst hEq
    refine loopF_inv E (fun a q => ∃ F, q = G a F ∧ Row 8 1000000 F (hst T h sh p mo sa w0 c0 a).2.1) (FolP T h sh E E p c0 mo sa w0 P M S) ?_ ?_ FU _ (FU_gt (by omega)) ⟨C, rfl, hC⟩
    · rintro a q ha ⟨F, rfl, hF⟩
      obtain ⟨F2, e, hF2⟩ := (hpass a F ha hF).1 (hgood a ha)
      refine ⟨G (a + 1) F2, ⟨F2, rfl, hF2⟩, fun K => ?_⟩
      show bX1_follow_25 K (nI a) 0 (-6) (-6) _ _ _ (nI T) _ (nI h) (nI sh) F P (nI E) M S = _
      rw [hbody K a F ha, e, bnd_some]
      rfl
    · rintro q ⟨F, rfl, hF⟩ K
      refine ⟨_, _, _, _, _, F, ?_, fun _ => ⟨rfl, rfl, rfl, rfl, rfl, hF⟩, fun h => absurd h (Nat.lt_irrefl _)⟩
      show bX1_follow_25 K (nI E) 0 (-6) (-6) _ _ _ (nI T) _ (nI h) (nI sh) F P (nI E) M S = _
      unfold bX1_follow_25 bX1_follow_72
      rw [if_pos (Int32.le_refl _), if_pos rfl, if_pos rfl, if_pos rfl, if_pos rfl]
  · have hlt : E < A := by omega
    have hb := hbad hlt
    have hwl := why_lt T (hst T h sh p mo sa w0 c0 E).1 (mo E) (sa E)
    refine loopF_inv (E + 1) (fun a q => ∃ F, (a ≤ E → q = G a F ∧ Row 8 1000000 F (hst T h sh p mo sa w0 c0 a).2.1) ∧ (a = E + 1 → ∃ bI zI nt wI, q = (nI (E + 1), 0, nI E, nI (why T (hst T h sh p mo sa w0 c0 E).1 (mo E) (sa E)), bI, zI, nt, nI T, wI, nI h, nI sh, F, P, nI A, M, S))) (FolP T h sh A E p c0 mo sa w0 P M S) ?_ ?_ FU _ (FU_gt (by omega)) ⟨C, fun _ => ⟨rfl, hC⟩, fun h => by omega⟩
    · rintro a q ha ⟨F, hq, -⟩
      obtain ⟨rfl, hF⟩ := hq (by omega)
      by_cases d : a = E
      · subst d
        have e := (hpass a F hlt hF).2 hb
        refine ⟨(nI (a + 1), 0, nI a, nI (why T (hst T h sh p mo sa w0 c0 a).1 (mo a) (sa a)), nI (hst T h sh p mo sa w0 c0 a).2.2.1, oI (-6) (hst T h sh p mo sa w0 c0 a).2.2.2.1, oI (-6) (hst T h sh p mo sa w0 c0 a).2.2.2.2, nI T, nI (hst T h sh p mo sa w0 c0 a).1, nI h, nI sh, F, P, nI A, M, S), ⟨F, fun h => by omega, fun _ => ⟨_, _, _, _, rfl⟩⟩, fun K => ?_⟩
        show bX1_follow_25 K (nI a) 0 (-6) (-6) _ _ _ (nI T) _ (nI h) (nI sh) F P (nI A) M S = _
        rw [hbody K a F hlt, e, bnd_some]
      · obtain ⟨F2, e, hF2⟩ := (hpass a F (by omega) hF).1 (hgood a (by omega))
        refine ⟨G (a + 1) F2, ⟨F2, fun _ => ⟨rfl, hF2⟩, fun h => by omega⟩, fun K => ?_⟩
        show bX1_follow_25 K (nI a) 0 (-6) (-6) _ _ _ (nI T) _ (nI h) (nI sh) F P (nI A) M S = _
        rw [hbody K a F (by omega), e, bnd_some]
        rfl
    · rintro q ⟨F, -, hq⟩ K
      obtain ⟨bI, zI, nt, wI, rfl⟩ := hq rfl
      refine ⟨_, bI, zI, nt, wI, F, ?_, fun h => absurd h hEq, fun _ => rfl⟩
      show bX1_follow_25 K (nI (E + 1)) 0 (nI E) _ bI zI nt (nI T) wI (nI h) (nI sh) F P (nI A) M S = _
      have hne : ¬ nI E = (-6) := fun e => by have := (oI6 (z := some E) (okZ_s (by omega))).mp e; cases this
      unfold bX1_follow_25 bX1_follow_72
      rw [if_neg hEq, if_neg hEq]
      simp only [if_true, if_neg hne]
      split <;> rfl
