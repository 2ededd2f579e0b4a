theorem hst_sub {T h sh : Nat} {p : Nat → Nat} {mo : Nat → Option Nat} {sa : Nat → Nat} {w0 : Nat} {c0 : Nat → Nat} {A E : Nat} (hw : w0 < 256) (hA : A ≤ 60) (ho : ∀ a, a < A → okA (mo a) (sa a)) (hs : ∀ k, k < 8 → w0.testBit k = true → T.testBit k = true) (hE : FirstBad T h sh p mo sa w0 c0 A E) : ∀ a, a ≤ E → ∀ k, k < 8 → (hst T h sh p mo sa w0 c0 a).1.testBit k = true → T.testBit k = true
  | 0, _ => hs
  | a + 1, ha => by
    have ih := hst_sub hw hA ho hs hE a (by omega)
    have hwa := (hst_ok (T := T) (h := h) (sh := sh) (p := p) (c0 := c0) hw hA ho a (by have := hE.1; omega)).1
    have hgood := hE.2.1 a (by omega)
    have hoa := ho a (by have := hE.1; omega)
    intro k hk hb
    have hb : (aW (hst T h sh p mo sa w0 c0 a).1 (mo a) (sa a)).testBit k = true := hb
    cases hm : mo a with
    | none => rw [hm] at hb; exact ih k hk hb
    | some j =>
      rw [hm] at hb hgood hoa
      simp only [aW] at hb
      have hj : j < 8 := hoa.1
      by_cases hL : isL (sa a) = true
      · rw [if_pos hL, bt_tan _ hwa j hj k hk, Bool.and_eq_true] at hb
        exact ih k hk hb.1
      · rw [if_neg hL] at hb
        by_cases h119 : sa a = 119
        · rw [if_pos h119, bt_tor, Bool.or_eq_true, decide_eq_true_eq] at hb
          rcases hb with hb | hb
          · exact ih k hk hb
          · subst hb
            cases hT : T.testBit k with
            | true => rfl
            | false => simp [why, hT] at hgood
        · rw [if_neg h119] at hb
          exact ih k hk hb
/-- the three ways in which the hours on the pad may go -/
theorem hours3 {T W h sh n : Nat} {c p sg : Nat → Nat} {C C' P P' Q Q' : Nat → Int32} (hG : GH T W h sh p) (hC : R2 8 1000000 C C' c) (hP : R2 8 9 P P' p) (hn : n ≤ 60) (hQ : R2 n 126 Q Q' sg) (x0 x1 x2 x3 x4 x5 y1 y2 y3 y4 ac u1 u2 u3 u4 u5 u6 : Int32) (Y5 Y6 M0 S0 N : Nat → Int32) :
    (∃ r fl, fX1_follow x0 x1 x2 x3 x4 x5 y1 y2 y3 y4 Y5 Y6 (nI n) ac Q M0 S0 (nI T) (nI W) (nI h) (nI sh) C P = some (0, 1, r) ∧ fX10_faultOf (nI n) Q' = some fl ∧ 0 ≤ fl ∧ ¬ fl < 0) ∨
    (∃ r E wy u r2, fX1_follow x0 x1 x2 x3 x4 x5 y1 y2 y3 y4 Y5 Y6 (nI n) ac Q M0 S0 (nI T) (nI W) (nI h) (nI sh) C P = some (0, 0, nI E, nI wy, r) ∧ fX10_faultOf (nI n) Q' = some (-6) ∧ fX10_goHours (nI T) (nI W) (nI h) (nI sh) (nI n) u1 u2 u3 u4 u5 u6 C' P' Q' N = some (nI E, u, nI wy, r2) ∧ E < 60) ∨
    (∃ A w2 bI zI nt C2 P2 M S r C2' c2, fX1_follow x0 x1 x2 x3 x4 x5 y1 y2 y3 y4 Y5 Y6 (nI n) ac Q M0 S0 (nI T) (nI W) (nI h) (nI sh) C P = some (1, 0, -6, -6, bI, zI, nt, nI T, nI w2, nI h, nI sh, C2, P2, nI A, M, S) ∧ fX10_faultOf (nI n) Q' = some (-6) ∧ fX10_goHours (nI T) (nI W) (nI h) (nI sh) (nI n) u1 u2 u3 u4 u5 u6 C' P' Q' N = some (-6, nI w2, r, nI A, bI, zI, nt, C2') ∧ R2 8 1000000 C2 C2' c2 ∧ Row 8 9 P2 p ∧ GH T w2 h sh p) := by
  have hG0 := hG
  obtain ⟨g1, g2, g3, g4, g5, g6, g7⟩ := hG
  obtain ⟨A, hA⟩ := acts_ex sg n
  obtain ⟨E, hE⟩ := firstBad_ex T h sh p (moA sg) (sA sg) W c A
  have hA60 := acts_lt hA
  have hle := acts_le hA
  have hcf := c_follow (x0 := x0) (x1 := x1) (x2 := x2) (x3 := x3) (x4 := x4) (x5 := x5) (y1 := y1) (y2 := y2) (y3 := y3) (y4 := y4) (ac := ac) (Y5 := Y5) (Y6 := Y6) (M0 := M0) (S0 := S0) g1 g2 g5 g6 hC.1 hP.1 hn hQ.1 hA hE
  have hfl := m_faultOf hA hn hQ.2
  by_cases hf : n ≤ pos sg A
  · obtain ⟨M, S, hfol⟩ := hcf.1 hf
    have hgo := m_goHours (x1 := u1) (x2 := u2) (x3 := u3) (x4 := u4) (x5 := u5) (x6 := u6) (N := N) g1 g2 g5 g6 hC.2 hP.2 hn hQ.2 hA hE hf
    have e6 : flt sg n A = (-6) := by unfold flt; rw [if_pos hf]
    rw [e6] at hfl
    obtain ⟨wy, bI, zI, nt, wI, C2, ef, hgd, hbd⟩ := hfol
    by_cases hEq : E = A
    · subst hEq
      obtain ⟨q1, q2, q3, q4, q5, q6⟩ := hgd rfl
      obtain ⟨r, C2', eg, hR⟩ := hgo.1 rfl
      have hok := (hst_ok (T := T) (h := h) (sh := sh) (p := p) (c0 := c) g2 (by omega) (fun a ha => (act_ok hA ha).1) E (Nat.le_refl _)).1
      have hsub := hst_sub g2 (by omega) (fun a ha => (act_ok hA ha).1) g3 hE E (Nat.le_refl _)
      rw [if_pos rfl, if_pos rfl, q1, q5] at ef
      rw [← q2, ← q3, ← q4] at eg
      exact Or.inr (Or.inr ⟨E, _, bI, zI, nt, C2, _, M, S, r, C2', _, ef, hfl, eg, ⟨q6, hR⟩, hP.1.cpy, g1, hok, hsub, g4, g5, g6, g7⟩)
    · have hlt : E < A := by have := hE.1; omega
      have hw := hbd hlt
      obtain ⟨u, r2, eg⟩ := hgo.2 hlt
      rw [if_neg hEq, if_neg hEq, hw] at ef
      exact Or.inr (Or.inl ⟨_, E, _, u, r2, ef, hfl, eg, by omega⟩)
  · obtain ⟨r, er⟩ := hcf.2 hf
    refine Or.inl ⟨r, _, er, hfl, ?_⟩
    have hb : fltN sg A < 2 ^ 31 := by unfold fltN; split <;> omega
    have e : flt sg n A = nI (fltN sg A) := by unfold flt; rw [if_neg hf]
    rw [e]
    exact ⟨nI_pos' hb, nI_pos hb⟩
section HoursFace
variable {T W h sh n : Nat} {c p sg : Nat → Nat} {C C' P P' Q Q' : Nat → Int32} (hG : GH T W h sh p) (hC : R2 8 1000000 C C' c) (hP : R2 8 9 P P' p) (hn : n ≤ 60) (hQ : R2 n 126 Q Q' sg) (x0 x1 x2 x3 x4 x5 y1 y2 y3 y4 ac u1 u2 u3 u4 u5 u6 : Int32) (Y5 Y6 M0 S0 N : Nat → Int32)
theorem m6 : ¬ (0 : Int32) ≤ (-6) := by decide
theorem m6l : (-6 : Int32) < 0 := by decide
theorem m5 : ¬ (0 : Int32) ≤ (-5) := by decide
theorem r_fault (hn : n ≤ 60) (hQ : R2 n 126 Q Q' sg) (ac : Int32) (M0 S0 : Nat → Int32) : ∃ r A M S, fX9_fault (nI n) ac Q M0 S0 = some (r, A, M, S) ∧ fX10_fault (nI n) Q' = some r := by
  obtain ⟨A, hA⟩ := acts_ex sg n
  obtain ⟨M, S, e, -⟩ := c_readActs (ac0 := ac) (M0 := M0) (S0 := S0) hA hn hQ.1
  unfold fX9_fault fX10_fault
  rw [e, m_faultOf hA hn hQ.2, bnd_some, bnd_some]
  exact ⟨_, _, _, _, rfl, rfl⟩
end HoursFace
theorem r_judge {T W h sh n : Nat} {c p sg : Nat → Nat} {C C' P P' Q Q' : Nat → Int32} (hG : GH T W h sh p) (hC : R2 8 1000000 C C' c) (hP : R2 8 9 P P' p) (hn : n ≤ 60) (hQ : R2 n 126 Q Q' sg) (x0 x1 x2 x3 x4 x5 y1 y2 y3 y4 ac u1 u2 u3 u4 u5 u6 : Int32) (Y5 Y6 M0 S0 N : Nat → Int32) (a1 : Int32) :
    ∃ q q2, fX9_judge (nI T) (nI W) (nI h) (nI sh) C P (nI n) ac Q M0 S0 x0 x1 x2 x3 x4 x5 y1 y2 y3 y4 Y5 Y6 a1 = some q ∧ fX10_judge (nI T) (nI W) (nI h) (nI sh) (nI n) u1 u2 u3 u4 u5 u6 C' P' Q' N a1 = some q2 ∧ q.1 = q2.1 := by
  unfold fX9_judge fX10_judge
  rcases win a1 0 1 (by decide) (by decide) with ⟨e1, e2⟩ | ⟨k, k1, k2, rfl, e1, e2⟩
  · rw [show fX9_isWithin a1 0 1 = some 0 from e1, show fX10_in a1 0 1 = some 0 from e2, bnd_some, bnd_some, if_pos rfl, if_pos rfl]
    exact ⟨_, _, rfl, rfl, rfl⟩
  · rw [show fX9_isWithin (nI k) 0 1 = some 1 from e1, show fX10_in (nI k) 0 1 = some 1 from e2, bnd_some, bnd_some, if_neg n10, if_neg n10]
    rcases hours3 hG hC hP hn hQ x0 x1 x2 x3 x4 x5 y1 y2 y3 y4 ac u1 u2 u3 u4 u5 u6 Y5 Y6 M0 S0 N with ⟨r, fl, f1, f2, f3, f4⟩ | ⟨r, E, wy, u, r2, f1, f2, f3, f4⟩ | ⟨A, w2, bI, zI, nt, C2, P2, M, S, r, C2', c2, f1, f2, f3, -⟩
    · rw [f1, f2, bnd_some, bnd_some, if_neg f4]
      simp only [if_neg n10]
      exact ⟨_, _, rfl, rfl, rfl⟩
    · rw [f1, f2, f3, bnd_some, bnd_some, if_pos m6l, bnd_some]
      simp only [if_true, if_neg (n0 (show E < 2 ^ 31 by omega))]
      by_cases hk : nI k = 0
      · rw [if_pos hk, if_pos hk]; exact ⟨_, _, rfl, rfl, rfl⟩
      · rw [if_neg hk, if_neg hk]; exact ⟨_, _, rfl, rfl, rfl⟩
    · rw [f1, f2, f3, bnd_some, bnd_some, if_pos m6l, bnd_some]
      simp only [if_true, if_pos m6l]
      by_cases hk : nI k = 0
      · rw [if_pos hk]; exact ⟨_, _, rfl, rfl, rfl⟩
      · rw [if_neg hk]; exact ⟨_, _, rfl, rfl, rfl⟩
/-- the same of barOfHours -/
theorem bar3 {T W h sh n : Nat} {c p sg : Nat → Nat} {C C' P P' Q Q' : Nat → Int32} (hG : GH T W h sh p) (hC : R2 8 1000000 C C' c) (hP : R2 8 9 P P' p) (hn : n ≤ 60) (hQ : R2 n 126 Q Q' sg) (x0 x1 x2 x3 x4 x5 y1 y2 y3 y4 ac u1 u2 u3 u4 u5 u6 : Int32) (Y5 Y6 M0 S0 N : Nat → Int32) :
    (∃ r r2, fX1_follow x0 x1 x2 x3 x4 x5 y1 y2 y3 y4 Y5 Y6 (nI n) ac Q M0 S0 (nI T) (nI W) (nI h) (nI sh) C P = some (0, r) ∧ fX10_barOfHours (nI T) (nI W) (nI h) (nI sh) (nI n) u1 u2 u3 u4 u5 u6 C' P' Q' N = some (-5, r2)) ∨
    (∃ A w2 bI zI nt C2 P2 M S r C2' c2, fX1_follow x0 x1 x2 x3 x4 x5 y1 y2 y3 y4 Y5 Y6 (nI n) ac Q M0 S0 (nI T) (nI W) (nI h) (nI sh) C P = some (1, 0, -6, -6, bI, zI, nt, nI T, nI w2, nI h, nI sh, C2, P2, nI A, M, S) ∧ fX10_barOfHours (nI T) (nI W) (nI h) (nI sh) (nI n) u1 u2 u3 u4 u5 u6 C' P' Q' N = some (0, nI w2, r, nI A, bI, zI, nt, C2') ∧ R2 8 1000000 C2 C2' c2 ∧ Row 8 9 P2 p ∧ GH T w2 h sh p) := by
  unfold fX10_barOfHours
  rcases hours3 hG hC hP hn hQ x0 x1 x2 x3 x4 x5 y1 y2 y3 y4 ac u1 u2 u3 u4 u5 u6 Y5 Y6 M0 S0 N with ⟨r, fl, f1, f2, f3, f4⟩ | ⟨r, E, wy, u, r2, f1, f2, f3, f4⟩ | ⟨A, w2, bI, zI, nt, C2, P2, M, S, r, C2', c2, f1, f2, f3, f5⟩
  · rw [f1, f2, bnd_some, if_pos f3]
    exact Or.inl ⟨_, _, rfl, rfl⟩
  · rw [f1, f2, f3, bnd_some, if_neg m6, bnd_some]
    simp only [if_neg (n0 (show E < 2 ^ 31 by omega))]
    exact Or.inl ⟨_, _, rfl, rfl⟩
  · rw [f1, f2, f3, bnd_some, if_neg m6, bnd_some]
    simp only [if_pos m6l]
    exact Or.inr ⟨A, w2, bI, zI, nt, C2, P2, M, S, r, C2', c2, rfl, rfl, f5⟩
theorem r_noticed {T W h sh n : Nat} {c p sg : Nat → Nat} {C C' P P' Q Q' : Nat → Int32} (hG : GH T W h sh p) (hC : R2 8 1000000 C C' c) (hP : R2 8 9 P P' p) (hn : n ≤ 60) (hQ : R2 n 126 Q Q' sg) (x0 x1 x2 x3 x4 x5 y1 y2 y3 y4 ac u1 u2 u3 u4 u5 u6 : Int32) (Y5 Y6 M0 S0 N : Nat → Int32) :
    ∃ q q2, fX9_noticed (nI T) (nI W) (nI h) (nI sh) C P (nI n) ac Q M0 S0 x0 x1 x2 x3 x4 x5 y1 y2 y3 y4 Y5 Y6 = some q ∧ fX10_noticed (nI T) (nI W) (nI h) (nI sh) (nI n) u1 u2 u3 u4 u5 u6 C' P' Q' N = some q2 ∧ q.1 = q2.1 := by
  unfold fX9_noticed fX10_noticed
  rcases bar3 hG hC hP hn hQ x0 x1 x2 x3 x4 x5 y1 y2 y3 y4 ac u1 u2 u3 u4 u5 u6 Y5 Y6 M0 S0 N with ⟨r, r2, f1, f2⟩ | ⟨A, w2, bI, zI, nt, C2, P2, M, S, r, C2', c2, f1, f2, -⟩
  · rw [f1, f2, bnd_some, bnd_some]
    simp only [if_true, if_neg m5]
    exact ⟨_, _, rfl, rfl, rfl⟩
  · rw [f1, f2, bnd_some, bnd_some]
    simp only [if_neg n10, if_pos (show (0 : Int32) ≤ 0 by decide)]
    exact ⟨_, _, rfl, rfl, rfl⟩
theorem r_breaths {T W h sh n : Nat} {c p sg : Nat → Nat} {C C' P P' Q Q' : Nat → Int32} (hG : GH T W h sh p) (hC : R2 8 1000000 C C' c) (hP : R2 8 9 P P' p) (hn : n ≤ 60) (hQ : R2 n 126 Q Q' sg) (x0 x1 x2 x3 x4 x5 y1 y2 y3 y4 ac u1 u2 u3 u4 u5 u6 : Int32) (Y5 Y6 M0 S0 N : Nat → Int32) (a1 : Int32) :
    ∃ q q2, fX9_breaths (nI T) (nI W) (nI h) (nI sh) C P (nI n) ac Q M0 S0 x0 x1 x2 x3 x4 x5 y1 y2 y3 y4 Y5 Y6 a1 = some q ∧ fX10_breaths (nI T) (nI W) (nI h) (nI sh) (nI n) u1 u2 u3 u4 u5 u6 C' P' Q' N a1 = some q2 ∧ q.1 = q2.1 := by
  unfold fX9_breaths fX10_breaths
  rcases win a1 0 1 (by decide) (by decide) with ⟨e1, e2⟩ | ⟨k, k1, k2, rfl, e1, e2⟩
  · rw [show fX9_isWithin a1 0 1 = some 0 from e1, show fX10_in a1 0 1 = some 0 from e2, bnd_some, bnd_some, if_pos rfl, if_pos rfl]
    exact ⟨_, _, rfl, rfl, rfl⟩
  · rw [show fX9_isWithin (nI k) 0 1 = some 1 from e1, show fX10_in (nI k) 0 1 = some 1 from e2, bnd_some, bnd_some, if_neg n10, if_neg n10]
    rcases bar3 hG hC hP hn hQ x0 x1 x2 x3 x4 x5 y1 y2 y3 y4 ac u1 u2 u3 u4 u5 u6 Y5 Y6 M0 S0 N with ⟨r, r2, f1, f2⟩ | ⟨A, w2, bI, zI, nt, C2, P2, M, S, r, C2', c2, f1, f2, -⟩
    · rw [f1, f2, bnd_some, bnd_some]
      simp only [if_true, if_neg m5]
      exact ⟨_, _, rfl, rfl, rfl⟩
    · rw [f1, f2, bnd_some, bnd_some]
      simp only [if_neg n10, if_pos (show (0 : Int32) ≤ 0 by decide)]
      by_cases hk : nI k = 0
      · rw [if_pos hk, if_pos hk]; exact ⟨_, _, rfl, rfl, rfl⟩
      · rw [if_neg hk, if_neg hk]; exact ⟨_, _, rfl, rfl, rfl⟩
theorem r_behind {T W h sh n : Nat} {c p sg : Nat → Nat} {C C' P P' Q Q' : Nat → Int32} (hG : GH T W h sh p) (hC : R2 8 1000000 C C' c) (hP : R2 8 9 P P' p) (hn : n ≤ 60) (hQ : R2 n 126 Q Q' sg) (x0 x1 x2 x3 x4 x5 y1 y2 y3 y4 ac u1 u2 u3 u4 u5 u6 : Int32) (Y5 Y6 M0 S0 N : Nat → Int32) (a1 a2 : Int32) :
    ∃ q q2, fX9_behind (nI T) (nI W) (nI h) (nI sh) C P (nI n) ac Q M0 S0 x0 x1 x2 x3 x4 x5 y1 y2 y3 y4 Y5 Y6 a1 a2 = some q ∧ fX10_behind (nI T) (nI W) (nI h) (nI sh) (nI n) u1 u2 u3 u4 u5 u6 C' P' Q' N a1 a2 = some q2 ∧ q.1 = q2.1 := by
  have g1 := hG.1
  unfold fX9_behind fX10_behind
  rcases thr g1 a1 with ⟨e1, e2⟩ | ⟨j, hj, rfl, hb, e1, e2⟩
  · rw [e1, e2, bnd_some, bnd_some, if_pos rfl, if_pos rfl]
    exact ⟨_, _, rfl, rfl, rfl⟩
  · rw [e1, e2, bnd_some, bnd_some, if_neg n10, if_neg n10]
    rcases win a2 0 1 (by decide) (by decide) with ⟨e1, e2⟩ | ⟨k, k1, k2, rfl, e1, e2⟩
    · rw [show fX9_isWithin a2 0 1 = some 0 from e1, show fX10_in a2 0 1 = some 0 from e2, bnd_some, bnd_some, if_pos rfl, if_pos rfl]
      exact ⟨_, _, rfl, rfl, rfl⟩
    · rw [show fX9_isWithin (nI k) 0 1 = some 1 from e1, show fX10_in (nI k) 0 1 = some 1 from e2, bnd_some, bnd_some, if_neg n10, if_neg n10]
      rcases bar3 hG hC hP hn hQ x0 x1 x2 x3 x4 x5 y1 y2 y3 y4 ac u1 u2 u3 u4 u5 u6 Y5 Y6 M0 S0 N with ⟨r, r2, f1, f2⟩ | ⟨A, w2, bI, zI, nt, C2, P2, M, S, r, C2', c2, f1, f2, hR, hP2, hG2⟩
      · rw [f1, f2, bnd_some, bnd_some]
        simp only [if_true, if_neg m5]
        exact ⟨_, _, rfl, rfl, rfl⟩
      · rw [f1, f2, bnd_some, bnd_some]
        simp only [if_neg n10, if_pos (show (0 : Int32) ≤ 0 by decide)]
        unfold fX2_tell
        by_cases hk : nI k = 0
        · rw [if_pos hk, if_pos hk, ge0 hj, ge0 hj, bnd_some, cl8 hj]
          exact ⟨_, _, rfl, rfl, by show C2 j = C2' j; rw [(hR.1 j hj).1, (hR.2 j hj).1]⟩
        · rw [if_neg hk, if_neg hk, c_isAwake hG2.2.1 hj, bnd_some]
          rw [bt_b w2 hG2.2.1 j hj]
          cases w2.testBit j
          · exact ⟨_, _, rfl, rfl, rfl⟩
          · exact ⟨_, _, rfl, rfl, rfl⟩
theorem r_done {T W h sh n : Nat} {c p sg : Nat → Nat} {C C' P P' Q Q' : Nat → Int32} (hG : GH T W h sh p) (hC : R2 8 1000000 C C' c) (hP : R2 8 9 P P' p) (hn : n ≤ 60) (hQ : R2 n 126 Q Q' sg) (x0 x1 x2 x3 x4 x5 y1 y2 y3 y4 ac u1 u2 u3 u4 u5 u6 : Int32) (Y5 Y6 M0 S0 N : Nat → Int32) :
    ∃ r W2 n2 c2 C1 P1 o1 C2 o2, fX9_done (nI T) (nI W) (nI h) (nI sh) C P (nI n) ac Q M0 S0 x0 x1 x2 x3 x4 x5 y1 y2 y3 y4 Y5 Y6 = some (r, nI T, nI W2, nI h, nI sh, C1, P1, nI n2, o1) ∧ (∃ b1 b2 b3 b4 b5 b6, fX10_done (nI T) (nI W) (nI h) (nI sh) (nI n) u1 u2 u3 u4 u5 u6 C' P' Q' N = some (r, nI W2, nI n2, b1, b2, b3, b4, b5, b6, C2, o2)) ∧ GH T W2 h sh p ∧ R2 8 1000000 C1 C2 c2 ∧ R2 8 9 P1 P' p ∧ n2 ≤ 60 ∧ R2 n2 126 Q Q' sg := by
  unfold fX9_done fX10_done
  rcases bar3 hG hC hP hn hQ x0 x1 x2 x3 x4 x5 y1 y2 y3 y4 ac u1 u2 u3 u4 u5 u6 Y5 Y6 M0 S0 N with ⟨r, r2, f1, f2⟩ | ⟨A, w2, bI, zI, nt, C2, P2, M, S, r, C2', c2, f1, f2, hR, hP2, hG2⟩
  · rw [f1, f2, bnd_some, bnd_some]
    simp only [if_true, if_neg m5]
    exact ⟨_, W, n, c, _, _, _, _, _, rfl, ⟨_, _, _, _, _, _, rfl⟩, hG, hC, hP, hn, hQ⟩
  · rw [f1, f2, bnd_some, bnd_some]
    simp only [if_neg n10, if_pos (show (0 : Int32) ≤ 0 by decide)]
    unfold fX2_copyFrom
    rw [bnd_some]
    simp only
    have hl : ∃ F : Nat → Int32, loopF (fun k q => bX10_done_20 k q.1 q.2.1 q.2.2.1 q.2.2.2.1 q.2.2.2.2.1 q.2.2.2.2.2.1 q.2.2.2.2.2.2.1 q.2.2.2.2.2.2.2.1 q.2.2.2.2.2.2.2.2.1 q.2.2.2.2.2.2.2.2.2.1 q.2.2.2.2.2.2.2.2.2.2) FU (0, nI w2, nI n, nI w2, r, nI A, bI, zI, nt, C', C2') = some (nI A, nI w2, 0, nI w2, r, nI A, bI, zI, nt, F, C2') ∧ ∀ k, k < 8 → F k = C2' k := by
      refine loopF_inv 8 (fun i q => ∃ F : Nat → Int32, q = (nI i, nI w2, nI n, nI w2, r, nI A, bI, zI, nt, F, C2') ∧ ∀ k, k < i → F k = C2' k) (fun y => ∃ F : Nat → Int32, y = some (nI A, nI w2, 0, nI w2, r, nI A, bI, zI, nt, F, C2') ∧ ∀ k, k < 8 → F k = C2' k) ?_ ?_ FU _ (FU_gt (by decide)) ⟨C', rfl, fun k hk => by omega⟩
      · rintro i q hi ⟨F, rfl, hF⟩
        refine ⟨(nI (i + 1), nI w2, nI n, nI w2, r, nI A, bI, zI, nt, upd F i (C2' i), C2'), ⟨_, rfl, fun k hk => ?_⟩, fun K => ?_⟩
        · by_cases d : k = i
          · subst d; exact pk_us
          · rw [pk_un d]; exact hF k (by omega)
        · show bX10_done_20 K (nI i) (nI w2) (nI n) (nI w2) r (nI A) bI zI nt F C2' = _
          unfold bX10_done_20
          rw [if_neg (n8 hi), ge0 hi, ge0 hi, cl8 hi, nI_1]
      · rintro q ⟨F, rfl, hF⟩ K
        refine ⟨F, ?_, hF⟩
        show bX10_done_20 K (nI 8) (nI w2) (nI n) (nI w2) r (nI A) bI zI nt F C2' = _
        unfold bX10_done_20
        rw [if_pos n88]
    obtain ⟨F, el, hF⟩ := hl
    rw [el]
    exact ⟨_, w2, 0, c2, _, _, _, _, _, rfl, ⟨_, _, _, _, _, _, rfl⟩, hG2, ⟨hR.1.cpy, hR.2.same hF⟩, ⟨hP2.cpy, hP.2⟩, by omega, fun k hk => by omega, fun k hk => by omega⟩
