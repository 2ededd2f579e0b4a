/-! face methods, both sides: the same answer, states alike -/
def GH (T W h sh : Nat) (p : Nat → Nat) : Prop := T < 256 ∧ W < 256 ∧ (∀ k, k < 8 → W.testBit k = true → T.testBit k = true) ∧ 1 ≤ h ∧ h ≤ 1000000 ∧ sh ≤ 99 ∧ ∀ k, k < 8 → T.testBit k = true → 1 ≤ p k
/-- two rows of one kind, alike in n places -/
def R2 (n B : Nat) (f g : Nat → Int32) (c : Nat → Nat) : Prop := Row n B f c ∧ Row n B g c
theorem R2.upd {n B : Nat} {f g : Nat → Int32} {c : Nat → Nat} (h : R2 n B f g c) {k v : Nat} (hv : v ≤ B) : R2 n B (upd f k (nI v)) (upd g k (nI v)) (fun j => if j = k then v else c j) := ⟨h.1.upd rfl hv, h.2.upd rfl hv⟩
theorem win (a : Int32) (lo hi : Nat) (hlo : lo < 2 ^ 31) (hhi : hi < 2 ^ 31) : (fX9_isWithin a (nI lo) (nI hi) = some 0 ∧ fX10_in a (nI lo) (nI hi) = some 0) ∨ ∃ k, lo ≤ k ∧ k ≤ hi ∧ a = nI k ∧ fX9_isWithin a (nI lo) (nI hi) = some 1 ∧ fX10_in a (nI lo) (nI hi) = some 1 := by
  unfold fX9_isWithin fX10_in
  by_cases h1 : a < nI lo
  · rw [if_pos h1]; exact Or.inl ⟨rfl, rfl⟩
  · rw [if_neg h1]
    by_cases h2 : nI hi < a
    · rw [if_pos h2]; exact Or.inl ⟨rfl, rfl⟩
    · rw [if_neg h2]
      have h0 : ¬ a < 0 := fun e => h1 (Int32.lt_of_lt_of_le e (nI_pos' hlo))
      obtain ⟨k, hk, rfl⟩ := nI_of h0
      refine Or.inr ⟨k, ?_, ?_, rfl, rfl, rfl⟩
      · exact Nat.le_of_not_lt (fun e => h1 ((nI_ltI hk hlo).mpr e))
      · exact Nat.le_of_not_lt (fun e => h2 ((nI_ltI hhi hk).mpr e))
theorem mon (a : Int32) : (fX9_isMonk a = some 0 ∧ fX10_in a 0 7 = some 0) ∨ ∃ k, k < 8 ∧ a = nI k ∧ fX9_isMonk a = some 1 ∧ fX10_in a 0 7 = some 1 := by
  rcases win a 0 7 (by decide) (by decide) with ⟨e1, e2⟩ | ⟨k, h1, h2, rfl, e1, e2⟩
  · refine Or.inl ⟨?_, e2⟩
    unfold fX9_isMonk
    by_cases h : a < 0
    · rw [if_pos h]
    · rw [if_neg h]
      obtain ⟨k, hk, rfl⟩ := nI_of h
      by_cases h8 : k < 8
      · exfalso
        have := m_in (l := 0) (h := 7) hk (by decide) (by decide)
        rw [if_pos (by omega)] at this
        rw [show fX10_in (nI k) (nI 0) (nI 7) = _ from this] at e2
        cases e2
      · rw [if_pos (show (8 : Int32) ≤ nI k from nI_le (a := 8) (by omega) hk)]
  · refine Or.inr ⟨k, by omega, rfl, ?_, e2⟩
    rw [c_isMonk (by omega), if_pos (by omega)]
theorem thr {T : Nat} (hT : T < 256) (a : Int32) : (fX2_isThere (nI T) a = some 0 ∧ fX10_isThere (nI T) a = some 0) ∨ ∃ k, k < 8 ∧ a = nI k ∧ T.testBit k = true ∧ fX2_isThere (nI T) a = some 1 ∧ fX10_isThere (nI T) a = some 1 := by
  rcases mon a with ⟨e1, e2⟩ | ⟨k, hk, rfl, e1, e2⟩
  · refine Or.inl ⟨?_, ?_⟩
    · unfold fX9_isMonk at e1
      unfold fX2_isThere
      by_cases h : a < 0
      · rw [if_pos h]
      · rw [if_neg h] at e1 ⊢
        by_cases h8 : 8 ≤ a
        · rw [if_pos h8]
        · rw [if_neg h8] at e1; cases e1
    · unfold fX10_isThere
      rw [e2, bnd_some, if_pos rfl]
  · cases hb : T.testBit k with
    | true => exact Or.inr ⟨k, hk, rfl, hb, by rw [c_isThere hT hk, hb]; rfl, by rw [m_isThere hT hk, hb]; rfl⟩
    | false => exact Or.inl ⟨by rw [c_isThere hT hk, hb]; rfl, by rw [m_isThere hT hk, hb]; rfl⟩
theorem n10 : ¬ (1 : Int32) = 0 := by decide
theorem r_monk {T W h sh : Nat} {c p : Nat → Nat} {C C' P P' : Nat → Int32} (hG : GH T W h sh p) (hC : R2 8 1000000 C C' c) (hP : R2 8 9 P P' p) (a1 a2 a3 : Int32) :
    ∃ r T2 W2 c2 p2 C1 P1 C2 P2, fX9_monk (nI T) (nI W) (nI h) C P a1 a2 a3 = some (r, nI T2, nI W2, C1, P1) ∧ fX10_monk (nI T) (nI W) (nI h) C' P' a1 a2 a3 = some (r, nI T2, nI W2, C2, P2) ∧ GH T2 W2 h sh p2 ∧ R2 8 1000000 C1 C2 c2 ∧ R2 8 9 P1 P2 p2 := by
  have hG0 := hG
  obtain ⟨g1, g2, g3, g4, g5, g6, g7⟩ := hG
  unfold fX9_monk fX10_monk
  rcases mon a1 with ⟨e1, e2⟩ | ⟨k, hk, rfl, e1, e2⟩
  · rw [e1, e2, bnd_some, bnd_some, if_pos rfl, if_pos rfl]
    exact ⟨_, T, W, c, p, _, _, _, _, rfl, rfl, hG0, hC, hP⟩
  · rw [e1, e2, bnd_some, bnd_some, if_neg n10, if_neg n10]
    rcases win a2 0 h (by decide) (by omega) with ⟨e3, e4⟩ | ⟨v, v1, v2, rfl, e3, e4⟩
    · rw [show fX9_isWithin a2 0 (nI h) = some 0 from e3, show fX10_in a2 0 (nI h) = some 0 from e4, bnd_some, bnd_some, if_pos rfl, if_pos rfl]
      exact ⟨_, T, W, c, p, _, _, _, _, rfl, rfl, hG0, hC, hP⟩
    · rw [show fX9_isWithin (nI v) 0 (nI h) = some 1 from e3, show fX10_in (nI v) 0 (nI h) = some 1 from e4, bnd_some, bnd_some, if_neg n10, if_neg n10]
      rcases win a3 1 9 (by decide) (by decide) with ⟨e5, e6⟩ | ⟨q, q1, q2, rfl, e5, e6⟩
      · rw [show fX9_isWithin a3 1 9 = some 0 from e5, show fX10_in a3 1 9 = some 0 from e6, bnd_some, bnd_some, if_pos rfl, if_pos rfl]
        exact ⟨_, T, W, c, p, _, _, _, _, rfl, rfl, hG0, hC, hP⟩
      · rw [show fX9_isWithin (nI q) 1 9 = some 1 from e5, show fX10_in (nI q) 1 9 = some 1 from e6, bnd_some, bnd_some, if_neg n10, if_neg n10]
        have hlt := bt_lt g1 hk
        have hlw := bt_lt g2 hk
        unfold fX2_settle
        simp only [ge0 hk, cl8 hk, bnd_some, bt_or T g1 k hk, bt_or W g2 k hk, pop_c _ hlt, pop_m _ hlt]
        refine ⟨_, T ||| 2 ^ k, W ||| 2 ^ k, _, _, _, _, _, _, rfl, rfl, ⟨hlt, hlw, fun i hi hb => ?_, g4, g5, g6, fun i hi hb => ?_⟩, hC.upd (by omega), hP.upd (by omega)⟩
        · rw [bt_tor] at hb ⊢
          rw [Bool.or_eq_true] at hb ⊢
          rcases hb with hb | hb
          · exact Or.inl (g3 i hi hb)
          · exact Or.inr hb
        · rw [bt_tor, Bool.or_eq_true, decide_eq_true_eq] at hb
          by_cases d : i = k
          · simp [d]; omega
          · simp only [d, if_false]
            rcases hb with hb | hb
            · exact g7 i hi hb
            · exact absurd hb d
theorem GH.sub {T W h sh : Nat} {p : Nat → Nat} (hG : GH T W h sh p) {k : Nat} (hk : k < 8) : GH (T &&& (255 ^^^ 2 ^ k)) (W &&& (255 ^^^ 2 ^ k)) h sh p := by
  obtain ⟨g1, g2, g3, g4, g5, g6, g7⟩ := hG
  refine ⟨bt_lta g1, bt_lta g2, fun i hi hb => ?_, g4, g5, g6, fun i hi hb => ?_⟩
  · rw [bt_tan _ g2 k hk i hi, Bool.and_eq_true] at hb
    rw [bt_tan _ g1 k hk i hi, Bool.and_eq_true]
    exact ⟨g3 i hi hb.1, hb.2⟩
  · rw [bt_tan _ g1 k hk i hi, Bool.and_eq_true] at hb
    exact g7 i hi hb.1
theorem r_leave {T W h sh : Nat} {p : Nat → Nat} (hG : GH T W h sh p) (a1 : Int32) :
    ∃ r T2 W2, fX9_leave (nI T) (nI W) a1 = some (r, nI T2, nI W2) ∧ fX10_leave (nI T) (nI W) a1 = some (r, nI T2, nI W2) ∧ GH T2 W2 h sh p := by
  have hG0 := hG
  obtain ⟨g1, g2, g3, g4, g5, g6, g7⟩ := hG
  unfold fX9_leave fX10_leave
  rcases thr g1 a1 with ⟨e1, e2⟩ | ⟨k, hk, rfl, hb, e1, e2⟩
  · rw [e1, e2, bnd_some, bnd_some, if_pos rfl, if_pos rfl]
    exact ⟨_, T, W, rfl, rfl, hG0⟩
  · rw [e1, e2, bnd_some, bnd_some, if_neg n10, if_neg n10]
    unfold fX2_dismiss
    simp only [bnd_some, bt_an T g1 k hk, bt_an W g2 k hk, pop_c _ (bt_lta (x := 255 ^^^ 2 ^ k) g1), pop_m _ (bt_lta (x := 255 ^^^ 2 ^ k) g1)]
    exact ⟨_, _, _, rfl, rfl, hG0.sub hk⟩
/-- somebody of a set is above v -/
theorem mxf_gt {w v : Nat} {c : Nat → Nat} : ∀ i, (v < mxf w c i ↔ ∃ k, k < i ∧ w.testBit k = true ∧ v < c k)
  | 0 => by simp [mxf]
  | i + 1 => by
    have ih := mxf_gt (w := w) (v := v) (c := c) i
    show v < (if w.testBit i = true ∧ mxf w c i < c i then c i else mxf w c i) ↔ _
    constructor
    · intro h
      by_cases d : w.testBit i = true ∧ mxf w c i < c i
      · rw [if_pos d] at h; exact ⟨i, by omega, d.1, h⟩
      · rw [if_neg d] at h
        obtain ⟨k, h1, h2⟩ := ih.mp h
        exact ⟨k, by omega, h2⟩
    · rintro ⟨k, h1, h2, h3⟩
      by_cases e : k = i
      · subst e
        by_cases d : w.testBit k = true ∧ mxf w c k < c k
        · rw [if_pos d]; exact h3
        · rw [if_neg d]
          have : ¬ mxf w c k < c k := fun q => d ⟨h2, q⟩
          omega
      · have := ih.mpr ⟨k, by omega, h2, h3⟩
        by_cases d : w.testBit i = true ∧ mxf w c i < c i
        · rw [if_pos d]; omega
        · rw [if_neg d]; exact this
theorem r_set {T W h sh : Nat} {c p : Nat → Nat} {C C' : Nat → Int32} (hG : GH T W h sh p) (hC : R2 8 1000000 C C' c) (a1 a2 : Int32) :
    ∃ r h2 sh2, fX9_set (nI T) (nI h) (nI sh) C a1 a2 = some (r, nI h2, nI sh2) ∧ fX10_set (nI T) (nI h) (nI sh) C' a1 a2 = some (r, nI h2, nI sh2) ∧ GH T W h2 sh2 p := by
  have hG0 := hG
  obtain ⟨g1, g2, g3, g4, g5, g6, g7⟩ := hG
  have hB : ∀ k, k < 8 → c k ≤ 1000000 := fun k hk => (hC.1 k hk).2
  unfold fX9_set fX10_set
  by_cases d0 : a1 = 0
  · subst d0
    rw [if_pos rfl, if_pos rfl]
    unfold fX9_changeStart
    rcases win a2 1 1000000 (by decide) (by decide) with ⟨e3, e4⟩ | ⟨v, v1, v2, rfl, e3, e4⟩
    · rw [show fX9_isWithin a2 1 1000000 = some 0 from e3, show fX10_in a2 1 1000000 = some 0 from e4, bnd_some, bnd_some, if_pos rfl]
      unfold bX10_set_34
      rw [bnd_some, if_pos rfl]
      exact ⟨_, h, sh, rfl, rfl, hG0⟩
    · rw [show fX9_isWithin (nI v) 1 1000000 = some 1 from e3, show fX10_in (nI v) 1 1000000 = some 1 from e4, bnd_some, bnd_some, if_neg n10, c_greatest g1 hC.1, bnd_some]
      unfold bX10_set_34
      rw [if_neg n10]
      have hm := mxf_le (w := T) hB (i := 8) (Nat.le_refl _)
      have body : ∀ K k, k < 8 → bX10_set_45 K (nI T) C' 0 (nI v) (nI k) (nI h) (nI sh) = if T.testBit k = true ∧ v < c k then some ((-3), nI h, nI sh) else K (nI (k + 1), nI h, nI sh) := by
        intro K k hk
        obtain ⟨e5, b5⟩ := hC.2 k hk
        unfold bX10_set_45
        rw [if_neg (n8 hk), if_pos rfl, m_has g1 hk, bnd_some, nI_1, ge0 hk, cl8 hk, e5]
        cases hb : T.testBit k with
        | false => rw [if_pos (by simp)]; simp
        | true =>
          rw [if_neg (by simp)]
          by_cases hlt : v < c k
          · rw [if_neg (fun e => by have := (nI_leI (by omega) (by omega)).mp e; omega)]; simp [hlt]
          · rw [if_pos ((nI_leI (by omega) (by omega)).mpr (by omega))]; simp [hlt]
      by_cases hgt : v < mxf T c 8
      · rw [if_neg (fun e => by have := (nI_leI (by omega) (by omega)).mp e; omega), bnd_some]
        obtain ⟨E, hE1, hE2⟩ := pk_least (fun k => k < 8 ∧ T.testBit k = true ∧ v < c k) ((mxf_gt 8).mp hgt)
        have hl : loopF (fun k q => bX10_set_45 k (nI T) C' 0 (nI v) q.1 q.2.1 q.2.2) FU (0, nI h, nI sh) = some ((-3), nI h, nI sh) := by
          refine loopF_run E (fun i => (nI i, nI h, nI sh)) _ ?_ ?_ (FU_gt (by omega))
          · intro i hi K
            show bX10_set_45 K (nI T) C' 0 (nI v) (nI i) (nI h) (nI sh) = _
            rw [body K i (by omega), if_neg (fun e => hE2 i hi ⟨by omega, e⟩)]
          · intro K
            show bX10_set_45 K (nI T) C' 0 (nI v) (nI E) (nI h) (nI sh) = _
            rw [body K E hE1.1, if_pos hE1.2]
        rw [hl]
        exact ⟨_, h, sh, rfl, rfl, hG0⟩
      · rw [if_pos ((nI_leI (by omega) (by omega)).mpr (by omega)), bnd_some]
        have hl : loopF (fun k q => bX10_set_45 k (nI T) C' 0 (nI v) q.1 q.2.1 q.2.2) FU (0, nI h, nI sh) = some (nI h, nI v, nI sh) := by
          refine loopF_run 8 (fun i => (nI i, nI h, nI sh)) _ ?_ ?_ (FU_gt (by omega))
          · intro i hi K
            show bX10_set_45 K (nI T) C' 0 (nI v) (nI i) (nI h) (nI sh) = _
            rw [body K i hi, if_neg (fun e => hgt ((mxf_gt 8).mpr ⟨i, hi, e⟩))]
          · intro K
            show bX10_set_45 K (nI T) C' 0 (nI v) (nI 8) (nI h) (nI sh) = _
            unfold bX10_set_45 bX10_set_88 bX10_set_103 bX10_set_118
            rw [if_pos n88, if_pos rfl, if_pos rfl, if_neg (by decide)]
        rw [hl]
        exact ⟨_, v, sh, rfl, rfl, g1, g2, g3, v1, v2, g6, g7⟩
  · rw [if_neg d0, if_neg d0]
    by_cases d1 : a1 = 1
    · subst d1
      rw [if_pos rfl, if_pos rfl]
      unfold fX9_changeSharp
      rcases win a2 0 99 (by decide) (by decide) with ⟨e3, e4⟩ | ⟨v, v1, v2, rfl, e3, e4⟩
      · rw [show fX9_isWithin a2 0 99 = some 0 from e3, show fX10_in a2 0 99 = some 0 from e4, bnd_some, bnd_some, if_pos rfl, if_pos rfl]
        unfold bX10_set_34
        rw [bnd_some, if_pos rfl]
        exact ⟨_, h, sh, rfl, rfl, hG0⟩
      · rw [show fX9_isWithin (nI v) 0 99 = some 1 from e3, show fX10_in (nI v) 0 99 = some 1 from e4, bnd_some, bnd_some, if_neg n10, if_neg n10]
        unfold bX10_set_34
        rw [bnd_some, if_neg n10]
        have hl : loopF (fun k q => bX10_set_45 k (nI T) C' 1 (nI v) q.1 q.2.1 q.2.2) FU (0, nI h, nI sh) = some (nI sh, nI h, nI v) := by
          refine loopF_run 0 (fun i => (nI i, nI h, nI sh)) _ ?_ ?_ (FU_gt (by omega))
          · intro i hi K; omega
          · intro K
            show bX10_set_45 K (nI T) C' 1 (nI v) 0 (nI h) (nI sh) = _
            unfold bX10_set_45 bX10_set_88 bX10_set_103 bX10_set_118
            rw [if_neg (by decide), if_neg n10, if_neg n10, if_neg n10, if_pos rfl]
        rw [hl]
        exact ⟨_, h, v, rfl, rfl, g1, g2, g3, g4, g5, v2, g7⟩
    · rw [if_neg d1, if_neg d1]
      unfold bX10_set_34
      rw [if_pos rfl]
      exact ⟨_, h, sh, rfl, rfl, hG0⟩
