theorem zs255 (c : Nat → Nat) {i k : Nat} (hk : k < 8) : (zs 255 c i).testBit k = (decide (k < i) && decide (c k = 0)) := by
  rw [zs_bit, t255 k hk, Bool.true_and]
def hz2 (T : Nat) (c c2 : Nat → Nat) : Nat → Nat
  | 0 => 0
  | i + 1 => if T.testBit i = true ∧ c2 i = 0 ∧ c i ≠ 0 then hz2 T c c2 i ||| 2 ^ i else hz2 T c c2 i
theorem hz2_lt (T : Nat) (c c2 : Nat → Nat) : ∀ {i : Nat}, i ≤ 8 → hz2 T c c2 i < 256
  | 0, _ => by show 0 < 256; decide
  | i + 1, h => by
    have ih := hz2_lt T c c2 (i := i) (by omega)
    unfold hz2
    split
    · exact bt_lt ih (by omega)
    · exact ih
theorem hz2_ne {T : Nat} {c c2 : Nat → Nat} : ∀ i, i ≤ 8 → (hz2 T c c2 i = 0 ↔ nz T c c2 i = false)
  | 0, _ => by simp [hz2, nz]
  | i + 1, hi => by
    have ih := hz2_ne (T := T) (c := c) (c2 := c2) i (by omega)
    unfold hz2 nz
    by_cases h : T.testBit i = true ∧ c2 i = 0 ∧ c i ≠ 0
    · rw [if_pos h]
      have e : (T.testBit i && decide (c2 i = 0) && !decide (c i = 0)) = true := by simp [h.1, h.2.1, h.2.2]
      rw [e, Bool.or_true]
      constructor
      · intro h0
        have : (hz2 T c c2 i ||| 2 ^ i).testBit i = true := by rw [bt_tor]; simp
        rw [h0] at this; simp at this
      · intro h0; cases h0
    · rw [if_neg h, ih]
      have e : (T.testBit i && decide (c2 i = 0) && !decide (c i = 0)) = false := by
        cases hb : (T.testBit i && decide (c2 i = 0) && !decide (c i = 0)) with
        | false => rfl
        | true =>
          simp only [Bool.and_eq_true, decide_eq_true_eq, Bool.not_eq_true', decide_eq_false_iff_not] at hb
          exact absurd ⟨hb.1.1, hb.1.2, hb.2⟩ h
      rw [e, Bool.or_false]
theorem or0 (x : Int32) : x ||| 0 = x := Int32.or_zero
abbrev YK : Type := Int32 × Int32 × Int32 × Int32 × (Nat → Int32) → Option (Int32 × Int32 × (Nat → Int32))
theorem m_year119 {T i x cnt w : Nat} {F : Nat → Int32} {c c2 : Nat → Nat} (hT : T < 256) (hF : Row 8 1000000 F c2) (K : YK) : loopF (fun k q => bX10_year_119 K k (nI T) q.1 q.2.1 q.2.2.1 q.2.2.2.1 q.2.2.2.2.1 q.2.2.2.2.2.1 q.2.2.2.2.2.2.1 q.2.2.2.2.2.2.2) FU (nI x, nI cnt, nI i, nI (zs 255 c 8), 0, 0, nI w, F) = K (nI x, nI (cnt + if nz T c c2 8 then 1 else 0), nI (i + 1), nI w, F) := by
  refine loopF_run 8 (fun j => (nI x, nI cnt, nI i, nI (zs 255 c 8), nI (hz2 T c c2 j), nI j, nI w, F)) _ ?_ ?_ (FU_gt (by decide))
  · intro j hj K2
    show bX10_year_119 K K2 (nI T) (nI x) (nI cnt) (nI i) (nI (zs 255 c 8)) (nI (hz2 T c c2 j)) (nI j) (nI w) F = K2 (nI x, nI cnt, nI i, nI (zs 255 c 8), nI (hz2 T c c2 (j + 1)), nI (j + 1), nI w, F)
    unfold bX10_year_119 bX10_year_168
    obtain ⟨e1, b1⟩ := hF j hj
    have hl := hz2_lt T c c2 (i := j) (by omega)
    rw [if_neg (n8 hj), m_has hT hj, bnd_some, nI_1, m_has (zs_lt 255 c (Nat.le_refl 8)) hj, bnd_some, zs255 c hj]
    simp only [bool_if, hj, decide_true, Bool.true_and]
    rw [bt_or _ hl j hj, or0, ge0 hj, cl8 hj, e1]
    cases hb : T.testBit j with
    | false => rw [if_pos rfl]; simp [hz2, hb]
    | true =>
      rw [if_neg (by simp)]
      by_cases d : c2 j = 0
      · rw [if_pos (by rw [d]; rfl)]
        by_cases d2 : c j = 0
        · rw [if_neg (by simp [d2])]; simp [hz2, hb, d, d2]
        · rw [if_pos (by simp [d2])]; simp [hz2, hb, d, d2]
      · rw [if_neg (fun e => d ((nI_eq0 (by omega)).mp e))]; simp [hz2, hb, d]
  · intro K2
    show bX10_year_119 K K2 (nI T) (nI x) (nI cnt) (nI i) (nI (zs 255 c 8)) (nI (hz2 T c c2 8)) (nI 8) (nI w) F = _
    unfold bX10_year_119 bX10_year_189
    have hl := hz2_lt T c c2 (i := 8) (by omega)
    rw [if_pos n88, nI_1, nI_1, Int32.add_zero]
    by_cases hn : nz T c c2 8 = true
    · rw [if_neg (fun e => by have := (hz2_ne 8 (by omega)).mp ((nI_eq0 (by omega)).mp e); rw [hn] at this; cases this), if_pos hn]
    · have hn2 : nz T c c2 8 = false := by simpa using hn
      rw [if_pos (show nI (hz2 T c c2 8) = 0 by rw [(hz2_ne 8 (by omega)).mpr hn2]; rfl), if_neg hn]
      rfl
theorem m_year74 {T h i x cnt w : Nat} {F P : Nat → Int32} {c p : Nat → Nat} (hT : T < 256) (hw : w < 256) (hh : h ≤ 1000000) (hF : Row 8 1000000 F c) (hP : Row 8 9 P p) (hx : x < 2 ^ 31) : ∃ F2, Row 8 1000000 F2 (yC T w h p c (yMo x) (yS x)) ∧ ∀ K : YK, loopF (fun k q => bX10_year_74 K k (nI T) (nI h) P q.1 q.2.1 q.2.2.1 q.2.2.2.1 q.2.2.2.2.1 q.2.2.2.2.2.1 q.2.2.2.2.2.2.1 q.2.2.2.2.2.2.2) FU (nI x, nI cnt, nI i, 0, 0, 0, nI w, F) = K (nI x, nI (cnt + if nz T c (yC T w h p c (yMo x) (yS x)) 8 then 1 else 0), nI (i + 1), nI (yW T w (yMo x) (yS x)), F2) := by
  obtain ⟨F2, e, hF2⟩ := m_turn hT hw hh hF hP hx
  refine ⟨F2, hF2, fun K => ?_⟩
  refine loopF_run 8 (fun j => (nI x, nI cnt, nI i, nI (zs 255 c j), 0, nI j, nI w, F)) _ ?_ ?_ (FU_gt (by decide))
  · intro j hj K2
    show bX10_year_74 K K2 (nI T) (nI h) P (nI x) (nI cnt) (nI i) (nI (zs 255 c j)) 0 (nI j) (nI w) F = K2 (nI x, nI cnt, nI i, nI (zs 255 c (j + 1)), 0, nI (j + 1), nI w, F)
    unfold bX10_year_74 bX10_year_101
    obtain ⟨e1, b1⟩ := hF j hj
    have hl := zs_lt 255 c (i := j) (by omega)
    rw [if_neg (n8 hj), nI_1, bt_or _ hl j hj, or0, ge0 hj, cl8 hj, e1]
    by_cases d : c j = 0
    · rw [if_pos (by rw [d]; rfl)]; simp [zs, t255 j hj, d]
    · rw [if_neg (fun e => d ((nI_eq0 (by omega)).mp e))]; simp [zs, d]
  · intro K2
    show bX10_year_74 K K2 (nI T) (nI h) P (nI x) (nI cnt) (nI i) (nI (zs 255 c 8)) 0 (nI 8) (nI w) F = _
    unfold bX10_year_74
    rw [if_pos n88, e, bnd_some]
    exact m_year119 hT hF2 K
theorem r_year {T W h sh : Nat} {c p : Nat → Nat} {C C' P P' N Y5 Y6 : Nat → Int32} {u z0 y1 y2 y3 y4 : Int32} (hG : GH T W h sh p) (hC : R2 8 1000000 C C' c) (hP : R2 8 9 P P' p) (a1 a2 a3 : Int32) : ∃ r q q2, fX9_year (nI T) (nI W) (nI h) (nI sh) C P z0 y1 y2 y3 y4 Y5 Y6 a1 a2 a3 = some (r, q) ∧ fX10_year (nI T) (nI W) (nI h) u C' P' N a1 a2 a3 = some (r, q2) := by
  obtain ⟨g1, g2, g3, g4, g5, g6, g7⟩ := hG
  unfold fX9_year fX10_year
  rcases win a1 0 9999 (by decide) (by decide) with ⟨e1, e2⟩ | ⟨x, x1, x2, rfl, e1, e2⟩
  · rw [show fX9_isWithin a1 0 9999 = some 0 from e1, show fX10_in a1 0 9999 = some 0 from e2, bnd_some, bnd_some, if_pos rfl, if_pos rfl]; exact ⟨_, _, _, rfl, rfl⟩
  rw [show fX9_isWithin (nI x) 0 9999 = some 1 from e1, show fX10_in (nI x) 0 9999 = some 1 from e2, bnd_some, bnd_some, if_neg n10, if_neg n10]
  rcases win a2 1 99 (by decide) (by decide) with ⟨e1, e2⟩ | ⟨m, m1, m2, rfl, e1, e2⟩
  · rw [show fX9_isWithin a2 1 99 = some 0 from e1, show fX10_in a2 1 99 = some 0 from e2, bnd_some, bnd_some, if_pos rfl, if_pos rfl]; exact ⟨_, _, _, rfl, rfl⟩
  rw [show fX9_isWithin (nI m) 1 99 = some 1 from e1, show fX10_in (nI m) 1 99 = some 1 from e2, bnd_some, bnd_some, if_neg n10, if_neg n10]
  rcases win a3 0 2 (by decide) (by decide) with ⟨e1, e2⟩ | ⟨v, v1, v2, rfl, e1, e2⟩
  · rw [show fX9_isWithin a3 0 2 = some 0 from e1, show fX10_in a3 0 2 = some 0 from e2, bnd_some, bnd_some, if_pos rfl, if_pos rfl]; exact ⟨_, _, _, rfl, rfl⟩
  rw [show fX9_isWithin (nI v) 0 2 = some 1 from e1, show fX10_in (nI v) 0 2 = some 1 from e2, bnd_some, bnd_some, if_neg n10, if_neg n10]
  obtain ⟨C2, P2, ec, hC2⟩ := c_yearPass (sh := sh) (z0 := z0) (y1 := y1) (y2 := y2) (y3 := y3) (y4 := y4) (Y5 := Y5) (Y6 := Y6) g1 g2 g5 hC.1 hP.1 (show x < 65537 by omega) m2
  obtain ⟨N2, eN, hN⟩ := m_asNow (wI := nI W) (up := u) (C := C') (N := N)
  have hN2 : Row 8 1000000 N2 c := hC.2.same hN
  have hok := yst_ok (T := T) (h := h) (p := p) (x0 := x) (c0 := c) (by omega) g2
  rw [ec, eN, bnd_some, bnd_some]
  simp only
  have hm : ∃ F, loopF (fun k q => bX10_year_46 k (nI T) (nI h) P' (nI m) (nI v) q.1 q.2.1 q.2.2.1 q.2.2.2.1 q.2.2.2.2) FU (nI x, 0, 0, nI W, N2) = (if nI v = 0 then some (nI (sumT T (yst T h p x W c m).2.2.1 8), nI (yst T h p x W c m).2.1, F) else if nI v = 1 then some (nI (pop8 (yst T h p x W c m).2.1), nI (yst T h p x W c m).2.1, F) else some (nI (yst T h p x W c m).2.2.2, nI (yst T h p x W c m).2.1, F)) := by
    refine loopF_inv m (fun i q => ∃ F, q = (nI (yst T h p x W c i).1, nI (yst T h p x W c i).2.2.2, nI i, nI (yst T h p x W c i).2.1, F) ∧ Row 8 1000000 F (yst T h p x W c i).2.2.1) (fun y => ∃ F : Nat → Int32, y = (if nI v = 0 then some (nI (sumT T (yst T h p x W c m).2.2.1 8), nI (yst T h p x W c m).2.1, F) else if nI v = 1 then some (nI (pop8 (yst T h p x W c m).2.1), nI (yst T h p x W c m).2.1, F) else some (nI (yst T h p x W c m).2.2.2, nI (yst T h p x W c m).2.1, F))) ?_ ?_ FU _ (FU_gt (by omega)) ⟨N2, rfl, hN2⟩
    · rintro i q hi ⟨F, rfl, hF⟩
      obtain ⟨k1, k2⟩ := hok i
      obtain ⟨F2, hF2, hb⟩ := m_year74 (i := i) (x := (yst T h p x W c (i + 1)).1) (cnt := (yst T h p x W c i).2.2.2) g1 k2 g5 hF hP.2 (by have := (hok (i + 1)).1; omega)
      refine ⟨(nI (yst T h p x W c (i + 1)).1, nI (yst T h p x W c (i + 1)).2.2.2, nI (i + 1), nI (yst T h p x W c (i + 1)).2.1, F2), ⟨F2, rfl, hF2⟩, fun K => ?_⟩
      show bX10_year_46 K (nI T) (nI h) P' (nI m) (nI v) (nI (yst T h p x W c i).1) (nI (yst T h p x W c i).2.2.2) (nI i) (nI (yst T h p x W c i).2.1) F = _
      unfold bX10_year_46
      rw [if_neg (fun e => by have := (nI_leI (by omega) (by omega)).mp e; omega), y_next k1]
      exact hb K
    · rintro q ⟨F, rfl, hF⟩ K
      refine ⟨F, ?_⟩
      show bX10_year_46 K (nI T) (nI h) P' (nI m) (nI v) _ (nI (yst T h p x W c m).2.2.2) (nI m) (nI (yst T h p x W c m).2.1) F = _
      unfold bX10_year_46
      rw [if_pos (Int32.le_refl _)]
      refine loopF_run 8 (fun j => (nI (yst T h p x W c m).2.2.2, nI (sumT T (yst T h p x W c m).2.2.1 j), nI j, nI (yst T h p x W c m).2.1, F)) _ ?_ ?_ (FU_gt (by decide))
      · intro j hj K2
        show bX10_year_204 K2 (nI T) (nI v) (nI (yst T h p x W c m).2.2.2) (nI (sumT T (yst T h p x W c m).2.2.1 j)) (nI j) (nI (yst T h p x W c m).2.1) F = K2 (nI (yst T h p x W c m).2.2.2, nI (sumT T (yst T h p x W c m).2.2.1 (j + 1)), nI (j + 1), nI (yst T h p x W c m).2.1, F)
        unfold bX10_year_204 bX10_year_236
        rw [if_neg (n8 hj), m_has g1 hj, bnd_some, nI_1]
        cases hb : T.testBit j with
        | false => rw [if_pos (by simp), Int32.add_zero]; simp [sumT, hb]
        | true => rw [if_neg (by simp), ge0 hj, cl8 hj, (hF j hj).1, nI_add]; simp [sumT, hb]
      · intro K2
        show bX10_year_204 K2 (nI T) (nI v) (nI (yst T h p x W c m).2.2.2) (nI (sumT T (yst T h p x W c m).2.2.1 8)) (nI 8) (nI (yst T h p x W c m).2.1) F = _
        unfold bX10_year_204
        rw [if_pos n88, pop_m _ (hok m).2, bnd_some]
  obtain ⟨F, em⟩ := hm
  rw [em]
  by_cases d0 : nI v = 0
  · rw [if_pos d0, if_pos d0, c_sum g1 hC2, bnd_some]; exact ⟨_, _, _, rfl, rfl⟩
  · rw [if_neg d0, if_neg d0]
    by_cases d1 : nI v = 1
    · rw [if_pos d1, if_pos d1, pop_c _ (hok m).2, bnd_some]; exact ⟨_, _, _, rfl, rfl⟩
    · rw [if_neg d1, if_neg d1]; exact ⟨_, _, _, rfl, rfl⟩
