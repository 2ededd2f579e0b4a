theorem m_asNow {wI up : Int32} {C N : Nat → Int32} : ∃ N2 : Nat → Int32, fX10_asNow wI up C N = some (wI, N2) ∧ ∀ k, k < 8 → N2 k = C k := by
  unfold fX10_asNow
  refine loopF_inv 8 (fun i q => q.1 = nI i ∧ q.2.1 = wI ∧ ∀ k, k < i → q.2.2 k = C k) (fun y => ∃ N2 : Nat → Int32, y = some (wI, N2) ∧ ∀ k, k < 8 → N2 k = C k) ?_ ?_ FU (0, wI, N) (FU_gt (by decide)) ⟨rfl, rfl, fun k hk => by omega⟩
  · rintro i ⟨q1, q2, F⟩ hi ⟨e1, e2, hF⟩
    simp only at e1 e2 hF
    subst e1; subst e2
    refine ⟨(nI (i + 1), q2, upd F i (C i)), ⟨rfl, rfl, fun k hk => ?_⟩, fun K => ?_⟩
    · by_cases d : k = i
      · subst d; exact pk_us
      · show upd F i (C i) k = C k
        rw [pk_un d]; exact hF k (by omega)
    · show bX10_asNow_10 K C (nI i) q2 F = _
      unfold bX10_asNow_10
      rw [if_neg (n8 hi), ge0 hi, ge0 hi, cl8 hi, nI_1]
  · rintro ⟨q1, q2, F⟩ ⟨e1, e2, hF⟩ K
    simp only at e1 e2 hF
    subst e1; subst e2
    refine ⟨F, ?_, hF⟩
    show bX10_asNow_10 K C (nI 8) q2 F = _
    unfold bX10_asNow_10
    rw [if_pos n88]
theorem Row.same {n B : Nat} {f g : Nat → Int32} {c : Nat → Nat} (h : Row n B f c) (e : ∀ k, k < n → g k = f k) : Row n B g c := fun k hk => by rw [e k hk]; exact h k hk
theorem c_begin {T w h sh : Nat} {x1 x2 x3 x4 x5 y1 y2 y3 y4 : Int32} {Y5 Y6 C P : Nat → Int32} {c : Nat → Nat} (hT : T < 256) (hC : Row 8 1000000 C c) : fX1_begin x1 x2 x3 x4 x5 y1 y2 y3 y4 Y5 Y6 (nI T) (nI w) (nI h) (nI sh) C P = some (-6, -6, 0, oI (-6) (if zany T c 8 then some 0 else none), -6, nI T, nI w, nI h, nI sh, va_cpy C Y5 0 0 8, va_cpy P Y6 0 0 8) := by
  unfold fX1_begin fX2_copyFrom
  rw [bnd_some]
  simp only
  rw [c_atNought hT (hC.cpy), bnd_some]
  unfold bX1_begin_42
  have hl := zs_lt T c (Nat.le_refl 8)
  by_cases hz : zany T c 8 = true
  · rw [if_neg (fun e => by have := zs_ne.mp ((nI_eq0 (by omega)).mp e); rw [hz] at this; cases this), if_pos hz]
    rfl
  · have hz2 : zany T c 8 = false := by simpa using hz
    rw [if_pos (show nI (zs T c 8) = 0 by rw [zs_ne.mpr hz2]; rfl), if_neg hz]
    rfl
theorem c_follow {T w h sh n A E : Nat} {x0 x1 x2 x3 x4 x5 y1 y2 y3 y4 ac : Int32} {Y5 Y6 C P Q M0 S0 : Nat → Int32} {c p sg : Nat → Nat} (hT : T < 256) (hw : w < 256) (hh : h ≤ 1000000) (hsh : sh ≤ 99) (hC : Row 8 1000000 C c) (hP : Row 8 9 P p) (hn : n ≤ 60) (hQ : Row n 126 Q sg) (hA : Acts sg n A) (hE : FirstBad T h sh p (moA sg) (sA sg) w c A E) :
    (n ≤ pos sg A → ∃ M S, FolP T h sh A E p c (moA sg) (sA sg) w (va_cpy P Y6 0 0 8) M S (fX1_follow x0 x1 x2 x3 x4 x5 y1 y2 y3 y4 Y5 Y6 (nI n) ac Q M0 S0 (nI T) (nI w) (nI h) (nI sh) C P)) ∧
    (¬ n ≤ pos sg A → ∃ r, fX1_follow x0 x1 x2 x3 x4 x5 y1 y2 y3 y4 Y5 Y6 (nI n) ac Q M0 S0 (nI T) (nI w) (nI h) (nI sh) C P = some (0, 1, r)) := by
  obtain ⟨M, S, e, hMS⟩ := c_readActs (ac0 := ac) (M0 := M0) (S0 := S0) hA hn hQ
  have hA60 := acts_lt hA
  have hle := acts_le hA
  unfold fX1_follow
  rw [e, bnd_some]
  simp only
  constructor
  · intro hf
    refine ⟨M, S, ?_⟩
    rw [if_pos (by unfold flt; rw [if_pos hf])]
    unfold bX1_follow_15
    rw [gB_ok (Or.inl rfl), c_begin hT hC, bnd_some]
    exact c_loop hT hw hh hsh hC.cpy hP.cpy (by omega) (fun a ha => (act_ok hA ha).1) hMS hE
  · intro hf
    have hne : ¬ flt sg n A = (-6) := by
      unfold flt
      rw [if_neg hf]
      intro e2
      have hb : fltN sg A < 2 ^ 31 := by unfold fltN; split <;> omega
      have := (oI6 (z := some (fltN sg A)) (okZ_s hb)).mp e2
      cases this
    rw [if_neg hne]
    unfold bX1_follow_15
    rw [gB_ok (Or.inr rfl), c_begin hT hC, bnd_some]
    show ∃ r, bX1_follow_25 _ 0 1 _ _ _ _ _ _ _ _ _ _ _ _ _ _ = some (0, 1, r)
    unfold bX1_follow_25 bX1_follow_72
    simp only [if_neg (show ¬ (1 : Int32) = 0 by decide)]
    split <;> exact ⟨_, rfl⟩
/-- what goHours answers where the signs can stand so -/
def GoP (T h sh A E : Nat) (p c0 : Nat → Nat) (mo : Nat → Option Nat) (sa : Nat → Nat) (w0 : Nat) (y : Option (Int32 × Int32 × Int32 × Int32 × Int32 × Int32 × Int32 × (Nat → Int32))) : Prop :=
  (E = A → ∃ r C2, y = some (-6, nI (hst T h sh p mo sa w0 c0 A).1, r, nI A, nI (hst T h sh p mo sa w0 c0 A).2.2.1, oI (-6) (hst T h sh p mo sa w0 c0 A).2.2.2.1, oI (-6) (hst T h sh p mo sa w0 c0 A).2.2.2.2, C2) ∧ Row 8 1000000 C2 (hst T h sh p mo sa w0 c0 A).2.1) ∧
  (E < A → ∃ u r, y = some (nI E, u, nI (why T (hst T h sh p mo sa w0 c0 E).1 (mo E) (sa E)), r))
theorem m_goHours {T w h sh n A E : Nat} {x1 x2 x3 x4 x5 x6 : Int32} {C P Q N : Nat → Int32} {c p sg : Nat → Nat} (hT : T < 256) (hw : w < 256) (hh : h ≤ 1000000) (hsh : sh ≤ 99) (hC : Row 8 1000000 C c) (hP : Row 8 9 P p) (hn : n ≤ 60) (hQ : Row n 126 Q sg) (hA : Acts sg n A) (hE : FirstBad T h sh p (moA sg) (sA sg) w c A E) (hf : n ≤ pos sg A) :
    GoP T h sh A E p c (moA sg) (sA sg) w (fX10_goHours (nI T) (nI w) (nI h) (nI sh) (nI n) x1 x2 x3 x4 x5 x6 C P Q N) := by
  obtain ⟨hEA, hgood, hbad⟩ := hE
  have hA60 := acts_lt hA
  have hle := acts_le hA
  have ho : ∀ a, a < A → okA (moA sg a) (sA sg a) := fun a ha => (act_ok hA ha).1
  have hok := hst_ok (T := T) (h := h) (sh := sh) (p := p) (c0 := c) hw (by omega) ho
  obtain ⟨N2, eN, hN⟩ := m_asNow (wI := nI w) (up := x1) (C := C) (N := N)
  have hN2 : Row 8 1000000 N2 c := hC.same hN
  unfold fX10_goHours
  rw [eN, bnd_some]
  simp only
  rw [m_isZero hT hN2, bnd_some]
  have e28 : (if (if zany T c 8 = true then (1 : Int32) else 0) = 0 then bX10_goHours_28 (nI T) (nI h) (nI sh) (nI n) P Q (-6) (nI w) x2 0 0 x5 x6 N2 else bX10_goHours_28 (nI T) (nI h) (nI sh) (nI n) P Q 0 (nI w) x2 0 0 x5 x6 N2) = loopF (fun k q => bX10_goHours_39 k (nI T) (nI h) (nI sh) (nI n) P Q q.1 q.2.1 q.2.2.1 q.2.2.2.1 q.2.2.2.2.1 q.2.2.2.2.2.1 q.2.2.2.2.2.2.1 q.2.2.2.2.2.2.2) FU (0, nI w, x2, 0, 0, oI (-6) (if zany T c 8 then some 0 else none), -6, N2) := by
    unfold bX10_goHours_28
    cases zany T c 8 <;> rfl
  rw [e28]
  refine loopF_inv E (fun a q => ∃ r F, q = (nI (pos sg a), nI (hst T h sh p (moA sg) (sA sg) w c a).1, r, nI a, nI (hst T h sh p (moA sg) (sA sg) w c a).2.2.1, oI (-6) (hst T h sh p (moA sg) (sA sg) w c a).2.2.2.1, oI (-6) (hst T h sh p (moA sg) (sA sg) w c a).2.2.2.2, F) ∧ Row 8 1000000 F (hst T h sh p (moA sg) (sA sg) w c a).2.1) (GoP T h sh A E p c (moA sg) (sA sg) w) ?_ ?_ FU _ (FU_gt (by omega)) ⟨x2, N2, rfl, hN2⟩
  · rintro a q ha ⟨r, F, rfl, hF⟩
    obtain ⟨o1, o2, o3⟩ := act_ok hA (show a < A by omega)
    obtain ⟨k1, k2, k3, k4⟩ := hok a (by omega)
    obtain ⟨C2, hR, hb⟩ := (m_pass (a := a) (br := (hst T h sh p (moA sg) (sA sg) w c a).2.2.1) (rI := r) hT k1 hh hsh hF hP k3 k4 (by omega) o1 hQ hn o2).1 (hgood a ha)
    refine ⟨(nI (pos sg (a + 1)), nI (hst T h sh p (moA sg) (sA sg) w c (a + 1)).1, 0, nI (a + 1), nI (hst T h sh p (moA sg) (sA sg) w c (a + 1)).2.2.1, oI (-6) (hst T h sh p (moA sg) (sA sg) w c (a + 1)).2.2.2.1, oI (-6) (hst T h sh p (moA sg) (sA sg) w c (a + 1)).2.2.2.2, C2), ⟨0, C2, rfl, hR⟩, fun K => ?_⟩
    show bX10_goHours_39 K (nI T) (nI h) (nI sh) (nI n) P Q (nI (pos sg a)) _ r (nI a) _ _ _ F = _
    rw [hb K, o3]
    rfl
  · rintro q ⟨r, F, rfl, hF⟩ K
    constructor
    · intro hEq
      subst hEq
      refine ⟨r, F, ?_, hF⟩
      show bX10_goHours_39 K (nI T) (nI h) (nI sh) (nI n) P Q (nI (pos sg E)) _ r (nI E) _ _ _ F = _
      unfold bX10_goHours_39
      rw [if_pos ((nI_leI (by omega) (by omega)).mpr hf)]
    · intro hlt
      obtain ⟨o1, o2, o3⟩ := act_ok hA hlt
      obtain ⟨k1, k2, k3, k4⟩ := hok E (by omega)
      have hb := (m_pass (a := E) (br := (hst T h sh p (moA sg) (sA sg) w c E).2.2.1) (rI := r) hT k1 hh hsh hF hP k3 k4 (by omega) o1 hQ hn o2).2 (hbad hlt) K
      exact ⟨_, _, hb⟩
