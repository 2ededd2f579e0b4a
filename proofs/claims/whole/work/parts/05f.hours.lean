theorem m_sleep {w k j : Nat} {C : Nat → Int32} {c : Nat → Nat} (hw : w < 256) (hC : Row 8 1000000 C c) (hk : k < 8) (hj : j < 8) (h : Nat) : ∃ C2, fX10_sleep (nI w) C (nI k) (nI j) = some (nI (aW w (some k) (j + 65)), C2) ∧ Row 8 1000000 C2 (aC w h c (some k) (j + 65)) := by
  have hL : isL (j + 65) = true := isL_iff.mpr (by omega)
  have e : j + 65 - 65 = j := by omega
  obtain ⟨e1, b1⟩ := hC k hk
  obtain ⟨e2, b2⟩ := hC j hj
  unfold fX10_sleep
  simp only [ge0 hk, ge0 hj, cl8 hk, cl8 hj, e1, e2]
  rw [bt_an w hw k hk, div2 b1 b2]
  refine ⟨_, by simp [aW, hL]; rfl, ?_⟩
  simp only [aC, hL, if_true, e]
  exact hC.upd rfl (by omega)
theorem m_act {w h k s : Nat} {C : Nat → Int32} {c : Nat → Nat} (hw : w < 256) (hh : h ≤ 1000000) (hC : Row 8 1000000 C c) (hk : k < 8) (hs : s = 119 ∨ s = 107 ∨ s = 101) (hel : s = 101 → w.testBit k = true) : ∃ C2, fX10_act (nI h) (nI w) C (nI k) (nI s) = some (nI (aW w (some k) s), C2) ∧ Row 8 1000000 C2 (aC w h c (some k) s) := by
  have hB : ∀ k, k < 8 → c k ≤ 1000000 := fun k hk => (hC k hk).2
  unfold fX10_act
  rcases hs with rfl | rfl | rfl
  · rw [if_pos (show nI 119 = 119 from rfl), bt_or w hw k hk]
    exact ⟨C, by simp [aW, isL], by simpa [aC, isL] using hC⟩
  · rw [if_neg (show ¬ nI 107 = 119 by decide), if_pos (show nI 107 = 107 from rfl), show fX10_more (nI h) C (nI k) 3 = _ from m_more hh hC hk (b := 3) (by omega), bnd_some]
    refine ⟨_, by simp [aW, isL]; rfl, ?_⟩
    have := hC.upd (k := k) (x := nI (if c k + 3 < h then c k + 3 else h)) rfl (by have := hB k hk; split <;> omega)
    simpa [aC, isL] using this
  · rw [if_neg (show ¬ nI 101 = 119 by decide), if_neg (show ¬ nI 101 = 107 by decide), m_common hw hC, bnd_some, ge0 hk, cl8 hk]
    have hne : co w c 8 ≠ none := fun e => by
      have := coN.mp e k hk
      rw [hel rfl] at this
      cases this
    have e2 : coV 100000000 (co w c 8) = coV 0 (co w c 8) := by
      cases h5 : co w c 8 with
      | none => exact absurd h5 hne
      | some q => rfl
    rw [e2]
    refine ⟨_, by simp [aW, isL]; rfl, ?_⟩
    have := hC.upd (k := k) (x := nI (coV 0 (co w c 8))) rfl (coV_le hB)
    simpa [aC, isL] using this
/-! breaths, one by one -/
def brs (w : Nat) (p c : Nat → Nat) : Nat → (Nat → Nat)
  | 0 => c
  | i + 1 => brf w 1 (brs w p c i) p
def bz (T : Nat) (z : Option Nat) (c : Nat → Nat) (br : Nat) : Option Nat := match z with
  | some x => some x
  | none => if zany T c 8 then some br else none
def zq (T w : Nat) (p c : Nat → Nat) (br : Nat) (z : Option Nat) : Nat → Option Nat
  | 0 => z
  | i + 1 => bz T (zq T w p c br z i) (brs w p c (i + 1)) (br + (i + 1))
def okZ (z : Option Nat) : Prop := ∀ x, z = some x → x < 2 ^ 31
theorem okZ_n : okZ none := fun x h => by cases h
theorem okZ_s {x : Nat} (h : x < 2 ^ 31) : okZ (some x) := fun y e => by cases e; exact h
theorem oI6 {z : Option Nat} (h : okZ z) : oI (-6) z = (-6) ↔ z = none := by
  cases z with
  | none => simp [oI]
  | some x =>
    rw [oI_s]
    constructor
    · intro e
      have h1 := nI_toInt (h x rfl)
      rw [e] at h1
      have : ((-6 : Int32)).toInt = -6 := by decide
      omega
    · intro e; cases e
theorem oI6p {z : Option Nat} (h : okZ z) : 0 ≤ oI (-6) z ↔ z ≠ none := by
  cases z with
  | none => rw [oI_n]; constructor
            · intro e; exact absurd e (by decide)
            · intro e; exact absurd rfl e
  | some x => rw [oI_s]; constructor
              · intro _ e; cases e
              · intro _; exact nI_pos' (h x rfl)
theorem zq_ok {T w : Nat} {p c : Nat → Nat} {br : Nat} {z : Option Nat} (hz : okZ z) (hb : br ≤ 1000) : ∀ {i : Nat}, i ≤ 10 → okZ (zq T w p c br z i)
  | 0, _ => hz
  | i + 1, h => by
    have ih := zq_ok (T := T) (w := w) (p := p) (c := c) hz hb (i := i) (by omega)
    unfold zq bz
    cases h2 : zq T w p c br z i with
    | some x => exact okZ_s (ih x h2)
    | none => simp only; split
              · exact okZ_s (by omega)
              · exact okZ_n
theorem bz_s (T : Nat) (x : Nat) (c : Nat → Nat) (br : Nat) : bz T (some x) c br = some x := rfl
theorem bz_n (T : Nat) (c : Nat → Nat) (br : Nat) : bz T none c br = if zany T c 8 then some br else none := rfl
theorem c_passBreaths {T w n br : Nat} {z : Option Nat} {C P : Nat → Int32} {c p : Nat → Nat} (hT : T < 256) (hw : w < 256) (hC : Row 8 1000000 C c) (hP : Row 8 9 P p) (hz : okZ z) (hn : n ≤ 10) (hbr : br ≤ 1000) : ∃ C2, fX1_passBreaths (nI br) (oI (-6) z) (nI T) (nI w) C P (nI n) = some (nI (br + n), oI (-6) (zq T w p c br z n), C2) ∧ Row 8 1000000 C2 (brs w p c n) := by
  unfold fX1_passBreaths
  refine loopF_inv n (fun i q => q.1 = nI i ∧ q.2.1 = nI (br + i) ∧ q.2.2.1 = oI (-6) (zq T w p c br z i) ∧ Row 8 1000000 q.2.2.2 (brs w p c i)) (fun y => ∃ C2, y = some (nI (br + n), oI (-6) (zq T w p c br z n), C2) ∧ Row 8 1000000 C2 (brs w p c n)) ?_ ?_ FU (0, nI br, oI (-6) z, C) (FU_gt (by omega)) ⟨rfl, rfl, rfl, hC⟩
  · rintro i ⟨q1, q2, q3, F⟩ hi ⟨e1, e2, e3, hF⟩
    simp only at e1 e2 e3 hF
    subst e1; subst e2; subst e3
    obtain ⟨F2, hb, hF2⟩ := c_breathe hw hF hP (b := 1) (by decide)
    have hF2 : Row 8 1000000 F2 (brs w p c (i + 1)) := hF2
    have hk := zq_ok (T := T) (w := w) (p := p) (c := c) hz hbr (i := i) (by omega)
    refine ⟨(nI (i + 1), nI (br + (i + 1)), oI (-6) (zq T w p c br z (i + 1)), F2), ⟨rfl, rfl, rfl, hF2⟩, fun K => ?_⟩
    show bX1_passBreaths_2 K (nI T) (nI w) P (nI n) (nI i) (nI (br + i)) (oI (-6) (zq T w p c br z i)) F = _
    unfold bX1_passBreaths_2
    rw [if_neg (fun e => by have := (nI_leI (by omega) (by omega)).mp e; omega), show fX2_breathe (nI w) F P 1 = _ from hb, bnd_some, nI_1, nI_1, c_atNought hT hF2, bnd_some]
    cases hz2 : zq T w p c br z i with
    | some x =>
      have hx : zq T w p c br z (i + 1) = some x := by show bz T (zq T w p c br z i) _ _ = _; rw [hz2]; rfl
      rw [if_neg (fun e => by have := (oI6 (by rw [← hz2]; exact hk)).mp e; cases this), hx]
      rfl
    | none =>
      have hx : zq T w p c br z (i + 1) = if zany T (brs w p c (i + 1)) 8 then some (br + (i + 1)) else none := by show bz T (zq T w p c br z i) _ _ = _; rw [hz2]; rfl
      rw [if_pos (by rw [oI_n]), hx]
      by_cases hzz : zany T (brs w p c (i + 1)) 8 = true
      · rw [if_neg (fun e => by have := zs_ne.mp ((nI_eq0 (by have := zs_lt T (brs w p c (i + 1)) (Nat.le_refl 8); omega)).mp e); rw [hzz] at this; cases this), if_pos hzz]
        rfl
      · have hzz2 : zany T (brs w p c (i + 1)) 8 = false := by simpa using hzz
        rw [if_pos (show nI (zs T (brs w p c (i + 1)) 8) = 0 by rw [zs_ne.mpr hzz2]; rfl), if_neg hzz]
        rfl
  · rintro ⟨q1, q2, q3, F⟩ ⟨e1, e2, e3, hF⟩ K
    simp only at e1 e2 e3 hF
    subst e1; subst e2; subst e3
    refine ⟨F, ?_, hF⟩
    show bX1_passBreaths_2 K (nI T) (nI w) P (nI n) (nI n) (nI (br + n)) (oI (-6) (zq T w p c br z n)) F = _
    unfold bX1_passBreaths_2
    rw [if_pos (Int32.le_refl _)]
def ghx (K : Int32 × Int32 × Int32 × Int32 × Int32 × Int32 × Int32 × (Nat → Int32) → Option (Int32 × Int32 × Int32 × Int32 × Int32 × Int32 × Int32 × (Nat → Int32))) (hI shI posI sI wI r aI bI zI nt : Int32) (C2 : Nat → Int32) : Option (Int32 × Int32 × Int32 × Int32 × Int32 × Int32 × Int32 × (Nat → Int32)) :=
  if r = 0 then if sI = 33 then (fX10_bell hI wI C2).bind fun r283 => bX10_goHours_318 K shI (posI + 1) wI r aI bI zI nt r283 else bX10_goHours_289 K hI shI posI sI wI r aI bI zI nt C2 else bX10_goHours_289 K hI shI posI sI wI r aI bI zI nt C2
def mbr (wI : Int32) (P C : Nat → Int32) : Nat → (Nat → Int32)
  | 0 => C
  | i + 1 => (fX10_breath wI P (mbr wI P C i)).getD C
theorem mbr_ok {w : Nat} {C P : Nat → Int32} {c p : Nat → Nat} (hw : w < 256) (hC : Row 8 1000000 C c) (hP : Row 8 9 P p) : ∀ i, Row 8 1000000 (mbr (nI w) P C i) (brs w p c i) ∧ fX10_breath (nI w) P (mbr (nI w) P C i) = some (mbr (nI w) P C (i + 1)) := by
  intro i
  induction i with
  | zero =>
    obtain ⟨F2, hb, hF2⟩ := m_breath hw hC hP
    exact ⟨hC, by show fX10_breath (nI w) P C = some ((fX10_breath (nI w) P C).getD C); rw [hb]; rfl⟩
  | succ i ih =>
    obtain ⟨F2, hb, hF2⟩ := m_breath hw ih.1 hP
    have e : F2 = mbr (nI w) P C (i + 1) := Option.some.inj (hb.symm.trans ih.2)
    rw [e] at hF2
    obtain ⟨F3, hb3, hF3⟩ := m_breath hw hF2 hP
    exact ⟨hF2, by show _ = some ((fX10_breath (nI w) P (mbr (nI w) P C (i + 1))).getD C); rw [hb3]; rfl⟩
theorem m_passBreaths {T w n br a pos s h sh : Nat} {r nt : Int32} {z : Option Nat} {C P : Nat → Int32} {c p : Nat → Nat} (hT : T < 256) (hw : w < 256) (hC : Row 8 1000000 C c) (hP : Row 8 9 P p) (hz : okZ z) (hn : n ≤ 10) (hbr : br ≤ 1000) (K : Int32 × Int32 × Int32 × Int32 × Int32 × Int32 × Int32 × (Nat → Int32) → Option (Int32 × Int32 × Int32 × Int32 × Int32 × Int32 × Int32 × (Nat → Int32))) :
    loopF (fun k q => bX10_goHours_214 K k (nI T) (nI h) (nI sh) P q.1 q.2.1 q.2.2.1 q.2.2.2.1 q.2.2.2.2.1 q.2.2.2.2.2.1 q.2.2.2.2.2.2.1 q.2.2.2.2.2.2.2.1 q.2.2.2.2.2.2.2.2.1 q.2.2.2.2.2.2.2.2.2.1 q.2.2.2.2.2.2.2.2.2.2) FU (nI pos, nI s, nI n, 0, nI w, r, nI a, nI br, oI (-6) z, nt, C) =
      ghx K (nI h) (nI sh) (nI pos) (nI s) (nI w) r (nI a) (nI (br + n)) (oI (-6) (zq T w p c br z n)) nt (mbr (nI w) P C n) := by
  refine loopF_run n (fun i => (nI pos, nI s, nI n, nI i, nI w, r, nI a, nI (br + i), oI (-6) (zq T w p c br z i), nt, mbr (nI w) P C i)) _ ?_ ?_ (FU_gt (by omega))
  · intro i hi K2
    have hb := (mbr_ok hw hC hP i).2
    have hF2 := (mbr_ok hw hC hP (i + 1)).1
    have hk := zq_ok (T := T) (w := w) (p := p) (c := c) hz hbr (i := i) (by omega)
    show bX10_goHours_214 K K2 (nI T) (nI h) (nI sh) P (nI pos) (nI s) (nI n) (nI i) (nI w) r (nI a) (nI (br + i)) (oI (-6) (zq T w p c br z i)) nt (mbr (nI w) P C i) = K2 (nI pos, nI s, nI n, nI (i + 1), nI w, r, nI a, nI (br + (i + 1)), oI (-6) (zq T w p c br z (i + 1)), nt, mbr (nI w) P C (i + 1))
    unfold bX10_goHours_214 bX10_goHours_256
    rw [if_neg (fun e => by have := (nI_leI (by omega) (by omega)).mp e; omega), hb, bnd_some, nI_1, nI_1, m_isZero hT hF2, bnd_some]
    simp only [bool_if]
    cases hz2 : zq T w p c br z i with
    | some x =>
      have hx : zq T w p c br z (i + 1) = some x := by show bz T (zq T w p c br z i) _ _ = _; rw [hz2]; rfl
      rw [if_pos ((oI6p (by rw [← hz2]; exact hk)).mpr (fun e => by cases e)), hx]
      rfl
    | none =>
      have hx : zq T w p c br z (i + 1) = if zany T (brs w p c (i + 1)) 8 then some (br + (i + 1)) else none := by show bz T (zq T w p c br z i) _ _ = _; rw [hz2]; rfl
      rw [if_neg (fun e => absurd e (by rw [oI_n]; decide)), hx]
      by_cases hzz : zany T (brs w p c (i + 1)) 8 = true
      · rw [if_neg (by rw [hzz]; simp), if_pos hzz]
        rfl
      · have hzz2 : zany T (brs w p c (i + 1)) 8 = false := by simpa using hzz
        rw [if_pos hzz2, if_neg hzz]
        rfl
  · intro K2
    show bX10_goHours_214 K K2 (nI T) (nI h) (nI sh) P (nI pos) (nI s) (nI n) (nI n) (nI w) r (nI a) (nI (br + n)) (oI (-6) (zq T w p c br z n)) nt (mbr (nI w) P C n) = _
    unfold bX10_goHours_214 ghx
    rw [if_pos (Int32.le_refl _)]
