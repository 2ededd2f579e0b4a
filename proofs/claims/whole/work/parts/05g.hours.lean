/-! one act of the hours, in the class and in the reference -/
def nB (s : Nat) : Nat := if s = 46 then 1 else if s = 58 then 10 else 0
def nC (w h : Nat) (p c : Nat → Nat) (mo : Option Nat) (s : Nat) : Nat → Nat := if s = 46 ∨ s = 58 then brs w p c (nB s) else aC w h c mo s
def nZ (T w : Nat) (p c : Nat → Nat) (br : Nat) (z : Option Nat) (s : Nat) : Option Nat := if s = 46 ∨ s = 58 then zq T w p c br z (nB s) else z
def nN (sh w : Nat) (c : Nat → Nat) (a : Nat) (nt : Option Nat) : Option Nat := match nt with
  | some x => some x
  | none => if sh < spr w c then some a else none
theorem nB_le (s : Nat) : nB s ≤ 10 := by unfold nB; split <;> (try split) <;> omega
theorem aW_lt {w : Nat} {mo : Option Nat} {s : Nat} (hw : w < 256) (ho : okA mo s) : aW w mo s < 256 := by
  cases mo with
  | none => exact hw
  | some k =>
    simp only [aW]
    split
    · exact bt_lta hw
    · split
      · exact bt_lt hw ho.1
      · exact hw
theorem nZ_ok {T w : Nat} {p c : Nat → Nat} {br : Nat} {z : Option Nat} {s : Nat} (hz : okZ z) (hb : br ≤ 1000) : okZ (nZ T w p c br z s) := by
  unfold nZ
  split
  · exact zq_ok hz hb (nB_le s)
  · exact hz
theorem nN_ok {sh w : Nat} {c : Nat → Nat} {a : Nat} {nt : Option Nat} (hn : okZ nt) (ha : a ≤ 60) : okZ (nN sh w c a nt) := by
  unfold nN
  cases nt with
  | some x => exact hn
  | none => simp only; split
            · exact okZ_s (by omega)
            · exact okZ_n
theorem c_pass68 {sh w a : Nat} {wa wy bI zI : Int32} {nt : Option Nat} {C : Nat → Int32} {c : Nat → Nat} (hw : w < 256) (hC : Row 8 1000000 C c) (hsh : sh ≤ 99) (hn : okZ nt) : bX1_pass_68 (nI sh) (nI a) wa wy bI zI (oI (-6) nt) (nI w) C = some (wa, wy, bI, zI, oI (-6) (nN sh w c a nt), nI w, C) := by
  have hB : ∀ k, k < 8 → c k ≤ 1000000 := fun k hk => (hC k hk).2
  unfold bX1_pass_68
  rw [c_spread hw hC, bnd_some]
  cases nt with
  | some x => rw [if_neg (fun e => by have := (oI6 hn).mp e; cases this)]; rfl
  | none =>
    rw [if_pos (by rw [oI_n])]
    have := spr_le (w := w) hB
    by_cases h : sh < spr w c
    · rw [if_neg (fun e => by have := (nI_leI (by omega) (by omega)).mp e; omega)]; simp [nN, h, oI]
    · rw [if_pos ((nI_leI (by omega) (by omega)).mpr (by omega))]; simp [nN, h, oI]
theorem why_lt (T w : Nat) (mo : Option Nat) (s : Nat) : why T w mo s ≤ 5 := by
  unfold why
  cases mo with
  | none => simp only; split <;> omega
  | some k => simp only; repeat' split
              all_goals omega
theorem c_pass {T w h sh a br s : Nat} {mo z nt : Option Nat} {C P : Nat → Int32} {c p : Nat → Nat} (hT : T < 256) (hw : w < 256) (hh : h ≤ 1000000) (hsh : sh ≤ 99) (hC : Row 8 1000000 C c) (hP : Row 8 9 P p) (hz : okZ z) (hn : okZ nt) (hbr : br ≤ 1000) (ho : okA mo s) :
    (why T w mo s = 0 → ∃ C2, fX1_pass (-6) (-6) (nI br) (oI (-6) z) (oI (-6) nt) (nI T) (nI w) (nI h) (nI sh) C P (nI a) (oM mo) (nI s) = some (-6, -6, nI (br + nB s), oI (-6) (nZ T w p c br z s), oI (-6) (nN sh (aW w mo s) (nC w h p c mo s) a nt), nI (aW w mo s), C2) ∧ Row 8 1000000 C2 (nC w h p c mo s)) ∧ (why T w mo s ≠ 0 → fX1_pass (-6) (-6) (nI br) (oI (-6) z) (oI (-6) nt) (nI T) (nI w) (nI h) (nI sh) C P (nI a) (oM mo) (nI s) = some (nI a, nI (why T w mo s), nI br, oI (-6) z, oI (-6) nt, nI w, C)) := by
  unfold fX1_pass
  rw [c_whyNot hT hw (okA_m ho) (okA_lt ho), bnd_some]
  have hwl := why_lt T w mo s
  by_cases h0 : why T w mo s = 0
  · refine ⟨fun _ => ?_, fun h => absurd h0 h⟩
    rw [if_pos (show nI (why T w mo s) = 0 by rw [h0]; rfl)]
    by_cases hb : s = 46 ∨ s = 58
    · have hmo : mo = none := by
        cases mo with
        | none => rfl
        | some k => have h2 := ho.2; rcases hb with rfl | rfl <;> simp [isL] at h2
      subst hmo
      have hnC : nC w h p c none s = brs w p c (nB s) := by unfold nC; rw [if_pos hb]
      have hnZ : nZ T w p c br z s = zq T w p c br z (nB s) := by unfold nZ; rw [if_pos hb]
      obtain ⟨C2, e, hR⟩ := c_passBreaths hT hw hC hP hz (nB_le s) hbr
      refine ⟨C2, ?_, by rw [hnC]; exact hR⟩
      unfold bX1_pass_40
      rw [hnC, hnZ]
      rcases hb with rfl | rfl
      · rw [if_pos (show nI 46 = 46 from rfl), if_pos (show nI 46 = 46 from rfl), show fX1_passBreaths (nI br) (oI (-6) z) (nI T) (nI w) C P 1 = _ from e, bnd_some]
        exact c_pass68 hw hR hsh hn
      · rw [if_neg (show ¬ nI 58 = 46 by decide), if_pos (show nI 58 = 58 from rfl), if_neg (show ¬ nI 58 = 46 by decide), show fX1_passBreaths (nI br) (oI (-6) z) (nI T) (nI w) C P 10 = _ from e, bnd_some]
        exact c_pass68 hw hR hsh hn
    · have h46 : s ≠ 46 := fun e => hb (Or.inl e)
      have h58 : s ≠ 58 := fun e => hb (Or.inr e)
      obtain ⟨C2, e, hR⟩ := c_act (P := P) hw hh hC ho h46 h58
      have hs := okA_lt ho
      have hnC : nC w h p c mo s = aC w h c mo s := by unfold nC; rw [if_neg hb]
      have hnZ : nZ T w p c br z s = z := by unfold nZ; rw [if_neg hb]
      have hnB : nB s = 0 := by unfold nB; rw [if_neg h46, if_neg h58]
      refine ⟨C2, ?_, by rw [hnC]; exact hR⟩
      rw [if_neg (show ¬ nI s = 46 from ne_lit (d := 46) (by omega) (by decide) h46), if_neg (show ¬ nI s = 58 from ne_lit (d := 58) (by omega) (by decide) h58), e, bnd_some, hnC, hnZ, hnB]
      exact c_pass68 (aW_lt hw ho) hR hsh hn
  · refine ⟨fun h => absurd h h0, fun _ => ?_⟩
    rw [if_neg (fun e => h0 ((nI_eq0 (by omega)).mp e))]
theorem m_318 {sh w a pos br : Nat} {zI : Int32} {nt : Option Nat} {C : Nat → Int32} {c : Nat → Nat} {K : Int32 × Int32 × Int32 × Int32 × Int32 × Int32 × Int32 × (Nat → Int32) → Option (Int32 × Int32 × Int32 × Int32 × Int32 × Int32 × Int32 × (Nat → Int32))} (hw : w < 256) (hC : Row 8 1000000 C c) (hsh : sh ≤ 99) (hn : okZ nt) : bX10_goHours_318 K (nI sh) (nI pos) (nI w) 0 (nI a) (nI br) zI (oI (-6) nt) C = K (nI pos, nI w, 0, nI (a + 1), nI br, zI, oI (-6) (nN sh w c a nt), C) := by
  have hB : ∀ k, k < 8 → c k ≤ 1000000 := fun k hk => (hC k hk).2
  unfold bX10_goHours_318 bX10_goHours_360
  rw [if_pos (by decide), m_spread hw hC, bnd_some, nI_1]
  cases nt with
  | some x => rw [if_pos ((oI6p hn).mpr (fun e => by cases e))]; rfl
  | none =>
    rw [if_neg (fun e => absurd e (by rw [oI_n]; decide))]
    have := spr_le (w := w) hB
    by_cases h : sh < spr w c
    · rw [if_neg (fun e => by have := (nI_leI (by omega) (by omega)).mp e; omega)]; simp [nN, h, oI]
    · rw [if_pos ((nI_leI (by omega) (by omega)).mpr (by omega))]; simp [nN, h, oI]
theorem m_318b {shI posI wI aI bI zI nI' : Int32} {r : Nat} {C : Nat → Int32} {K : Int32 × Int32 × Int32 × Int32 × Int32 × Int32 × Int32 × (Nat → Int32) → Option (Int32 × Int32 × Int32 × Int32 × Int32 × Int32 × Int32 × (Nat → Int32))} (h0 : 0 < r) (hr : r ≤ 5) : bX10_goHours_318 K shI posI wI (nI r) aI bI zI nI' C = some (aI, wI, nI r, aI, bI, zI, nI', C) := by
  unfold bX10_goHours_318
  rw [if_neg (nI_nle h0 (by omega))]
/-- where the a-th act stands on the pad -/
def atP (sg : Nat → Nat) (n pos : Nat) (mo : Option Nat) (s : Nat) : Prop := match mo with
  | none => pos < n ∧ sg pos = s
  | some k => pos + 1 < n ∧ sg pos = 65 + k ∧ sg (pos + 1) = s
def lenA (mo : Option Nat) : Nat := match mo with
  | none => 1
  | some _ => 2
theorem in60 {i : Nat} (h : i < 60) : vp_in (nI i) 60 := vp_in_nI h (by decide)
theorem ge60 {α : Type} {i : Nat} (h : i < 60) (x : Option α) : gIn (nI i) 60 x = x := gIn_ok (in60 h)
theorem cl60 {i : Nat} (h : i < 60) : (nI i).toNatClampNeg = i := nI_clamp (by omega)
theorem m_pass {T w h sh a br s n pos : Nat} {mo z nt : Option Nat} {rI : Int32} {C P Q : Nat → Int32} {c p sg : Nat → Nat} (hT : T < 256) (hw : w < 256) (hh : h ≤ 1000000) (hsh : sh ≤ 99) (hC : Row 8 1000000 C c) (hP : Row 8 9 P p) (hz : okZ z) (hn : okZ nt) (hbr : br ≤ 1000) (ho : okA mo s) (hQ : Row n 126 Q sg) (hn60 : n ≤ 60) (hat : atP sg n pos mo s) :
    (why T w mo s = 0 → ∃ C2, Row 8 1000000 C2 (nC w h p c mo s) ∧ ∀ K : Int32 × Int32 × Int32 × Int32 × Int32 × Int32 × Int32 × (Nat → Int32) → Option (Int32 × Int32 × Int32 × Int32 × Int32 × Int32 × Int32 × (Nat → Int32)), bX10_goHours_39 K (nI T) (nI h) (nI sh) (nI n) P Q (nI pos) (nI w) rI (nI a) (nI br) (oI (-6) z) (oI (-6) nt) C = K (nI (pos + lenA mo), nI (aW w mo s), 0, nI (a + 1), nI (br + nB s), oI (-6) (nZ T w p c br z s), oI (-6) (nN sh (aW w mo s) (nC w h p c mo s) a nt), C2)) ∧ (why T w mo s ≠ 0 → ∀ K : Int32 × Int32 × Int32 × Int32 × Int32 × Int32 × Int32 × (Nat → Int32) → Option (Int32 × Int32 × Int32 × Int32 × Int32 × Int32 × Int32 × (Nat → Int32)), bX10_goHours_39 K (nI T) (nI h) (nI sh) (nI n) P Q (nI pos) (nI w) rI (nI a) (nI br) (oI (-6) z) (oI (-6) nt) C = some (nI a, nI w, nI (why T w mo s), nI a, nI br, oI (-6) z, oI (-6) nt, C)) := by
  have hwl := why_lt T w mo s
  have hs := okA_lt ho
  unfold bX10_goHours_39
  cases mo with
  | none =>
    obtain ⟨hp, hsg⟩ := hat
    have ho : s = 33 ∨ s = 42 ∨ s = 46 ∨ s = 58 := ho
    have hL : isL s = false := by rcases ho with rfl | rfl | rfl | rfl <;> rfl
    have hle : ¬ nI n ≤ nI pos := fun e => by have := (nI_leI (by omega) (by omega)).mp e; omega
    simp only [if_neg hle, ge60 (show pos < 60 by omega), cl60 (show pos < 60 by omega), (hQ pos hp).1, hsg, m_isMonk (show s < 2 ^ 31 by omega), bnd_some, hL]
    have hwhy : why T w none s = if w = 0 then 5 else 0 := rfl
    by_cases hw0 : w = 0
    · have hy : why T w none s = 5 := by rw [hwhy, if_pos hw0]
      refine ⟨fun h0 => absurd (hy.symm.trans h0) (by decide), fun _ K => ?_⟩
      rw [if_pos (by simp), if_pos (show nI w = 0 by rw [hw0]; rfl), hy]
      unfold bX10_goHours_174
      rw [if_neg (show ¬ (5 : Int32) ≤ 0 by decide)]
      show bX10_goHours_214 K _ (nI T) (nI h) (nI sh) P (nI pos) (nI s) 0 0 (nI w) 5 (nI a) (nI br) (oI (-6) z) (oI (-6) nt) C = _
      unfold bX10_goHours_214 bX10_goHours_289
      rw [if_pos (by decide), if_neg (show ¬ (5 : Int32) = 0 by decide), if_neg (show ¬ (5 : Int32) = 0 by decide)]
      exact m_318b (r := 5) (by decide) (by decide)
    · have hy : why T w none s = 0 := by rw [hwhy, if_neg hw0]
      refine ⟨fun _ => ?_, fun h0 => absurd hy h0⟩
      have hnz : ¬ nI w = 0 := fun e => hw0 ((nI_eq0 (by omega)).mp e)
      by_cases hb : s = 46 ∨ s = 58
      · have hnC : nC w h p c none s = brs w p c (nB s) := by unfold nC; rw [if_pos hb]
        have hnZ : nZ T w p c br z s = zq T w p c br z (nB s) := by unfold nZ; rw [if_pos hb]
        have hR := (mbr_ok hw hC hP (nB s)).1
        refine ⟨mbr (nI w) P C (nB s), by rw [hnC]; exact hR, fun K => ?_⟩
        have e := m_passBreaths (n := nB s) (a := a) (pos := pos) (s := s) (h := h) (sh := sh) (r := 0) (nt := oI (-6) nt) hT hw hC hP hz (nB_le s) hbr K
        rw [if_pos (by simp), if_neg hnz]
        unfold bX10_goHours_174
        rw [if_pos (show (0 : Int32) ≤ 0 by decide), hnC, hnZ]
        have e3 : ghx K (nI h) (nI sh) (nI pos) (nI s) (nI w) 0 (nI a) (nI (br + nB s)) (oI (-6) (zq T w p c br z (nB s))) (oI (-6) nt) (mbr (nI w) P C (nB s)) = K (nI (pos + 1), nI w, 0, nI (a + 1), nI (br + nB s), oI (-6) (zq T w p c br z (nB s)), oI (-6) (nN sh w (brs w p c (nB s)) a nt), mbr (nI w) P C (nB s)) := by
          unfold ghx bX10_goHours_289
          rw [if_pos rfl, if_neg (show ¬ nI s = 33 from ne_lit (d := 33) (by omega) (by decide) (by omega)), if_pos rfl, if_neg (show ¬ nI s = 42 from ne_lit (d := 42) (by omega) (by decide) (by omega)), nI_1]
          exact m_318 hw hR hsh hn
        rcases hb with rfl | rfl
        · rw [if_pos (show nI 46 = 46 from rfl)]
          exact e.trans e3
        · rw [if_neg (show ¬ nI 58 = 46 by decide), if_pos (show nI 58 = 58 from rfl)]
          exact e.trans e3
      · have h46 : s ≠ 46 := fun e => hb (Or.inl e)
        have h58 : s ≠ 58 := fun e => hb (Or.inr e)
        have hnC : nC w h p c none s = aC w h c none s := by unfold nC; rw [if_neg hb]
        have hnZ : nZ T w p c br z s = z := by unfold nZ; rw [if_neg hb]
        have hnB : nB s = 0 := by unfold nB; rw [if_neg h46, if_neg h58]
        rw [hnC, hnZ, hnB]
        have red : ∀ K : Int32 × Int32 × Int32 × Int32 × Int32 × Int32 × Int32 × (Nat → Int32) → Option (Int32 × Int32 × Int32 × Int32 × Int32 × Int32 × Int32 × (Nat → Int32)), (if (if false = true then (1 : Int32) else 0) = 0 then (if nI w = 0 then bX10_goHours_174 K (nI T) (nI h) (nI sh) P (nI pos) (nI s) 5 (nI w) 0 (nI a) (nI br) (oI (-6) z) (oI (-6) nt) C else bX10_goHours_174 K (nI T) (nI h) (nI sh) P (nI pos) (nI s) 0 (nI w) 0 (nI a) (nI br) (oI (-6) z) (oI (-6) nt) C) else none) = bX10_goHours_214 K (fun _ => none) (nI T) (nI h) (nI sh) P (nI pos) (nI s) 0 0 (nI w) 0 (nI a) (nI br) (oI (-6) z) (oI (-6) nt) C := by
          intro K
          rw [if_pos (by simp), if_neg hnz]
          unfold bX10_goHours_174
          rw [if_pos (show (0 : Int32) ≤ 0 by decide), if_neg (show ¬ nI s = 46 from ne_lit (d := 46) (by omega) (by decide) h46), if_neg (show ¬ nI s = 58 from ne_lit (d := 58) (by omega) (by decide) h58)]
          show bX10_goHours_214 K _ (nI T) (nI h) (nI sh) P (nI pos) (nI s) 0 0 (nI w) 0 (nI a) (nI br) (oI (-6) z) (oI (-6) nt) C = _
          unfold bX10_goHours_214
          rw [if_pos (show (0 : Int32) ≤ 0 by decide), if_pos (show (0 : Int32) ≤ 0 by decide)]
        by_cases h33 : s = 33
        · subst h33
          obtain ⟨C2, e, hR⟩ := m_bell hw hh hC
          refine ⟨C2, by simpa [aC] using hR, fun K => ?_⟩
          rw [if_pos (by simp), if_neg hnz]
          have r2 := red K
          rw [if_pos (by simp), if_neg hnz] at r2
          rw [r2]
          unfold bX10_goHours_214
          rw [if_pos (by decide), if_pos rfl, if_pos (show nI 33 = 33 from rfl), e, bnd_some, nI_1]
          have := m_318 (K := K) (a := a) (pos := pos + 1) (br := br) (zI := oI (-6) z) hw hR hsh hn
          simpa [aC, aW, lenA] using this
        · have h42 : s = 42 := by omega
          subst h42
          obtain ⟨b, e, hb8, hR⟩ := m_sting hw hh hC hw0
          refine ⟨upd C b (nI h), by simpa [aC] using hR, fun K => ?_⟩
          rw [if_pos (by simp), if_neg hnz]
          have r2 := red K
          rw [if_pos (by simp), if_neg hnz] at r2
          rw [r2]
          unfold bX10_goHours_214 bX10_goHours_289
          rw [if_pos (by decide), if_pos rfl, if_neg (show ¬ nI 42 = 33 by decide), if_pos rfl, if_pos (show nI 42 = 42 from rfl), e, bnd_some, ge0 hb8, cl8 hb8, nI_1]
          have := m_318 (K := K) (a := a) (pos := pos + 1) (br := br) (zI := oI (-6) z) hw hR hsh hn
          simpa [aC, aW, lenA] using this
  | some k =>
    obtain ⟨hp, hsg, hsg2⟩ := hat
    have hk : k < 8 := ho.1
    have hL0 : isL (65 + k) = true := isL_iff.mpr (by omega)
    have ek : nI (65 + k) - 65 = nI k := by rw [show nI (65 + k) - 65 = nI (65 + k - 65) from pk_sub (a := 65 + k) (b := 65) (by omega), show 65 + k - 65 = k by omega]
    have hle : ¬ nI n ≤ nI pos := fun e => by have := (nI_leI (by omega) (by omega)).mp e; omega
    simp only [if_neg hle, nI_1, ge60 (show pos < 60 by omega), cl60 (show pos < 60 by omega), ge60 (show pos + 1 < 60 by omega), cl60 (show pos + 1 < 60 by omega), (hQ pos (by omega)).1, hsg, (hQ (pos + 1) hp).1, hsg2, m_isMonk (show 65 + k < 2 ^ 31 by omega), m_isMonk (show s < 2 ^ 31 by omega), bnd_some, hL0, ek]
    have hb : ¬ (s = 46 ∨ s = 58) := by
      intro e
      have h2 := ho.2
      rcases e with rfl | rfl <;> simp [isL] at h2
    have h46 : s ≠ 46 := fun e => hb (Or.inl e)
    have h58 : s ≠ 58 := fun e => hb (Or.inr e)
    have hnC : nC w h p c (some k) s = aC w h c (some k) s := by unfold nC; rw [if_neg hb]
    have hnZ : nZ T w p c br z s = z := by unfold nZ; rw [if_neg hb]
    have hnB : nB s = 0 := by unfold nB; rw [if_neg h46, if_neg h58]
    have hp2 : nI pos + 2 = nI (pos + 2) := nI_add pos 2
    rw [hnC, hnZ, hnB]
    cases hL : isL s with
    | true =>
      obtain ⟨l1, l2⟩ := isL_iff.mp hL
      have hj : s - 65 < 8 := by omega
      have es : s - 65 + 65 = s := by omega
      have esub : nI s - 65 = nI (s - 65) := pk_sub l1
      have hys := m_whySleep hT hw hk hj
      rw [es] at hys
      simp only [esub, hys, bnd_some]
      refine ⟨fun h0 => ?_, fun h0 K => ?_⟩
      · obtain ⟨C2, e, hR⟩ := m_sleep hw hC hk hj h
        rw [es] at e hR
        refine ⟨C2, hR, fun K => ?_⟩
        rw [if_neg (by simp), if_neg (by simp)]
        unfold bX10_goHours_110
        rw [h0, if_pos (show nI 0 = 0 from rfl), m_isMonk (by omega), bnd_some, hL, if_neg (by simp), esub, e, bnd_some, hp2]
        exact m_318 (aW_lt hw ho) hR hsh hn
      · rw [if_neg (by simp), if_neg (by simp)]
        unfold bX10_goHours_110 bX10_goHours_141
        rw [if_neg (fun e => h0 ((nI_eq0 (by omega)).mp e)), if_neg (fun e => h0 ((nI_eq0 (by omega)).mp e))]
        exact m_318b (by omega) hwl
    | false =>
      have hs3 : s = 119 ∨ s = 107 ∨ s = 101 := by
        rcases ho.2 with h | h
        · rw [hL] at h; cases h
        · exact h
      simp only [m_why hT hw hk hs hL, bnd_some]
      refine ⟨fun h0 => ?_, fun h0 K => ?_⟩
      · have hel : s = 101 → w.testBit k = true := by
          intro e
          subst e
          cases hb5 : w.testBit k with
          | true => rfl
          | false =>
            simp only [why, hb5, show isL 101 = false from rfl] at h0
            split at h0 <;> simp at h0
        obtain ⟨C2, e, hR⟩ := m_act hw hh hC hk hs3 hel
        refine ⟨C2, hR, fun K => ?_⟩
        rw [if_neg (by simp), if_pos (by simp)]
        unfold bX10_goHours_110 bX10_goHours_141
        rw [h0, if_pos (show nI 0 = 0 from rfl), m_isMonk (by omega), bnd_some, hL, if_pos (by simp), if_pos (show nI 0 = 0 from rfl), e, bnd_some, hp2]
        exact m_318 (aW_lt hw ho) hR hsh hn
      · rw [if_neg (by simp), if_pos (by simp)]
        unfold bX10_goHours_110 bX10_goHours_141
        rw [if_neg (fun e => h0 ((nI_eq0 (by omega)).mp e)), if_neg (fun e => h0 ((nI_eq0 (by omega)).mp e))]
        exact m_318b (by omega) hwl
