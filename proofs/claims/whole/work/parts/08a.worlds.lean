
theorem sub2 (a b c : Int32) : a - b - c = a - (b + c) := by first | exact Int32.sub_sub a b c | grind
theorem nI_or (a b : Nat) : nI a ||| nI b = nI (a ||| b) := by
  apply Int32.toBitVec_inj.1
  show BitVec.ofNat 32 a ||| BitVec.ofNat 32 b = BitVec.ofNat 32 (a ||| b)
  apply BitVec.eq_of_getLsbD_eq
  intro i hi
  simp [hi]
theorem sub_gt {c s : Nat} (hc : c ≤ 1000000) (hs : s ≤ 1000000) : (0 < nI c - nI s) ↔ s < c := by
  rcases Nat.lt_or_ge s c with q | q
  · rw [pk_sub (by omega)]
    exact ⟨fun _ => q, fun _ => nI_lt (a := 0) (by omega) (by omega)⟩
  · constructor
    · intro h
      rcases Nat.lt_or_ge c s with z | z
      · have := pk_sneg (a := c) (b := s) (by omega) z
        exact absurd (Int32.lt_trans h this) (by decide)
      · have : c = s := by omega
        rw [this, pk_sub (Nat.le_refl _), Nat.sub_self] at h
        exact absurd h (by decide)
    · intro h; omega
theorem sub_le {c s : Nat} (hc : c ≤ 1000000) (hs : s ≤ 1000000) : (nI c - nI s ≤ 0) ↔ c ≤ s := by
  rw [← Int32.not_lt, sub_gt hc hs]; omega
/-- the monk k, having skipped x, bows b breaths before -/
noncomputable def bwp (W : Nat) (c p : Nat → Nat) (l k x b : Nat) : Bool := W.testBit k && lwB l (c k - x - b * p k)
theorem lwB_0 (l : Nat) : lwB l 0 = false := by
  cases h : lwB l 0 with
  | false => rfl
  | true => have := (lwB_iff.mp h).1; omega
theorem c_bow {W l k x b : Nat} {c p : Nat → Nat} {C P : Nat → Int32} (hW : W < 256) (hC : Row 8 1000000 C c) (hP : Row 8 9 P p) (hl : l ≤ 4) (hk : k < 8) (hx : x ≤ 9) (hb : b ≤ 99) : fX7_bowsThen (nI W) C P (nI l) (nI k) (nI x) (nI b) = some (if bwp W c p l k x b then 1 else 0) := by
  unfold fX7_bowsThen fX2_countBehind bwp
  have hc := hC k hk
  have hp := hP k hk
  have hbp : b * p k ≤ 99 * 9 := Nat.mul_le_mul hb hp.2
  rw [c_isAwake hW hk, bnd_some]
  cases hw : W.testBit k with
  | false => rfl
  | true =>
    rw [if_neg (show ¬ (if true = true then (1 : Int32) else 0) = 0 by decide), ge0 hk, ge0 hk, bnd_some, cl8 hk, hc.1, hp.1, pk_mul, sub2, nI_add]
    have e : (if 0 < nI (c k) - nI (x + b * p k) then nI (c k) - nI (x + b * p k) else 0) = nI (c k - x - b * p k) := by
      by_cases d : x + b * p k < c k
      · rw [if_pos ((sub_gt hc.2 (by omega)).mpr d), pk_sub (by omega), Nat.sub_sub]
      · rw [if_neg (fun q => d ((sub_gt hc.2 (by omega)).mp q)), show c k - x - b * p k = 0 by omega]; rfl
    rw [e, (law_both hl (by omega)).1, bnd_some, Bool.true_and]
    cases lwB l (c k - x - b * p k) <;> rfl
theorem m_bow {T W l k x b : Nat} {c p : Nat → Nat} {C P : Nat → Int32} (hT : T < 256) (hW : W < 256) (hs : ∀ k, k < 8 → W.testBit k = true → T.testBit k = true) (hC : Row 8 1000000 C c) (hP : Row 8 9 P p) (hl : l ≤ 4) (hk : k < 8) (hx : x ≤ 9) (hb : b ≤ 99) (jj : Int32) : fX10_doesBow (nI T) (nI W) C P (nI l) (nI k) (nI b) jj (nI x) = some (if bwp W c p l k (if nI k = jj then x else 0) b then 1 else 0) := by
  unfold fX10_doesBow bwp
  have hc := hC k hk
  have hp := hP k hk
  have hbp : b * p k ≤ 99 * 9 := Nat.mul_le_mul hb hp.2
  have key : ∀ y, y ≤ 9 → bX10_doesBow_28 P (nI l) (nI k) (nI b) (nI y) (nI (c k)) = some (if lwB l (c k - y - b * p k) then 1 else 0) := by
    intro y hy
    have k2 : ∀ v, v ≤ 1000000 → bX10_doesBow_42 P (nI l) (nI k) (nI b) (nI v) = some (if lwB l (v - b * p k) then 1 else 0) := by
      intro v hv
      unfold bX10_doesBow_42
      rw [ge0 hk, cl8 hk, hp.1, pk_mul]
      by_cases d : v ≤ b * p k
      · rw [if_pos ((sub_le hv (by omega)).mpr d), show v - b * p k = 0 by omega, lwB_0]; rfl
      · rw [if_neg (fun q => d ((sub_le hv (by omega)).mp q)), pk_sub (by omega), (law_both hl (by omega)).2, bnd_some]
        cases lwB l (v - b * p k) <;> rfl
    unfold bX10_doesBow_28
    by_cases d : c k ≤ y
    · rw [if_pos ((sub_le hc.2 (by omega)).mpr d)]
      have := k2 0 (by omega)
      rw [show c k - y = 0 by omega]; exact this
    · rw [if_neg (fun q => d ((sub_le hc.2 (by omega)).mp q)), pk_sub (by omega)]
      exact k2 (c k - y) (by omega)
  rcases awk hT hW hs (nI k) with ⟨e1, e2⟩ | ⟨k2, hk2, hkk, hb1, e1, e2⟩
  · rw [e2, bnd_some, if_pos rfl]
    rw [c_isAwake hW hk] at e1
    cases hw : W.testBit k with
    | false => rfl
    | true => rw [hw] at e1; cases e1
  · have : k = k2 := (nI_eq (by omega) (by omega)).mp hkk
    rw [e2, bnd_some, if_neg n10, ge0 hk, cl8 hk, hc.1, this, hb1, Bool.true_and, ← this]
    by_cases d : nI k = jj
    · rw [if_pos d, if_pos d]; exact key x hx
    · rw [if_neg d, if_neg d]; exact key 0 (by omega)
/-- the i-th sight is so, where its monk skipped x -/
noncomputable def soW (W : Nat) (c p : Nat → Nat) (l : Nat) (mk bk : Nat → Nat) (bw : Nat → Bool) (i x : Nat) : Bool := bwp W c p l (mk i) x (bk i) == bw i
noncomputable def wd (W : Nat) (c p : Nat → Nat) (l : Nat) (mk bk : Nat → Nat) (bw : Nat → Bool) (jj : Int32) (x : Nat) : Nat → Bool
  | 0 => true
  | i + 1 => wd W c p l mk bk bw jj x i && soW W c p l mk bk bw i (if nI (mk i) = jj then x else 0)
theorem wd_all {W : Nat} {c p : Nat → Nat} {l : Nat} {mk bk : Nat → Nat} {bw : Nat → Bool} {jj : Int32} {x : Nat} : ∀ m, (wd W c p l mk bk bw jj x m = true ↔ ∀ i, i < m → soW W c p l mk bk bw i (if nI (mk i) = jj then x else 0) = true)
  | 0 => ⟨fun _ i h => by omega, fun _ => rfl⟩
  | m + 1 => by
    show (wd W c p l mk bk bw jj x m && soW W c p l mk bk bw m (if nI (mk m) = jj then x else 0)) = true ↔ _
    rw [Bool.and_eq_true, wd_all m]
    constructor
    · rintro ⟨h1, h2⟩ i hi
      rcases Nat.lt_or_ge i m with q | q
      · exact h1 i q
      · have : i = m := by omega
        rw [this]; exact h2
    · intro h
      exact ⟨fun i hi => h i (by omega), h m (by omega)⟩
section worlds
variable {T W l m : Nat} {c p mk bk : Nat → Nat} {bw : Nat → Bool} {C P C' P' M B Z S : Nat → Int32}
theorem in24 {i : Nat} (h : i < 24) {α : Type} (x : Option α) : gIn (nI i) 24 x = x := gIn_ok (vp_in_nI h (by decide))
theorem m_worldB (hT : T < 256) (hW : W < 256) (hs : ∀ k, k < 8 → W.testBit k = true → T.testBit k = true) (hC : Row 8 1000000 C c) (hP : Row 8 9 P p) (hl : l ≤ 4) (hS : RS m mk bk bw M B Z S) (jj : Int32) {x : Nat} (hx : x ≤ 9) (K : Int32 × Int32 → Option Int32) {i : Nat} (q : i < m) : bX10_isWorld_6 K (nI T) (nI W) (nI m) C P S (nI l) jj (nI x) 1 (nI i) = K (if soW W c p l mk bk bw i (if nI (mk i) = jj then x else 0) then 1 else 0, nI (i + 1)) := by
  have hm8 := hS.1
  obtain ⟨s1, s2, s3, s4, s5, s6, s7, s8⟩ := hS.2 i q
  have e3 : 3 * nI i = nI (3 * i) := pk_mul 3 i
  have e31 : nI (3 * i) + 1 = nI (3 * i + 1) := nI_1 _
  have e32 : nI (3 * i) + 2 = nI (3 * i + 2) := nI_add _ 2
  unfold bX10_isWorld_6 bX10_isWorld_67 soW
  rw [if_neg (nI_ge q (by omega)), if_neg n10, e3, e31, e32, in24 (show 3 * i < 24 by omega), in24 (show 3 * i + 1 < 24 by omega), nI_clamp (show 3 * i < 2 ^ 31 by omega), nI_clamp (show 3 * i + 1 < 2 ^ 31 by omega), nI_clamp (show 3 * i + 2 < 2 ^ 31 by omega), s6, s7, s8, m_bow hT hW hs hC hP hl s1 hx s2 jj, bnd_some, in24 (show 3 * i + 2 < 24 by omega), nI_1]
  cases bw i <;> cases bwp W c p l (mk i) (if nI (mk i) = jj then x else 0) (bk i) <;> rfl
theorem m_world (hT : T < 256) (hW : W < 256) (hs : ∀ k, k < 8 → W.testBit k = true → T.testBit k = true) (hC : Row 8 1000000 C c) (hP : Row 8 9 P p) (hl : l ≤ 4) (hS : RS m mk bk bw M B Z S) (jj : Int32) {x : Nat} (hx : x ≤ 9) : ∀ n i, i ≤ m → wd W c p l mk bk bw jj x i = true → m + 1 - i < n → loopF (fun k q => bX10_isWorld_6 k (nI T) (nI W) (nI m) C P S (nI l) jj (nI x) q.1 q.2) n (1, nI i) = some (if wd W c p l mk bk bw jj x m then 1 else 0)
  | 0, i, _, _, hn => by omega
  | n + 1, i, hi, hw, hn => by
    have hm8 := hS.1
    show bX10_isWorld_6 (loopF (fun k q => bX10_isWorld_6 k (nI T) (nI W) (nI m) C P S (nI l) jj (nI x) q.1 q.2) n) (nI T) (nI W) (nI m) C P S (nI l) jj (nI x) 1 (nI i) = _
    rcases Nat.lt_or_ge i m with q | q
    · rw [m_worldB hT hW hs hC hP hl hS jj hx _ q]
      cases ho : soW W c p l mk bk bw i (if nI (mk i) = jj then x else 0) with
      | true =>
        have hw2 : wd W c p l mk bk bw jj x (i + 1) = true := by
          show (wd W c p l mk bk bw jj x i && soW W c p l mk bk bw i (if nI (mk i) = jj then x else 0)) = true
          rw [hw, ho]; rfl
        exact m_world hT hW hs hC hP hl hS jj hx n (i + 1) q hw2 (by omega)
      | false =>
        have hf : wd W c p l mk bk bw jj x m = false := by
          cases hz : wd W c p l mk bk bw jj x m with
          | false => rfl
          | true => have := (wd_all m).mp hz i q; rw [ho] at this; cases this
        rw [hf]
        obtain ⟨n', rfl⟩ : ∃ n', n = n' + 1 := ⟨n - 1, by omega⟩
        show bX10_isWorld_6 _ (nI T) (nI W) (nI m) C P S (nI l) jj (nI x) 0 (nI (i + 1)) = _
        unfold bX10_isWorld_6
        rw [if_pos (show (0 : Int32) = 0 from rfl), gB_ok (Or.inl rfl), ite_self]
        rfl
    · have : i = m := by omega
      rw [this] at hw
      unfold bX10_isWorld_6
      rw [this, if_pos (Int32.le_refl _), gB_ok (Or.inr rfl), hw]; rfl
theorem m_isWorld (hT : T < 256) (hW : W < 256) (hs : ∀ k, k < 8 → W.testBit k = true → T.testBit k = true) (hC : Row 8 1000000 C c) (hP : Row 8 9 P p) (hl : l ≤ 4) (hS : RS m mk bk bw M B Z S) (jj : Int32) {x : Nat} (hx : x ≤ 9) : fX10_isWorld (nI T) (nI W) (nI m) C P S (nI l) jj (nI x) = some (if wd W c p l mk bk bw jj x m then 1 else 0) := by
  unfold fX10_isWorld
  have hm8 := hS.1
  exact m_world hT hW hs hC hP hl hS jj hx FU 0 (by omega) rfl (FU_gt (by omega))
theorem wd_0 (jj j2 : Int32) : ∀ i, wd W c p l mk bk bw jj 0 i = wd W c p l mk bk bw j2 0 i
  | 0 => rfl
  | i + 1 => by
    show (wd W c p l mk bk bw jj 0 i && soW W c p l mk bk bw i (if nI (mk i) = jj then 0 else 0)) = (wd W c p l mk bk bw j2 0 i && soW W c p l mk bk bw i (if nI (mk i) = j2 then 0 else 0))
    rw [wd_0 jj j2 i, ite_self, ite_self]
theorem c_isSo (hW : W < 256) (hC : Row 8 1000000 C c) (hP : Row 8 9 P p) (hl : l ≤ 4) (hS : RS m mk bk bw M B Z S) {i x : Nat} (hi : i < m) (hx : x ≤ 9) : fX7_isSo (nI W) C P M B Z (nI l) (nI i) (nI x) = some (if soW W c p l mk bk bw i x then 1 else 0) := by
  unfold fX7_isSo soW
  have hm8 := hS.1
  obtain ⟨s1, s2, s3, s4, s5, s6, s7, s8⟩ := hS.2 i hi
  have hi8 : i < 8 := by omega
  rw [ge0 hi8, ge0 hi8, cl8 hi8, s3, s4, s5, c_bow hW hC hP hl s1 hx s2, bnd_some, ge0 hi8]
  cases bw i <;> cases bwp W c p l (mk i) x (bk i) <;> rfl
/-- the monks seen otherwise, by the first i sights -/
noncomputable def smo (W : Nat) (c p : Nat → Nat) (l : Nat) (mk bk : Nat → Nat) (bw : Nat → Bool) : Nat → Nat
  | 0 => 0
  | i + 1 => if soW W c p l mk bk bw i 0 then smo W c p l mk bk bw i else smo W c p l mk bk bw i ||| 2 ^ mk i
theorem smo_lt (hm : ∀ i, i < m → mk i < 8) : ∀ i, i ≤ m → smo W c p l mk bk bw i < 256
  | 0, _ => by show 0 < 256; omega
  | i + 1, h => by
    show (if soW W c p l mk bk bw i 0 then smo W c p l mk bk bw i else smo W c p l mk bk bw i ||| 2 ^ mk i) < 256
    split
    · exact smo_lt hm i (by omega)
    · exact bt_lt (smo_lt hm i (by omega)) (hm i (by omega))
theorem smo_tb (j : Nat) : ∀ i, ((smo W c p l mk bk bw i).testBit j = true ↔ ∃ q, q < i ∧ mk q = j ∧ soW W c p l mk bk bw q 0 = false)
  | 0 => by
    show (Nat.testBit 0 j = true) ↔ _
    rw [Nat.zero_testBit]
    exact ⟨fun h => absurd h (by decide), fun h => by obtain ⟨q, h1, _⟩ := h; omega⟩
  | i + 1 => by
    show (if soW W c p l mk bk bw i 0 then smo W c p l mk bk bw i else smo W c p l mk bk bw i ||| 2 ^ mk i).testBit j = true ↔ _
    cases ho : soW W c p l mk bk bw i 0 with
    | true =>
      rw [if_pos rfl, smo_tb j i]
      constructor
      · rintro ⟨q, h1, h2, h3⟩; exact ⟨q, by omega, h2, h3⟩
      · rintro ⟨q, h1, h2, h3⟩
        rcases Nat.lt_or_ge q i with z | z
        · exact ⟨q, z, h2, h3⟩
        · have : q = i := by omega
          rw [this, ho] at h3; cases h3
    | false =>
      rw [if_neg (by decide), bt_tor, Bool.or_eq_true, smo_tb j i, decide_eq_true_iff]
      constructor
      · rintro (⟨q, h1, h2, h3⟩ | h)
        · exact ⟨q, by omega, h2, h3⟩
        · exact ⟨i, by omega, h.symm, ho⟩
      · rintro ⟨q, h1, h2, h3⟩
        rcases Nat.lt_or_ge q i with z | z
        · exact Or.inl ⟨q, z, h2, h3⟩
        · have : q = i := by omega
          rw [this] at h2; exact Or.inr h2.symm
theorem c_smo (hW : W < 256) (hC : Row 8 1000000 C c) (hP : Row 8 9 P p) (hl : l ≤ 4) (hS : RS m mk bk bw M B Z S) : fX7_monksSeenOtherwise (nI W) C P (nI m) M B Z (nI l) = some (nI (smo W c p l mk bk bw m)) := by
  unfold fX7_monksSeenOtherwise
  have hm8 := hS.1
  have hlt := smo_lt (W := W) (c := c) (p := p) (l := l) (bk := bk) (bw := bw) (fun i hi => (hS.2 i hi).1)
  refine loopF_run m (fun i => (nI (smo W c p l mk bk bw i), nI i)) _ (fun i hi K => ?_) (fun K => ?_) (FU_gt (by omega))
  · show bX7_monksSeenOtherwise_5 K (nI W) C P (nI m) M B Z (nI l) (nI (smo W c p l mk bk bw i)) (nI i) = _
    obtain ⟨s1, s2, s3, s4, s5, s6, s7, s8⟩ := hS.2 i hi
    unfold bX7_monksSeenOtherwise_5
    rw [if_neg (nI_ge hi (by omega)), show fX7_isSo (nI W) C P M B Z (nI l) (nI i) 0 = _ from c_isSo (x := 0) hW hC hP hl hS hi (by omega), bnd_some, nI_1]
    show _ = K (nI (if soW W c p l mk bk bw i 0 then smo W c p l mk bk bw i else smo W c p l mk bk bw i ||| 2 ^ mk i), nI (i + 1))
    cases soW W c p l mk bk bw i 0 with
    | true => rfl
    | false =>
      rw [if_pos (show (if false = true then (1 : Int32) else 0) = 0 from rfl), ge0 (show i < 8 by omega), cl8 (show i < 8 by omega), s3, bt_or _ (hlt i (by omega)) _ s1]; rfl
  · show bX7_monksSeenOtherwise_5 K (nI W) C P (nI m) M B Z (nI l) (nI (smo W c p l mk bk bw m)) (nI m) = _
    unfold bX7_monksSeenOtherwise_5
    rw [if_pos (Int32.le_refl _)]
noncomputable def fit (W : Nat) (c p : Nat → Nat) (l : Nat) (mk bk : Nat → Nat) (bw : Nat → Bool) (j x : Nat) : Nat → Bool
  | 0 => true
  | i + 1 => fit W c p l mk bk bw j x i && (if mk i = j then soW W c p l mk bk bw i x else true)
theorem fit_all {j x : Nat} : ∀ m, (fit W c p l mk bk bw j x m = true ↔ ∀ i, i < m → mk i = j → soW W c p l mk bk bw i x = true)
  | 0 => ⟨fun _ i h => by omega, fun _ => rfl⟩
  | m + 1 => by
    show (fit W c p l mk bk bw j x m && (if mk m = j then soW W c p l mk bk bw m x else true)) = true ↔ _
    rw [Bool.and_eq_true, fit_all m]
    constructor
    · rintro ⟨h1, h2⟩ i hi hj
      rcases Nat.lt_or_ge i m with q | q
      · exact h1 i q hj
      · have e : i = m := by omega
        rw [e] at hj ⊢
        rw [if_pos hj] at h2; exact h2
    · intro h
      refine ⟨fun i hi => h i (by omega), ?_⟩
      split
      · exact h m (by omega) (by assumption)
      · rfl
noncomputable def ftm (W : Nat) (c p : Nat → Nat) (l : Nat) (mk bk : Nat → Nat) (bw : Nat → Bool) (m j : Nat) : Nat → Nat
  | 0 => 0
  | x + 1 => if fit W c p l mk bk bw j (x + 1) m then ftm W c p l mk bk bw m j x ||| 2 ^ (x + 1) else ftm W c p l mk bk bw m j x
theorem b10_1 : ∀ k, k < 10 → (1 : Int32) <<< (nI k &&& 31) = nI (2 ^ k) := by decide +kernel
theorem b10_lt {w k : Nat} (hw : w < 1024) (hk : k < 10) : w ||| 2 ^ k < 1024 := Nat.or_lt_two_pow (n := 10) hw (Nat.pow_lt_pow_right (by decide) hk)
theorem c_fit1 (hW : W < 256) (hC : Row 8 1000000 C c) (hP : Row 8 9 P p) (hl : l ≤ 4) (hS : RS m mk bk bw M B Z S) {j x : Nat} (hj : j < 8) (hx : x ≤ 9) (v4 : Nat) (K6 : Int32 × Int32 → Option Int32) : ∀ n i, i ≤ m → fit W c p l mk bk bw j x i = true → m + 1 - i < n → loopF (fun k q => bX7_fittingSkips_19 K6 k (nI W) C P (nI m) M B Z (nI l) (nI j) q.1 q.2.1 q.2.2.1 q.2.2.2) n (nI v4, nI x, 1, nI i) = K6 (nI (if fit W c p l mk bk bw j x m then v4 ||| 2 ^ x else v4), nI (x + 1))
  | 0, i, _, _, hn => by omega
  | n + 1, i, hi, hw, hn => by
    have hm8 := hS.1
    show bX7_fittingSkips_19 K6 _ (nI W) C P (nI m) M B Z (nI l) (nI j) (nI v4) (nI x) 1 (nI i) = _
    unfold bX7_fittingSkips_19
    rcases Nat.lt_or_ge i m with q | q
    · obtain ⟨s1, s2, s3, s4, s5, s6, s7, s8⟩ := hS.2 i q
      rw [if_neg (nI_ge q (by omega)), if_neg n10, ge0 (show i < 8 by omega), cl8 (show i < 8 by omega), s3, nI_1]
      have good : fit W c p l mk bk bw j x (i + 1) = true → bX7_fittingSkips_57 K6 (loopF (fun k q => bX7_fittingSkips_19 K6 k (nI W) C P (nI m) M B Z (nI l) (nI j) q.1 q.2.1 q.2.2.1 q.2.2.2) n) (nI v4) (nI x) (nI i) = K6 (nI (if fit W c p l mk bk bw j x m then v4 ||| 2 ^ x else v4), nI (x + 1)) := by
        intro h
        unfold bX7_fittingSkips_57
        rw [nI_1]
        exact c_fit1 hW hC hP hl hS hj hx v4 K6 n (i + 1) q h (by omega)
      by_cases d : mk i = j
      · rw [if_pos (by rw [d]), c_isSo hW hC hP hl hS q hx, bnd_some]
        cases ho : soW W c p l mk bk bw i x with
        | true =>
          rw [if_neg (show ¬ (if true = true then (1 : Int32) else 0) = 0 by decide)]
          exact good (by show (fit W c p l mk bk bw j x i && (if mk i = j then soW W c p l mk bk bw i x else true)) = true; rw [hw, if_pos d, ho]; rfl)
        | false =>
          rw [if_pos (show (if false = true then (1 : Int32) else 0) = 0 from rfl)]
          have hf : fit W c p l mk bk bw j x m = false := by
            cases hz : fit W c p l mk bk bw j x m with
            | false => rfl
            | true => have := (fit_all m).mp hz i q d; rw [ho] at this; cases this
          rw [hf]
          obtain ⟨n', rfl⟩ : ∃ n', n = n' + 1 := ⟨n - 1, by omega⟩
          show bX7_fittingSkips_19 K6 _ (nI W) C P (nI m) M B Z (nI l) (nI j) (nI v4) (nI x) 0 (nI (i + 1)) = _
          unfold bX7_fittingSkips_19 bX7_fittingSkips_70
          rw [if_pos (show (0 : Int32) = 0 from rfl), if_pos (show (0 : Int32) = 0 from rfl), ite_self, nI_1]; rfl
      · rw [if_neg (fun e => d ((nI_eq (by omega) (by omega)).mp e))]
        exact good (by show (fit W c p l mk bk bw j x i && (if mk i = j then soW W c p l mk bk bw i x else true)) = true; rw [hw, if_neg d]; rfl)
    · have : i = m := by omega
      rw [this] at hw
      unfold bX7_fittingSkips_70
      rw [this, if_pos (Int32.le_refl _), if_neg n10, hw, b10_1 x (by omega), nI_or, nI_1]; rfl
theorem ftm_lt {j : Nat} : ∀ x, x ≤ 9 → ftm W c p l mk bk bw m j x < 1024
  | 0, _ => by show 0 < 1024; omega
  | x + 1, h => by
    show (if fit W c p l mk bk bw j (x + 1) m then ftm W c p l mk bk bw m j x ||| 2 ^ (x + 1) else ftm W c p l mk bk bw m j x) < 1024
    split
    · exact b10_lt (ftm_lt x (by omega)) (by omega)
    · exact ftm_lt x (by omega)
theorem ftm_tb {j : Nat} (y : Nat) : ∀ x, (ftm W c p l mk bk bw m j x).testBit y = (decide (1 ≤ y ∧ y ≤ x) && fit W c p l mk bk bw j y m)
  | 0 => by
    show Nat.testBit 0 y = _
    rw [Nat.zero_testBit, show decide (1 ≤ y ∧ y ≤ 0) = false from decide_eq_false (by omega)]; rfl
  | x + 1 => by
    show (if fit W c p l mk bk bw j (x + 1) m then ftm W c p l mk bk bw m j x ||| 2 ^ (x + 1) else ftm W c p l mk bk bw m j x).testBit y = _
    by_cases d : y = x + 1
    · subst d
      have h0 : (ftm W c p l mk bk bw m j x).testBit (x + 1) = false := by rw [ftm_tb (x + 1) x, show decide (1 ≤ x + 1 ∧ x + 1 ≤ x) = false from decide_eq_false (by omega)]; rfl
      rw [show decide (1 ≤ x + 1 ∧ x + 1 ≤ x + 1) = true from decide_eq_true (by omega), Bool.true_and]
      cases fit W c p l mk bk bw j (x + 1) m with
      | true => rw [if_pos rfl, bt_tor, decide_eq_true (show x + 1 = x + 1 from rfl), Bool.or_true]
      | false => rw [if_neg (by decide), h0]
    · have e : decide (1 ≤ y ∧ y ≤ x + 1) = decide (1 ≤ y ∧ y ≤ x) := by
        apply decide_eq_decide.mpr; omega
      rw [e, ← ftm_tb y x]
      split
      · rw [bt_tor, decide_eq_false d, Bool.or_false]
      · rfl
theorem c_ftm (hW : W < 256) (hC : Row 8 1000000 C c) (hP : Row 8 9 P p) (hl : l ≤ 4) (hS : RS m mk bk bw M B Z S) {j : Nat} (hj : j < 8) : fX7_fittingSkips (nI W) C P (nI m) M B Z (nI l) (nI j) = some (nI (ftm W c p l mk bk bw m j 9)) := by
  unfold fX7_fittingSkips
  have hm8 := hS.1
  refine loopF_run 9 (fun i => (nI (ftm W c p l mk bk bw m j i), nI (i + 1))) _ (fun i hi K => ?_) (fun K => ?_) (FU_gt (by omega))
  · show bX7_fittingSkips_6 K (nI W) C P (nI m) M B Z (nI l) (nI j) (nI (ftm W c p l mk bk bw m j i)) (nI (i + 1)) = _
    unfold bX7_fittingSkips_6
    rw [if_neg (show ¬ (9 : Int32) < nI (i + 1) from fun e => absurd ((nI_ltI (a := 9) (b := i + 1) (by omega) (by omega)).mp e) (by omega))]
    have := c_fit1 hW hC hP hl hS hj (x := i + 1) (by omega) (ftm W c p l mk bk bw m j i) K FU 0 (by omega) rfl (FU_gt (by omega))
    exact this
  · show bX7_fittingSkips_6 K (nI W) C P (nI m) M B Z (nI l) (nI j) (nI (ftm W c p l mk bk bw m j 9)) (nI 10) = _
    unfold bX7_fittingSkips_6
    rw [if_pos (show (9 : Int32) < nI 10 by decide)]
end worlds
