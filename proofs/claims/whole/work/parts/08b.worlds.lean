
theorem pop10 : ∀ w, w < 1024 → fJ6_bitCount_0f7a4 (nI w) = some (nI (pc w 10)) := by decide +kernel
theorem pc10_0 : ∀ w, w < 1024 → (pc w 10 = 0 ↔ w = 0) := by decide +kernel
theorem odd10 : ∀ w, w < 1024 → ((nI w &&& 1) = 0 ↔ w.testBit 0 = false) := by decide +kernel
theorem pc_and {w x : Nat} : ∀ i, pc (w &&& x) i ≤ pc w i
  | 0 => Nat.le_refl _
  | i + 1 => by
    show pc (w &&& x) i + (if (w &&& x).testBit i then 1 else 0) ≤ pc w i + if w.testBit i then 1 else 0
    have := pc_and (w := w) (x := x) i
    rw [Nat.testBit_and]
    cases w.testBit i <;> cases x.testBit i <;> simp <;> omega
/-- the skips of the monk j that fit -/
noncomputable def Fj (W : Nat) (c p : Nat → Nat) (l : Nat) (mk bk : Nat → Nat) (bw : Nat → Bool) (m j : Nat) : Nat := if W.testBit j = true ∧ (smo W c p l mk bk bw m &&& (255 ^^^ 2 ^ j)) = 0 then ftm W c p l mk bk bw m j 9 else 0
def FF (W : Nat) (c p : Nat → Nat) (l : Nat) (mk bk : Nat → Nat) (bw : Nat → Bool) (m : Nat) (F : Nat → Nat) : Prop := ∀ j, j < 8 → F j < 1024 ∧ (F j).testBit 0 = false ∧ (W.testBit j = false → F j = 0) ∧ ∀ x, 1 ≤ x → x ≤ 9 → (F j).testBit x = (W.testBit j && wd W c p l mk bk bw (nI j) x m)
def szf (F : Nat → Nat) (h : Nat) : Nat → Nat
  | 0 => h
  | j + 1 => szf F h j + pc (F j) 10
def skf (F : Nat → Nat) : Nat → Nat
  | 0 => 0
  | j + 1 => if F j = 0 then skf F j else skf F j ||| 2 ^ j
theorem skf_lt {F : Nat → Nat} : ∀ j, j ≤ 8 → skf F j < 256
  | 0, _ => by show 0 < 256; omega
  | j + 1, h => by
    show (if F j = 0 then skf F j else skf F j ||| 2 ^ j) < 256
    split
    · exact skf_lt j (by omega)
    · exact bt_lt (skf_lt j (by omega)) (by omega)
theorem szf_le {F : Nat → Nat} {h : Nat} (hh : h ≤ 1) : ∀ j, szf F h j ≤ 1 + 10 * j
  | 0 => by show h ≤ 1; omega
  | j + 1 => by
    show szf F h j + pc (F j) 10 ≤ _
    have := szf_le (F := F) hh j
    have := pc_le (F j) 10
    omega
section worlds
variable {T W l m : Nat} {c p mk bk : Nat → Nat} {bw : Nat → Bool} {C P C' P' M B Z S : Nat → Int32}
theorem smo_oth (hm : ∀ i, i < m → mk i < 8) {j : Nat} (hj : j < 8) : (smo W c p l mk bk bw m &&& (255 ^^^ 2 ^ j)) = 0 ↔ ∀ q, q < m → mk q ≠ j → soW W c p l mk bk bw q 0 = true := by
  have hlt := smo_lt (W := W) (c := c) (p := p) (l := l) (bk := bk) (bw := bw) hm m (Nat.le_refl _)
  rw [← bt_ext _ (bt_lta hlt)]
  constructor
  · intro h q hq hn
    have := h (mk q) (hm q hq)
    rw [bt_tan _ hlt _ hj _ (hm q hq), decide_eq_false hn, Bool.not_false, Bool.and_true] at this
    cases ho : soW W c p l mk bk bw q 0 with
    | true => rfl
    | false =>
      rw [(smo_tb (mk q) m).mpr ⟨q, hq, rfl, ho⟩] at this
      cases this
  · intro h k hk
    rw [bt_tan _ hlt _ hj _ hk]
    by_cases d : k = j
    · rw [decide_eq_true d, Bool.not_true, Bool.and_false]
    · cases hb : (smo W c p l mk bk bw m).testBit k with
      | false => rfl
      | true =>
        obtain ⟨q, h1, h2, h3⟩ := (smo_tb k m).mp hb
        have := h q h1 (by rw [h2]; exact d)
        rw [h3] at this; cases this
theorem FF_Fj (hm : ∀ i, i < m → mk i < 8) : FF W c p l mk bk bw m (Fj W c p l mk bk bw m) := by
  intro j hj
  have key : ∀ x, 1 ≤ x → x ≤ 9 → (Fj W c p l mk bk bw m j).testBit x = (W.testBit j && wd W c p l mk bk bw (nI j) x m) := by
    intro x h1 h9
    unfold Fj
    have hft : (ftm W c p l mk bk bw m j 9).testBit x = fit W c p l mk bk bw j x m := by
      rw [ftm_tb, decide_eq_true ⟨h1, h9⟩, Bool.true_and]
    cases hW : W.testBit j with
    | false => rw [if_neg (fun h => absurd h.1 (by decide)), Nat.zero_testBit, Bool.false_and]
    | true =>
      rw [Bool.true_and]
      by_cases d : (smo W c p l mk bk bw m &&& (255 ^^^ 2 ^ j)) = 0
      · rw [if_pos ⟨rfl, d⟩, hft]
        have h0 := (smo_oth hm hj).mp d
        apply Bool.eq_iff_iff.mpr
        rw [fit_all, wd_all]
        constructor
        · intro h i hi
          by_cases e : mk i = j
          · rw [if_pos (by rw [e])]; exact h i hi e
          · rw [if_neg (fun z => e ((nI_eq (by have := hm i hi; omega) (by omega)).mp z))]; exact h0 i hi e
        · intro h i hi e
          have := h i hi
          rw [if_pos (by rw [e])] at this; exact this
      · rw [if_neg (fun h => d h.2), Nat.zero_testBit]
        cases hz : wd W c p l mk bk bw (nI j) x m with
        | false => rfl
        | true =>
          exfalso
          apply d
          rw [smo_oth hm hj]
          intro q hq hn
          have := (wd_all m).mp hz q hq
          rw [if_neg (fun z => hn ((nI_eq (by have := hm q hq; omega) (by omega)).mp z))] at this
          exact this
  refine ⟨?_, ?_, ?_, key⟩
  · unfold Fj; split
    · exact ftm_lt 9 (by omega)
    · omega
  · unfold Fj; split
    · rw [ftm_tb, decide_eq_false (by omega)]; rfl
    · exact Nat.zero_testBit 0
  · intro h; unfold Fj; rw [if_neg (fun q => by rw [h] at q; exact absurd q.1 (by decide))]
theorem smo_W0 (hm : ∀ i, i < m → mk i < 8) (jj : Int32) : smo W c p l mk bk bw m = 0 ↔ wd W c p l mk bk bw jj 0 m = true := by
  have hlt := smo_lt (W := W) (c := c) (p := p) (l := l) (bk := bk) (bw := bw) hm m (Nat.le_refl _)
  rw [← bt_ext _ hlt, wd_all]
  constructor
  · intro h i hi
    rw [ite_self]
    cases ho : soW W c p l mk bk bw i 0 with
    | true => rfl
    | false =>
      have := h (mk i) (hm i hi)
      rw [(smo_tb (mk i) m).mpr ⟨i, hi, rfl, ho⟩] at this
      cases this
  · intro h k hk
    cases hb : (smo W c p l mk bk bw m).testBit k with
    | false => rfl
    | true =>
      obtain ⟨q, h1, h2, h3⟩ := (smo_tb k m).mp hb
      have := h q h1
      rw [ite_self, h3] at this; cases this
noncomputable def rowF (F : Nat → Nat) (G : Nat → Int32) : Nat → Nat → Int32
  | 0 => G
  | i + 1 => upd (rowF F G i) i (nI (F i))
theorem rowF_at {F : Nat → Nat} {G : Nat → Int32} : ∀ i k, k < i → rowF F G i k = nI (F k)
  | 0, k, h => by omega
  | i + 1, k, h => by
    show upd (rowF F G i) i (nI (F i)) k = _
    rcases Nat.lt_or_ge k i with q | q
    · rw [pk_un (by omega)]; exact rowF_at i k q
    · have : k = i := by omega
      rw [this, pk_us]
theorem c_find (hW : W < 256) (hC : Row 8 1000000 C c) (hP : Row 8 9 P p) (hl : l ≤ 4) (hS : RS m mk bk bw M B Z S) (s0 k0 h0 : Int32) (G0 : Nat → Int32) : ∃ G, fX7_find s0 k0 h0 G0 (nI W) C P (nI m) M B Z (nI l) = some (nI (szf (Fj W c p l mk bk bw m) (if wd W c p l mk bk bw (-6) 0 m then 1 else 0) 8), nI (skf (Fj W c p l mk bk bw m) 8), if wd W c p l mk bk bw (-6) 0 m then 1 else 0, G) ∧ ∀ k, k < 8 → G k = nI (Fj W c p l mk bk bw m k) := by
  have hm : ∀ i, i < m → mk i < 8 := fun i hi => (hS.2 i hi).1
  have hm8 := hS.1
  have hlt := smo_lt (W := W) (c := c) (p := p) (l := l) (bk := bk) (bw := bw) hm m (Nat.le_refl _)
  have hFF := FF_Fj (W := W) (c := c) (p := p) (l := l) (bk := bk) (bw := bw) hm
  refine ⟨rowF (Fj W c p l mk bk bw m) G0 8, ?_, fun k hk => rowF_at 8 k hk⟩
  unfold fX7_find
  rw [c_smo hW hC hP hl hS, bnd_some]
  have run : ∀ h s2 k2 : Nat, h ≤ 1 → ∀ hn : Int32, bX7_find_35 (nI W) C P (nI m) M B Z (nI l) (nI (smo W c p l mk bk bw m)) (nI h) s0 k0 hn G0 = some (nI (szf (Fj W c p l mk bk bw m) h 8), nI (skf (Fj W c p l mk bk bw m) 8), hn, rowF (Fj W c p l mk bk bw m) G0 8) := by
    intro h _ _ hh hn
    unfold bX7_find_35
    refine loopF_run 8 (fun i => (nI (smo W c p l mk bk bw m), nI i, nI (szf (Fj W c p l mk bk bw m) h i), nI (skf (Fj W c p l mk bk bw m) i), hn, rowF (Fj W c p l mk bk bw m) G0 i)) _ (fun i hi K => ?_) (fun K => ?_) (FU_gt (by omega))
    · show bX7_find_46 K (nI W) C P (nI m) M B Z (nI l) (nI (smo W c p l mk bk bw m)) (nI i) (nI (szf (Fj W c p l mk bk bw m) h i)) (nI (skf (Fj W c p l mk bk bw m) i)) hn (rowF (Fj W c p l mk bk bw m) G0 i) = _
      have last : bX7_find_104 K (nI (smo W c p l mk bk bw m)) (nI i) (nI (Fj W c p l mk bk bw m i)) (nI i) (nI (szf (Fj W c p l mk bk bw m) h i)) (nI (skf (Fj W c p l mk bk bw m) i)) hn (rowF (Fj W c p l mk bk bw m) G0 i) = K (nI (smo W c p l mk bk bw m), nI (i + 1), nI (szf (Fj W c p l mk bk bw m) h (i + 1)), nI (skf (Fj W c p l mk bk bw m) (i + 1)), hn, rowF (Fj W c p l mk bk bw m) G0 (i + 1)) := by
        unfold bX7_find_104 bX7_find_128
        have hF := (hFF i hi).1
        rw [ge0 hi, ge0 hi, cl8 hi, pk_us, ge0 hi, ge0 hi, pop10 _ hF, bnd_some, bnd_some, nI_add, nI_1, bt_or _ (skf_lt i (by omega)) _ hi]
        show _ = K (nI (smo W c p l mk bk bw m), nI (i + 1), nI (szf (Fj W c p l mk bk bw m) h i + pc (Fj W c p l mk bk bw m i) 10), nI (if Fj W c p l mk bk bw m i = 0 then skf (Fj W c p l mk bk bw m) i else skf (Fj W c p l mk bk bw m) i ||| 2 ^ i), hn, upd (rowF (Fj W c p l mk bk bw m) G0 i) i (nI (Fj W c p l mk bk bw m i)))
        by_cases d : Fj W c p l mk bk bw m i = 0
        · rw [if_pos (show nI (Fj W c p l mk bk bw m i) = 0 by rw [d]; rfl), if_pos d]
        · rw [if_neg (nI_ne0 (by omega) (by omega)), if_neg d]
      unfold bX7_find_46 bX7_find_79
      rw [if_neg (n8 hi), c_isAwake hW hi, bnd_some, bt_an _ hlt _ hi, if_pos (show (0 : Int32) = 0 from rfl), if_neg n10, c_ftm hW hC hP hl hS hi, bnd_some]
      cases hw : W.testBit i with
      | false =>
        rw [if_pos (show (if false = true then (1 : Int32) else 0) = 0 from rfl)]
        have : Fj W c p l mk bk bw m i = 0 := (hFF i hi).2.2.1 hw
        rw [this] at last; exact last
      | true =>
        rw [if_neg (show ¬ (if true = true then (1 : Int32) else 0) = 0 by decide)]
        have hl2 := bt_lta (x := 255 ^^^ 2 ^ i) hlt
        by_cases d : (smo W c p l mk bk bw m &&& (255 ^^^ 2 ^ i)) = 0
        · rw [if_pos (show nI (smo W c p l mk bk bw m &&& (255 ^^^ 2 ^ i)) = 0 by rw [d]; rfl)]
          have : Fj W c p l mk bk bw m i = ftm W c p l mk bk bw m i 9 := if_pos ⟨hw, d⟩
          rw [this] at last; exact last
        · rw [if_neg (nI_ne0 (by omega) (by omega))]
          have : Fj W c p l mk bk bw m i = 0 := if_neg (fun q => d q.2)
          rw [this] at last; exact last
    · show bX7_find_46 K (nI W) C P (nI m) M B Z (nI l) (nI (smo W c p l mk bk bw m)) (nI 8) _ _ hn _ = _
      unfold bX7_find_46
      rw [if_pos n88]
  unfold bX7_find_19
  by_cases d : smo W c p l mk bk bw m = 0
  · have h1 := (smo_W0 hm (-6)).mp d
    rw [if_pos (show nI (smo W c p l mk bk bw m) = 0 by rw [d]; rfl), gB_ok (Or.inr rfl), if_neg n10, h1]
    exact run 1 0 0 (by omega) 1
  · have h1 : wd W c p l mk bk bw (-6) 0 m = false := by
      cases hz : wd W c p l mk bk bw (-6) 0 m with
      | false => rfl
      | true => exact absurd ((smo_W0 hm (-6)).mpr hz) d
    rw [if_neg (nI_ne0 (by omega) (by omega)), gB_ok (Or.inl rfl), if_pos (show (0 : Int32) = 0 from rfl), h1]
    exact run 0 0 0 (by omega) 0
theorem pc_1 {w : Nat} (h : w.testBit 0 = false) : pc w 1 = 0 := by
  show pc w 0 + (if w.testBit 0 then 1 else 0) = 0
  rw [h]; rfl
theorem m_skin (hT : T < 256) (hW : W < 256) (hs : ∀ k, k < 8 → W.testBit k = true → T.testBit k = true) (hC : Row 8 1000000 C c) (hP : Row 8 9 P p) (hl : l ≤ 4) (hS : RS m mk bk bw M B Z S) {F : Nat → Nat} (hF : FF W c p l mk bk bw m F) {h j : Nat} (hj : j < 8) (v3 : Int32) (K47 : Int32 × Int32 × Int32 × Int32 → Option Int32) : loopF (fun k q => bX10_skips_57 K47 k (nI T) (nI W) (nI m) C P S (nI l) q.1 q.2.1 q.2.2.1 q.2.2.2.1 q.2.2.2.2) FU (v3, nI (szf F h j), nI (skf F j), nI j, 1) = K47 (v3, nI (szf F h (j + 1)), nI (skf F (j + 1)), nI (j + 1)) := by
  obtain ⟨f1, f2, f3, f4⟩ := hF j hj
  have hend : (szf F h (j + 1), skf F (j + 1)) = (szf F h j + pc (F j) 10, if pc (F j) 10 = 0 then skf F j else skf F j ||| 2 ^ j) := by
    show (szf F h j + pc (F j) 10, if F j = 0 then skf F j else skf F j ||| 2 ^ j) = _
    by_cases d : F j = 0
    · rw [if_pos d, if_pos ((pc10_0 _ f1).mpr d)]
    · rw [if_neg d, if_neg (fun q => d ((pc10_0 _ f1).mp q))]
  obtain ⟨he1, he2⟩ := Prod.mk.inj hend
  cases hw : W.testBit j with
  | false =>
    have hF0 := f3 hw
    rw [hF0, show pc 0 10 = 0 from rfl] at he1 he2
    rw [if_pos rfl] at he2
    rw [he1, he2, Nat.add_zero]
    refine loopF_run 0 (fun i => (v3, nI (szf F h j), nI (skf F j), nI j, (1 : Int32))) _ (fun i hi => by omega) (fun K => ?_) (FU_gt (by omega))
    show bX10_skips_57 K47 K (nI T) (nI W) (nI m) C P S (nI l) v3 (nI (szf F h j)) (nI (skf F j)) (nI j) 1 = _
    unfold bX10_skips_57
    rw [if_neg (by decide), m_has hW hj, bnd_some, hw, if_pos (show (if false = true then (1 : Int32) else 0) = 0 from rfl), nI_1]
  | true =>
    have h0 : (v3, nI (szf F h j), nI (skf F j), nI j, (1 : Int32)) = (fun i => (v3, nI (szf F h j + pc (F j) (i + 1)), nI (if pc (F j) (i + 1) = 0 then skf F j else skf F j ||| 2 ^ j), nI j, nI (i + 1))) 0 := by
      show _ = (v3, nI (szf F h j + pc (F j) 1), nI (if pc (F j) 1 = 0 then skf F j else skf F j ||| 2 ^ j), nI j, nI 1)
      rw [pc_1 f2, if_pos rfl, Nat.add_zero]; rfl
    rw [h0, he1, he2]
    refine loopF_run 9 (fun i => (v3, nI (szf F h j + pc (F j) (i + 1)), nI (if pc (F j) (i + 1) = 0 then skf F j else skf F j ||| 2 ^ j), nI j, nI (i + 1))) _ (fun i hi K => ?_) (fun K => ?_) (FU_gt (by omega))
    · show bX10_skips_57 K47 K (nI T) (nI W) (nI m) C P S (nI l) v3 (nI (szf F h j + pc (F j) (i + 1))) (nI (if pc (F j) (i + 1) = 0 then skf F j else skf F j ||| 2 ^ j)) (nI j) (nI (i + 1)) = K (v3, nI (szf F h j + (pc (F j) (i + 1) + if (F j).testBit (i + 1) then 1 else 0)), nI (if (pc (F j) (i + 1) + if (F j).testBit (i + 1) then 1 else 0) = 0 then skf F j else skf F j ||| 2 ^ j), nI j, nI (i + 2))
      unfold bX10_skips_57
      rw [if_neg (show ¬ (10 : Int32) ≤ nI (i + 1) from nI_ge (b := 10) (by omega) (by omega)), m_has hW hj, bnd_some, hw, if_neg (show ¬ (if true = true then (1 : Int32) else 0) = 0 by decide), m_isWorld hT hW hs hC hP hl hS (nI j) (x := i + 1) (by omega), bnd_some, nI_1, nI_1, f4 (i + 1) (by omega) (by omega), hw, Bool.true_and]
      cases wd W c p l mk bk bw (nI j) (i + 1) m with
      | false => rfl
      | true =>
        rw [if_neg (show ¬ (if true = true then (1 : Int32) else 0) = 0 by decide), if_pos (show true = true from rfl), if_neg (show ¬ pc (F j) (i + 1) + 1 = 0 by omega)]
        have hsk := skf_lt (F := F) j (by omega)
        by_cases d : pc (F j) (i + 1) = 0
        · rw [if_pos d, bt_or _ hsk _ hj]; rfl
        · rw [if_neg d, bt_or _ (bt_lt hsk hj) _ hj, Nat.or_assoc, Nat.or_self]; rfl
    · show bX10_skips_57 K47 K (nI T) (nI W) (nI m) C P S (nI l) v3 _ _ (nI j) (nI 10) = _
      unfold bX10_skips_57
      rw [if_pos (show (10 : Int32) ≤ nI 10 by decide), nI_1]
theorem r_skips {h sh : Nat} (hG : GH T W h sh p) (hC : R2 8 1000000 C C' c) (hP : R2 8 9 P P' p) (hS : RS m mk bk bw M B Z S) (s0 k0 h0 : Int32) (G0 : Nat → Int32) (a1 a2 : Int32) : ∃ r q1 q2 q3 q4, fX9_skips (nI W) C P (nI m) M B Z s0 k0 h0 G0 a1 a2 = some (r, q1, q2, q3, q4) ∧ fX10_skips (nI T) (nI W) (nI m) C' P' S a1 a2 = some r := by
  unfold fX9_skips fX10_skips
  obtain ⟨hT, hW, hs, _⟩ := hG
  rw [isLaw_is]
  rcases win a1 0 4 (by decide) (by decide) with ⟨e1, e2⟩ | ⟨l, _, hl, rfl, e1, e2⟩
  · exact ⟨-2, s0, k0, h0, G0, by rw [show fX9_isWithin a1 0 4 = some 0 from e1]; rfl, by rw [show fX10_in a1 0 4 = some 0 from e2]; rfl⟩
  · rw [show fX9_isWithin (nI l) 0 4 = some 1 from e1, show fX10_in (nI l) 0 4 = some 1 from e2, bnd_some, bnd_some, if_neg n10, if_neg n10]
    rcases win a2 0 2 (by decide) (by decide) with ⟨e1, e2⟩ | ⟨v, _, hv, rfl, e1, e2⟩
    · exact ⟨-2, s0, k0, h0, G0, by rw [show fX9_isWithin a2 0 2 = some 0 from e1]; rfl, by rw [show fX10_in a2 0 2 = some 0 from e2]; rfl⟩
    · rw [show fX9_isWithin (nI v) 0 2 = some 1 from e1, show fX10_in (nI v) 0 2 = some 1 from e2, bnd_some, bnd_some, if_neg n10, if_neg n10]
      obtain ⟨G, eG, _⟩ := c_find hW hC.1 hP.1 hl hS s0 k0 h0 G0
      have hFF := FF_Fj (W := W) (c := c) (p := p) (l := l) (bk := bk) (bw := bw) (fun i hi => (hS.2 i hi).1)
      generalize Fj W c p l mk bk bw m = F at eG hFF
      rw [eG, bnd_some, show fX10_isWorld (nI T) (nI W) (nI m) C' P' S (nI l) (-6) 0 = _ from m_isWorld hT hW hs hC.2 hP.2 hl hS (-6) (x := 0) (by omega), bnd_some]
      have run : ∀ (hh : Nat) (v3 : Int32), bX10_skips_39 (nI T) (nI W) (nI m) C' P' S (nI l) (nI v) v3 (nI hh) = if nI v = 0 then some (nI (szf F hh 8)) else if nI v = 1 then some (nI (skf F 8)) else if v3 = 0 then some 0 else some 1 := by
        intro hh v3
        unfold bX10_skips_39
        refine loopF_run 8 (fun i => (v3, nI (szf F hh i), nI (skf F i), nI i)) _ (fun i hi K => ?_) (fun K => ?_) (FU_gt (by omega))
        · show bX10_skips_47 K (nI T) (nI W) (nI m) C' P' S (nI l) (nI v) v3 (nI (szf F hh i)) (nI (skf F i)) (nI i) = _
          unfold bX10_skips_47
          rw [if_neg (n8 hi)]
          exact m_skin hT hW hs hC.2 hP.2 hl hS hFF hi v3 K
        · show bX10_skips_47 K (nI T) (nI W) (nI m) C' P' S (nI l) (nI v) v3 (nI (szf F hh 8)) (nI (skf F 8)) (nI 8) = _
          unfold bX10_skips_47
          rw [if_pos n88]
      cases wd W c p l mk bk bw (-6) 0 m with
      | false =>
        have r0 := run 0 0
        rw [if_pos (show (if false = true then (1 : Int32) else 0) = 0 from rfl)]
        refine ⟨if nI v = 0 then nI (szf F 0 8) else if nI v = 1 then nI (skf F 8) else 0, nI (szf F 0 8), nI (skf F 8), 0, G, ?_, ?_⟩
        · by_cases d : nI v = 0
          · rw [if_pos d, if_pos d]; rfl
          · rw [if_neg d, if_neg d]
            by_cases d : nI v = 1
            · rw [if_pos d, if_pos d]; rfl
            · rw [if_neg d, if_neg d]; rfl
        · refine r0.trans ?_
          rw [if_pos (show (0 : Int32) = 0 from rfl)]
          split
          · rfl
          · split <;> rfl
      | true =>
        have r0 := run 1 1
        rw [if_neg (show ¬ (if true = true then (1 : Int32) else 0) = 0 by decide)]
        refine ⟨if nI v = 0 then nI (szf F 1 8) else if nI v = 1 then nI (skf F 8) else 1, nI (szf F 1 8), nI (skf F 8), 1, G, ?_, ?_⟩
        · by_cases d : nI v = 0
          · rw [if_pos d, if_pos d]; rfl
          · rw [if_neg d, if_neg d]
            by_cases d : nI v = 1
            · rw [if_pos d, if_pos d]; rfl
            · rw [if_neg d, if_neg d]; rfl
        · refine r0.trans ?_
          rw [if_neg n10]
          split
          · rfl
          · split <;> rfl
end worlds
