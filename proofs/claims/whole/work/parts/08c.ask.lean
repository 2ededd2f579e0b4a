
/-- the skips with which the monk k bows b breaths before -/
noncomputable def bmk (W : Nat) (c p : Nat → Nat) (l k b : Nat) : Nat → Nat
  | 0 => 0
  | x + 1 => if bwp W c p l k x b then bmk W c p l k b x ||| 2 ^ x else bmk W c p l k b x
theorem bmk_lt {W : Nat} {c p : Nat → Nat} {l k b : Nat} : ∀ x, x ≤ 10 → bmk W c p l k b x < 1024
  | 0, _ => by show 0 < 1024; omega
  | x + 1, h => by
    show (if bwp W c p l k x b then bmk W c p l k b x ||| 2 ^ x else bmk W c p l k b x) < 1024
    split
    · exact b10_lt (bmk_lt x (by omega)) (by omega)
    · exact bmk_lt x (by omega)
theorem bmk_tb {W : Nat} {c p : Nat → Nat} {l k b : Nat} (y : Nat) : ∀ x, (bmk W c p l k b x).testBit y = (decide (y < x) && bwp W c p l k y b)
  | 0 => by
    show Nat.testBit 0 y = _
    rw [Nat.zero_testBit, show decide (y < 0) = false from decide_eq_false (by omega)]; rfl
  | x + 1 => by
    show (if bwp W c p l k x b then bmk W c p l k b x ||| 2 ^ x else bmk W c p l k b x).testBit y = _
    by_cases d : y = x
    · subst d
      have h0 : (bmk W c p l k b y).testBit y = false := by rw [bmk_tb y y, decide_eq_false (show ¬ y < y by omega)]; rfl
      rw [decide_eq_true (show y < y + 1 by omega), Bool.true_and]
      cases bwp W c p l k y b with
      | true => rw [if_pos rfl, bt_tor, decide_eq_true (show y = y from rfl), Bool.or_true]
      | false => rw [if_neg (by decide), h0]
    · have e : decide (y < x + 1) = decide (y < x) := by
        apply decide_eq_decide.mpr; omega
      rw [e, ← bmk_tb y x]
      split
      · rw [bt_tor, decide_eq_false d, Bool.or_false]
      · rfl
/-- in how many worlds of the first j monks the monk k bows: b0 with no skip, bm by skips -/
def bcf (F : Nat → Nat) (h : Nat) (k : Nat) (b0 : Bool) (bm : Nat) : Nat → Nat
  | 0 => if b0 then h else 0
  | j + 1 => bcf F h k b0 bm j + if j = k then pc (F k &&& bm) 10 else if b0 then pc (F j) 10 else 0
theorem bcf_is {F : Nat → Nat} {h k : Nat} {b0 : Bool} {bm : Nat} : ∀ j, (k < j → pc (F k) 10 ≤ szf F h j) ∧ bcf F h k b0 bm j = (if k < j then pc (F k &&& bm) 10 else 0) + if b0 then szf F h j - (if k < j then pc (F k) 10 else 0) else 0
  | 0 => by
    refine ⟨fun h => by omega, ?_⟩
    show (if b0 then h else 0) = (if k < 0 then pc (F k &&& bm) 10 else 0) + if b0 then h - (if k < 0 then pc (F k) 10 else 0) else 0
    have a1 : ¬ k < 0 := by omega
    cases b0 <;> simp [a1]
  | j + 1 => by
    obtain ⟨i1, i2⟩ := bcf_is (F := F) (h := h) (k := k) (b0 := b0) (bm := bm) j
    have e : szf F h (j + 1) = szf F h j + pc (F j) 10 := rfl
    have e2 : bcf F h k b0 bm (j + 1) = bcf F h k b0 bm j + if j = k then pc (F k &&& bm) 10 else if b0 then pc (F j) 10 else 0 := rfl
    rw [e, e2, i2]
    rcases Nat.lt_trichotomy k j with q | q | q
    · have i1 := i1 q
      have a2 : k < j + 1 := by omega
      have a3 : ¬ j = k := by omega
      refine ⟨fun _ => by omega, ?_⟩
      rw [if_pos q, if_pos q, if_pos a2, if_pos a2, if_neg a3]
      cases b0 with
      | false => rfl
      | true =>
        simp only [if_true]
        omega
    · subst q
      have a1 : ¬ k < k := by omega
      have a2 : k < k + 1 := by omega
      refine ⟨fun _ => by omega, ?_⟩
      rw [if_neg a1, if_neg a1, if_pos a2, if_pos a2, if_pos rfl]
      cases b0 with
      | false => show 0 + 0 + pc (F k &&& bm) 10 = pc (F k &&& bm) 10 + 0; omega
      | true =>
        simp only [if_true]
        omega
    · have a1 : ¬ k < j := by omega
      have a2 : ¬ k < j + 1 := by omega
      have a3 : ¬ j = k := by omega
      refine ⟨fun h => absurd h a2, ?_⟩
      rw [if_neg a1, if_neg a1, if_neg a2, if_neg a2, if_neg a3]
      cases b0 with
      | false => rfl
      | true =>
        simp only [if_true]
        omega
theorem bcf_le {F : Nat → Nat} {h k : Nat} {b0 : Bool} {bm : Nat} : ∀ j, bcf F h k b0 bm j ≤ szf F h j
  | 0 => by show (if b0 then h else 0) ≤ h; split <;> omega
  | j + 1 => by
    show bcf F h k b0 bm j + (if j = k then pc (F k &&& bm) 10 else if b0 then pc (F j) 10 else 0) ≤ szf F h j + pc (F j) 10
    have h1 := bcf_le (F := F) (h := h) (k := k) (b0 := b0) (bm := bm) j
    have h2 := pc_and (w := F k) (x := bm) 10
    by_cases d : j = k
    · rw [if_pos d, d]; rw [d] at h1; omega
    · rw [if_neg d]; cases b0 <;> simp <;> omega
/-- the worlds left at the most, if the monk k is asked -/
def lf (F : Nat → Nat) (h k : Nat) (b0 : Bool) (bm : Nat) : Nat := if bcf F h k b0 bm 8 < szf F h 8 - bcf F h k b0 bm 8 then szf F h 8 - bcf F h k b0 bm 8 else bcf F h k b0 bm 8
theorem lf_le {F : Nat → Nat} {h k : Nat} {b0 : Bool} {bm : Nat} (hh : h ≤ 1) : lf F h k b0 bm ≤ 81 := by
  have h1 := bcf_le (F := F) (h := h) (k := k) (b0 := b0) (bm := bm) 8
  have h2 := szf_le (F := F) hh 8
  unfold lf; split <;> omega
/-- the best of the first k monks -/
def bst (W : Nat) (L : Nat → Nat) : Nat → Option (Nat × Nat)
  | 0 => none
  | k + 1 => if W.testBit k then (match bst W L k with
    | none => some (k, L k)
    | some (q, v) => if L k < v then some (k, L k) else some (q, v)) else bst W L k
theorem bst_ok {W : Nat} {L : Nat → Nat} (hL : ∀ k, L k ≤ 81) : ∀ k q v, bst W L k = some (q, v) → q < k ∧ v ≤ 81
  | 0, q, v, h => by cases h
  | k + 1, q, v, h => by
    have h2 : (if W.testBit k then (match bst W L k with
    | none => some (k, L k)
    | some (q, v) => if L k < v then some (k, L k) else some (q, v)) else bst W L k) = some (q, v) := h
    have := hL k
    cases hb : bst W L k with
    | none =>
      rw [hb] at h2
      split at h2
      · cases h2; omega
      · cases h2
    | some x =>
      obtain ⟨q1, v1⟩ := x
      have i1 := bst_ok hL k q1 v1 hb
      rw [hb] at h2
      split at h2
      · have h3 : (if L k < v1 then some (k, L k) else some (q1, v1)) = some (q, v) := h2
        split at h3
        · cases h3; omega
        · cases h3; omega
      · cases h2; omega
def bM (d : Int32) (o : Option (Nat × Nat)) : Int32 := match o with
  | none => d
  | some x => nI x.1
def bV (d : Int32) (o : Option (Nat × Nat)) : Int32 := match o with
  | none => d
  | some x => nI x.2
section worlds
variable {T W l m : Nat} {c p mk bk : Nat → Nat} {bw : Nat → Bool} {C P C' P' M B Z S : Nat → Int32}
theorem c_left (hW : W < 256) (hC : Row 8 1000000 C c) (hP : Row 8 9 P p) (hl : l ≤ 4) {F : Nat → Nat} {G : Nat → Int32} (hF : ∀ k, k < 8 → F k < 1024) (hG : ∀ k, k < 8 → G k = nI (F k)) {h k b : Nat} (hh : h ≤ 1) (hk : k < 8) (hb : b ≤ 99) : fX7_leftAtTheMost (nI (szf F h 8)) G (nI W) C P (nI l) (nI k) (nI b) = some (nI (lf F h k (bwp W c p l k 0 b) (bmk W c p l k b 10))) := by
  unfold fX7_leftAtTheMost
  have hf := hF k hk
  obtain ⟨z1, z2⟩ := bcf_is (F := F) (h := h) (k := k) (b0 := bwp W c p l k 0 b) (bm := bmk W c p l k b 10) 8
  rw [if_pos hk, if_pos hk] at z2
  have z1 := z1 hk
  have hle := bcf_le (F := F) (h := h) (k := k) (b0 := bwp W c p l k 0 b) (bm := bmk W c p l k b 10) 8
  have hsz := szf_le (F := F) hh 8
  refine loopF_run 10 (fun i => (nI (bmk W c p l k b i), nI i)) _ (fun i hi K => ?_) (fun K => ?_) (FU_gt (by omega))
  · show bX7_leftAtTheMost_6 K (nI (szf F h 8)) G (nI W) C P (nI l) (nI k) (nI b) (nI (bmk W c p l k b i)) (nI i) = K (nI (if bwp W c p l k i b then bmk W c p l k b i ||| 2 ^ i else bmk W c p l k b i), nI (i + 1))
    unfold bX7_leftAtTheMost_6
    rw [if_neg (show ¬ (9 : Int32) < nI i from fun e => absurd ((nI_ltI (a := 9) (b := i) (by omega) (by omega)).mp e) (by omega)), c_bow hW hC hP hl hk (by omega) hb, bnd_some, b10_1 i hi, nI_or, nI_1]
    cases bwp W c p l k i b <;> rfl
  · show bX7_leftAtTheMost_6 K (nI (szf F h 8)) G (nI W) C P (nI l) (nI k) (nI b) (nI (bmk W c p l k b 10)) (nI 10) = _
    have e81 : ∀ v, v ≤ szf F h 8 → bX7_leftAtTheMost_81 (nI (szf F h 8)) (nI v) = some (nI (if v < szf F h 8 - v then szf F h 8 - v else v)) := by
      intro v hv
      unfold bX7_leftAtTheMost_81
      rw [pk_sub hv]
      by_cases d : v < szf F h 8 - v
      · rw [if_pos (nI_lt d (by omega)), if_pos d]
      · rw [if_neg (nI_nlt (by omega) (by omega)), if_neg d]
    have h81 := e81 _ hle
    have hbl := bmk_lt (W := W) (c := c) (p := p) (l := l) (k := k) (b := b) 10 (by omega)
    have hand : F k &&& bmk W c p l k b 10 < 1024 := Nat.lt_of_le_of_lt Nat.and_le_left hf
    unfold bX7_leftAtTheMost_6
    rw [if_pos (show (9 : Int32) < nI 10 by decide), ge0 hk, cl8 hk, hG k hk, nI_and, pop10 _ hand, bnd_some, ge0 hk, pop10 _ hf, bnd_some]
    unfold lf
    have hodd := odd10 _ hbl
    rw [bmk_tb, decide_eq_true (show 0 < 10 by omega), Bool.true_and] at hodd
    rw [z2] at h81 ⊢
    cases hb0 : bwp W c p l k 0 b with
    | false =>
      rw [if_pos (hodd.mpr hb0)]
      rw [hb0] at h81
      exact h81
    | true =>
      rw [if_neg (fun e => by rw [hodd.mp e] at hb0; cases hb0), pk_sub z1, nI_add]
      rw [hb0] at h81
      exact h81
theorem m_step (hT : T < 256) (hW : W < 256) (hs : ∀ k, k < 8 → W.testBit k = true → T.testBit k = true) (hC : Row 8 1000000 C c) (hP : Row 8 9 P p) (hl : l ≤ 4) (hS : RS m mk bk bw M B Z S) {k b x v7 v8 : Nat} (hk : k < 8) (hb : b ≤ 99) (hx : x ≤ 9) (jj v4 v5 : Int32) (w : Bool) (K42 : Int32 × Int32 × Int32 → Option Int32) (K58 : Int32 × Int32 × Int32 × Int32 × Int32 × Int32 → Option Int32) (K77 : Int32 × Int32 × Int32 × Int32 × Int32 × Int32 × Int32 → Option Int32) :
    bX10_ask_127 K42 K58 K77 (nI T) (nI W) C P (nI l) (nI b) v4 v5 (nI k) (nI v7) (nI v8) jj (nI x) (if w then 1 else 0) = K77 (v4, v5, nI k, nI (v7 + if w && bwp W c p l k (if nI k = jj then x else 0) b then 1 else 0), nI (v8 + if w then 1 else 0), jj, nI (x + 1)) := by
  unfold bX10_ask_127 bX10_ask_141 bX10_ask_171
  rw [m_bow hT hW hs hC hP hl hk hx hb jj, nI_1]
  cases w with
  | false => 
    rw [if_pos (show (if false = true then (1 : Int32) else 0) = 0 from rfl), if_pos (show (if false = true then (1 : Int32) else 0) = 0 from rfl)]
    show K77 (v4, v5, nI k, nI v7 + nI 0, nI v8 + nI 0, jj, nI (x + 1)) = _
    rw [nI_add, nI_add]; rfl
  | true =>
    rw [if_neg (show ¬ (if true = true then (1 : Int32) else 0) = 0 by decide), if_neg (show ¬ (if true = true then (1 : Int32) else 0) = 0 by decide), Bool.true_and, bnd_some]
    cases bwp W c p l k (if nI k = jj then x else 0) b with
    | false =>
      rw [if_pos (show (if false = true then (1 : Int32) else 0) = 0 from rfl)]
      show K77 (v4, v5, nI k, nI v7 + nI 0, nI v8 + nI 1, jj, nI (x + 1)) = _
      rw [nI_add, nI_add]; rfl
    | true =>
      rw [if_neg (show ¬ (if true = true then (1 : Int32) else 0) = 0 by decide)]
      show K77 (v4, v5, nI k, nI v7 + nI 1, nI v8 + nI 1, jj, nI (x + 1)) = _
      rw [nI_add, nI_add]; rfl
theorem m_inn (hT : T < 256) (hW : W < 256) (hs : ∀ k, k < 8 → W.testBit k = true → T.testBit k = true) (hC : Row 8 1000000 C c) (hP : Row 8 9 P p) (hl : l ≤ 4) (hS : RS m mk bk bw M B Z S) {F : Nat → Nat} (hF : FF W c p l mk bk bw m F) {h j k b : Nat} (hj : j < 8) (hk : k < 8) (hb : b ≤ 99) (v4 v5 : Int32) (K42 : Int32 × Int32 × Int32 → Option Int32) (K58 : Int32 × Int32 × Int32 × Int32 × Int32 × Int32 → Option Int32) : loopF (fun kk q => bX10_ask_77 K42 K58 kk (nI T) (nI W) (nI m) C P S (nI l) (nI b) q.1 q.2.1 q.2.2.1 q.2.2.2.1 q.2.2.2.2.1 q.2.2.2.2.2.1 q.2.2.2.2.2.2) FU (v4, v5, nI k, nI (bcf F h k (bwp W c p l k 0 b) (bmk W c p l k b 10) j), nI (szf F h j), nI j, 1) = K58 (v4, v5, nI k, nI (bcf F h k (bwp W c p l k 0 b) (bmk W c p l k b 10) (j + 1)), nI (szf F h (j + 1)), nI (j + 1)) := by
  obtain ⟨f1, f2, f3, f4⟩ := hF j hj
  have hg2 : (F k &&& bmk W c p l k b 10).testBit 0 = false := by rw [Nat.testBit_and, (hF k hk).2.1, Bool.false_and]
  have h0 : (v4, v5, nI k, nI (bcf F h k (bwp W c p l k 0 b) (bmk W c p l k b 10) j), nI (szf F h j), nI j, (1 : Int32)) = (fun i => (v4, v5, nI k, nI (bcf F h k (bwp W c p l k 0 b) (bmk W c p l k b 10) j + if j = k then pc (F k &&& bmk W c p l k b 10) (i + 1) else if bwp W c p l k 0 b then pc (F j) (i + 1) else 0), nI (szf F h j + pc (F j) (i + 1)), nI j, nI (i + 1))) 0 := by
    show _ = (v4, v5, nI k, nI (bcf F h k (bwp W c p l k 0 b) (bmk W c p l k b 10) j + if j = k then pc (F k &&& bmk W c p l k b 10) 1 else if bwp W c p l k 0 b then pc (F j) 1 else 0), nI (szf F h j + pc (F j) 1), nI j, nI 1)
    rw [pc_1 f2, pc_1 hg2, ite_self, ite_self, Nat.add_zero, Nat.add_zero]; rfl
  rw [h0]
  refine loopF_run 9 (fun i => (v4, v5, nI k, nI (bcf F h k (bwp W c p l k 0 b) (bmk W c p l k b 10) j + if j = k then pc (F k &&& bmk W c p l k b 10) (i + 1) else if bwp W c p l k 0 b then pc (F j) (i + 1) else 0), nI (szf F h j + pc (F j) (i + 1)), nI j, nI (i + 1))) _ (fun i hi K => ?_) (fun K => ?_) (FU_gt (by omega))
  · show bX10_ask_77 K42 K58 K (nI T) (nI W) (nI m) C P S (nI l) (nI b) v4 v5 (nI k) (nI (bcf F h k (bwp W c p l k 0 b) (bmk W c p l k b 10) j + if j = k then pc (F k &&& bmk W c p l k b 10) (i + 1) else if bwp W c p l k 0 b then pc (F j) (i + 1) else 0)) (nI (szf F h j + pc (F j) (i + 1))) (nI j) (nI (i + 1)) = K (v4, v5, nI k, nI (bcf F h k (bwp W c p l k 0 b) (bmk W c p l k b 10) j + if j = k then (pc (F k &&& bmk W c p l k b 10) (i + 1) + if (F k &&& bmk W c p l k b 10).testBit (i + 1) then 1 else 0) else if bwp W c p l k 0 b then (pc (F j) (i + 1) + if (F j).testBit (i + 1) then 1 else 0) else 0), nI (szf F h j + (pc (F j) (i + 1) + if (F j).testBit (i + 1) then 1 else 0)), nI j, nI (i + 2))
    have hw := f4 (i + 1) (by omega) (by omega)
    have e1 : ∀ y : Nat, bcf F h k (bwp W c p l k 0 b) (bmk W c p l k b 10) j + (if j = k then pc (F k &&& bmk W c p l k b 10) (i + 1) else if bwp W c p l k 0 b then pc (F j) (i + 1) else 0) + (if (F j).testBit (i + 1) && bwp W c p l k (if nI k = nI j then i + 1 else 0) b then 1 else 0) = bcf F h k (bwp W c p l k 0 b) (bmk W c p l k b 10) j + if j = k then (pc (F k &&& bmk W c p l k b 10) (i + 1) + if (F k &&& bmk W c p l k b 10).testBit (i + 1) then 1 else 0) else if bwp W c p l k 0 b then (pc (F j) (i + 1) + if (F j).testBit (i + 1) then 1 else 0) else 0 := by
      intro _
      by_cases d : j = k
      · rw [if_pos d, if_pos d, if_pos (show nI k = nI j by rw [d]), Nat.testBit_and, bmk_tb, decide_eq_true (show i + 1 < 10 by omega), Bool.true_and, d, Nat.add_assoc]
      · rw [if_neg d, if_neg d, if_neg (fun z => d ((nI_eq (by omega) (by omega)).mp z).symm)]
        cases bwp W c p l k 0 b with
        | false => rw [Bool.and_false]; rfl
        | true => rw [Bool.and_true, if_pos rfl, if_pos rfl, Nat.add_assoc]
    have st := m_step hT hW hs hC hP hl hS hk hb (x := i + 1) (by omega) (nI j) v4 v5 ((F j).testBit (i + 1)) K42 K58 K (v7 := bcf F h k (bwp W c p l k 0 b) (bmk W c p l k b 10) j + if j = k then pc (F k &&& bmk W c p l k b 10) (i + 1) else if bwp W c p l k 0 b then pc (F j) (i + 1) else 0) (v8 := szf F h j + pc (F j) (i + 1))
    rw [e1 0, Nat.add_assoc (szf F h j)] at st
    unfold bX10_ask_77 bX10_ask_90 bX10_ask_110
    rw [if_pos (nI_pos' (by omega)), if_neg (show ¬ (10 : Int32) ≤ nI (i + 1) from nI_ge (b := 10) (by omega) (by omega)), if_neg (nI_pos (by omega)), m_has hW hj, bnd_some, m_isWorld hT hW hs hC hP hl hS (nI j) (x := i + 1) (by omega), bnd_some]
    rw [hw] at st ⊢
    cases hwj : W.testBit j with
    | false =>
      rw [if_pos (show (if false = true then (1 : Int32) else 0) = 0 from rfl)]
      rw [hwj, Bool.false_and] at st
      exact st
    | true =>
      rw [if_neg (show ¬ (if true = true then (1 : Int32) else 0) = 0 by decide), Bool.true_and]
      rw [hwj, Bool.true_and] at st
      cases hwd : wd W c p l mk bk bw (nI j) (i + 1) m with
      | false =>
        rw [if_pos (show (if false = true then (1 : Int32) else 0) = 0 from rfl)]
        rw [hwd] at st; exact st
      | true =>
        rw [if_neg (show ¬ (if true = true then (1 : Int32) else 0) = 0 by decide)]
        rw [hwd] at st; exact st
  · show bX10_ask_77 K42 K58 K (nI T) (nI W) (nI m) C P S (nI l) (nI b) v4 v5 (nI k) _ _ (nI j) (nI 10) = _
    unfold bX10_ask_77 bX10_ask_90
    rw [if_pos (nI_pos' (by omega)), if_pos (show (10 : Int32) ≤ nI 10 by decide), nI_1]
    rfl
theorem m_out (hT : T < 256) (hW : W < 256) (hs : ∀ k, k < 8 → W.testBit k = true → T.testBit k = true) (hC : Row 8 1000000 C c) (hP : Row 8 9 P p) (hl : l ≤ 4) (hS : RS m mk bk bw M B Z S) {F : Nat → Nat} (hF : FF W c p l mk bk bw m F) {k b : Nat} (hk : k < 8) (hb : b ≤ 99) (v4 v5 : Int32) (K42 : Int32 × Int32 × Int32 → Option Int32) : loopF (fun kk q => bX10_ask_58 K42 kk (nI T) (nI W) (nI m) C P S (nI l) (nI b) q.1 q.2.1 q.2.2.1 q.2.2.2.1 q.2.2.2.2.1 q.2.2.2.2.2) FU (v4, v5, nI k, 0, 0, -1) = bX10_ask_206 K42 (nI W) v4 v5 (nI k) (nI (szf F (if wd W c p l mk bk bw (-6) 0 m then 1 else 0) 8)) (nI (lf F (if wd W c p l mk bk bw (-6) 0 m then 1 else 0) k (bwp W c p l k 0 b) (bmk W c p l k b 10))) := by
  have hh : (if wd W c p l mk bk bw (-6) 0 m then 1 else 0) ≤ 1 := by split <;> omega
  have hw1 : wd W c p l mk bk bw (-1) 0 m = wd W c p l mk bk bw (-6) 0 m := wd_0 _ _ m
  have hb0 : (if wd W c p l mk bk bw (-6) 0 m && bwp W c p l k 0 b then 1 else 0) = bcf F (if wd W c p l mk bk bw (-6) 0 m then 1 else 0) k (bwp W c p l k 0 b) (bmk W c p l k b 10) 0 := by
    show _ = if bwp W c p l k 0 b then (if wd W c p l mk bk bw (-6) 0 m then 1 else 0) else 0
    cases wd W c p l mk bk bw (-6) 0 m <;> cases bwp W c p l k 0 b <;> rfl
  have hs0 : (if wd W c p l mk bk bw (-6) 0 m then 1 else 0) = szf F (if wd W c p l mk bk bw (-6) 0 m then 1 else 0) 0 := rfl
  generalize hhd : (if wd W c p l mk bk bw (-6) 0 m then 1 else 0) = hN at hh hb0 hs0 ⊢
  refine loopF_run 9 (fun i => if i = 0 then (v4, v5, nI k, 0, 0, -1) else (v4, v5, nI k, nI (bcf F hN k (bwp W c p l k 0 b) (bmk W c p l k b 10) (i - 1)), nI (szf F hN (i - 1)), nI (i - 1))) _ (fun i hi K => ?_) (fun K => ?_) (FU_gt (by omega))
  · rcases Nat.eq_zero_or_pos i with q | q
    · subst q
      show bX10_ask_58 K42 K (nI T) (nI W) (nI m) C P S (nI l) (nI b) v4 v5 (nI k) 0 0 (-1) = K (v4, v5, nI k, nI (bcf F hN k (bwp W c p l k 0 b) (bmk W c p l k b 10) 0), nI (szf F hN 0), nI 0)
      unfold bX10_ask_58
      rw [if_neg (by decide), if_neg (by decide)]
      refine loopF_run 1 (fun i => if i = 0 then (v4, v5, nI k, 0, 0, -1, 0) else (v4, v5, nI k, nI (bcf F hN k (bwp W c p l k 0 b) (bmk W c p l k b 10) 0), nI (szf F hN 0), -1, 1)) _ (fun i hi K7 => ?_) (fun K7 => ?_) (FU_gt (by omega))
      · have : i = 0 := by omega
        subst this
        show bX10_ask_77 K42 K K7 (nI T) (nI W) (nI m) C P S (nI l) (nI b) v4 v5 (nI k) 0 0 (-1) 0 = K7 (v4, v5, nI k, nI (bcf F hN k (bwp W c p l k 0 b) (bmk W c p l k b 10) 0), nI (szf F hN 0), -1, 1)
        have st := m_step hT hW hs hC hP hl hS hk hb (x := 0) (by omega) (-1) v4 v5 (wd W c p l mk bk bw (-6) 0 m) K42 K K7 (v7 := 0) (v8 := 0)
        rw [ite_self, hb0, hhd, Nat.zero_add, Nat.zero_add] at st
        unfold bX10_ask_77 bX10_ask_90 bX10_ask_110
        rw [if_neg (by decide), if_neg (by decide), if_pos (by decide), show fX10_isWorld (nI T) (nI W) (nI m) C P S (nI l) (-1) 0 = _ from m_isWorld hT hW hs hC hP hl hS (-1) (x := 0) (by omega), bnd_some, hw1]
        cases hwd : wd W c p l mk bk bw (-6) 0 m with
        | false =>
          rw [if_pos (show (if false = true then (1 : Int32) else 0) = 0 from rfl)]
          rw [hwd] at st; exact st
        | true =>
          rw [if_neg (show ¬ (if true = true then (1 : Int32) else 0) = 0 by decide)]
          rw [hwd] at st; exact st
      · show bX10_ask_77 K42 K K7 (nI T) (nI W) (nI m) C P S (nI l) (nI b) v4 v5 (nI k) (nI (bcf F hN k (bwp W c p l k 0 b) (bmk W c p l k b 10) 0)) (nI (szf F hN 0)) (-1) 1 = _
        unfold bX10_ask_77 bX10_ask_90
        rw [if_neg (by decide), if_pos (by decide)]; rfl
    · obtain ⟨j, rfl⟩ : ∃ j, i = j + 1 := ⟨i - 1, by omega⟩
      rw [if_neg (by omega), if_neg (by omega)]
      show bX10_ask_58 K42 K (nI T) (nI W) (nI m) C P S (nI l) (nI b) v4 v5 (nI k) (nI (bcf F hN k (bwp W c p l k 0 b) (bmk W c p l k b 10) j)) (nI (szf F hN j)) (nI j) = K (v4, v5, nI k, nI (bcf F hN k (bwp W c p l k 0 b) (bmk W c p l k b 10) (j + 1)), nI (szf F hN (j + 1)), nI (j + 1))
      unfold bX10_ask_58
      rw [if_neg (n8 (by omega)), if_pos (nI_pos' (by omega))]
      exact m_inn hT hW hs hC hP hl hS hF (by omega) hk hb v4 v5 K42 K
  · show bX10_ask_58 K42 K (nI T) (nI W) (nI m) C P S (nI l) (nI b) v4 v5 (nI k) (nI (bcf F hN k (bwp W c p l k 0 b) (bmk W c p l k b 10) 8)) (nI (szf F hN 8)) (nI 8) = _
    have hle := bcf_le (F := F) (h := hN) (k := k) (b0 := bwp W c p l k 0 b) (bm := bmk W c p l k b 10) 8
    have hsz := szf_le (F := F) hh 8
    unfold bX10_ask_58 lf
    generalize bcf F hN k (bwp W c p l k 0 b) (bmk W c p l k b 10) 8 = bb at hle ⊢
    rw [if_pos n88, pk_sub hle]
    by_cases d : bb ≤ szf F hN 8 - bb
    · rw [if_pos (nI_le d (by omega))]
      by_cases d2 : bb < szf F hN 8 - bb
      · rw [if_pos d2]
      · rw [if_neg d2, show szf F hN 8 - bb = bb by omega]
    · rw [if_neg (nI_ge (by omega) (by omega)), if_neg (by omega)]
theorem r_ask {h sh : Nat} (hG : GH T W h sh p) (hC : R2 8 1000000 C C' c) (hP : R2 8 9 P P' p) (hS : RS m mk bk bw M B Z S) (s0 k0 h0 : Int32) (G0 : Nat → Int32) (a1 a2 a3 : Int32) : ∃ r q1 q2 q3 q4, fX9_ask (nI W) C P (nI m) M B Z s0 k0 h0 G0 a1 a2 a3 = some (r, q1, q2, q3, q4) ∧ fX10_ask (nI T) (nI W) (nI m) C' P' S a1 a2 a3 = some r := by
  unfold fX9_ask fX10_ask
  obtain ⟨hT, hW, hs, _⟩ := hG
  rw [isLaw_is]
  rcases win a1 0 4 (by decide) (by decide) with ⟨e1, e2⟩ | ⟨l, _, hl, rfl, e1, e2⟩
  · exact ⟨-2, s0, k0, h0, G0, by rw [show fX9_isWithin a1 0 4 = some 0 from e1]; rfl, by rw [show fX10_in a1 0 4 = some 0 from e2]; rfl⟩
  · rw [show fX9_isWithin (nI l) 0 4 = some 1 from e1, show fX10_in (nI l) 0 4 = some 1 from e2, bnd_some, bnd_some, if_neg n10, if_neg n10]
    rcases win a2 0 99 (by decide) (by decide) with ⟨e1, e2⟩ | ⟨b, _, hb, rfl, e1, e2⟩
    · exact ⟨-2, s0, k0, h0, G0, by rw [show fX9_isWithin a2 0 99 = some 0 from e1]; rfl, by rw [show fX10_in a2 0 99 = some 0 from e2]; rfl⟩
    · rw [show fX9_isWithin (nI b) 0 99 = some 1 from e1, show fX10_in (nI b) 0 99 = some 1 from e2, bnd_some, bnd_some, if_neg n10, if_neg n10]
      rcases win a3 0 1 (by decide) (by decide) with ⟨e1, e2⟩ | ⟨v, _, hv, rfl, e1, e2⟩
      · exact ⟨-2, s0, k0, h0, G0, by rw [show fX9_isWithin a3 0 1 = some 0 from e1]; rfl, by rw [show fX10_in a3 0 1 = some 0 from e2]; rfl⟩
      · rw [show fX9_isWithin (nI v) 0 1 = some 1 from e1, show fX10_in (nI v) 0 1 = some 1 from e2, bnd_some, bnd_some, if_neg n10, if_neg n10]
        obtain ⟨G, eG, hGr⟩ := c_find hW hC.1 hP.1 hl hS s0 k0 h0 G0
        have hFF := FF_Fj (W := W) (c := c) (p := p) (l := l) (bk := bk) (bw := bw) (fun i hi => (hS.2 i hi).1)
        generalize Fj W c p l mk bk bw m = F at eG hFF hGr
        have hh : (if wd W c p l mk bk bw (-6) 0 m then 1 else 0) ≤ 1 := by split <;> omega
        have hout := fun k (hk : k < 8) v4 v5 K => m_out hT hW hs hC.2 hP.2 hl hS hFF (k := k) (b := b) hk hb v4 v5 K
        have hle := fun k (hk : k < 8) => c_left (W := W) (c := c) (p := p) (l := l) (b := b) hW hC.1 hP.1 hl (F := F) (G := G) (fun k hk => (hFF k hk).1) hGr hh hk hb
        generalize (if wd W c p l mk bk bw (-6) 0 m then 1 else 0) = hN at eG hh hout hle
        generalize (if wd W c p l mk bk bw (-6) 0 m then (1 : Int32) else 0) = h3 at eG
        have hLe : ∀ k, lf F hN k (bwp W c p l k 0 b) (bmk W c p l k b 10) ≤ 81 := fun k => lf_le hh
        generalize hL : (fun k => lf F hN k (bwp W c p l k 0 b) (bmk W c p l k b 10)) = L
        have hLk : ∀ k, lf F hN k (bwp W c p l k 0 b) (bmk W c p l k b 10) = L k := fun k => by rw [← hL]
        have hL81 : ∀ k, L k ≤ 81 := fun k => by rw [← hLk]; exact hLe k
        have hsz := szf_le (F := F) hh 8
        rw [eG, bnd_some]
        have mrun : ∀ R : Nat → Option (Nat × Nat), R 0 = none → (∀ i, i < 8 → R (i + 1) = if 0 < szf F hN 8 ∧ W.testBit i = true then (match R i with
            | none => some (i, L i)
            | some (q, v) => if L i < v then some (i, L i) else some (q, v)) else R i) → (∀ i, i ≤ 8 → ∀ q v, R i = some (q, v) → q < 8 ∧ v ≤ 81) → loopF (fun k q => bX10_ask_42 k (nI T) (nI W) (nI m) C' P' S (nI l) (nI b) (nI v) q.1 q.2.1 q.2.2) FU (-6, 100000000, 0) = some (match R 8 with
            | none => -6
            | some (q, w) => if nI v = 0 then nI q else nI w) := by
          intro R hR0 hRs hRo
          have hst : ((-6 : Int32), (100000000 : Int32), (0 : Int32)) = (fun i => (bM (-6) (R i), bV 100000000 (R i), nI i)) 0 := by
            show _ = (bM (-6) (R 0), bV 100000000 (R 0), nI 0)
            rw [hR0]; rfl
          rw [hst]
          refine loopF_run 8 (fun i => (bM (-6) (R i), bV 100000000 (R i), nI i)) _ (fun i hi K => ?_) (fun K => ?_) (FU_gt (by omega))
          · show bX10_ask_42 K (nI T) (nI W) (nI m) C' P' S (nI l) (nI b) (nI v) (bM (-6) (R i)) (bV 100000000 (R i)) (nI i) = K (bM (-6) (R (i + 1)), bV 100000000 (R (i + 1)), nI (i + 1))
            unfold bX10_ask_42
            rw [if_neg (n8 hi), hout i hi, hLk i]
            have hRs := hRs i hi
            unfold bX10_ask_206 bX10_ask_237 bX10_ask_251
            rw [m_has hW hi, bnd_some, nI_1]
            have := hL81 i
            cases hw : W.testBit i with
            | false =>
              rw [if_neg (fun e => by rw [hw] at e; exact absurd e.2 (by decide))] at hRs
              rw [hRs]; rfl
            | true =>
              rw [if_neg (show ¬ (if true = true then (1 : Int32) else 0) = 0 by decide)]
              by_cases d : 0 < szf F hN 8
              · rw [if_pos ⟨d, hw⟩] at hRs
                rw [if_neg (nI_nle d (by omega))]
                cases hR : R i with
                | none =>
                  rw [hR] at hRs
                  rw [hRs]
                  show (if (100000000 : Int32) ≤ nI (L i) then _ else _) = _
                  rw [if_neg (show ¬ (100000000 : Int32) ≤ nI (L i) from nI_ge (b := 100000000) (by omega) (by omega))]; rfl
                | some x =>
                  obtain ⟨q, w⟩ := x
                  have hqw := hRo i (by omega) q w hR
                  rw [hR] at hRs
                  have hRs : R (i + 1) = if L i < w then some (i, L i) else some (q, w) := hRs
                  rw [hRs]
                  show (if nI w ≤ nI (L i) then _ else _) = _
                  by_cases d2 : L i < w
                  · rw [if_neg (nI_ge d2 (by omega)), if_pos d2]; rfl
                  · rw [if_pos (nI_le (by omega) (by omega)), if_neg d2]; rfl
              · rw [if_neg (fun e => d e.1)] at hRs
                rw [if_pos (show nI (szf F hN 8) ≤ 0 by rw [show szf F hN 8 = 0 by omega]; decide), hRs]; rfl
          · show bX10_ask_42 K (nI T) (nI W) (nI m) C' P' S (nI l) (nI b) (nI v) (bM (-6) (R 8)) (bV 100000000 (R 8)) (nI 8) = _
            unfold bX10_ask_42
            rw [if_pos n88]
            cases hR : R 8 with
            | none => rfl
            | some x =>
              obtain ⟨q, w⟩ := x
              have hqw := hRo 8 (by omega) q w hR
              show (if nI q < 0 then some (nI q) else if nI v = 0 then some (nI q) else some (nI w)) = some (if nI v = 0 then nI q else nI w)
              rw [if_neg (nI_pos (by omega))]
              split <;> rfl
        by_cases d : szf F hN 8 = 0
        · refine ⟨-6, nI (szf F hN 8), nI (skf F 8), h3, G, ?_, mrun (fun _ => none) rfl (fun i hi => by rw [if_neg (by omega)]) (fun i hi q v h => by cases h)⟩
          show (if nI (szf F hN 8) = 0 then _ else _) = _
          rw [if_pos (show nI (szf F hN 8) = 0 by rw [d]; rfl)]
        · refine ⟨match bst W L 8 with
            | none => -6
            | some (q, w) => if nI v = 0 then nI q else nI w, nI (szf F hN 8), nI (skf F 8), h3, G, ?_, mrun (bst W L) rfl (fun i hi => ?_) (fun i hi q v h => by have := bst_ok hL81 i q v h; omega)⟩
          · show (if nI (szf F hN 8) = 0 then _ else _) = _
            rw [if_neg (nI_ne0 (by omega) (by omega))]
            refine loopF_run 8 (fun i => (bM (-6) (bst W L i), bV (-6) (bst W L i), nI i, nI (szf F hN 8), nI (skf F 8), h3, G)) _ (fun i hi K => ?_) (fun K => ?_) (FU_gt (by omega))
            · show bX9_ask_69 K (nI W) C P (nI l) (nI b) (nI v) (bM (-6) (bst W L i)) (bV (-6) (bst W L i)) (nI i) (nI (szf F hN 8)) (nI (skf F 8)) h3 G = K (bM (-6) (bst W L (i + 1)), bV (-6) (bst W L (i + 1)), nI (i + 1), nI (szf F hN 8), nI (skf F 8), h3, G)
              unfold bX9_ask_69 bX9_ask_122
              rw [if_neg (n8 hi), c_isAwake hW hi, bnd_some, hle i hi, hLk i, bnd_some, nI_1]
              have := hL81 i
              show _ = K (bM (-6) (if W.testBit i then (match bst W L i with
                | none => some (i, L i)
                | some (q, v) => if L i < v then some (i, L i) else some (q, v)) else bst W L i), bV (-6) (if W.testBit i then (match bst W L i with
                | none => some (i, L i)
                | some (q, v) => if L i < v then some (i, L i) else some (q, v)) else bst W L i), nI (i + 1), nI (szf F hN 8), nI (skf F 8), h3, G)
              cases hw : W.testBit i with
              | false => rfl
              | true =>
                rw [if_neg (show ¬ (if true = true then (1 : Int32) else 0) = 0 by decide), if_pos (show true = true from rfl)]
                cases hR : bst W L i with
                | none => rfl
                | some x =>
                  obtain ⟨q, w⟩ := x
                  have hqw := bst_ok hL81 i q w hR
                  show (if nI q = -6 then _ else if nI w ≤ nI (L i) then _ else _) = K (bM (-6) (if L i < w then some (i, L i) else some (q, w)), bV (-6) (if L i < w then some (i, L i) else some (q, w)), nI (i + 1), nI (szf F hN 8), nI (skf F 8), h3, G)
                  rw [if_neg (fun e => by have : ¬ nI q < 0 := nI_pos (by omega); rw [e] at this; exact this (by decide))]
                  by_cases d2 : L i < w
                  · rw [if_neg (nI_ge d2 (by omega)), if_pos d2]; rfl
                  · rw [if_pos (nI_le (by omega) (by omega)), if_neg d2]
            · show bX9_ask_69 K (nI W) C P (nI l) (nI b) (nI v) (bM (-6) (bst W L 8)) (bV (-6) (bst W L 8)) (nI 8) (nI (szf F hN 8)) (nI (skf F 8)) h3 G = _
              unfold bX9_ask_69
              rw [if_pos n88]
              cases bst W L 8 with
              | none => show (if nI v = 0 then _ else _) = _; split <;> rfl
              | some x =>
                obtain ⟨q, w⟩ := x
                show (if nI v = 0 then _ else _) = some (if nI v = 0 then nI q else nI w, _)
                split <;> rfl
          · show (if W.testBit i then (match bst W L i with
              | none => some (i, L i)
              | some (q, v) => if L i < v then some (i, L i) else some (q, v)) else bst W L i) = _
            by_cases hw : W.testBit i = true
            · rw [if_pos hw, if_pos ⟨by omega, hw⟩]
            · rw [if_neg hw, if_neg (fun e => hw e.2)]
end worlds
