/-! who is ahead -/
theorem nI_m1 {b : Nat} (h : b < 2 ^ 31) : ¬ nI b = (-1) := fun e => by
  have h1 := nI_toInt h
  rw [e] at h1
  have : ((-1 : Int32)).toInt = -1 := by decide
  omega
theorem nI_0le {b : Nat} (h : b < 2 ^ 31) : ¬ nI b < 0 := nI_pos h
def fo (w : Nat) (c : Nat → Nat) : Nat → Option Nat
  | 0 => none
  | i + 1 => match fo w c i with
    | none => if w.testBit i then some i else none
    | some b => if w.testBit i ∧ c i < c b then some i else some b
theorem fo_some {w : Nat} {c : Nat → Nat} : ∀ {i b : Nat}, fo w c i = some b → b < i ∧ w.testBit b = true
  | 0, b, h => by simp [fo] at h
  | i + 1, b, h => by
    unfold fo at h
    cases h1 : fo w c i with
    | none =>
      rw [h1] at h
      by_cases hb : w.testBit i = true
      · simp [hb] at h; subst h; exact ⟨by omega, hb⟩
      · simp [hb] at h
    | some b2 =>
      rw [h1] at h
      have ih := fo_some h1
      by_cases hb : w.testBit i = true ∧ c i < c b2
      · simp [hb] at h; subst h; exact ⟨by omega, hb.1⟩
      · simp only [hb, if_false] at h; cases h; exact ⟨by omega, ih.2⟩
theorem oI_s (d : Int32) (b : Nat) : oI d (some b) = nI b := rfl
theorem oI_n (d : Int32) : oI d none = d := rfl
theorem c_foremost {w : Nat} {C : Nat → Int32} {c : Nat → Nat} (hw : w < 256) (hC : Row 8 1000000 C c) : fX2_foremost (nI w) C = some (oI (-1) (fo w c 8)) := by
  unfold fX2_foremost
  refine loopF_run 8 (fun i => (oI (-1) (fo w c i), nI i)) _ ?_ ?_ (FU_gt (by decide))
  · intro i hi K
    show bX2_foremost_4 K (nI w) C (oI (-1) (fo w c i)) (nI i) = K (oI (-1) (fo w c (i + 1)), nI (i + 1))
    unfold bX2_foremost_4 bX2_foremost_38
    rw [if_neg (n8 hi), c_isAwake hw hi, bnd_some, nI_1]
    cases hb : w.testBit i with
    | false =>
      rw [if_pos (by simp)]
      cases h1 : fo w c i with
      | none => simp [fo, h1, hb, oI]
      | some b => simp [fo, h1, hb, oI]
    | true =>
      rw [if_neg (by simp)]
      cases h1 : fo w c i with
      | none => simp [fo, h1, hb, oI]
      | some b =>
        obtain ⟨hbl, hbb⟩ := fo_some h1
        have hb8 : b < 8 := by omega
        rw [oI_s, if_neg (nI_m1 (by omega)), ge0 hi, ge0 hb8, cl8 hi, cl8 hb8, (hC i hi).1, (hC b hb8).1]
        have b1 := (hC i hi).2
        have b2 := (hC b hb8).2
        by_cases hlt : c i < c b
        · rw [if_neg (fun e => by have := (nI_leI (by omega) (by omega)).mp e; omega)]
          simp [fo, h1, hb, hlt, oI]
        · rw [if_pos ((nI_leI (by omega) (by omega)).mpr (by omega))]
          simp [fo, h1, hb, hlt, oI]
  · intro K
    show bX2_foremost_4 K (nI w) C (oI (-1) (fo w c 8)) (nI 8) = _
    unfold bX2_foremost_4
    rw [if_pos n88]
theorem m_first {w : Nat} {C : Nat → Int32} {c : Nat → Nat} (hw : w < 256) (hC : Row 8 1000000 C c) : fX10_first (nI w) C = some (oI (-6) (fo w c 8)) := by
  unfold fX10_first
  refine loopF_run 8 (fun i => (oI (-6) (fo w c i), nI i)) _ ?_ ?_ (FU_gt (by decide))
  · intro i hi K
    show bX10_first_5 K (nI w) C (oI (-6) (fo w c i)) (nI i) = K (oI (-6) (fo w c (i + 1)), nI (i + 1))
    unfold bX10_first_5 bX10_first_45 bX10_first_41
    rw [if_neg (n8 hi), m_has hw hi, bnd_some, nI_1]
    cases hb : w.testBit i with
    | false =>
      rw [if_pos (by simp)]
      cases h1 : fo w c i with
      | none => simp [fo, h1, hb, oI]
      | some b => simp [fo, h1, hb, oI]
    | true =>
      rw [if_neg (by simp)]
      cases h1 : fo w c i with
      | none => rw [oI_n, if_pos (by decide)]; simp [fo, h1, hb, oI]
      | some b =>
        obtain ⟨hbl, hbb⟩ := fo_some h1
        have hb8 : b < 8 := by omega
        rw [oI_s, if_neg (nI_0le (by omega)), ge0 hi, ge0 hb8, cl8 hi, cl8 hb8, (hC i hi).1, (hC b hb8).1]
        have b1 := (hC i hi).2
        have b2 := (hC b hb8).2
        by_cases hlt : c i < c b
        · rw [if_neg (fun e => by have := (nI_leI (by omega) (by omega)).mp e; omega)]
          simp [fo, h1, hb, hlt, oI]
        · rw [if_pos ((nI_leI (by omega) (by omega)).mpr (by omega))]
          simp [fo, h1, hb, hlt, oI]
  · intro K
    show bX10_first_5 K (nI w) C (oI (-6) (fo w c 8)) (nI 8) = _
    unfold bX10_first_5
    rw [if_pos n88]
/-! rows that a loop of eight changes, place by place: what a loop makes of a row -/
theorem Row.upd {n B : Nat} {f : Nat → Int32} {c : Nat → Nat} (h : Row n B f c) {k : Nat} {x : Int32} {v : Nat} (hx : x = nI v) (hv : v ≤ B) : Row n B (upd f k x) (fun j => if j = k then v else c j) := by
  intro j hj
  by_cases e : j = k
  · subst e
    rw [pk_us]
    simp [hx, hv]
  · rw [pk_un e]
    simp only [e, if_false]
    exact h j hj
theorem Row.cong {n B : Nat} {f : Nat → Int32} {c d : Nat → Nat} (h : Row n B f c) (e : ∀ k, k < n → c k = d k) : Row n B f d := fun k hk => by rw [← e k hk]; exact h k hk
/-- a loop over eight places that makes the i-th cell out of itself -/
def mk8 (w : Nat) (c g : Nat → Nat) (i : Nat) : Nat → Nat := fun k => if k < i ∧ w.testBit k = true then g k else c k
theorem mk8_0 (w : Nat) (c g : Nat → Nat) : mk8 w c g 0 = c := by funext k; simp [mk8]
theorem mk8_s {w : Nat} {c g : Nat → Nat} {i : Nat} (hb : w.testBit i = true) : (fun j => if j = i then g i else mk8 w c g i j) = mk8 w c g (i + 1) := by
  funext j
  unfold mk8
  by_cases e : j = i
  · subst e; simp [hb]
  · have : (j < i + 1) ↔ (j < i) := by omega
    simp [e, this]
theorem mk8_n {w : Nat} {c g : Nat → Nat} {i : Nat} (hb : w.testBit i = false) : mk8 w c g i = mk8 w c g (i + 1) := by
  funext j
  unfold mk8
  by_cases e : j = i
  · subst e; simp [hb]
  · have : (j < i + 1) ↔ (j < i) := by omega
    simp [this]
theorem mk8_i (w : Nat) (c g : Nat → Nat) (i : Nat) : mk8 w c g i i = c i := by simp [mk8]
/-- breaths: b at once -/
def brf (w b : Nat) (c p : Nat → Nat) : Nat → Nat := fun k => if w.testBit k = true then c k - b * p k else c k
theorem mk8_8 {w : Nat} {c g : Nat → Nat} {k : Nat} (hk : k < 8) : mk8 w c g 8 k = if w.testBit k = true then g k else c k := by simp [mk8, hk]
theorem max0 {a b : Nat} (ha : a < 2 ^ 30) (hb : b < 2 ^ 30) : (if (0 : Int32) < nI a - nI b then nI a - nI b else 0) = nI (a - b) := by
  by_cases h : b < a
  · have e := pk_sub (a := a) (b := b) (by omega)
    rw [e, if_pos]
    exact (nI_ltI (a := 0) (b := a - b) (by decide) (by omega)).mpr (by omega)
  · have e : a - b = 0 := by omega
    rw [e, if_neg]
    · rfl
    · intro hlt
      have h1 := pk_sub_toInt ha hb
      have h2 : (0 : Int32).toInt < (nI a - nI b).toInt := Int32.lt_iff_toInt_lt.mp hlt
      rw [h1] at h2
      have : (0 : Int32).toInt = 0 := by decide
      omega
theorem c_countBehind {C P : Nat → Int32} {c p : Nat → Nat} (hC : Row 8 1000000 C c) (hP : Row 8 9 P p) {k v b : Nat} (hk : k < 8) (hv : v ≤ 9) (hb : b ≤ 1000000) : fX2_countBehind C P (nI k) (nI v) (nI b) = some (nI (c k - v - b * p k)) := by
  unfold fX2_countBehind
  obtain ⟨e1, b1⟩ := hC k hk
  obtain ⟨e2, b2⟩ := hP k hk
  have hm : b * p k ≤ 1000000 * 9 := Nat.mul_le_mul hb b2
  rw [ge0 hk, ge0 hk, cl8 hk, e1, e2, pk_mul]
  congr 1
  by_cases hv2 : v ≤ c k
  · rw [pk_sub hv2]
    exact max0 (by omega) (by omega)
  · have e : c k - v - b * p k = 0 := by omega
    rw [e, if_neg]
    · rfl
    · intro hlt
      have h1 := pk_sub_toInt (a := c k) (b := v + b * p k) (by omega) (by omega)
      have h0 : nI (c k) - nI v - nI (b * p k) = nI (c k) - nI (v + b * p k) := by
        rw [← nI_add]; exact Int32.sub_sub _ _ _
      rw [h0] at hlt
      have h2 := Int32.lt_iff_toInt_lt.mp hlt
      rw [h1] at h2
      have : (0 : Int32).toInt = 0 := by decide
      omega
theorem brf_eq {w b : Nat} {c p : Nat → Nat} : ∀ k, k < 8 → mk8 w c (fun k => c k - b * p k) 8 k = brf w b c p k := fun k hk => mk8_8 hk
theorem c_breathe {w : Nat} {C P : Nat → Int32} {c p : Nat → Nat} (hw : w < 256) (hC : Row 8 1000000 C c) (hP : Row 8 9 P p) {b : Nat} (hb : b ≤ 1000000) : ∃ C2, fX2_breathe (nI w) C P (nI b) = some C2 ∧ Row 8 1000000 C2 (brf w b c p) := by
  unfold fX2_breathe
  refine loopF_inv 8 (fun i q => q.1 = nI i ∧ Row 8 1000000 q.2 (mk8 w c (fun k => c k - b * p k) i)) (fun y => ∃ C2, y = some C2 ∧ Row 8 1000000 C2 (brf w b c p)) ?_ ?_ FU (0, C) (FU_gt (by decide)) ⟨rfl, by rw [mk8_0]; exact hC⟩
  · rintro i ⟨q1, F⟩ hi ⟨e, hF⟩
    simp only at e hF
    subst e
    cases hbt : w.testBit i with
    | false =>
      refine ⟨(nI (i + 1), F), ⟨rfl, by rw [← mk8_n hbt]; exact hF⟩, fun K => ?_⟩
      show bX2_breathe_2 K (nI w) P (nI b) (nI i) F = _
      unfold bX2_breathe_2
      rw [if_neg (n8 hi), c_isAwake hw hi, bnd_some, nI_1, hbt, if_pos (by simp)]
    | true =>
      have h1 := c_countBehind hF hP hi (v := 0) (b := b) (by omega) hb
      rw [mk8_i] at h1
      refine ⟨(nI (i + 1), upd F i (nI (c i - 0 - b * p i))), ⟨rfl, ?_⟩, fun K => ?_⟩
      · rw [← mk8_s hbt]
        exact hF.upd (by simp) (by have := (hC i hi).2; omega)
      · show bX2_breathe_2 K (nI w) P (nI b) (nI i) F = _
        unfold bX2_breathe_2
        rw [if_neg (n8 hi), c_isAwake hw hi, bnd_some, nI_1, hbt, if_neg (by simp)]
        rw [show (fX2_countBehind F P (nI i) 0 (nI b)) = _ from h1, bnd_some, ge0 hi, cl8 hi]
  · rintro ⟨q1, F⟩ ⟨e, hF⟩ K
    simp only at e hF
    subst e
    refine ⟨F, ?_, hF.cong brf_eq⟩
    show bX2_breathe_2 K (nI w) P (nI b) (nI 8) F = _
    unfold bX2_breathe_2
    rw [if_pos n88]
theorem m_breath {w : Nat} {C P : Nat → Int32} {c p : Nat → Nat} (hw : w < 256) (hC : Row 8 1000000 C c) (hP : Row 8 9 P p) : ∃ C2, fX10_breath (nI w) P C = some C2 ∧ Row 8 1000000 C2 (brf w 1 c p) := by
  unfold fX10_breath
  refine loopF_inv 8 (fun i q => q.1 = nI i ∧ Row 8 1000000 q.2 (mk8 w c (fun k => c k - 1 * p k) i)) (fun y => ∃ C2, y = some C2 ∧ Row 8 1000000 C2 (brf w 1 c p)) ?_ ?_ FU (0, C) (FU_gt (by decide)) ⟨rfl, by rw [mk8_0]; exact hC⟩
  · rintro i ⟨q1, F⟩ hi ⟨e, hF⟩
    simp only at e hF
    subst e
    cases hbt : w.testBit i with
    | false =>
      refine ⟨(nI (i + 1), F), ⟨rfl, by rw [← mk8_n hbt]; exact hF⟩, fun K => ?_⟩
      show bX10_breath_2 K (nI w) P (nI i) F = _
      unfold bX10_breath_2
      rw [if_neg (n8 hi), m_has hw hi, bnd_some, nI_1, hbt, if_pos (by simp)]
    | true =>
      have e1 := (hF i hi).1
      rw [mk8_i] at e1
      have b1 := (hC i hi).2
      obtain ⟨e2, b2⟩ := hP i hi
      refine ⟨(nI (i + 1), upd F i (nI (c i - 1 * p i))), ⟨rfl, ?_⟩, fun K => ?_⟩
      · rw [← mk8_s hbt]
        exact hF.upd rfl (by omega)
      · show bX10_breath_2 K (nI w) P (nI i) F = _
        unfold bX10_breath_2
        rw [if_neg (n8 hi), m_has hw hi, bnd_some, nI_1, hbt, if_neg (by simp)]
        simp only [ge0 hi, cl8 hi, e1, e2]
        by_cases hle : c i ≤ p i
        · rw [if_pos ((nI_leI (by omega) (by omega)).mpr hle)]
          have : c i - 1 * p i = 0 := by omega
          rw [this]
          rfl
        · rw [if_neg (fun e => hle ((nI_leI (by omega) (by omega)).mp e)), pk_sub (by omega)]
          have : c i - 1 * p i = c i - p i := by omega
          rw [this]
  · rintro ⟨q1, F⟩ ⟨e, hF⟩ K
    simp only at e hF
    subst e
    refine ⟨F, ?_, hF.cong brf_eq⟩
    show bX10_breath_2 K (nI w) P (nI 8) F = _
    unfold bX10_breath_2
    rw [if_pos n88]
/-- a bell -/
def rgf (w h : Nat) (c : Nat → Nat) : Nat → Nat := fun k => if w.testBit k = true then (if c k + 1 < h then c k + 1 else h) else c k
theorem c_ring {w h : Nat} {C : Nat → Int32} {c : Nat → Nat} (hw : w < 256) (hh : h ≤ 1000000) (hC : Row 8 1000000 C c) : ∃ C2, fX2_ring (nI w) (nI h) C = some C2 ∧ Row 8 1000000 C2 (rgf w h c) := by
  unfold fX2_ring
  refine loopF_inv 8 (fun i q => q.1 = nI i ∧ Row 8 1000000 q.2 (mk8 w c (fun k => if c k + 1 < h then c k + 1 else h) i)) (fun y => ∃ C2, y = some C2 ∧ Row 8 1000000 C2 (rgf w h c)) ?_ ?_ FU (0, C) (FU_gt (by decide)) ⟨rfl, by rw [mk8_0]; exact hC⟩
  · rintro i ⟨q1, F⟩ hi ⟨e, hF⟩
    simp only at e hF
    subst e
    cases hbt : w.testBit i with
    | false =>
      refine ⟨(nI (i + 1), F), ⟨rfl, by rw [← mk8_n hbt]; exact hF⟩, fun K => ?_⟩
      show bX2_ring_2 K (nI w) (nI h) (nI i) F = _
      unfold bX2_ring_2
      rw [if_neg (n8 hi), c_isAwake hw hi, bnd_some, nI_1, hbt, if_pos (by simp)]
    | true =>
      have e1 := (hF i hi).1
      rw [mk8_i] at e1
      have b1 := (hC i hi).2
      refine ⟨(nI (i + 1), upd F i (nI (if c i + 1 < h then c i + 1 else h))), ⟨rfl, ?_⟩, fun K => ?_⟩
      · rw [← mk8_s hbt]
        exact hF.upd rfl (by split <;> omega)
      · show bX2_ring_2 K (nI w) (nI h) (nI i) F = _
        unfold bX2_ring_2
        rw [if_neg (n8 hi), c_isAwake hw hi, bnd_some, nI_1, hbt, if_neg (by simp)]
        simp only [ge0 hi, cl8 hi, e1, nI_1]
        by_cases hlt : c i + 1 < h
        · rw [if_pos ((nI_ltI (by omega) (by omega)).mpr hlt), if_pos hlt]
        · rw [if_neg (fun e => hlt ((nI_ltI (by omega) (by omega)).mp e)), if_neg hlt]
  · rintro ⟨q1, F⟩ ⟨e, hF⟩ K
    simp only at e hF
    subst e
    refine ⟨F, ?_, hF.cong (fun k hk => mk8_8 hk)⟩
    show bX2_ring_2 K (nI w) (nI h) (nI 8) F = _
    unfold bX2_ring_2
    rw [if_pos n88]
theorem m_more {h : Nat} {C : Nat → Int32} {c : Nat → Nat} (hh : h ≤ 1000000) (hC : Row 8 1000000 C c) {k b : Nat} (hk : k < 8) (hb : b ≤ 3) : fX10_more (nI h) C (nI k) (nI b) = some (upd C k (nI (if c k + b < h then c k + b else h))) := by
  obtain ⟨e1, b1⟩ := hC k hk
  unfold fX10_more
  simp only [ge0 hk, cl8 hk, e1, nI_add]
  by_cases hle : c k + b ≤ h
  · rw [if_pos ((nI_leI (by omega) (by omega)).mpr hle)]
    by_cases hlt : c k + b < h
    · rw [if_pos hlt]
    · rw [if_neg hlt, show c k + b = h by omega]
  · rw [if_neg (fun e => hle ((nI_leI (by omega) (by omega)).mp e)), if_neg (by omega)]
theorem m_bell {w h : Nat} {C : Nat → Int32} {c : Nat → Nat} (hw : w < 256) (hh : h ≤ 1000000) (hC : Row 8 1000000 C c) : ∃ C2, fX10_bell (nI h) (nI w) C = some C2 ∧ Row 8 1000000 C2 (rgf w h c) := by
  unfold fX10_bell
  refine loopF_inv 8 (fun i q => q.1 = nI i ∧ Row 8 1000000 q.2 (mk8 w c (fun k => if c k + 1 < h then c k + 1 else h) i)) (fun y => ∃ C2, y = some C2 ∧ Row 8 1000000 C2 (rgf w h c)) ?_ ?_ FU (0, C) (FU_gt (by decide)) ⟨rfl, by rw [mk8_0]; exact hC⟩
  · rintro i ⟨q1, F⟩ hi ⟨e, hF⟩
    simp only at e hF
    subst e
    cases hbt : w.testBit i with
    | false =>
      refine ⟨(nI (i + 1), F), ⟨rfl, by rw [← mk8_n hbt]; exact hF⟩, fun K => ?_⟩
      show bX10_bell_2 K (nI h) (nI w) (nI i) F = _
      unfold bX10_bell_2
      rw [if_neg (n8 hi), m_has hw hi, bnd_some, nI_1, hbt, if_pos (by simp)]
    | true =>
      have h1 := m_more hh hF hi (b := 1) (by omega)
      rw [mk8_i] at h1
      refine ⟨(nI (i + 1), upd F i (nI (if c i + 1 < h then c i + 1 else h))), ⟨rfl, ?_⟩, fun K => ?_⟩
      · rw [← mk8_s hbt]
        exact hF.upd rfl (by have := (hC i hi).2; split <;> omega)
      · show bX10_bell_2 K (nI h) (nI w) (nI i) F = _
        unfold bX10_bell_2
        rw [if_neg (n8 hi), m_has hw hi, bnd_some, nI_1, hbt, if_neg (by simp), show fX10_more (nI h) F (nI i) 1 = _ from h1, bnd_some]
  · rintro ⟨q1, F⟩ ⟨e, hF⟩ K
    simp only at e hF
    subst e
    refine ⟨F, ?_, hF.cong (fun k hk => mk8_8 hk)⟩
    show bX10_bell_2 K (nI h) (nI w) (nI 8) F = _
    unfold bX10_bell_2
    rw [if_pos n88]
