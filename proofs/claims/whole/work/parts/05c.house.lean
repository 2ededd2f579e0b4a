/-! a bee -/
def stf (w h : Nat) (c : Nat → Nat) : Nat → Nat := match fo w c 8 with
  | none => c
  | some b => fun j => if j = b then h else c j
theorem c_sting {w h : Nat} {C : Nat → Int32} {c : Nat → Nat} (hw : w < 256) (hh : h ≤ 1000000) (hC : Row 8 1000000 C c) : ∃ C2, fX2_sting (nI w) (nI h) C = some C2 ∧ Row 8 1000000 C2 (stf w h c) := by
  unfold fX2_sting stf
  rw [c_foremost hw hC, bnd_some]
  cases h1 : fo w c 8 with
  | none => rw [oI_n, if_pos rfl]; exact ⟨C, rfl, hC⟩
  | some b =>
    obtain ⟨hb, -⟩ := fo_some h1
    rw [oI_s, if_neg (nI_m1 (by omega)), ge0 hb, cl8 hb]
    exact ⟨_, rfl, hC.upd rfl hh⟩
theorem m_sting {w h : Nat} {C : Nat → Int32} {c : Nat → Nat} (hw : w < 256) (hh : h ≤ 1000000) (hC : Row 8 1000000 C c) (hne : w ≠ 0) : ∃ b, fX10_first (nI w) C = some (nI b) ∧ b < 8 ∧ Row 8 1000000 (upd C b (nI h)) (stf w h c) := by
  rw [m_first hw hC]
  unfold stf
  cases h1 : fo w c 8 with
  | none =>
    exfalso
    apply hne
    refine (bt_ext w hw).mp ?_
    have key : ∀ i, fo w c i = none → ∀ k, k < i → w.testBit k = false := by
      intro i
      induction i with
      | zero => intro _ k hk; omega
      | succ i ih =>
        intro h k hk
        unfold fo at h
        cases h2 : fo w c i with
        | some b => rw [h2] at h; simp only at h; split at h <;> cases h
        | none =>
          rw [h2] at h
          simp only at h
          by_cases e : k = i
          · subst e
            cases hb : w.testBit k with
            | false => rfl
            | true => rw [hb] at h; simp at h
          · exact ih h2 k (by omega)
    exact key 8 h1
  | some b =>
    obtain ⟨hb, -⟩ := fo_some h1
    exact ⟨b, rfl, hb, hC.upd rfl hh⟩
theorem fo_none {w : Nat} {c : Nat → Nat} : ∀ {i : Nat}, fo w c i = none ↔ ∀ k, k < i → w.testBit k = false
  | 0 => by simp [fo]
  | i + 1 => by
    have ih := fo_none (w := w) (c := c) (i := i)
    unfold fo
    cases h2 : fo w c i with
    | some b =>
      obtain ⟨h3, h4⟩ := fo_some h2
      constructor
      · intro h; simp only at h; split at h <;> cases h
      · intro h; rw [h b (by omega)] at h4; cases h4
    | none =>
      have ih := ih.mp h2
      simp only
      constructor
      · intro h k hk
        by_cases e : k = i
        · subst e
          cases hb : w.testBit k with
          | false => rfl
          | true => rw [hb] at h; simp at h
        · exact ih k (by omega)
      · intro h
        rw [h i (by omega)]
        simp
theorem fo_none8 {w : Nat} {c : Nat → Nat} (hw : w < 256) : fo w c 8 = none ↔ w = 0 := fo_none.trans (bt_ext w hw)
/-! how many are at a number; the commonest -/
def cn (w : Nat) (c : Nat → Nat) (v : Nat) : Nat → Nat
  | 0 => 0
  | i + 1 => cn w c v i + if w.testBit i = true ∧ c i = v then 1 else 0
theorem cn_le (w : Nat) (c : Nat → Nat) (v : Nat) : ∀ i, cn w c v i ≤ i
  | 0 => Nat.le_refl _
  | i + 1 => by have := cn_le w c v i; unfold cn; split <;> omega
theorem cn_mono (w : Nat) (c : Nat → Nat) (v : Nat) {i : Nat} : ∀ {j : Nat}, i ≤ j → cn w c v i ≤ cn w c v j
  | 0, h => by have : i = 0 := by omega
               subst this; exact Nat.le_refl _
  | j + 1, h => by
    by_cases e : i = j + 1
    · subst e; exact Nat.le_refl _
    · have := cn_mono w c v (j := j) (i := i) (by omega)
      show _ ≤ cn w c v j + _
      omega
theorem cn_pos {w : Nat} {c : Nat → Nat} {i j : Nat} (hb : w.testBit i = true) (hi : i < j) : 0 < cn w c (c i) j := by
  have h1 : cn w c (c i) (i + 1) ≤ cn w c (c i) j := cn_mono w c (c i) (by omega)
  have h2 : cn w c (c i) (i + 1) = cn w c (c i) i + 1 := by show cn w c (c i) i + _ = _; simp [hb]
  omega
theorem c_howMany {w v : Nat} {C : Nat → Int32} {c : Nat → Nat} (hw : w < 256) (hC : Row 8 1000000 C c) (hv : v < 2 ^ 31) : fX2_howManyAwakeAt (nI w) C (nI v) = some (nI (cn w c v 8)) := by
  unfold fX2_howManyAwakeAt
  refine loopF_run 8 (fun i => (nI (cn w c v i), nI i)) _ ?_ ?_ (FU_gt (by decide))
  · intro i hi K
    show bX2_howManyAwakeAt_4 K (nI w) C (nI v) (nI (cn w c v i)) (nI i) = K (nI (cn w c v (i + 1)), nI (i + 1))
    unfold bX2_howManyAwakeAt_4
    obtain ⟨e1, b1⟩ := hC i hi
    rw [if_neg (n8 hi), c_isAwake hw hi, bnd_some, nI_1, nI_1]
    cases hb : w.testBit i with
    | false => rw [if_pos (by simp)]; simp [cn, hb]
    | true =>
      rw [if_neg (by simp), ge0 hi, cl8 hi, e1]
      by_cases e : c i = v
      · rw [if_pos (by rw [e])]; simp [cn, hb, e]
      · rw [if_neg (fun h => e ((nI_eq (by omega) hv).mp h))]; simp [cn, hb, e]
  · intro K
    show bX2_howManyAwakeAt_4 K (nI w) C (nI v) (nI (cn w c v 8)) (nI 8) = _
    unfold bX2_howManyAwakeAt_4
    rw [if_pos n88]
def co (w : Nat) (c : Nat → Nat) : Nat → Option (Nat × Nat)
  | 0 => none
  | i + 1 => if w.testBit i then (match co w c i with
    | none => some (c i, cn w c (c i) 8)
    | some q => if q.2 < cn w c (c i) 8 ∨ (cn w c (c i) 8 = q.2 ∧ c i < q.1) then some (c i, cn w c (c i) 8) else some q) else co w c i
theorem coS {w B : Nat} {c : Nat → Nat} (hB : ∀ k, k < 8 → c k ≤ B) : ∀ {i : Nat} {q : Nat × Nat}, i ≤ 8 → co w c i = some q → q.1 ≤ B ∧ 0 < q.2 ∧ q.2 ≤ 8
  | 0, q, _, h => by simp [co] at h
  | i + 1, q, hi, h => by
    unfold co at h
    by_cases hb : w.testBit i = true
    · rw [if_pos hb] at h
      have h1 := cn_pos (c := c) hb (show i < 8 by omega)
      have h2 := cn_le w c (c i) 8
      have h3 := hB i (by omega)
      cases h4 : co w c i with
      | none => rw [h4] at h; cases h; exact ⟨h3, h1, h2⟩
      | some q2 =>
        rw [h4] at h
        simp only at h
        split at h
        · cases h; exact ⟨h3, h1, h2⟩
        · cases h; exact coS hB (by omega) h4
    · rw [if_neg hb] at h
      exact coS hB (by omega) h
theorem coN {w : Nat} {c : Nat → Nat} : ∀ {i : Nat}, co w c i = none ↔ ∀ k, k < i → w.testBit k = false
  | 0 => by simp [co]
  | i + 1 => by
    have ih := coN (w := w) (c := c) (i := i)
    unfold co
    cases hb : w.testBit i with
    | true =>
      constructor
      · intro h
        simp only [if_true] at h
        cases h4 : co w c i with
        | none => rw [h4] at h; cases h
        | some q2 => rw [h4] at h; simp only at h; split at h <;> cases h
      · intro h; rw [h i (by omega)] at hb; cases hb
    | false =>
      rw [if_neg (by simp), ih]
      constructor
      · intro h k hk
        by_cases e : k = i
        · rw [e]; exact hb
        · exact h k (by omega)
      · intro h k hk; exact h k (by omega)
def coV (d : Nat) (o : Option (Nat × Nat)) : Nat := match o with
  | none => d
  | some q => q.1
def coM (o : Option (Nat × Nat)) : Nat := match o with
  | none => 0
  | some q => q.2
theorem c_common {w : Nat} {C : Nat → Int32} {c : Nat → Nat} (hw : w < 256) (hC : Row 8 1000000 C c) : fX2_commonestCount (nI w) C = some (nI (coV 0 (co w c 8))) := by
  have hB : ∀ k, k < 8 → c k ≤ 1000000 := fun k hk => (hC k hk).2
  unfold fX2_commonestCount
  refine loopF_run 8 (fun i => (nI (coV 0 (co w c i)), nI (coM (co w c i)), nI i)) _ ?_ ?_ (FU_gt (by decide))
  · intro i hi K
    show bX2_commonestCount_6 K (nI w) C (nI (coV 0 (co w c i))) (nI (coM (co w c i))) (nI i) = K (nI (coV 0 (co w c (i + 1))), nI (coM (co w c (i + 1))), nI (i + 1))
    unfold bX2_commonestCount_6 bX2_commonestCount_57
    obtain ⟨e1, b1⟩ := hC i hi
    rw [if_neg (n8 hi), c_isAwake hw hi, bnd_some, nI_1]
    cases hb : w.testBit i with
    | false => rw [if_pos (by simp)]; simp [co, hb]
    | true =>
      rw [if_neg (by simp)]
      simp only [ge0 hi, cl8 hi, e1, c_howMany hw hC (show c i < 2 ^ 31 by omega), bnd_some]
      have h1 := cn_pos (c := c) hb hi
      have h2 := cn_le w c (c i) 8
      cases h4 : co w c i with
      | none =>
        rw [if_pos (show nI (coM none) < nI (cn w c (c i) 8) from (nI_ltI (by decide) (by omega)).mpr h1)]
        simp [co, hb, h4, coV, coM]
      | some q =>
        obtain ⟨g1, g2, g3⟩ := coS hB (by omega) h4
        show (if nI q.2 < nI (cn w c (c i) 8) then _ else _) = _
        by_cases d1 : q.2 < cn w c (c i) 8
        · rw [if_pos ((nI_ltI (by omega) (by omega)).mpr d1)]
          simp [co, hb, h4, coV, coM, d1]
        · rw [if_neg (fun e => d1 ((nI_ltI (by omega) (by omega)).mp e))]
          show (if nI (cn w c (c i) 8) = nI q.2 then _ else _) = _
          by_cases d2 : cn w c (c i) 8 = q.2
          · rw [if_pos (by rw [d2])]
            show (if nI q.1 ≤ nI (c i) then _ else _) = _
            by_cases d3 : c i < q.1
            · rw [if_neg (fun e => by have := (nI_leI (by omega) (by omega)).mp e; omega)]
              simp [co, hb, h4, coV, coM, d2, d3]
            · rw [if_pos ((nI_leI (by omega) (by omega)).mpr (by omega))]
              simp [co, hb, h4, coV, coM, d2, d3]
          · rw [if_neg (fun e => d2 ((nI_eq (by omega) (by omega)).mp e))]
            simp [co, hb, h4, coV, coM, d2, d1]
  · intro K
    show bX2_commonestCount_6 K (nI w) C (nI (coV 0 (co w c 8))) (nI (coM (co w c 8))) (nI 8) = _
    unfold bX2_commonestCount_6
    rw [if_pos n88]
theorem m_common {w : Nat} {C : Nat → Int32} {c : Nat → Nat} (hw : w < 256) (hC : Row 8 1000000 C c) : fX10_common (nI w) C = some (nI (coV 100000000 (co w c 8))) := by
  have hB : ∀ k, k < 8 → c k ≤ 1000000 := fun k hk => (hC k hk).2
  unfold fX10_common
  refine loopF_run 8 (fun i => (nI (coV 100000000 (co w c i)), nI (coM (co w c i)), nI i)) _ ?_ ?_ (FU_gt (by decide))
  · intro i hi K
    show bX10_common_7 K (nI w) C (nI (coV 100000000 (co w c i))) (nI (coM (co w c i))) (nI i) = K (nI (coV 100000000 (co w c (i + 1))), nI (coM (co w c (i + 1))), nI (i + 1))
    unfold bX10_common_7
    obtain ⟨e1, b1⟩ := hC i hi
    rw [if_neg (n8 hi), m_has hw hi, bnd_some, nI_1]
    cases hb : w.testBit i with
    | false => rw [if_pos (by simp)]; simp [co, hb]
    | true =>
      rw [if_neg (by simp)]
      refine loopF_run 8 (fun j => (nI (coV 100000000 (co w c i)), nI (coM (co w c i)), nI i, nI (cn w c (c i) j), nI j)) _ ?_ ?_ (FU_gt (by decide))
      · intro j hj K2
        show bX10_common_30 K K2 (nI w) C (nI (coV 100000000 (co w c i))) (nI (coM (co w c i))) (nI i) (nI (cn w c (c i) j)) (nI j) = K2 (_, _, _, nI (cn w c (c i) (j + 1)), nI (j + 1))
        unfold bX10_common_30 bX10_common_72
        obtain ⟨e2, b2⟩ := hC j hj
        rw [if_neg (n8 hj), m_has hw hj, bnd_some, nI_1]
        cases hb2 : w.testBit j with
        | false => rw [if_pos (by simp), show nI (cn w c (c i) j) + 0 = nI (cn w c (c i) j) from Int32.add_zero _]; simp [cn, hb2]
        | true =>
          rw [if_neg (by simp)]
          simp only [ge0 hi, ge0 hj, cl8 hi, cl8 hj, e1, e2, nI_1]
          by_cases e : c j = c i
          · rw [if_pos (by rw [e])]; simp [cn, hb2, e]
          · rw [if_neg (fun h => e ((nI_eq (by omega) (by omega)).mp h)), show nI (cn w c (c i) j) + 0 = nI (cn w c (c i) j) from Int32.add_zero _]; simp [cn, hb2, e]
      · intro K2
        show bX10_common_30 K K2 (nI w) C (nI (coV 100000000 (co w c i))) (nI (coM (co w c i))) (nI i) (nI (cn w c (c i) 8)) (nI 8) = _
        unfold bX10_common_30 bX10_common_108 bX10_common_125
        rw [if_pos n88]
        simp only [ge0 hi, cl8 hi, e1, nI_1]
        have h1 := cn_pos (c := c) hb hi
        have h2 := cn_le w c (c i) 8
        have n10 : ¬ (1 : Int32) = 0 := by decide
        have n00 : (0 : Int32) = 0 := rfl
        simp only [if_neg n10, if_true]
        cases h4 : co w c i with
        | none =>
          rw [if_pos (show nI (coM none) < nI (cn w c (c i) 8) from (nI_ltI (by decide) (by omega)).mpr h1)]
          rw [if_neg (show ¬ nI (cn w c (c i) 8) ≤ nI (coM none) from fun e => by have := (nI_leI (b := 0) (by omega) (by decide)).mp e; omega)]
          simp [co, hb, h4, coV, coM]
        | some q =>
          obtain ⟨g1, g2, g3⟩ := coS hB (by omega) h4
          show (if nI q.2 < nI (cn w c (c i) 8) then (if nI (cn w c (c i) 8) ≤ nI q.2 then _ else _) else _) = _
          by_cases d1 : q.2 < cn w c (c i) 8
          · rw [if_pos ((nI_ltI (by omega) (by omega)).mpr d1), if_neg (fun e => by have := (nI_leI (by omega) (by omega)).mp e; omega)]
            simp [co, hb, h4, coV, coM, d1]
          · rw [if_neg (fun e => d1 ((nI_ltI (by omega) (by omega)).mp e))]
            have hle : nI (cn w c (c i) 8) ≤ nI (coM (some q)) := (nI_leI (by omega) (by show q.2 < _; omega)).mpr (by show _ ≤ q.2; omega)
            simp only [if_pos hle]
            show (if nI (cn w c (c i) 8) = nI q.2 then (if nI q.1 ≤ nI (c i) then _ else _) else _) = _
            by_cases d2 : cn w c (c i) 8 = q.2
            · rw [if_pos (by rw [d2])]
              by_cases d3 : c i < q.1
              · rw [if_neg (fun e => by have := (nI_leI (by omega) (by omega)).mp e; omega)]
                simp [co, hb, h4, coV, coM, d2, d3]
              · rw [if_pos ((nI_leI (by omega) (by omega)).mpr (by omega))]
                simp [co, hb, h4, coV, coM, d2, d3]
            · rw [if_neg (fun e => d2 ((nI_eq (by omega) (by omega)).mp e))]
              simp [co, hb, h4, coV, coM, d2, d1]
  · intro K
    show bX10_common_7 K (nI w) C (nI (coV 100000000 (co w c 8))) (nI (coM (co w c 8))) (nI 8) = _
    unfold bX10_common_7
    rw [if_pos n88]
