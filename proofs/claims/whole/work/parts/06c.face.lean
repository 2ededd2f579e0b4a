theorem loopF_cong {σ ρ : Type} {b1 b2 : (σ → Option ρ) → σ → Option ρ} (I : σ → Prop) (h : ∀ K1 K2 q, I q → (∀ q2, I q2 → K1 q2 = K2 q2) → b1 K1 q = b2 K2 q) : ∀ n q, I q → loopF b1 n q = loopF b2 n q
  | 0, _, _ => rfl
  | n + 1, q, hq => h _ _ q hq (fun q2 h2 => loopF_cong I h n q2 h2)
theorem loopF_tot {σ ρ : Type} {b : (σ → Option ρ) → σ → Option ρ} (I : σ → Prop) (μ : σ → Nat) (h : ∀ q, I q → ∀ K, (∀ q2, I q2 → μ q2 < μ q → ∃ r, K q2 = some r) → ∃ r, b K q = some r) : ∀ n q, I q → μ q < n → ∃ r, loopF b n q = some r
  | 0, _, _, h0 => by omega
  | n + 1, q, hq, hn => h q hq _ (fun q2 h2 hlt => loopF_tot I μ h n q2 h2 (by omega))
theorem r_say {n : Nat} {sg : Nat → Nat} {Q Q' : Nat → Int32} (hn : n ≤ 60) (hQ : R2 n 126 Q Q' sg) (a1 : Int32) : ∃ r n2 sg2 Q1 Q2, fX9_say (nI n) Q a1 = some (r, nI n2, Q1) ∧ fX10_say (nI n) Q' a1 = some (r, nI n2, Q2) ∧ n2 ≤ 60 ∧ R2 n2 126 Q1 Q2 sg2 := by
  unfold fX9_say fX10_say
  rcases win a1 33 126 (by decide) (by decide) with ⟨e1, e2⟩ | ⟨k, k1, k2, rfl, e1, e2⟩
  · rw [show fX9_isWithin a1 33 126 = some 0 from e1, show fX10_in a1 33 126 = some 0 from e2, bnd_some, bnd_some, if_pos rfl, if_pos rfl]
    exact ⟨_, n, sg, _, _, rfl, rfl, hn, hQ⟩
  · rw [show fX9_isWithin (nI k) 33 126 = some 1 from e1, show fX10_in (nI k) 33 126 = some 1 from e2, bnd_some, bnd_some, if_neg n10, if_neg n10]
    unfold fX5_add
    by_cases h : n = 60
    · subst h
      rw [if_neg (show ¬ nI 60 < 60 by decide), if_pos (show nI 60 = 60 from rfl), bnd_some]
      simp only [if_true]
      exact ⟨_, 60, sg, _, _, rfl, rfl, hn, hQ⟩
    · rw [if_pos (show nI n < 60 from nI_lt (b := 60) (by omega) (by decide)), if_neg (show ¬ nI n = 60 from ne_lit (d := 60) (by omega) (by decide) h), ge60 (by omega), ge60 (by omega), cl60 (by omega), bnd_some, nI_1]
      simp only [if_neg n10]
      refine ⟨_, n + 1, fun j => if j = n then k else sg j, _, _, rfl, rfl, by omega, ?_, ?_⟩
      · intro j hj
        by_cases d : j = n
        · subst d; rw [pk_us]; simp; omega
        · rw [pk_un d]; simp only [d, if_false]; exact hQ.1 j (by omega)
      · intro j hj
        by_cases d : j = n
        · subst d; rw [pk_us]; simp; omega
        · rw [pk_un d]; simp only [d, if_false]; exact hQ.2 j (by omega)
theorem r_state {T W h sh : Nat} {c p : Nat → Nat} {C C' : Nat → Int32} (hG : GH T W h sh p) (hC : R2 8 1000000 C C' c) (a1 a2 : Int32) : ∃ r, fX9_state (nI T) (nI W) C a1 a2 = some r ∧ fX10_state (nI T) (nI W) C' a1 a2 = some r := by
  obtain ⟨g1, g2, -⟩ := hG
  unfold fX9_state fX10_state
  rcases thr g1 a1 with ⟨e1, e2⟩ | ⟨j, hj, rfl, hb, e1, e2⟩
  · rw [e1, e2, bnd_some, bnd_some, if_pos rfl, if_pos rfl]
    exact ⟨_, rfl, rfl⟩
  · rw [e1, e2, bnd_some, bnd_some, if_neg n10, if_neg n10]
    rcases win a2 0 1 (by decide) (by decide) with ⟨e1, e2⟩ | ⟨k, k1, k2, rfl, e1, e2⟩
    · rw [show fX9_isWithin a2 0 1 = some 0 from e1, bnd_some, if_pos rfl]
      have n0' : ¬ a2 = 0 := fun e => by subst e; cases e1
      have n1' : ¬ a2 = 1 := fun e => by subst e; cases e1
      rw [if_neg n0', if_neg n1']
      exact ⟨_, rfl, rfl⟩
    · rw [show fX9_isWithin (nI k) 0 1 = some 1 from e1, bnd_some, if_neg n10]
      unfold fX2_tell
      by_cases hk : k = 0
      · subst hk
        rw [if_pos (show nI 0 = 0 from rfl), if_pos (show nI 0 = 0 from rfl), ge0 hj, ge0 hj, cl8 hj, bnd_some, (hC.1 j hj).1, (hC.2 j hj).1]
        exact ⟨_, rfl, rfl⟩
      · have : k = 1 := by omega
        subst this
        rw [if_neg (show ¬ nI 1 = 0 by decide), if_neg (show ¬ nI 1 = 0 by decide), if_pos (show nI 1 = 1 from rfl), c_isAwake g2 hj, bnd_some, bt_b W g2 j hj]
        cases W.testBit j <;> exact ⟨_, rfl, rfl⟩
theorem r_told {T W h sh : Nat} {p : Nat → Nat} {P P' : Nat → Int32} {n s : Int32} (hG : GH T W h sh p) (hP : R2 8 9 P P' p) (a1 : Int32) : ∃ r, fX9_told (nI T) (nI W) (nI h) (nI sh) P n s a1 = some r ∧ fX10_told (nI T) (nI W) (nI h) (nI sh) s n P' a1 = some r := by
  have g1 := hG.1
  unfold fX9_told fX10_told
  by_cases h10 : a1 < 10
  · rw [if_pos h10]
    have hno : fX2_isThere (nI T) (a1 - 10) = some 0 := by
      rcases thr g1 (a1 - 10) with ⟨e, -⟩ | ⟨k, hk, e, -⟩
      · exact e
      · exfalso
        have e2 : a1 = nI k + 10 := Int32.sub_eq_iff_eq_add.mp e
        rw [show nI k + 10 = nI (k + 10) from nI_add k 10] at e2
        rw [e2] at h10
        have := (nI_ltI (b := 10) (by omega) (by decide)).mp h10
        omega
    rw [hno, bnd_some, if_pos rfl]
    by_cases d0 : a1 = 0
    · rw [if_pos d0]; exact ⟨_, rfl, rfl⟩
    · rw [if_neg d0]
      by_cases d1 : a1 = 1
      · rw [if_pos d1]; exact ⟨_, rfl, rfl⟩
      · rw [if_neg d1]
        by_cases d2 : a1 = 2
        · rw [if_pos d2]; exact ⟨_, rfl, rfl⟩
        · rw [if_neg d2]
          by_cases d3 : a1 = 3
          · rw [if_pos d3]; exact ⟨_, rfl, rfl⟩
          · rw [if_neg d3]
            by_cases d4 : a1 = 4
            · rw [if_pos d4]; exact ⟨_, rfl, rfl⟩
            · rw [if_neg d4]
              by_cases d5 : a1 = 5
              · rw [if_pos d5]; exact ⟨_, rfl, rfl⟩
              · rw [if_neg d5]; exact ⟨_, rfl, rfl⟩
  · rw [if_neg h10]
    have ne : ∀ d : Int32, d < 10 → ¬ a1 = d := fun d hd e => h10 (e ▸ hd)
    rw [if_neg (ne 0 (by decide)), if_neg (ne 1 (by decide)), if_neg (ne 2 (by decide)), if_neg (ne 3 (by decide)), if_neg (ne 4 (by decide)), if_neg (ne 5 (by decide))]
    rcases thr g1 (a1 - 10) with ⟨e1, e2⟩ | ⟨k, hk, e, hb, e1, e2⟩
    · rw [e1, e2, bnd_some, bnd_some, if_pos rfl, if_pos rfl]; exact ⟨_, rfl, rfl⟩
    · rw [e1, e2, bnd_some, bnd_some, if_neg n10, if_neg n10, e, ge0 hk, ge0 hk, cl8 hk, (hP.1 k hk).1, (hP.2 k hk).1]
      exact ⟨_, rfl, rfl⟩
theorem r_ahead {T W h sh : Nat} {c p : Nat → Nat} {C C' N : Nat → Int32} {u : Int32} (hG : GH T W h sh p) (hC : R2 8 1000000 C C' c) : ∃ r q, fX9_ahead (nI W) C = some r ∧ fX10_ahead (nI W) u C' N = some (r, q) := by
  have g2 := hG.2.1
  obtain ⟨N2, e, hN⟩ := m_asNow (wI := nI W) (up := u) (C := C') (N := N)
  unfold fX9_ahead fX10_ahead
  rw [c_foremost g2 hC.1, e, bnd_some, bnd_some]
  simp only
  rw [m_first g2 (hC.2.same hN), bnd_some]
  cases h1 : fo W c 8 with
  | none => rw [oI_n, if_pos rfl]; exact ⟨_, _, rfl, rfl⟩
  | some b => rw [oI_s, if_neg (nI_m1 (by have := (fo_some h1).1; omega))]; exact ⟨_, _, rfl, rfl⟩
theorem r_differ {T W h sh : Nat} {c p : Nat → Nat} {C C' N : Nat → Int32} {u : Int32} (hG : GH T W h sh p) (hC : R2 8 1000000 C C' c) : ∃ r q, fX9_differ (nI W) C = some r ∧ fX10_differ (nI W) u C' N = some (r, q) := by
  have g2 := hG.2.1
  obtain ⟨N2, e, hN⟩ := m_asNow (wI := nI W) (up := u) (C := C') (N := N)
  unfold fX9_differ fX10_differ
  rw [c_spread g2 hC.1, e, bnd_some, bnd_some]
  simp only
  rw [m_spread g2 (hC.2.same hN), bnd_some]
  exact ⟨_, _, rfl, rfl⟩
def alk (w : Nat) (c : Nat → Nat) (k q : Nat) : Prop := w.testBit k = true ∧ w.testBit q = true ∧ c k = c q
theorem r_alike {T W h sh : Nat} {c p : Nat → Nat} {C C' : Nat → Int32} (hG : GH T W h sh p) (hC : R2 8 1000000 C C' c) (a1 : Int32) : ∃ r, fX9_alike (nI W) C a1 = some r ∧ fX10_alike (nI W) C' a1 = some r := by
  have g2 := hG.2.1
  have dec : ∀ k q, Decidable (alk W c k q) := fun k q => by unfold alk; infer_instance
  have cin : ∀ (K4 : Int32 × Int32 → Option Int32) (K15 : Int32 × Int32 × Int32 → Option Int32) (v : Int32) (k q : Nat), k < 8 → q < 8 → bX9_alike_15 K4 K15 (nI W) C a1 v (nI k) (nI q) = @ite _ (alk W c k q) (dec k q) (if v = a1 then some (10 * nI k + nI q) else K15 (v + 1, nI k, nI (q + 1))) (K15 (v, nI k, nI (q + 1))) := by
    intro K4 K15 v k q hk hq
    obtain ⟨e1, b1⟩ := hC.1 k hk
    obtain ⟨e2, b2⟩ := hC.1 q hq
    unfold bX9_alike_15 fX2_areAwakeAtOneNumber
    rw [if_neg (n8 hq), c_isAwake g2 hk, bnd_some, c_isAwake g2 hq, bnd_some, nI_1]
    simp only [bool_if, ge0 hk, ge0 hq, cl8 hk, cl8 hq, e1, e2]
    cases h1 : W.testBit k with
    | false => rw [if_pos rfl, bnd_some, if_pos rfl, if_neg (fun e => by have := e.1; rw [h1] at this; cases this)]
    | true =>
      rw [if_neg (by simp)]
      cases h2 : W.testBit q with
      | false => rw [if_pos rfl, bnd_some, if_pos rfl, if_neg (fun e => by have := e.2.1; rw [h2] at this; cases this)]
      | true =>
        rw [if_neg (by simp)]
        by_cases h3 : c k = c q
        · rw [if_pos (show nI (c k) = nI (c q) by rw [h3]), bnd_some, if_neg n10, if_pos (show alk W c k q from ⟨h1, h2, h3⟩)]
        · rw [if_neg (fun e => h3 ((nI_eq (by omega) (by omega)).mp e)), bnd_some, if_pos rfl, if_neg (fun e => h3 e.2.2)]
  have min' : ∀ (K4 : Int32 × Int32 → Option Int32) (K15 : Int32 × Int32 × Int32 → Option Int32) (v : Int32) (k q : Nat), k < 8 → q < 8 → bX10_alike_15 K4 K15 (nI W) C' a1 v (nI k) (nI q) = @ite _ (alk W c k q) (dec k q) (if v = a1 then some (10 * nI k + nI q) else K15 (v + 1, nI k, nI (q + 1))) (K15 (v, nI k, nI (q + 1))) := by
    intro K4 K15 v k q hk hq
    obtain ⟨e1, b1⟩ := hC.2 k hk
    obtain ⟨e2, b2⟩ := hC.2 q hq
    unfold bX10_alike_15
    rw [if_neg (n8 hq), m_has g2 hk, bnd_some, m_has g2 hq, bnd_some, nI_1]
    simp only [bool_if, ge0 hk, ge0 hq, cl8 hk, cl8 hq, e1, e2]
    cases h1 : W.testBit k with
    | false => rw [if_pos rfl, if_neg (fun e => by have := e.1; rw [h1] at this; cases this)]
    | true =>
      rw [if_neg (by simp)]
      cases h2 : W.testBit q with
      | false => rw [if_pos rfl, if_neg (fun e => by have := e.2.1; rw [h2] at this; cases this)]
      | true =>
        rw [if_neg (by simp)]
        by_cases h3 : c k = c q
        · rw [if_pos (show nI (c k) = nI (c q) by rw [h3]), if_pos (show alk W c k q from ⟨h1, h2, h3⟩)]
        · rw [if_neg (fun e => h3 ((nI_eq (by omega) (by omega)).mp e)), if_neg (fun e => h3 e.2.2)]
  have heq : fX9_alike (nI W) C a1 = fX10_alike (nI W) C' a1 := by
    unfold fX9_alike fX10_alike
    refine loopF_cong (fun q => ∃ k, k ≤ 8 ∧ q.2 = nI k) ?_ FU (0, 0) ⟨0, by omega, rfl⟩
    rintro K1 K2 ⟨v, x⟩ ⟨k, hk, rfl⟩ hK
    show bX9_alike_4 K1 (nI W) C a1 v (nI k) = bX10_alike_4 K2 (nI W) C' a1 v (nI k)
    unfold bX9_alike_4 bX10_alike_4
    by_cases h8 : k = 8
    · subst h8; rw [if_pos n88, if_pos n88]
    · have hk8 : k < 8 := by omega
      rw [if_neg (n8 hk8), if_neg (n8 hk8), nI_1]
      refine loopF_cong (fun q => q.2.1 = nI k ∧ ∃ j, j ≤ 8 ∧ q.2.2 = nI j) ?_ FU (v, nI k, nI (k + 1)) ⟨rfl, k + 1, by omega, rfl⟩
      rintro L1 L2 ⟨v2, x2, x3⟩ ⟨h1, j, hj, h3⟩ hL
      simp only at h1 h3
      subst h1; subst h3
      show bX9_alike_15 K1 L1 (nI W) C a1 v2 (nI k) (nI j) = bX10_alike_15 K2 L2 (nI W) C' a1 v2 (nI k) (nI j)
      by_cases j8 : j = 8
      · subst j8
        unfold bX9_alike_15 bX10_alike_15
        rw [if_pos n88, if_pos n88, nI_1]
        exact hK _ ⟨k + 1, by omega, rfl⟩
      · rw [cin K1 L1 v2 k j hk8 (by omega), min' K2 L2 v2 k j hk8 (by omega)]
        rw [hL (v2 + 1, nI k, nI (j + 1)) ⟨rfl, j + 1, by omega, rfl⟩, hL (v2, nI k, nI (j + 1)) ⟨rfl, j + 1, by omega, rfl⟩]
  have htot : ∃ r, fX9_alike (nI W) C a1 = some r := by
    unfold fX9_alike
    refine loopF_tot (fun q => ∃ k, k ≤ 8 ∧ q.2 = nI k) (fun q => 8 - q.2.toNatClampNeg) ?_ FU (0, 0) ⟨0, by omega, rfl⟩ (FU_gt (by decide))
    rintro ⟨v, x⟩ ⟨k, hk, rfl⟩ K hK
    show ∃ r, bX9_alike_4 K (nI W) C a1 v (nI k) = some r
    unfold bX9_alike_4
    by_cases h8 : k = 8
    · subst h8; rw [if_pos n88]; split <;> exact ⟨_, rfl⟩
    · have hk8 : k < 8 := by omega
      rw [if_neg (n8 hk8), nI_1]
      refine loopF_tot (fun q => q.2.1 = nI k ∧ ∃ j, j ≤ 8 ∧ q.2.2 = nI j) (fun q => 8 - q.2.2.toNatClampNeg) ?_ FU (v, nI k, nI (k + 1)) ⟨rfl, k + 1, by omega, rfl⟩ (FU_gt (by omega))
      rintro ⟨v2, x2, x3⟩ ⟨h1, j, hj, h3⟩ L hL
      simp only at h1 h3
      subst h1; subst h3
      show ∃ r, bX9_alike_15 K L (nI W) C a1 v2 (nI k) (nI j) = some r
      by_cases j8 : j = 8
      · subst j8
        unfold bX9_alike_15
        rw [if_pos n88, nI_1]
        exact hK (v2, nI (k + 1)) ⟨k + 1, by omega, rfl⟩ (by show 8 - (nI (k + 1)).toNatClampNeg < 8 - (nI k).toNatClampNeg; rw [nI_clamp (by omega), nI_clamp (by omega)]; omega)
      · rw [cin K L v2 k j hk8 (by omega)]
        have hlt : 8 - (nI (j + 1)).toNatClampNeg < 8 - (nI j).toNatClampNeg := by rw [nI_clamp (by omega), nI_clamp (by omega)]; omega
        split
        · split
          · exact ⟨_, rfl⟩
          · exact hL _ ⟨rfl, j + 1, by omega, rfl⟩ hlt
        · exact hL _ ⟨rfl, j + 1, by omega, rfl⟩ hlt
  obtain ⟨r, hr⟩ := htot
  exact ⟨r, hr, by rw [← heq]; exact hr⟩
