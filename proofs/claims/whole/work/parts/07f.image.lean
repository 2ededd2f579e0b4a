/-! images -/
theorem nar01 {z : Int32} (h : z = 0 ∨ z = 1) : vp_nar .boolean z = z := by rcases h with rfl | rfl <;> rfl
theorem c_sightsCopy {m : Nat} {s0 : Int32} {M0 B0 Z0 M B Z : Nat → Int32} (hm : m ≤ 8) (hz : ∀ i, i < m → Z i = 0 ∨ Z i = 1) : ∃ M2 B2 Z2, fX6_copyFrom s0 M0 B0 Z0 (nI m) M B Z = some (nI m, M2, B2, Z2) ∧ ∀ i, i < m → M2 i = M i ∧ B2 i = B i ∧ Z2 i = Z i := by
  unfold fX6_copyFrom
  refine loopF_inv m (fun i q => ∃ M2 B2 Z2, q = (nI i, nI m, M2, B2, Z2) ∧ ∀ k, k < i → M2 k = M k ∧ B2 k = B k ∧ Z2 k = Z k) (fun y => ∃ M2 B2 Z2 : Nat → Int32, y = some (nI m, M2, B2, Z2) ∧ ∀ i, i < m → M2 i = M i ∧ B2 i = B i ∧ Z2 i = Z i) ?_ ?_ FU _ (FU_gt (by omega)) ⟨M0, B0, Z0, rfl, fun k hk => by omega⟩
  · rintro i q hi ⟨M2, B2, Z2, rfl, h⟩
    have hi8 : i < 8 := by omega
    refine ⟨(nI (i + 1), nI m, upd M2 i (M i), upd B2 i (B i), upd Z2 i (Z i)), ⟨_, _, _, rfl, fun k hk => ?_⟩, fun K => ?_⟩
    · by_cases e : k = i
      · subst e; exact ⟨pk_us, pk_us, pk_us⟩
      · rw [pk_un e, pk_un e, pk_un e]; exact h k (by omega)
    · show bX6_copyFrom_10 K M B Z (nI i) (nI m) M2 B2 Z2 = _
      unfold bX6_copyFrom_10
      rw [if_neg (fun e => by have := (nI_leI (by omega) (by omega)).mp e; omega)]
      simp only [ge0 hi8, cl8 hi8, nI_1, nar01 (hz i hi)]
  · rintro q ⟨M2, B2, Z2, rfl, h⟩ K
    refine ⟨M2, B2, Z2, ?_, h⟩
    show bX6_copyFrom_10 K M B Z (nI m) (nI m) M2 B2 Z2 = _
    unfold bX6_copyFrom_10
    rw [if_pos (Int32.le_refl _)]
abbrev ImgC : Type := Int32 × Int32 × Int32 × Int32 × Int32 × (Nat → Int32) × (Nat → Int32) × Int32 × (Nat → Int32) × (Nat → Int32) × (Nat → Int32)
def RIm (j : Nat) (q : ImgC) (I K : Nat → Int32) : Prop := (q.1 = 0 ∧ K j = 0) ∨ (q.1 = 1 ∧ K j = 1 ∧ ∃ (T W h sh m : Nat) (c p mk bk : Nat → Nat) (bw : Nat → Bool), GH T W h sh p ∧ q.2.1 = nI T ∧ q.2.2.1 = nI W ∧ q.2.2.2.1 = nI h ∧ q.2.2.2.2.1 = nI sh ∧ Row 8 1000000 q.2.2.2.2.2.1 c ∧ Row 8 9 q.2.2.2.2.2.2.1 p ∧ q.2.2.2.2.2.2.2.1 = nI m ∧ (∀ k, k < 8 → I (60 * j + k) = nI (c k) ∧ I (60 * j + 8 + k) = nI (p k)) ∧ I (60 * j + 50) = nI T ∧ I (60 * j + 51) = nI W ∧ I (60 * j + 52) = nI h ∧ I (60 * j + 53) = nI sh ∧ I (60 * j + 54) = nI m ∧ RS m mk bk bw q.2.2.2.2.2.2.2.2.1 q.2.2.2.2.2.2.2.2.2.1 q.2.2.2.2.2.2.2.2.2.2 (fun k => I (60 * j + 16 + k)))
theorem RIm.other {j : Nat} {q : ImgC} {I K I2 K2 : Nat → Int32} (h : RIm j q I K) (hI : ∀ k, 60 * j ≤ k → k < 60 * j + 60 → I2 k = I k) (hK : K2 j = K j) : RIm j q I2 K2 := by
  rcases h with ⟨h1, h2⟩ | ⟨h1, h2, T, W, hh, sh, m, c, p, mk, bk, bw, g, a1, a2, a3, a4, a5, a6, a7, a8, a9, a10, a11, a12, a13, a14⟩
  · exact Or.inl ⟨h1, by rw [hK]; exact h2⟩
  · refine Or.inr ⟨h1, by rw [hK]; exact h2, T, W, hh, sh, m, c, p, mk, bk, bw, g, a1, a2, a3, a4, a5, a6, a7, fun k hk => ?_, ?_, ?_, ?_, ?_, ?_, ?_⟩
    · rw [hI _ (by omega) (by omega), hI _ (by omega) (by omega)]; exact a8 k hk
    · rw [hI _ (by omega) (by omega)]; exact a9
    · rw [hI _ (by omega) (by omega)]; exact a10
    · rw [hI _ (by omega) (by omega)]; exact a11
    · rw [hI _ (by omega) (by omega)]; exact a12
    · rw [hI _ (by omega) (by omega)]; exact a13
    · refine ⟨a14.1, fun i hi => ?_⟩
      obtain ⟨q1, q2, q3, q4, q5, q6, q7, q8⟩ := a14.2 i hi
      have := a14.1
      refine ⟨q1, q2, q3, q4, q5, ?_, ?_, ?_⟩
      · show I2 (60 * j + 16 + 3 * i) = _
        rw [hI _ (by omega) (by omega)]; exact q6
      · show I2 (60 * j + 16 + (3 * i + 1)) = _
        rw [hI _ (by omega) (by omega)]; exact q7
      · show I2 (60 * j + 16 + (3 * i + 2)) = _
        rw [hI _ (by omega) (by omega)]; exact q8
theorem ge120 {α : Type} {i : Nat} (h : i < 120) (x : Option α) : gIn (nI i) 120 x = x := gIn_ok (vp_in_nI h (by decide))
theorem ge24 {α : Type} {i : Nat} (h : i < 24) (x : Option α) : gIn (nI i) 24 x = x := gIn_ok (vp_in_nI h (by decide))
theorem ge2 {α : Type} {i : Nat} (h : i < 2) (x : Option α) : gIn (nI i) 2 x = x := gIn_ok (vp_in_nI h (by decide))
theorem clN {i : Nat} (h : i < 1000) : (nI i).toNatClampNeg = i := nI_clamp (by omega)
def ImgP (n : Nat) (th aw st sp sz : Int32) (C P S I K : Nat → Int32) (y : Option (Int32 × (Nat → Int32) × (Nat → Int32))) : Prop := ∃ (I2 K2 : Nat → Int32), y = some (1, I2, K2) ∧ (∀ k, k < 8 → I2 (60 * n + k) = C k ∧ I2 (60 * n + 8 + k) = P k) ∧ (∀ k, k < 24 → I2 (60 * n + 16 + k) = S k) ∧ I2 (60 * n + 50) = th ∧ I2 (60 * n + 51) = aw ∧ I2 (60 * n + 52) = st ∧ I2 (60 * n + 53) = sp ∧ I2 (60 * n + 54) = sz ∧ (∀ k, (k < 60 * n ∨ 60 * n + 60 ≤ k) → I2 k = I k) ∧ K2 n = 1 ∧ ∀ j, j ≠ n → K2 j = K j
theorem m_image {n : Nat} {th aw st sp sz : Int32} {C P S I K : Nat → Int32} (hn : n < 2) : ImgP n th aw st sp sz C P S I K (fX10_image th aw st sp sz C P S I K (nI n)) := by
  unfold fX10_image
  have ein := m_in (a := n) (l := 0) (h := 1) (by omega) (by decide) (by decide)
  rw [if_pos (by omega)] at ein
  rw [show fX10_in (nI n) 0 1 = some 1 from ein, bnd_some, if_neg n10, show (60 : Int32) * nI n = nI (60 * n) from pk_mul 60 n]
  refine loopF_inv 8 (fun i q => ∃ F, q = (nI (60 * n), nI i, F, K) ∧ (∀ k, k < i → F (60 * n + k) = C k ∧ F (60 * n + 8 + k) = P k) ∧ (∀ k, (k < 60 * n ∨ 60 * n + 60 ≤ k) → F k = I k)) (ImgP n th aw st sp sz C P S I K) ?_ ?_ FU _ (FU_gt (by decide)) ⟨I, rfl, fun k hk => by omega, fun _ _ => rfl⟩
  · rintro i q hi ⟨F, rfl, h1, h2⟩
    refine ⟨(nI (60 * n), nI (i + 1), upd (upd F (60 * n + i) (C i)) (60 * n + 8 + i) (P i), K), ⟨_, rfl, fun k hk => ?_, fun k hk => ?_⟩, fun L => ?_⟩
    · by_cases e : k = i
      · subst e
        exact ⟨by rw [pk_un (by omega), pk_us], pk_us⟩
      · have := h1 k (by omega)
        exact ⟨by rw [pk_un (by omega), pk_un (by omega)]; exact this.1, by rw [pk_un (by omega), pk_un (by omega)]; exact this.2⟩
    · rw [pk_un (by omega), pk_un (by omega)]; exact h2 k hk
    · show bX10_image_19 L th aw st sp sz C P S (nI n) (nI (60 * n)) (nI i) F K = _
      unfold bX10_image_19
      rw [if_neg (n8 hi)]
      have e8 : nI (60 * n) + 8 = nI (60 * n + 8) := nI_add (60 * n) 8
      simp only [ge0 hi, cl8 hi, nI_1, nI_add, e8, ge120 (show 60 * n + i < 120 by omega), ge120 (show 60 * n + 8 + i < 120 by omega), clN (show 60 * n + i < 1000 by omega), clN (show 60 * n + 8 + i < 1000 by omega)]
  · rintro q ⟨F, rfl, h1, h2⟩ L
    show ImgP n th aw st sp sz C P S I K (bX10_image_19 L th aw st sp sz C P S (nI n) (nI (60 * n)) (nI 8) F K)
    unfold bX10_image_19
    rw [if_pos n88]
    refine loopF_inv 24 (fun i q => ∃ G, q = (nI (60 * n), nI i, G, K) ∧ (∀ k, k < 8 → G (60 * n + k) = C k ∧ G (60 * n + 8 + k) = P k) ∧ (∀ k, k < i → G (60 * n + 16 + k) = S k) ∧ (∀ k, (k < 60 * n ∨ 60 * n + 60 ≤ k) → G k = I k)) (ImgP n th aw st sp sz C P S I K) ?_ ?_ FU _ (FU_gt (by decide)) ⟨F, rfl, h1, fun k hk => by omega, h2⟩
    · rintro i q hi ⟨G, rfl, k1, k2, k3⟩
      refine ⟨(nI (60 * n), nI (i + 1), upd G (60 * n + 16 + i) (S i), K), ⟨_, rfl, fun k hk => ?_, fun k hk => ?_, fun k hk => ?_⟩, fun L2 => ?_⟩
      · rw [pk_un (by omega), pk_un (by omega)]; exact k1 k hk
      · by_cases e : k = i
        · subst e; exact pk_us
        · rw [pk_un (by omega)]; exact k2 k (by omega)
      · rw [pk_un (by omega)]; exact k3 k hk
      · show bX10_image_64 L2 th aw st sp sz S (nI n) (nI (60 * n)) (nI i) G K = _
        unfold bX10_image_64
        rw [if_neg (show ¬ (24 : Int32) ≤ nI i from fun e => by have := (nI_leI (a := 24) (by decide) (by omega)).mp e; omega)]
        have e16 : nI (60 * n) + 16 = nI (60 * n + 16) := nI_add (60 * n) 16
        simp only [ge24 hi, clN (show i < 1000 by omega), nI_1, nI_add, e16, ge120 (show 60 * n + 16 + i < 120 by omega), clN (show 60 * n + 16 + i < 1000 by omega)]
    · rintro q ⟨G, rfl, k1, k2, k3⟩ L2
      show ImgP n th aw st sp sz C P S I K (bX10_image_64 L2 th aw st sp sz S (nI n) (nI (60 * n)) (nI 24) G K)
      unfold bX10_image_64
      rw [if_pos (show (24 : Int32) ≤ nI 24 by decide)]
      have e50 : nI (60 * n) + 50 = nI (60 * n + 50) := nI_add (60 * n) 50
      have e51 : nI (60 * n) + 51 = nI (60 * n + 51) := nI_add (60 * n) 51
      have e52 : nI (60 * n) + 52 = nI (60 * n + 52) := nI_add (60 * n) 52
      have e53 : nI (60 * n) + 53 = nI (60 * n + 53) := nI_add (60 * n) 53
      have e54 : nI (60 * n) + 54 = nI (60 * n + 54) := nI_add (60 * n) 54
      simp only [e50, e51, e52, e53, e54, ge2 hn, ge120 (show 60 * n + 50 < 120 by omega), ge120 (show 60 * n + 51 < 120 by omega), ge120 (show 60 * n + 52 < 120 by omega), ge120 (show 60 * n + 53 < 120 by omega), ge120 (show 60 * n + 54 < 120 by omega), clN (show 60 * n + 50 < 1000 by omega), clN (show 60 * n + 51 < 1000 by omega), clN (show 60 * n + 52 < 1000 by omega), clN (show 60 * n + 53 < 1000 by omega), clN (show 60 * n + 54 < 1000 by omega), clN (show n < 1000 by omega)]
      refine ⟨_, _, rfl, fun k hk => ?_, fun k hk => ?_, ?_, ?_, ?_, ?_, ?_, fun k hk => ?_, ?_, fun j hj => ?_⟩
      · rw [pk_un (by omega), pk_un (by omega), pk_un (by omega), pk_un (by omega), pk_un (by omega), pk_un (by omega), pk_un (by omega), pk_un (by omega), pk_un (by omega), pk_un (by omega)]; exact k1 k hk
      · rw [pk_un (by omega), pk_un (by omega), pk_un (by omega), pk_un (by omega), pk_un (by omega)]; exact k2 k hk
      · rw [pk_un (by omega), pk_un (by omega), pk_un (by omega), pk_un (by omega), pk_us]
      · rw [pk_un (by omega), pk_un (by omega), pk_un (by omega), pk_us]
      · rw [pk_un (by omega), pk_un (by omega), pk_us]
      · rw [pk_un (by omega), pk_us]
      · exact pk_us
      · rw [pk_un (by omega), pk_un (by omega), pk_un (by omega), pk_un (by omega), pk_un (by omega)]; exact k3 k hk
      · rw [pk_us]; rfl
      · exact pk_un hj
def ResP (n : Nat) (I : Nat → Int32) (y : Option (Int32 × Int32 × Int32 × Int32 × Int32 × Int32 × (Nat → Int32) × (Nat → Int32) × (Nat → Int32))) : Prop := ∃ (C2 P2 S2 : Nat → Int32), y = some (1, I (60 * n + 50), I (60 * n + 51), I (60 * n + 52), I (60 * n + 53), I (60 * n + 54), C2, P2, S2) ∧ (∀ k, k < 8 → C2 k = I (60 * n + k) ∧ P2 k = I (60 * n + 8 + k)) ∧ ∀ k, k < 24 → S2 k = I (60 * n + 16 + k)
theorem m_restore {n : Nat} {th aw st sp sz : Int32} {C P S I K : Nat → Int32} (hn : n < 2) (hk : K n = 1) : ResP n I (fX10_restore th aw st sp sz C P S I K (nI n)) := by
  unfold fX10_restore
  have ein := m_in (a := n) (l := 0) (h := 1) (by omega) (by decide) (by decide)
  rw [if_pos (by omega)] at ein
  rw [show fX10_in (nI n) 0 1 = some 1 from ein, bnd_some, if_neg n10, ge2 hn, clN (by omega), hk, if_neg n10, show (60 : Int32) * nI n = nI (60 * n) from pk_mul 60 n]
  refine loopF_inv 8 (fun i q => ∃ F G, q = (nI (60 * n), nI i, th, aw, st, sp, sz, F, G, S) ∧ ∀ k, k < i → F k = I (60 * n + k) ∧ G k = I (60 * n + 8 + k)) (ResP n I) ?_ ?_ FU _ (FU_gt (by decide)) ⟨C, P, rfl, fun k hk => by omega⟩
  · rintro i q hi ⟨F, G, rfl, h1⟩
    refine ⟨(nI (60 * n), nI (i + 1), th, aw, st, sp, sz, upd F i (I (60 * n + i)), upd G i (I (60 * n + 8 + i)), S), ⟨_, _, rfl, fun k hk => ?_⟩, fun L => ?_⟩
    · by_cases e : k = i
      · subst e; exact ⟨pk_us, pk_us⟩
      · rw [pk_un e, pk_un e]; exact h1 k (by omega)
    · show bX10_restore_31 L I (nI (60 * n)) (nI i) th aw st sp sz F G S = _
      unfold bX10_restore_31
      rw [if_neg (n8 hi)]
      have e8 : nI (60 * n) + 8 = nI (60 * n + 8) := nI_add (60 * n) 8
      simp only [ge0 hi, cl8 hi, nI_1, nI_add, e8, ge120 (show 60 * n + i < 120 by omega), ge120 (show 60 * n + 8 + i < 120 by omega), clN (show 60 * n + i < 1000 by omega), clN (show 60 * n + 8 + i < 1000 by omega)]
  · rintro q ⟨F, G, rfl, h1⟩ L
    show ResP n I (bX10_restore_31 L I (nI (60 * n)) (nI 8) th aw st sp sz F G S)
    unfold bX10_restore_31
    rw [if_pos n88]
    refine loopF_inv 24 (fun i q => ∃ E, q = (nI (60 * n), nI i, th, aw, st, sp, sz, F, G, E) ∧ ∀ k, k < i → E k = I (60 * n + 16 + k)) (ResP n I) ?_ ?_ FU _ (FU_gt (by decide)) ⟨S, rfl, fun k hk => by omega⟩
    · rintro i q hi ⟨E, rfl, k1⟩
      refine ⟨(nI (60 * n), nI (i + 1), th, aw, st, sp, sz, F, G, upd E i (I (60 * n + 16 + i))), ⟨_, rfl, fun k hk => ?_⟩, fun L2 => ?_⟩
      · by_cases e : k = i
        · subst e; exact pk_us
        · rw [pk_un e]; exact k1 k (by omega)
      · show bX10_restore_76 L2 I (nI (60 * n)) (nI i) th aw st sp sz F G E = _
        unfold bX10_restore_76
        rw [if_neg (show ¬ (24 : Int32) ≤ nI i from fun e => by have := (nI_leI (a := 24) (by decide) (by omega)).mp e; omega)]
        have e16 : nI (60 * n) + 16 = nI (60 * n + 16) := nI_add (60 * n) 16
        simp only [ge24 hi, clN (show i < 1000 by omega), nI_1, nI_add, e16, ge120 (show 60 * n + 16 + i < 120 by omega), clN (show 60 * n + 16 + i < 1000 by omega)]
    · rintro q ⟨E, rfl, k1⟩ L2
      show ResP n I (bX10_restore_76 L2 I (nI (60 * n)) (nI 24) th aw st sp sz F G E)
      unfold bX10_restore_76
      rw [if_pos (show (24 : Int32) ≤ nI 24 by decide)]
      have e50 : nI (60 * n) + 50 = nI (60 * n + 50) := nI_add (60 * n) 50
      have e51 : nI (60 * n) + 51 = nI (60 * n + 51) := nI_add (60 * n) 51
      have e52 : nI (60 * n) + 52 = nI (60 * n + 52) := nI_add (60 * n) 52
      have e53 : nI (60 * n) + 53 = nI (60 * n + 53) := nI_add (60 * n) 53
      have e54 : nI (60 * n) + 54 = nI (60 * n + 54) := nI_add (60 * n) 54
      simp only [e50, e51, e52, e53, e54, ge120 (show 60 * n + 50 < 120 by omega), ge120 (show 60 * n + 51 < 120 by omega), ge120 (show 60 * n + 52 < 120 by omega), ge120 (show 60 * n + 53 < 120 by omega), ge120 (show 60 * n + 54 < 120 by omega), clN (show 60 * n + 50 < 1000 by omega), clN (show 60 * n + 51 < 1000 by omega), clN (show 60 * n + 52 < 1000 by omega), clN (show 60 * n + 53 < 1000 by omega), clN (show 60 * n + 54 < 1000 by omega)]
      exact ⟨F, G, E, rfl, h1, k1⟩
theorem RS.z {m : Nat} {mk bk : Nat → Nat} {bw : Nat → Bool} {M B Z S : Nat → Int32} (h : RS m mk bk bw M B Z S) : ∀ i, i < m → Z i = 0 ∨ Z i = 1 := by
  intro i hi
  obtain ⟨-, -, -, -, q5, -⟩ := h.2 i hi
  rw [q5]
  cases bw i
  · exact Or.inl rfl
  · exact Or.inr rfl
theorem RS.same {m : Nat} {mk bk : Nat → Nat} {bw : Nat → Bool} {M B Z S M2 B2 Z2 S2 : Nat → Int32} (h : RS m mk bk bw M B Z S) (h1 : ∀ i, i < m → M2 i = M i ∧ B2 i = B i ∧ Z2 i = Z i) (h2 : ∀ k, k < 24 → S2 k = S k) : RS m mk bk bw M2 B2 Z2 S2 := by
  refine ⟨h.1, fun i hi => ?_⟩
  obtain ⟨q1, q2, q3, q4, q5, q6, q7, q8⟩ := h.2 i hi
  obtain ⟨e1, e2, e3⟩ := h1 i hi
  have := h.1
  exact ⟨q1, q2, by rw [e1]; exact q3, by rw [e2]; exact q4, by rw [e3]; exact q5, by rw [h2 _ (by omega)]; exact q6, by rw [h2 _ (by omega)]; exact q7, by rw [h2 _ (by omega)]; exact q8⟩
/-- image(n), of the n-th image's cells alone -/
theorem r_keep {T W h sh m n : Nat} {c p mk bk : Nat → Nat} {bw : Nat → Bool} {C C' P P' M B Z S I K : Nat → Int32} (hG : GH T W h sh p) (hC : R2 8 1000000 C C' c) (hP : R2 8 9 P P' p) (hS : RS m mk bk bw M B Z S) (hn : n < 2) (q : ImgC) :
    ∃ q2 I2 K2, fX3_keep q.1 q.2.1 q.2.2.1 q.2.2.2.1 q.2.2.2.2.1 q.2.2.2.2.2.1 q.2.2.2.2.2.2.1 q.2.2.2.2.2.2.2.1 q.2.2.2.2.2.2.2.2.1 q.2.2.2.2.2.2.2.2.2.1 q.2.2.2.2.2.2.2.2.2.2 (nI T) (nI W) (nI h) (nI sh) C P (nI m) M B Z = some q2 ∧ fX10_image (nI T) (nI W) (nI h) (nI sh) (nI m) C' P' S I K (nI n) = some (1, I2, K2) ∧ RIm n q2 I2 K2 ∧ (∀ k, (k < 60 * n ∨ 60 * n + 60 ≤ k) → I2 k = I k) ∧ ∀ j, j ≠ n → K2 j = K j := by
  obtain ⟨I2, K2, e, i1, i2, i3, i4, i5, i6, i7, i8, i9, i10⟩ := m_image (th := nI T) (aw := nI W) (st := nI h) (sp := nI sh) (sz := nI m) (C := C') (P := P') (S := S) (I := I) (K := K) hn
  obtain ⟨M2, B2, Z2, es, hs⟩ := c_sightsCopy (s0 := q.2.2.2.2.2.2.2.1) (M0 := q.2.2.2.2.2.2.2.2.1) (B0 := q.2.2.2.2.2.2.2.2.2.1) (Z0 := q.2.2.2.2.2.2.2.2.2.2) hS.1 hS.z
  unfold fX3_keep fX2_copyFrom
  rw [bnd_some]
  simp only
  rw [es, bnd_some]
  refine ⟨_, I2, K2, rfl, e, ?_, i8, i10⟩
  refine Or.inr ⟨rfl, i9, T, W, h, sh, m, c, p, mk, bk, bw, hG, rfl, rfl, rfl, rfl, hC.1.cpy, hP.1.cpy, rfl, fun k hk => ?_, i3, i4, i5, i6, i7, hS.same hs i2⟩
  rw [(i1 k hk).1, (i1 k hk).2]
  exact ⟨(hC.2 k hk).1, (hP.2 k hk).1⟩
/-- restore(n), of the n-th image's cells alone -/
theorem r_give {n : Nat} {th aw st sp sz x1 x2 x3 x4 x5 : Int32} {C P S X6 X7 M B Z I K : Nat → Int32} (hn : n < 2) (q : ImgC) (hR : RIm n q I K) (h1 : q.1 ≠ 0) :
    ∃ T W h sh m c p mk bk bw C1 P1 M1 B1 Z1 C2 P2 S2, fX3_giveBack q.2.1 q.2.2.1 q.2.2.2.1 q.2.2.2.2.1 q.2.2.2.2.2.1 q.2.2.2.2.2.2.1 q.2.2.2.2.2.2.2.1 q.2.2.2.2.2.2.2.2.1 q.2.2.2.2.2.2.2.2.2.1 q.2.2.2.2.2.2.2.2.2.2 x1 x2 x3 x4 X6 X7 x5 M B Z = some (nI T, nI W, nI h, nI sh, C1, P1, nI m, M1, B1, Z1) ∧ fX10_restore th aw st sp sz C P S I K (nI n) = some (1, nI T, nI W, nI h, nI sh, nI m, C2, P2, S2) ∧ GH T W h sh p ∧ R2 8 1000000 C1 C2 c ∧ R2 8 9 P1 P2 p ∧ RS m mk bk bw M1 B1 Z1 S2 := by
  rcases hR with ⟨e0, -⟩ | ⟨e1, hk, T, W, h, sh, m, c, p, mk, bk, bw, g, a1, a2, a3, a4, a5, a6, a7, a8, a9, a10, a11, a12, a13, a14⟩
  · exact absurd e0 h1
  · obtain ⟨C2, P2, S2, er, r1, r2⟩ := m_restore (th := th) (aw := aw) (st := st) (sp := sp) (sz := sz) (C := C) (P := P) (S := S) (I := I) hn hk
    obtain ⟨M1, B1, Z1, es, hs⟩ := c_sightsCopy (s0 := x5) (M0 := M) (B0 := B) (Z0 := Z) a14.1 a14.z
    unfold fX3_giveBack fX2_copyFrom
    rw [bnd_some]
    simp only
    rw [a7, es, bnd_some, a1, a2, a3, a4]
    rw [a9, a10, a11, a12, a13] at er
    refine ⟨T, W, h, sh, m, c, p, mk, bk, bw, _, _, _, _, _, C2, P2, S2, rfl, er, g, ⟨a5.cpy, fun k hk => ?_⟩, ⟨a6.cpy, fun k hk => ?_⟩, a14.same hs (fun k hk => r2 k hk)⟩
    · rw [(r1 k hk).1, (a8 k hk).1]; exact ⟨rfl, (a5 k hk).2⟩
    · rw [(r1 k hk).2, (a8 k hk).2]; exact ⟨rfl, (a6 k hk).2⟩
