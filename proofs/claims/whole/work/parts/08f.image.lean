
theorem w01 : (2 : Int32) - 1 = nI 1 := by decide
/-- image(a1) -/
theorem r_image {T W h sh m : Nat} {c p mk bk : Nat → Nat} {bw : Nat → Bool} {C C' P P' M B Z S I K : Nat → Int32} (hG : GH T W h sh p) (hC : R2 8 1000000 C C' c) (hP : R2 8 9 P P' p) (hS : RS m mk bk bw M B Z S) (q0 q1 : ImgC) (h0 : RIm 0 q0 I K) (h1 : RIm 1 q1 I K) (a1 : Int32) :
    ∃ r y0 y1 I2 K2, fX9_image (nI T) (nI W) (nI h) (nI sh) C P (nI m) M B Z q0.1 q0.2.1 q0.2.2.1 q0.2.2.2.1 q0.2.2.2.2.1 q0.2.2.2.2.2.1 q0.2.2.2.2.2.2.1 q0.2.2.2.2.2.2.2.1 q0.2.2.2.2.2.2.2.2.1 q0.2.2.2.2.2.2.2.2.2.1 q0.2.2.2.2.2.2.2.2.2.2 q1.1 q1.2.1 q1.2.2.1 q1.2.2.2.1 q1.2.2.2.2.1 q1.2.2.2.2.2.1 q1.2.2.2.2.2.2.1 q1.2.2.2.2.2.2.2.1 q1.2.2.2.2.2.2.2.2.1 q1.2.2.2.2.2.2.2.2.2.1 q1.2.2.2.2.2.2.2.2.2.2 a1 = some (r, y0.1, y0.2.1, y0.2.2.1, y0.2.2.2.1, y0.2.2.2.2.1, y0.2.2.2.2.2.1, y0.2.2.2.2.2.2.1, y0.2.2.2.2.2.2.2.1, y0.2.2.2.2.2.2.2.2.1, y0.2.2.2.2.2.2.2.2.2.1, y0.2.2.2.2.2.2.2.2.2.2, y1.1, y1.2.1, y1.2.2.1, y1.2.2.2.1, y1.2.2.2.2.1, y1.2.2.2.2.2.1, y1.2.2.2.2.2.2.1, y1.2.2.2.2.2.2.2.1, y1.2.2.2.2.2.2.2.2.1, y1.2.2.2.2.2.2.2.2.2.1, y1.2.2.2.2.2.2.2.2.2.2) ∧ fX10_image (nI T) (nI W) (nI h) (nI sh) (nI m) C' P' S I K a1 = some (r, I2, K2) ∧ RIm 0 y0 I2 K2 ∧ RIm 1 y1 I2 K2 := by
  unfold fX9_image
  rw [w01]
  rcases win a1 0 1 (by decide) (by decide) with ⟨e1, e2⟩ | ⟨n, _, hn, rfl, e1, e2⟩
  · refine ⟨-2, q0, q1, I, K, by rw [show fX9_isWithin a1 0 (nI 1) = some 0 from e1]; rfl, ?_, h0, h1⟩
    unfold fX10_image
    rw [show fX10_in a1 0 1 = some 0 from e2]; rfl
  · rw [show fX9_isWithin (nI n) 0 (nI 1) = some 1 from e1, bnd_some, if_neg n10]
    have hn2 : n = 0 ∨ n = 1 := by omega
    rcases hn2 with rfl | rfl
    · obtain ⟨y, I2, K2, k1, k2, k3, k4, k5⟩ := r_keep (I := I) (K := K) hG hC hP hS (n := 0) (by omega) q0
      refine ⟨1, y, q1, I2, K2, ?_, k2, k3, h1.other (fun k a b => k4 k (by omega)) (k5 1 (by omega))⟩
      rw [if_pos (show nI 0 = 0 from rfl), k1, bnd_some]
    · obtain ⟨y, I2, K2, k1, k2, k3, k4, k5⟩ := r_keep (I := I) (K := K) hG hC hP hS (n := 1) (by omega) q1
      refine ⟨1, q0, y, I2, K2, ?_, k2, h0.other (fun k a b => k4 k (by omega)) (k5 0 (by omega)), k3⟩
      rw [if_neg (show ¬ nI 1 = 0 by decide), if_pos (show nI 1 = 1 from rfl), k1, bnd_some]
/-- restore(a1) -/
theorem r_restore {T W h sh m : Nat} {c p mk bk : Nat → Nat} {bw : Nat → Bool} {C C' P P' M B Z S I K : Nat → Int32} (hG : GH T W h sh p) (hC : R2 8 1000000 C C' c) (hP : R2 8 9 P P' p) (hS : RS m mk bk bw M B Z S) (q0 q1 : ImgC) (h0 : RIm 0 q0 I K) (h1 : RIm 1 q1 I K) (a1 : Int32) :
    ∃ r T2 W2 h2 sh2 m2 c2 p2 mk2 bk2 bw2 C1 P1 M1 B1 Z1 C2 P2 S2, fX9_restore (nI T) (nI W) (nI h) (nI sh) C P (nI m) M B Z q0.1 q0.2.1 q0.2.2.1 q0.2.2.2.1 q0.2.2.2.2.1 q0.2.2.2.2.2.1 q0.2.2.2.2.2.2.1 q0.2.2.2.2.2.2.2.1 q0.2.2.2.2.2.2.2.2.1 q0.2.2.2.2.2.2.2.2.2.1 q0.2.2.2.2.2.2.2.2.2.2 q1.1 q1.2.1 q1.2.2.1 q1.2.2.2.1 q1.2.2.2.2.1 q1.2.2.2.2.2.1 q1.2.2.2.2.2.2.1 q1.2.2.2.2.2.2.2.1 q1.2.2.2.2.2.2.2.2.1 q1.2.2.2.2.2.2.2.2.2.1 q1.2.2.2.2.2.2.2.2.2.2 a1 = some (r, nI T2, nI W2, nI h2, nI sh2, C1, P1, nI m2, M1, B1, Z1) ∧ fX10_restore (nI T) (nI W) (nI h) (nI sh) (nI m) C' P' S I K a1 = some (r, nI T2, nI W2, nI h2, nI sh2, nI m2, C2, P2, S2) ∧ GH T2 W2 h2 sh2 p2 ∧ R2 8 1000000 C1 C2 c2 ∧ R2 8 9 P1 P2 p2 ∧ RS m2 mk2 bk2 bw2 M1 B1 Z1 S2 := by
  unfold fX9_restore
  rw [w01]
  rcases win a1 0 1 (by decide) (by decide) with ⟨e1, e2⟩ | ⟨n, _, hn, rfl, e1, e2⟩
  · refine ⟨-2, T, W, h, sh, m, c, p, mk, bk, bw, C, P, M, B, Z, C', P', S, by rw [show fX9_isWithin a1 0 (nI 1) = some 0 from e1]; rfl, ?_, hG, hC, hP, hS⟩
    unfold fX10_restore
    rw [show fX10_in a1 0 1 = some 0 from e2]; rfl
  · rw [show fX9_isWithin (nI n) 0 (nI 1) = some 1 from e1, bnd_some, if_neg n10]
    have mno : K n = 0 → n < 2 → fX10_restore (nI T) (nI W) (nI h) (nI sh) (nI m) C' P' S I K (nI n) = some (-3, nI T, nI W, nI h, nI sh, nI m, C', P', S) := by
      intro hk hn
      unfold fX10_restore
      rw [show fX10_in (nI n) 0 1 = some 1 from e2, bnd_some, if_neg n10, ge2 hn, clN (by omega), hk, if_pos rfl]
    have hn2 : n = 0 ∨ n = 1 := by omega
    rcases hn2 with rfl | rfl
    · rw [if_pos (show nI 0 = 0 from rfl), if_pos (show nI 0 = 0 from rfl)]
      by_cases hq : q0.1 = 0
      · have hk : K 0 = 0 := by
          rcases h0 with z | z
          · exact z.2
          · rw [z.1] at hq; exact absurd hq n10
        exact ⟨-3, T, W, h, sh, m, c, p, mk, bk, bw, C, P, M, B, Z, C', P', S, by rw [if_pos hq], mno hk (by omega), hG, hC, hP, hS⟩
      · obtain ⟨T2, W2, h2, sh2, m2, c2, p2, mk2, bk2, bw2, C1, P1, M1, B1, Z1, C2, P2, S2, k1, k2, k3⟩ := r_give (n := 0) (th := nI T) (aw := nI W) (st := nI h) (sp := nI sh) (sz := nI m) (C := C') (P := P') (S := S) (x1 := nI T) (x2 := nI W) (x3 := nI h) (x4 := nI sh) (x5 := nI m) (X6 := C) (X7 := P) (M := M) (B := B) (Z := Z) (by omega) q0 h0 hq
        exact ⟨1, T2, W2, h2, sh2, m2, c2, p2, mk2, bk2, bw2, C1, P1, M1, B1, Z1, C2, P2, S2, by rw [if_neg hq, k1, bnd_some], k2, k3⟩
    · rw [if_neg (show ¬ nI 1 = 0 by decide), if_pos (show nI 1 = 1 from rfl), if_neg (show ¬ nI 1 = 0 by decide), if_pos (show nI 1 = 1 from rfl)]
      by_cases hq : q1.1 = 0
      · have hk : K 1 = 0 := by
          rcases h1 with z | z
          · exact z.2
          · rw [z.1] at hq; exact absurd hq n10
        exact ⟨-3, T, W, h, sh, m, c, p, mk, bk, bw, C, P, M, B, Z, C', P', S, by rw [if_pos hq], mno hk (by omega), hG, hC, hP, hS⟩
      · obtain ⟨T2, W2, h2, sh2, m2, c2, p2, mk2, bk2, bw2, C1, P1, M1, B1, Z1, C2, P2, S2, k1, k2, k3⟩ := r_give (n := 1) (th := nI T) (aw := nI W) (st := nI h) (sp := nI sh) (sz := nI m) (C := C') (P := P') (S := S) (x1 := nI T) (x2 := nI W) (x3 := nI h) (x4 := nI sh) (x5 := nI m) (X6 := C) (X7 := P) (M := M) (B := B) (Z := Z) (by omega) q1 h1 hq
        exact ⟨1, T2, W2, h2, sh2, m2, c2, p2, mk2, bk2, bw2, C1, P1, M1, B1, Z1, C2, P2, S2, by rw [if_neg hq, k1, bnd_some], k2, k3⟩
