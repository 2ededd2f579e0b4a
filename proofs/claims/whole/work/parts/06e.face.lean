/-! elbows -/
def pc (w : Nat) : Nat → Nat
  | 0 => 0
  | i + 1 => pc w i + if w.testBit i then 1 else 0
theorem pop_pc (w : Nat) : pop8 w = pc w 8 := rfl
def cnn (w : Nat) (c : Nat → Nat) (v : Nat) : Nat → Nat
  | 0 => 0
  | i + 1 => cnn w c v i + if w.testBit i = true ∧ c i ≠ v then 1 else 0
theorem cn_cnn (w : Nat) (c : Nat → Nat) (v : Nat) : ∀ i, cn w c v i + cnn w c v i = pc w i
  | 0 => rfl
  | i + 1 => by
    have ih := cn_cnn w c v i
    show (cn w c v i + if w.testBit i = true ∧ c i = v then 1 else 0) + (cnn w c v i + if w.testBit i = true ∧ c i ≠ v then 1 else 0) = pc w i + if w.testBit i = true then 1 else 0
    by_cases hb : w.testBit i = true
    · by_cases hc : c i = v
      · simp [hb, hc]; omega
      · simp [hb, hc]; omega
    · simp [hb]; omega
theorem pc_le (w : Nat) : ∀ i, pc w i ≤ i
  | 0 => Nat.le_refl _
  | i + 1 => by have := pc_le w i; unfold pc; split <;> omega
theorem r_elbows {T W h sh : Nat} {c p : Nat → Nat} {C C' N : Nat → Int32} {u : Int32} (hG : GH T W h sh p) (hC : R2 8 1000000 C C' c) (a1 : Int32) : ∃ r q, fX9_elbows (nI W) C a1 = some r ∧ fX10_elbows (nI W) u C' N a1 = some (r, q) := by
  obtain ⟨g1, g2, g3, g4, g5, g6, g7⟩ := hG
  have hB : ∀ k, k < 8 → c k ≤ 1000000 := fun k hk => (hC.1 k hk).2
  unfold fX9_elbows fX10_elbows
  rcases win a1 0 1 (by decide) (by decide) with ⟨e1, e2⟩ | ⟨k, k1, k2, rfl, e1, e2⟩
  · rw [show fX9_isWithin a1 0 1 = some 0 from e1, show fX10_in a1 0 1 = some 0 from e2, bnd_some, bnd_some, if_pos rfl, if_pos rfl]
    exact ⟨_, _, rfl, rfl⟩
  · rw [show fX9_isWithin (nI k) 0 1 = some 1 from e1, show fX10_in (nI k) 0 1 = some 1 from e2, bnd_some, bnd_some, if_neg n10, if_neg n10]
    by_cases hw0 : W = 0
    · rw [if_pos (show nI W = 0 by rw [hw0]; rfl), if_pos (show nI W = 0 by rw [hw0]; rfl)]
      exact ⟨_, _, rfl, rfl⟩
    · have hnz : ¬ nI W = 0 := fun e => hw0 ((nI_eq0 (by omega)).mp e)
      rw [if_neg hnz, if_neg hnz]
      obtain ⟨N2, e, hN⟩ := m_asNow (wI := nI W) (up := u) (C := C') (N := N)
      have hN2 : Row 8 1000000 N2 c := hC.2.same hN
      have hne : co W c 8 ≠ none := fun e => hw0 ((bt_ext W g2).mp (coN.mp e))
      have hv : coV 100000000 (co W c 8) = coV 0 (co W c 8) := by
        cases h5 : co W c 8 with
        | none => exact absurd h5 hne
        | some q => rfl
      have hvl := coV_le (w := W) hB
      rw [e, bnd_some, c_common g2 hC.1, bnd_some]
      simp only
      rw [m_common g2 hN2, bnd_some, hv]
      generalize coV 0 (co W c 8) = v at hvl ⊢
      have hl : loopF (fun k' q => bX10_elbows_36 k' (nI k) q.1 q.2.1 q.2.2.1 q.2.2.2.1 q.2.2.2.2) FU (nI v, 0, 0, nI W, N2) = if nI k = 0 then some (nI (cnn W c v 8), nI W, N2) else some (nI v, nI W, N2) := by
        refine loopF_run 8 (fun i => (nI v, nI (cnn W c v i), nI i, nI W, N2)) _ ?_ ?_ (FU_gt (by decide))
        · intro i hi K
          show bX10_elbows_36 K (nI k) (nI v) (nI (cnn W c v i)) (nI i) (nI W) N2 = K (nI v, nI (cnn W c v (i + 1)), nI (i + 1), nI W, N2)
          unfold bX10_elbows_36 bX10_elbows_72
          obtain ⟨e1, b1⟩ := hN2 i hi
          rw [if_neg (n8 hi), m_has g2 hi, bnd_some, nI_1]
          cases hb : W.testBit i with
          | false => rw [if_pos (by simp), Int32.add_zero]; simp [cnn, hb]
          | true =>
            rw [if_neg (by simp), ge0 hi, cl8 hi, e1]
            by_cases d : c i = v
            · rw [if_pos (by rw [d]), Int32.add_zero]; simp [cnn, hb, d]
            · rw [if_neg (ne_lit (by omega) (by omega) d), nI_1]; simp [cnn, hb, d]
        · intro K
          show bX10_elbows_36 K (nI k) (nI v) (nI (cnn W c v 8)) (nI 8) (nI W) N2 = _
          unfold bX10_elbows_36
          rw [if_pos n88]
      rw [hl]
      by_cases hk : nI k = 0
      · rw [if_pos hk, if_pos hk, pop_c W g2, bnd_some, c_howMany g2 hC.1 (by omega), bnd_some]
        have := cn_cnn W c v 8
        have e5 : nI (pop8 W) - nI (cn W c v 8) = nI (cnn W c v 8) := by
          rw [pop_pc, pk_sub (by omega), show pc W 8 - cn W c v 8 = cnn W c v 8 by omega]
        rw [e5]
        exact ⟨_, _, rfl, rfl⟩
      · rw [if_neg hk, if_neg hk]
        exact ⟨_, _, rfl, rfl⟩
/-! relays -/
theorem c_canRelay {m k h r : Nat} (hm : m ≤ 8) (hk : k ≤ 8) (hh : h ≤ 24) (hr : r ≤ 24) : fX9_canRelay (nI m) (nI k) (nI h) (nI r) = some (if (if h ≤ 1 then k else 2 * k) ≤ m ∧ k * h ≤ m * r then 1 else 0) := by
  unfold fX9_canRelay bX9_canRelay_12
  have h1 : m * r ≤ 8 * 24 := Nat.mul_le_mul hm hr
  have h2 : k * h ≤ 8 * 24 := Nat.mul_le_mul hk hh
  rw [show (2 : Int32) * nI k = nI (2 * k) from pk_mul 2 k, pk_mul, pk_mul]
  have key : ∀ b, b ≤ 16 → (if nI m < nI b then some (0 : Int32) else if nI (m * r) < nI (k * h) then some 0 else some 1) = some (if b ≤ m ∧ k * h ≤ m * r then 1 else 0) := by
    intro b hb
    by_cases d1 : m < b
    · rw [if_pos ((nI_ltI (by omega) (by omega)).mpr d1), if_neg (by omega)]
    · rw [if_neg (fun e => d1 ((nI_ltI (by omega) (by omega)).mp e))]
      by_cases d2 : m * r < k * h
      · rw [if_pos ((nI_ltI (by omega) (by omega)).mpr d2), if_neg (by omega)]
      · rw [if_neg (fun e => d2 ((nI_ltI (by omega) (by omega)).mp e)), if_pos (by omega)]
  by_cases d : h ≤ 1
  · rw [if_pos (show nI h ≤ 1 from (nI_leI (b := 1) (by omega) (by decide)).mpr d), if_pos d]
    exact key k (by omega)
  · rw [if_neg (show ¬ nI h ≤ 1 from fun e => d ((nI_leI (b := 1) (by omega) (by decide)).mp e)), if_neg d]
    exact key (2 * k) (by omega)
theorem r_relays {T : Nat} (hT : T < 256) (a1 a2 a3 a4 : Int32) : ∃ r, fX9_relays (nI T) a1 a2 a3 a4 = some r ∧ fX10_relays (nI T) a1 a2 a3 a4 = some r := by
  unfold fX9_relays fX10_relays
  rcases win a1 1 8 (by decide) (by decide) with ⟨e1, e2⟩ | ⟨k, k1, k2, rfl, e1, e2⟩
  · rw [show fX9_isWithin a1 1 8 = some 0 from e1, show fX10_in a1 1 8 = some 0 from e2, bnd_some, bnd_some, if_pos rfl, if_pos rfl]; exact ⟨_, rfl, rfl⟩
  rw [show fX9_isWithin (nI k) 1 8 = some 1 from e1, show fX10_in (nI k) 1 8 = some 1 from e2, bnd_some, bnd_some, if_neg n10, if_neg n10]
  rcases win a2 1 24 (by decide) (by decide) with ⟨e1, e2⟩ | ⟨h, h1, h2, rfl, e1, e2⟩
  · rw [show fX9_isWithin a2 1 24 = some 0 from e1, show fX10_in a2 1 24 = some 0 from e2, bnd_some, bnd_some, if_pos rfl, if_pos rfl]; exact ⟨_, rfl, rfl⟩
  rw [show fX9_isWithin (nI h) 1 24 = some 1 from e1, show fX10_in (nI h) 1 24 = some 1 from e2, bnd_some, bnd_some, if_neg n10, if_neg n10]
  rcases win a3 1 24 (by decide) (by decide) with ⟨e1, e2⟩ | ⟨r, r1, r2, rfl, e1, e2⟩
  · rw [show fX9_isWithin a3 1 24 = some 0 from e1, show fX10_in a3 1 24 = some 0 from e2, bnd_some, bnd_some, if_pos rfl, if_pos rfl]; exact ⟨_, rfl, rfl⟩
  rw [show fX9_isWithin (nI r) 1 24 = some 1 from e1, show fX10_in (nI r) 1 24 = some 1 from e2, bnd_some, bnd_some, if_neg n10, if_neg n10]
  rcases win a4 0 1 (by decide) (by decide) with ⟨e1, e2⟩ | ⟨w, w1, w2, rfl, e1, e2⟩
  · rw [show fX9_isWithin a4 0 1 = some 0 from e1, show fX10_in a4 0 1 = some 0 from e2, bnd_some, bnd_some, if_pos rfl, if_pos rfl]; exact ⟨_, rfl, rfl⟩
  rw [show fX9_isWithin (nI w) 0 1 = some 1 from e1, show fX10_in (nI w) 0 1 = some 1 from e2, bnd_some, bnd_some, if_neg n10, if_neg n10]
  have hkh : k * h ≤ 8 * 24 := Nat.mul_le_mul k2 h2
  -- the least number of monks
  obtain ⟨b, hb⟩ : ∃ b, b = if h ≤ 1 then k else 2 * k := ⟨_, rfl⟩
  have hb16 : b ≤ 16 ∧ 1 ≤ b := by rw [hb]; split <;> omega
  obtain ⟨i, hi1, hi2⟩ := pk_least (fun i => k * h ≤ (b + i) * r) ⟨k * h, by
    have : k * h * 1 ≤ (b + k * h) * r := Nat.mul_le_mul (by omega) r1
    omega⟩
  have hi200 : i ≤ 192 := by
    rcases Nat.lt_or_ge 192 i with hlt | hge
    · exfalso
      have := hi2 192 hlt
      have h5 : 192 * 1 ≤ (b + 192) * r := Nat.mul_le_mul (by omega) r1
      omega
    · exact hge
  have mono : ∀ x y, x ≤ y → x * r ≤ y * r := fun x y h => Nat.mul_le_mul_right r h
  have hL : ∀ m, (b ≤ m ∧ k * h ≤ m * r) ↔ b + i ≤ m := by
    intro m
    constructor
    · rintro ⟨q1, q2⟩
      rcases Nat.lt_or_ge m (b + i) with hlt | hge
      · exfalso
        have := hi2 (m - b) (by omega)
        rw [show b + (m - b) = m by omega] at this
        exact this q2
      · exact hge
    · intro q
      exact ⟨by omega, Nat.le_trans hi1 (mono _ _ q)⟩
  have hpm : pop8 T ≤ 8 := by rw [pop_pc]; exact pc_le T 8
  have hml : ∀ x, x = nI b → loopF (fun k' q => bX10_relays_57 k' (nI T) (nI k) (nI h) (nI r) (nI w) q) FU x = if nI w = 1 then (if nI (b + i) ≤ 8 then some (nI (b + i)) else some (-6)) else (if nI (pop8 T) < nI (b + i) then some 0 else some 1) := by
    intro x hx
    subst hx
    refine loopF_run i (fun j => nI (b + j)) _ ?_ ?_ (FU_gt (by omega))
    · intro j hj K
      show bX10_relays_57 K (nI T) (nI k) (nI h) (nI r) (nI w) (nI (b + j)) = K (nI (b + (j + 1)))
      unfold bX10_relays_57
      have hjr : (b + j) * r ≤ 208 * 24 := Nat.mul_le_mul (by omega) r2
      rw [pk_mul, pk_mul, if_neg (fun e => hi2 j hj ((nI_leI (by omega) (by omega)).mp e)), nI_1]
      rfl
    · intro K
      show bX10_relays_57 K (nI T) (nI k) (nI h) (nI r) (nI w) (nI (b + i)) = _
      unfold bX10_relays_57
      have hjr : (b + i) * r ≤ 208 * 24 := Nat.mul_le_mul (by omega) r2
      rw [pk_mul, pk_mul, if_pos ((nI_leI (by omega) (by omega)).mpr hi1), pop_m T hT, bnd_some]
  have hm : (if nI h = 1 then loopF (fun k' q => bX10_relays_57 k' (nI T) (nI k) (nI h) (nI r) (nI w) q) FU (nI k) else loopF (fun k' q => bX10_relays_57 k' (nI T) (nI k) (nI h) (nI r) (nI w) q) FU (2 * nI k)) = if nI w = 1 then (if nI (b + i) ≤ 8 then some (nI (b + i)) else some (-6)) else (if nI (pop8 T) < nI (b + i) then some 0 else some 1) := by
    by_cases d : h = 1
    · rw [if_pos (show nI h = 1 by rw [d]; rfl)]
      exact hml _ (by rw [hb, if_pos (by omega)])
    · rw [if_neg (show ¬ nI h = 1 from ne_lit (d := 1) (by omega) (by decide) d)]
      exact hml _ (by rw [hb, if_neg (by omega)]; exact pk_mul 2 k)
  rw [hm]
  by_cases hw0 : w = 0
  · subst hw0
    rw [if_pos (show nI 0 = 0 from rfl), if_neg (show ¬ nI 0 = 1 by decide), pop_c T hT, bnd_some, c_canRelay hpm k2 h2 r2, bnd_some, ← hb]
    by_cases q : b + i ≤ pop8 T
    · rw [if_pos ((hL _).mpr q), if_neg n10, if_neg (fun e => by have := (nI_ltI (by omega) (by omega)).mp e; omega)]; exact ⟨_, rfl, rfl⟩
    · rw [if_neg (fun e => q ((hL _).mp e)), if_pos rfl, if_pos ((nI_ltI (by omega) (by omega)).mpr (by omega))]; exact ⟨_, rfl, rfl⟩
  · have hw1 : w = 1 := by omega
    subst hw1
    rw [if_neg (show ¬ nI 1 = 0 by decide), if_pos (show nI 1 = 1 from rfl)]
    have body : ∀ K m, 1 ≤ m → m ≤ 8 → bX9_relays_76 K (nI k) (nI h) (nI r) (nI m) = if b + i ≤ m then some (nI m) else K (nI (m + 1)) := by
      intro K m hm1 hm2
      unfold bX9_relays_76
      rw [if_neg (show ¬ (8 : Int32) < nI m from fun e => by have := (nI_ltI (a := 8) (by decide) (by omega)).mp e; omega), c_canRelay hm2 k2 h2 r2, bnd_some, ← hb, nI_1]
      by_cases q : b + i ≤ m
      · rw [if_pos ((hL _).mpr q), if_neg n10, if_pos q]
      · rw [if_neg (fun e => q ((hL _).mp e)), if_pos rfl, if_neg q]
    by_cases h8 : b + i ≤ 8
    · rw [if_pos (show nI (b + i) ≤ 8 from (nI_leI (b := 8) (by omega) (by decide)).mpr h8)]
      refine ⟨_, loopF_run (b + i - 1) (fun j => nI (j + 1)) (some (nI (b + i))) ?_ ?_ (FU_gt (by omega)), rfl⟩
      · intro j hj K
        show bX9_relays_76 K (nI k) (nI h) (nI r) (nI (j + 1)) = _
        rw [body K (j + 1) (by omega) (by omega), if_neg (by omega)]
      · intro K
        show bX9_relays_76 K (nI k) (nI h) (nI r) (nI (b + i - 1 + 1)) = _
        rw [body K (b + i - 1 + 1) (by omega) (by omega), if_pos (by omega), show b + i - 1 + 1 = b + i by omega]
    · rw [if_neg (show ¬ nI (b + i) ≤ 8 from fun e => h8 ((nI_leI (b := 8) (by omega) (by decide)).mp e))]
      refine ⟨_, loopF_run 8 (fun j => nI (j + 1)) (some (-6)) ?_ ?_ (FU_gt (by omega)), rfl⟩
      · intro j hj K
        show bX9_relays_76 K (nI k) (nI h) (nI r) (nI (j + 1)) = _
        rw [body K (j + 1) (by omega) (by omega), if_neg (by omega)]
      · intro K
        show bX9_relays_76 K (nI k) (nI h) (nI r) (nI 9) = _
        unfold bX9_relays_76
        rw [if_pos (by decide)]
/-! sights -/
def RS (m : Nat) (mk bk : Nat → Nat) (bw : Nat → Bool) (M B Z S : Nat → Int32) : Prop := m ≤ 8 ∧ ∀ i, i < m → mk i < 8 ∧ bk i ≤ 99 ∧ M i = nI (mk i) ∧ B i = nI (bk i) ∧ Z i = (if bw i then 1 else 0) ∧ S (3 * i) = nI (mk i) ∧ S (3 * i + 1) = nI (bk i) ∧ S (3 * i + 2) = (if bw i then 1 else 0)
theorem RS.drop {m : Nat} {mk bk : Nat → Nat} {bw : Nat → Bool} {M B Z S : Nat → Int32} : RS 0 mk bk bw M B Z S := ⟨by omega, fun i hi => by omega⟩
theorem r_seen {T W h sh m : Nat} {p mk bk : Nat → Nat} {bw : Nat → Bool} {M B Z S : Nat → Int32} (hG : GH T W h sh p) (hS : RS m mk bk bw M B Z S) (a1 a2 a3 : Int32) (h3 : a3 = 0 ∨ a3 = 1) : ∃ r m2 mk2 bk2 bw2 M2 B2 Z2 S2, fX9_seen (nI T) (nI m) M B Z a1 a2 a3 = some (r, nI m2, M2, B2, Z2) ∧ fX10_seen (nI T) (nI m) S a1 a2 a3 = some (r, nI m2, S2) ∧ RS m2 mk2 bk2 bw2 M2 B2 Z2 S2 := by
  have g1 := hG.1
  unfold fX9_seen fX10_seen
  rcases thr g1 a1 with ⟨e1, e2⟩ | ⟨k, hk, rfl, hb, e1, e2⟩
  · rw [e1, e2, bnd_some, bnd_some, if_pos rfl, if_pos rfl]
    exact ⟨_, m, mk, bk, bw, _, _, _, _, rfl, rfl, hS⟩
  rw [e1, e2, bnd_some, bnd_some, if_neg n10, if_neg n10]
  rcases win a2 0 99 (by decide) (by decide) with ⟨e1, e2⟩ | ⟨v, v1, v2, rfl, e1, e2⟩
  · rw [show fX9_isWithin a2 0 99 = some 0 from e1, show fX10_in a2 0 99 = some 0 from e2, bnd_some, bnd_some, if_pos rfl, if_pos rfl]
    exact ⟨_, m, mk, bk, bw, _, _, _, _, rfl, rfl, hS⟩
  rw [show fX9_isWithin (nI v) 0 99 = some 1 from e1, show fX10_in (nI v) 0 99 = some 1 from e2, bnd_some, bnd_some, if_neg n10, if_neg n10]
  have hm8 := hS.1
  unfold fX6_add
  by_cases d : m = 8
  · subst d
    rw [if_neg (show ¬ nI 8 < 8 by decide), if_pos (show nI 8 = 8 from rfl), bnd_some]
    simp only [if_true]
    exact ⟨_, 8, mk, bk, bw, _, _, _, _, rfl, rfl, hS⟩
  · have hlt : m < 8 := by omega
    have i3 : ∀ x, x < 24 → ∀ y : Option (Int32 × Int32 × (Nat → Int32)), gIn (nI x) 24 y = y := fun x hx y => gIn_ok (vp_in_nI hx (by decide))
    have e3 : (3 : Int32) * nI m = nI (3 * m) := pk_mul 3 m
    have e31 : nI (3 * m) + 1 = nI (3 * m + 1) := nI_1 _
    have e32 : nI (3 * m) + 2 = nI (3 * m + 2) := nI_add (3 * m) 2
    rw [if_pos (show nI m < 8 from nI_lt (b := 8) hlt (by decide)), if_neg (show ¬ nI m = 8 from ne_lit (d := 8) (by omega) (by decide) d)]
    unfold bX10_seen_82
    simp only [ge0 hlt, cl8 hlt, e3, e31, e32, i3 (3 * m) (by omega), i3 (3 * m + 1) (by omega), i3 (3 * m + 2) (by omega), nI_clamp (show 3 * m < 2 ^ 31 by omega), nI_clamp (show 3 * m + 1 < 2 ^ 31 by omega), nI_clamp (show 3 * m + 2 < 2 ^ 31 by omega), bnd_some, nI_1, if_neg n10]
    have fin : ∀ (z : Int32) (b : Bool), z = (if b then 1 else 0) → RS (m + 1) (fun j => if j = m then k else mk j) (fun j => if j = m then v else bk j) (fun j => if j = m then b else bw j) (upd M m (nI k)) (upd B m (nI v)) (upd Z m z) (upd (upd (upd S (3 * m) (nI k)) (3 * m + 1) (nI v)) (3 * m + 2) z) := by
      intro z b hz
      refine ⟨by omega, fun i hi => ?_⟩
      by_cases e : i = m
      · subst e
        simp only [if_true]
        refine ⟨hk, v2, pk_us, pk_us, by rw [pk_us, hz], ?_, ?_, by rw [pk_us, hz]⟩
        · rw [pk_un (by omega), pk_un (by omega), pk_us]
        · rw [pk_un (by omega), pk_us]
      · obtain ⟨q1, q2, q3, q4, q5, q6, q7, q8⟩ := hS.2 i (by omega)
        simp only [e, if_false]
        refine ⟨q1, q2, by rw [pk_un e]; exact q3, by rw [pk_un e]; exact q4, by rw [pk_un e]; exact q5, ?_, ?_, ?_⟩
        · rw [pk_un (by omega), pk_un (by omega), pk_un (by omega)]; exact q6
        · rw [pk_un (by omega), pk_un (by omega), pk_un (by omega)]; exact q7
        · rw [pk_un (by omega), pk_un (by omega), pk_un (by omega)]; exact q8
    rcases h3 with rfl | rfl
    · rw [if_pos rfl]
      exact ⟨_, m + 1, _, _, _, _, _, _, _, rfl, rfl, fin 0 false rfl⟩
    · rw [if_neg n10]
      exact ⟨_, m + 1, _, _, _, _, _, _, _, rfl, rfl, fin 1 true rfl⟩
