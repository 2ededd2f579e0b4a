/-! primes -/
theorem remI {v d : Nat} (hv : v ≤ 1000000) (hd : 0 < d) (hd2 : d < 2 ^ 31) : (nI v - nI v / nI d * nI d = 0) ↔ v % d = 0 := by
  rw [pk_rem (by omega) hd hd2]
  exact nI_eq0 (by have := Nat.mod_lt v hd; omega)
theorem m_prime {v : Nat} (hv : v ≤ 1000000) : ∃ b : Bool, fX10_isPrime (nI v) = some (if b then 1 else 0) ∧ (b = true ↔ Pr v) := by
  unfold fX10_isPrime
  by_cases h1 : v ≤ 1
  · rw [if_pos (show nI v ≤ 1 from (nI_leI (b := 1) (by omega) (by decide)).mpr h1)]
    refine ⟨false, ?_, ?_⟩
    · show bX10_isPrime_13 _ (nI v) 0 2 = _
      unfold bX10_isPrime_13
      rw [if_pos (show nI v < 2 * 2 from nI_lt (b := 4) (by omega) (by decide)), gB_ok (Or.inl rfl)]
      rfl
    · simp [Pr]; omega
  · rw [if_neg (show ¬ nI v ≤ 1 from fun e => h1 ((nI_leI (b := 1) (by omega) (by decide)).mp e))]
    obtain ⟨N, hN1, hN2⟩ := pk_least (fun i => v < (2 + i) * (2 + i) ∨ v % (2 + i) = 0) ⟨v, Or.inl (by
      have : 1 * (2 + v) ≤ (2 + v) * (2 + v) := Nat.mul_le_mul_right _ (by omega)
      omega)⟩
    have hN1000 : N ≤ 1000 := by
      rcases Nat.lt_or_ge 1000 N with hlt | hge
      · exfalso
        exact hN2 1000 hlt (Or.inl (by omega))
      · exact hge
    have body : ∀ K i, i ≤ 1000 → bX10_isPrime_13 K (nI v) 1 (nI (2 + i)) = if v < (2 + i) * (2 + i) then some 1 else if v % (2 + i) = 0 then K (0, nI (2 + (i + 1))) else K (1, nI (2 + (i + 1))) := by
      intro K i hi
      have hm : (2 + i) * (2 + i) ≤ 1002 * 1002 := Nat.mul_le_mul (by omega) (by omega)
      unfold bX10_isPrime_13
      rw [pk_mul, nI_1, gNz_ok (nI_ne0 (by omega) (by omega))]
      by_cases d : v < (2 + i) * (2 + i)
      · rw [if_pos ((nI_ltI (by omega) (by omega)).mpr d), if_pos d, gB_ok (Or.inr rfl)]
      · rw [if_neg (fun e => d ((nI_ltI (by omega) (by omega)).mp e)), if_neg d, if_neg n10]
        by_cases e : v % (2 + i) = 0
        · rw [if_pos ((remI hv (by omega) (by omega)).mpr e), if_pos e]; rfl
        · rw [if_neg (fun q => e ((remI hv (by omega) (by omega)).mp q)), if_neg e]; rfl
    by_cases hE : v < (2 + N) * (2 + N)
    · refine ⟨true, ?_, ?_⟩
      · refine loopF_run N (fun i => (1, nI (2 + i))) _ ?_ ?_ (FU_gt (by omega))
        · intro i hi K
          have := hN2 i hi
          show bX10_isPrime_13 K (nI v) 1 (nI (2 + i)) = _
          rw [body K i (by omega), if_neg (fun q => this (Or.inl q)), if_neg (fun q => this (Or.inr q))]
        · intro K
          show bX10_isPrime_13 K (nI v) 1 (nI (2 + N)) = _
          rw [body K N hN1000, if_pos hE]
          rfl
      · simp only [true_iff]
        refine ⟨by omega, fun e he hee hdv => ?_⟩
        have hlt : e < 2 + N := sq_lt (by omega)
        have := hN2 (e - 2) (by omega)
        rw [show 2 + (e - 2) = e by omega] at this
        exact this (Or.inr hdv)
    · have hdv : v % (2 + N) = 0 := by
        rcases hN1 with h | h
        · exact absurd h hE
        · exact h
      refine ⟨false, ?_, ?_⟩
      · refine loopF_run (N + 1) (fun i => (if i ≤ N then 1 else 0, nI (2 + i))) _ ?_ ?_ (FU_gt (by omega))
        · intro i hi K
          show bX10_isPrime_13 K (nI v) (if i ≤ N then 1 else 0) (nI (2 + i)) = K (if i + 1 ≤ N then 1 else 0, nI (2 + (i + 1)))
          rw [if_pos (by omega), body K i (by omega)]
          by_cases e : i = N
          · subst e
            rw [if_neg hE, if_pos hdv, if_neg (by omega)]
          · have := hN2 i (by omega)
            rw [if_neg (fun q => this (Or.inl q)), if_neg (fun q => this (Or.inr q)), if_pos (by omega)]
        · intro K
          show bX10_isPrime_13 K (nI v) (if N + 1 ≤ N then 1 else 0) (nI (2 + (N + 1))) = _
          rw [if_neg (by omega)]
          unfold bX10_isPrime_13
          rw [gB_ok (Or.inl rfl), if_pos rfl]
          split <;> rfl
      · constructor
        · intro h; cases h
        · intro h; exact absurd hdv (h.2 (2 + N) (by omega) (by omega))
theorem c_prime {v : Nat} (hv : v ≤ 1000000) : ∃ b : Bool, fX4_isPrime (nI v) = some (if b then 1 else 0) ∧ (b = true ↔ Pr v) := by
  unfold fX4_isPrime
  by_cases h4 : 4 ≤ v
  · rw [if_pos (show (4 : Int32) ≤ nI v from nI_le (a := 4) h4 (by omega))]
    by_cases e2 : v % 2 = 0
    · rw [if_pos (show nI v - nI v / 2 * 2 = 0 from (remI (d := 2) hv (by decide) (by decide)).mpr e2)]
      refine ⟨false, rfl, ?_⟩
      constructor
      · intro h; cases h
      · intro h; exact absurd e2 (h.2 2 (by omega) (by omega))
    · rw [if_neg (show ¬ nI v - nI v / 2 * 2 = 0 from fun q => e2 ((remI (d := 2) hv (by decide) (by decide)).mp q))]
      by_cases e3 : v % 3 = 0
      · rw [if_pos (show nI v - nI v / 3 * 3 = 0 from (remI (d := 3) hv (by decide) (by decide)).mpr e3)]
        refine ⟨false, rfl, ?_⟩
        constructor
        · intro h; cases h
        · intro h; exact absurd e3 (h.2 3 (by omega) (by
            rcases Nat.lt_or_ge v 9 with q | q
            · omega
            · omega))
      · rw [if_neg (show ¬ nI v - nI v / 3 * 3 = 0 from fun q => e3 ((remI (d := 3) hv (by decide) (by decide)).mp q))]
        obtain ⟨N, hN1, hN2⟩ := pk_least (fun i => v < (5 + 6 * i) * (5 + 6 * i) ∨ v % (5 + 6 * i) = 0 ∨ v % (5 + 6 * i + 2) = 0) ⟨v, Or.inl (by
          have : 1 * (5 + 6 * v) ≤ (5 + 6 * v) * (5 + 6 * v) := Nat.mul_le_mul_right _ (by omega)
          omega)⟩
        have hN200 : N ≤ 166 := by
          rcases Nat.lt_or_ge 166 N with hlt | hge
          · exfalso
            exact hN2 166 hlt (Or.inl (by omega))
          · exact hge
        have body : ∀ K i, i ≤ 166 → bX4_isPrime_32 K (nI v) (nI (5 + 6 * i)) = if v < (5 + 6 * i) * (5 + 6 * i) then some 1 else if v % (5 + 6 * i) = 0 then some 0 else if v % (5 + 6 * i + 2) = 0 then some 0 else K (nI (5 + 6 * (i + 1))) := by
          intro K i hi
          have hm : (5 + 6 * i) * (5 + 6 * i) ≤ 1001 * 1001 := Nat.mul_le_mul (by omega) (by omega)
          unfold bX4_isPrime_32
          rw [pk_mul, show nI (5 + 6 * i) + 2 = nI (5 + 6 * i + 2) from nI_add _ 2, show nI (5 + 6 * i) + 6 = nI (5 + 6 * i + 6) from nI_add _ 6, gNz_ok (nI_ne0 (by omega) (by omega)), gNz_ok (nI_ne0 (by omega) (by omega))]
          by_cases d : v < (5 + 6 * i) * (5 + 6 * i)
          · rw [if_pos ((nI_ltI (by omega) (by omega)).mpr d), if_pos d]
          · rw [if_neg (fun e => d ((nI_ltI (by omega) (by omega)).mp e)), if_neg d]
            by_cases e : v % (5 + 6 * i) = 0
            · rw [if_pos ((remI hv (by omega) (by omega)).mpr e), if_pos e]
            · rw [if_neg (fun q => e ((remI hv (by omega) (by omega)).mp q)), if_neg e]
              by_cases e' : v % (5 + 6 * i + 2) = 0
              · rw [if_pos ((remI hv (by omega) (by omega)).mpr e'), if_pos e']
              · rw [if_neg (fun q => e' ((remI hv (by omega) (by omega)).mp q)), if_neg e', show 5 + 6 * i + 6 = 5 + 6 * (i + 1) by omega]
        have steps : ∀ i, i < N → ∀ K, bX4_isPrime_32 K (nI v) (nI (5 + 6 * i)) = K (nI (5 + 6 * (i + 1))) := by
          intro i hi K
          have := hN2 i hi
          rw [body K i (by omega), if_neg (fun q => this (Or.inl q)), if_neg (fun q => this (Or.inr (Or.inl q))), if_neg (fun q => this (Or.inr (Or.inr q)))]
        by_cases hE : v < (5 + 6 * N) * (5 + 6 * N)
        · refine ⟨true, loopF_run N (fun i => nI (5 + 6 * i)) _ steps (fun K => by rw [body K N hN200, if_pos hE]; rfl) (FU_gt (by omega)), ?_⟩
          simp only [true_iff]
          refine ⟨by omega, fun e he hee hdv => ?_⟩
          have hed : e ∣ v := Nat.dvd_of_mod_eq_zero hdv
          have n2 : ¬ e % 2 = 0 := fun q => e2 (Nat.mod_eq_zero_of_dvd (Nat.dvd_trans (Nat.dvd_of_mod_eq_zero q) hed))
          have n3 : ¬ e % 3 = 0 := fun q => e3 (Nat.mod_eq_zero_of_dvd (Nat.dvd_trans (Nat.dvd_of_mod_eq_zero q) hed))
          have hlt : e < 5 + 6 * N := sq_lt (by omega)
          have h6 : e % 6 = 1 ∨ e % 6 = 5 := by omega
          rcases h6 with h6 | h6
          · have he7 : 7 ≤ e := by omega
            have := hN2 ((e - 7) / 6) (by omega)
            rw [show 5 + 6 * ((e - 7) / 6) + 2 = e by omega] at this
            exact this (Or.inr (Or.inr hdv))
          · have := hN2 ((e - 5) / 6) (by omega)
            rw [show 5 + 6 * ((e - 5) / 6) = e by omega] at this
            exact this (Or.inr (Or.inl hdv))
        · have hor : v % (5 + 6 * N) = 0 ∨ v % (5 + 6 * N + 2) = 0 := by
            rcases hN1 with h | h
            · exact absurd h hE
            · exact h
          refine ⟨false, loopF_run N (fun i => nI (5 + 6 * i)) _ steps (fun K => ?_) (FU_gt (by omega)), ?_⟩
          · rw [body K N hN200, if_neg hE]
            rcases hor with h | h
            · rw [if_pos h]; rfl
            · split
              · rfl
              · first | rfl | (rw [if_pos h]; rfl)
          · constructor
            · intro h; cases h
            · intro h
              rcases hor with q | q
              · exact absurd q (h.2 (5 + 6 * N) (by omega) (by omega))
              · -- the cofactor
                exfalso
                obtain ⟨k, hk⟩ := Nat.dvd_of_mod_eq_zero q
                rcases Nat.lt_or_ge v ((5 + 6 * N + 2) * (5 + 6 * N + 2)) with hlt | hge
                · have hkl : k < 5 + 6 * N + 2 := by
                    rcases Nat.lt_or_ge k (5 + 6 * N + 2) with z | z
                    · exact z
                    · exfalso
                      have := Nat.mul_le_mul_left (5 + 6 * N + 2) z
                      omega
                  have hk2 : 2 ≤ k := by
                    rcases Nat.lt_or_ge k 2 with z | z
                    · exfalso
                      have hk01 : k = 0 ∨ k = 1 := by omega
                      rcases hk01 with rfl | rfl
                      · omega
                      · have : 5 * (5 + 6 * N) ≤ (5 + 6 * N) * (5 + 6 * N) := Nat.mul_le_mul_right _ (by omega)
                        omega
                    · exact z
                  have hkk : k * k ≤ v := by
                    rw [hk]
                    exact Nat.mul_le_mul_right k (by omega)
                  refine h.2 k hk2 hkk ?_
                  rw [hk]
                  exact Nat.mul_mod_left _ _
                · exact h.2 (5 + 6 * N + 2) (by omega) hge q
  · rw [if_neg (show ¬ (4 : Int32) ≤ nI v from fun e => h4 ((nI_leI (a := 4) (by decide) (by omega)).mp e))]
    by_cases h1 : v ≤ 1
    · rw [if_pos (show nI v ≤ 1 from (nI_leI (b := 1) (by omega) (by decide)).mpr h1)]
      refine ⟨false, rfl, ?_⟩
      simp [Pr]; omega
    · rw [if_neg (show ¬ nI v ≤ 1 from fun e => h1 ((nI_leI (b := 1) (by omega) (by decide)).mp e))]
      refine ⟨true, rfl, ?_⟩
      simp only [true_iff]
      refine ⟨by omega, fun e he hee _ => ?_⟩
      have : 2 * 2 ≤ e * e := Nat.mul_le_mul he he
      omega
/-- by the law l they bow at v -/
def Lw (l v : Nat) : Prop := match l with
  | 0 => Pr v
  | 1 => ∃ r, r * r = v
  | 2 => ∃ N, Nd v N ∧ nI (ra 0 v N) = nI v
  | 3 => ∃ N, Nd v N ∧ v % rd v N = 0
  | _ => (nI v &&& (nI v - 1)) = 0
noncomputable def lwB (l v : Nat) : Bool := @decide (1 ≤ v ∧ Lw l v) (Classical.propDecidable _)
theorem lwB_iff {l v : Nat} : lwB l v = true ↔ 1 ≤ v ∧ Lw l v := by unfold lwB; exact @decide_eq_true_iff _ (Classical.propDecidable _)
theorem Nd_one {v N M : Nat} (h : Nd v N) (h2 : Nd v M) : N = M := by
  rcases Nat.lt_trichotomy N M with q | q | q
  · have := h2.2 N q; rw [h.1] at this; omega
  · exact q
  · have := h.2 M q; rw [h2.1] at this; omega
theorem lw_of {l v : Nat} {b : Bool} (hv1 : 1 ≤ v) (h : b = true ↔ Lw l v) : (if lwB l v then (1 : Int32) else 0) = if b then 1 else 0 := by
  cases hb : b with
  | true => rw [if_pos (lwB_iff.mpr ⟨hv1, h.mp hb⟩)]; rfl
  | false => rw [if_neg (fun e => by have := h.mpr (lwB_iff.mp e).2; rw [hb] at this; cases this)]; rfl
theorem lw_dec {l v : Nat} {p : Prop} [Decidable p] (hv1 : 1 ≤ v) (h : p ↔ Lw l v) : (if p then some (1 : Int32) else some 0) = some (if lwB l v then 1 else 0) := by
  by_cases hp : p
  · rw [if_pos hp, if_pos (lwB_iff.mpr ⟨hv1, h.mp hp⟩)]
  · rw [if_neg hp, if_neg (fun e => hp (h.mpr (lwB_iff.mp e).2))]
theorem b01 (b : Bool) : (if b = true then (1 : Int32) else 0) = 0 ∨ (if b = true then (1 : Int32) else 0) = 1 := by cases b <;> simp
theorem law_both {l v : Nat} (hl : l ≤ 4) (hv : v ≤ 1000000) : fX4_bowAt (nI l) (nI v) = some (if lwB l v then 1 else 0) ∧ fX10_isLaw (nI l) (nI v) = some (if lwB l v then 1 else 0) := by
  unfold fX4_bowAt fX10_isLaw
  by_cases hv1 : 1 ≤ v
  · have q1 : (1 : Int32) ≤ nI v := nI_le (a := 1) hv1 (by omega)
    rw [if_pos q1, if_pos q1]
    obtain ⟨N, hN7, hN⟩ := Nd_ex v hv
    have hl5 : l = 0 ∨ l = 1 ∨ l = 2 ∨ l = 3 ∨ l = 4 := by omega
    rcases hl5 with rfl | rfl | rfl | rfl | rfl
    · rw [if_pos (show nI 0 = 0 from rfl), if_pos (show nI 0 = 0 from rfl)]
      obtain ⟨b1, e1, h1⟩ := c_prime hv
      obtain ⟨b2, e2, h2⟩ := m_prime hv
      rw [e1, e2, bnd_some, bnd_some, gB_ok (b01 b1), gB_ok (b01 b2), lw_of (l := 0) hv1 h1]
      have : b1 = b2 := by cases b1 <;> cases b2 <;> simp_all
      rw [this]
      exact ⟨rfl, rfl⟩
    · rw [if_neg (show ¬ nI 1 = 0 by decide), if_neg (show ¬ nI 1 = 0 by decide), if_pos (show nI 1 = 1 from rfl), if_pos (show nI 1 = 1 from rfl)]
      obtain ⟨r, e1, r1, r2, r3⟩ := c_root hv
      have hrr : r * r ≤ 1000 * 1000 := Nat.mul_le_mul r3 r3
      have hiff : (r * r = v) ↔ Lw 1 v := by
        constructor
        · intro h; exact ⟨r, h⟩
        · rintro ⟨x, hx⟩
          have h1 : x < r + 1 := sq_lt (by omega)
          have h2 : r ≤ x := by
            rcases Nat.lt_or_ge x r with q | q
            · exfalso
              have := Nat.mul_lt_mul'' q q
              omega
            · exact q
          have : x = r := by omega
          rw [← this]; exact hx
      have e3 : (if nI (r * r) = nI v then some (1 : Int32) else some 0) = some (if lwB 1 v then 1 else 0) := by
        rw [← lw_dec hv1 hiff]
        by_cases d : r * r = v
        · rw [if_pos (by rw [d]), if_pos d]
        · rw [if_neg (ne_lit (by omega) (by omega) d), if_neg d]
      rw [e1, bnd_some, bnd_some, pk_mul, e3, m_square hv r1 r2, lw_dec hv1 hiff, bnd_some, gB_ok (b01 _)]
      exact ⟨rfl, rfl⟩
    · rw [if_neg (show ¬ nI 2 = 0 by decide), if_neg (show ¬ nI 2 = 0 by decide), if_neg (show ¬ nI 2 = 1 by decide), if_neg (show ¬ nI 2 = 1 by decide), if_pos (show nI 2 = 2 from rfl), if_pos (show nI 2 = 2 from rfl)]
      have hiff : (nI (ra 0 v N) = nI v) ↔ Lw 2 v := ⟨fun h => ⟨N, hN, h⟩, fun ⟨M, hM, h⟩ => by rw [Nd_one hN hM]; exact h⟩
      rw [show fX4_withMirrored 0 (nI v) = _ from c_mirror (a := 0) hv hN hN7, bnd_some, m_alikeBehind hv hN hN7, lw_dec hv1 hiff, bnd_some, gB_ok (b01 _)]
      exact ⟨rfl, rfl⟩
    · rw [if_neg (show ¬ nI 3 = 0 by decide), if_neg (show ¬ nI 3 = 0 by decide), if_neg (show ¬ nI 3 = 1 by decide), if_neg (show ¬ nI 3 = 1 by decide), if_neg (show ¬ nI 3 = 2 by decide), if_neg (show ¬ nI 3 = 2 by decide), if_pos (show nI 3 = 3 from rfl), if_pos (show nI 3 = 3 from rfl)]
      have hiff : (v % rd v N = 0) ↔ Lw 3 v := ⟨fun h => ⟨N, hN, h⟩, fun ⟨M, hM, h⟩ => by rw [Nd_one hN hM]; exact h⟩
      have hp := rd_pos hv1 hN
      have hle := rd_le v N
      rw [c_digitSum hv hN hN7, bnd_some, c_multiple hv hp (by omega), m_bySum hv hv1 hN hN7, lw_dec hv1 hiff, bnd_some, gB_ok (b01 _)]
      exact ⟨rfl, rfl⟩
    · rw [if_neg (show ¬ nI 4 = 0 by decide), if_neg (show ¬ nI 4 = 0 by decide), if_neg (show ¬ nI 4 = 1 by decide), if_neg (show ¬ nI 4 = 1 by decide), if_neg (show ¬ nI 4 = 2 by decide), if_neg (show ¬ nI 4 = 2 by decide), if_neg (show ¬ nI 4 = 3 by decide), if_neg (show ¬ nI 4 = 3 by decide)]
      rw [lw_dec (l := 4) hv1 (Iff.refl ((nI v &&& (nI v - 1)) = 0))]
      exact ⟨rfl, rfl⟩
  · have q1 : ¬ (1 : Int32) ≤ nI v := fun e => hv1 ((nI_leI (a := 1) (by decide) (by omega)).mp e)
    rw [if_neg q1, if_neg q1, if_neg (fun e => hv1 (lwB_iff.mp e).1)]
    exact ⟨rfl, rfl⟩
