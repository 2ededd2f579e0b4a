/-! the laws by which they bow -/
def Pr (v : Nat) : Prop := 1 < v ∧ ∀ e, 2 ≤ e → e * e ≤ v → ¬ v % e = 0
def ra (a v : Nat) : Nat → Nat
  | 0 => a
  | i + 1 => 10 * ra a v i + v / 10 ^ i % 10
def rd (v : Nat) : Nat → Nat
  | 0 => 0
  | i + 1 => rd v i + v / 10 ^ i % 10
/-- how many digits -/
def Nd (v N : Nat) : Prop := v / 10 ^ N = 0 ∧ ∀ i, i < N → 0 < v / 10 ^ i
theorem Nd_ex (v : Nat) (hv : v ≤ 1000000) : ∃ N, N ≤ 7 ∧ Nd v N := by
  have h7 : v / 10 ^ 7 = 0 := Nat.div_eq_of_lt (by omega)
  obtain ⟨N, h1, h2⟩ := pk_least (fun i => v / 10 ^ i = 0) ⟨7, h7⟩
  refine ⟨N, Nat.le_of_not_lt (fun h => h2 7 h h7), h1, fun i hi => Nat.pos_of_ne_zero (h2 i hi)⟩
theorem dstep {v i : Nat} (hv : v ≤ 1000000) : nI (v / 10 ^ i) / 10 = nI (v / 10 ^ (i + 1)) := by
  have hl : v / 10 ^ i < 2 ^ 31 := Nat.lt_of_le_of_lt (Nat.div_le_self _ _) (by omega)
  rw [show nI (v / 10 ^ i) / 10 = nI (v / 10 ^ i / 10) from pk_div (d := 10) hl (by decide) (by decide), Nat.div_div_eq_div_mul, Nat.pow_succ]
theorem drem {v i : Nat} (hv : v ≤ 1000000) : nI (v / 10 ^ i) - nI (v / 10 ^ (i + 1)) * 10 = nI (v / 10 ^ i % 10) := by
  have hl : v / 10 ^ i < 2 ^ 31 := Nat.lt_of_le_of_lt (Nat.div_le_self _ _) (by omega)
  rw [← dstep hv]
  exact pk_rem (d := 10) hl (by decide) (by decide)
theorem dpos {v i N : Nat} (hv : v ≤ 1000000) (hN : Nd v N) (hi : i < N) : ¬ nI (v / 10 ^ i) ≤ 0 := nI_nle (hN.2 i hi) (Nat.lt_of_le_of_lt (Nat.div_le_self _ _) (by omega))
theorem dend {v N : Nat} (hN : Nd v N) : nI (v / 10 ^ N) ≤ 0 := by rw [hN.1]; decide
theorem c_mirror {a v N : Nat} (hv : v ≤ 1000000) (hN : Nd v N) (hN7 : N ≤ 7) : fX4_withMirrored (nI a) (nI v) = some (nI (ra a v N)) := by
  unfold fX4_withMirrored
  have e0 : nI v = nI (v / 10 ^ 0) := by simp
  rw [e0]
  refine loopF_run N (fun i => (nI (ra a v i), nI (v / 10 ^ i))) _ ?_ ?_ (FU_gt (by omega))
  · intro i hi K
    show bX4_withMirrored_4 K (nI (ra a v i)) (nI (v / 10 ^ i)) = K (nI (ra a v (i + 1)), nI (v / 10 ^ (i + 1)))
    unfold bX4_withMirrored_4
    rw [if_neg (dpos hv hN hi), dstep hv, drem hv, show (10 : Int32) * nI (ra a v i) = nI (10 * ra a v i) from pk_mul 10 _, nI_add]
    rfl
  · intro K
    show bX4_withMirrored_4 K (nI (ra a v N)) (nI (v / 10 ^ N)) = _
    unfold bX4_withMirrored_4
    rw [if_pos (dend hN)]
theorem m_alikeBehind {v N : Nat} (hv : v ≤ 1000000) (hN : Nd v N) (hN7 : N ≤ 7) : fX10_isAlikeBehind (nI v) = if nI (ra 0 v N) = nI v then some 1 else some 0 := by
  unfold fX10_isAlikeBehind
  have e0 : nI v = nI (v / 10 ^ 0) := by simp
  have : loopF (fun k q => bX10_isAlikeBehind_4 k (nI v) q.1 q.2) FU (0, nI (v / 10 ^ 0)) = if nI (ra 0 v N) = nI v then some 1 else some 0 := by
    refine loopF_run N (fun i => (nI (ra 0 v i), nI (v / 10 ^ i))) _ ?_ ?_ (FU_gt (by omega))
    · intro i hi K
      show bX10_isAlikeBehind_4 K (nI v) (nI (ra 0 v i)) (nI (v / 10 ^ i)) = K (nI (ra 0 v (i + 1)), nI (v / 10 ^ (i + 1)))
      unfold bX10_isAlikeBehind_4
      rw [if_neg (dpos hv hN hi), dstep hv, drem hv, show (10 : Int32) * nI (ra 0 v i) = nI (10 * ra 0 v i) from pk_mul 10 _, nI_add]
      rfl
    · intro K
      show bX10_isAlikeBehind_4 K (nI v) (nI (ra 0 v N)) (nI (v / 10 ^ N)) = _
      unfold bX10_isAlikeBehind_4
      rw [if_pos (dend hN)]
  rw [← e0] at this
  exact this
theorem rd_le (v : Nat) : ∀ i, rd v i ≤ 9 * i
  | 0 => Nat.le_refl _
  | i + 1 => by
    have := rd_le v i
    have h2 : v / 10 ^ i % 10 < 10 := Nat.mod_lt _ (by decide)
    show rd v i + v / 10 ^ i % 10 ≤ _
    omega
theorem c_digitSum {v N : Nat} (hv : v ≤ 1000000) (hN : Nd v N) (hN7 : N ≤ 7) : fX4_digitSum (nI v) = some (nI (rd v N)) := by
  unfold fX4_digitSum
  have e0 : nI v = nI (v / 10 ^ 0) := by simp
  rw [e0]
  refine loopF_run N (fun i => (nI (rd v i), nI (v / 10 ^ i))) _ ?_ ?_ (FU_gt (by omega))
  · intro i hi K
    show bX4_digitSum_4 K (nI (rd v i)) (nI (v / 10 ^ i)) = K (nI (rd v (i + 1)), nI (v / 10 ^ (i + 1)))
    unfold bX4_digitSum_4
    rw [if_neg (dpos hv hN hi), dstep hv, drem hv, nI_add]
    rfl
  · intro K
    show bX4_digitSum_4 K (nI (rd v N)) (nI (v / 10 ^ N)) = _
    unfold bX4_digitSum_4
    rw [if_pos (dend hN)]
theorem rd_pos {v : Nat} (hv : 0 < v) : ∀ {N : Nat}, Nd v N → 0 < rd v N := by
  intro N hN
  have key : ∀ i, (∀ j, j < i → v / 10 ^ j % 10 = 0) → v % 10 ^ i = 0 := by
    intro i
    induction i with
    | zero => intro _; exact Nat.mod_one v
    | succ i ih =>
      intro h
      have h1 := ih (fun j hj => h j (by omega))
      have h2 := h i (by omega)
      rw [Nat.pow_succ, Nat.mod_mul, h1, h2]
      simp
  have h0 : ∀ i, rd v i = 0 → ∀ j, j < i → v / 10 ^ j % 10 = 0 := by
    intro i
    induction i with
    | zero => intro _ j hj; omega
    | succ i ih =>
      intro h j hj
      have h' : rd v i + v / 10 ^ i % 10 = 0 := h
      by_cases e : j = i
      · subst e; omega
      · exact ih (by omega) j (by omega)
  rcases Nat.eq_zero_or_pos (rd v N) with h | h
  · exfalso
    have h1 := key N (h0 N h)
    have h2 := Nat.div_add_mod v (10 ^ N)
    rw [hN.1, h1] at h2
    omega
  · exact h
theorem m_bySum {v N : Nat} (hv : v ≤ 1000000) (hv1 : 1 ≤ v) (hN : Nd v N) (hN7 : N ≤ 7) : fX10_isBySum (nI v) = if v % rd v N = 0 then some 1 else some 0 := by
  have hp := rd_pos hv1 hN
  have hl := rd_le v N
  unfold fX10_isBySum
  have e0 : nI v = nI (v / 10 ^ 0) := by simp
  have : loopF (fun k q => bX10_isBySum_4 k (nI v) q.1 q.2) FU (0, nI (v / 10 ^ 0)) = if v % rd v N = 0 then some 1 else some 0 := by
    refine loopF_run N (fun i => (nI (rd v i), nI (v / 10 ^ i))) _ ?_ ?_ (FU_gt (by omega))
    · intro i hi K
      show bX10_isBySum_4 K (nI v) (nI (rd v i)) (nI (v / 10 ^ i)) = K (nI (rd v (i + 1)), nI (v / 10 ^ (i + 1)))
      unfold bX10_isBySum_4
      rw [if_neg (dpos hv hN hi), dstep hv, drem hv, nI_add]
      rfl
    · intro K
      show bX10_isBySum_4 K (nI v) (nI (rd v N)) (nI (v / 10 ^ N)) = _
      unfold bX10_isBySum_4
      have hm : v % rd v N < rd v N := Nat.mod_lt _ hp
      rw [if_pos (dend hN), gNz_ok (nI_ne0 hp (by omega)), pk_rem (by omega) hp (by omega)]
      by_cases d : v % rd v N = 0
      · rw [if_pos (by rw [d]; rfl), if_pos d]
      · rw [if_neg (fun e => d ((nI_eq0 (by omega)).mp e)), if_neg d]
  rw [← e0] at this
  exact this
theorem c_multiple {v d : Nat} (hv : v ≤ 1000000) (hd : 0 < d) (hd2 : d ≤ 1000000) : fX4_isMultipleOf (nI v) (nI d) = if v % d = 0 then some 1 else some 0 := by
  unfold fX4_isMultipleOf
  have hm : v % d < d := Nat.mod_lt _ hd
  rw [if_neg (nI_nle hd (by omega)), gNz_ok (nI_ne0 hd (by omega)), pk_rem (by omega) hd (by omega)]
  by_cases e : v % d = 0
  · rw [if_pos (by rw [e]; rfl), if_pos e]
  · rw [if_neg (fun h => e ((nI_eq0 (by omega)).mp h)), if_neg e]
/-! roots -/
theorem bit10 : ∀ i, i < 10 → 0 < 512 / 2 ^ i ∧ 1024 / 2 ^ i = 2 * (512 / 2 ^ i) ∧ 1024 / 2 ^ (i + 1) = 512 / 2 ^ i ∧ 512 / 2 ^ i / 2 = 512 / 2 ^ (i + 1) ∧ 512 / 2 ^ i ≤ 512 := by decide
theorem c_root {v : Nat} (hv : v ≤ 1000000) : ∃ r, fX4_rootOf (nI v) = some (nI r) ∧ r * r ≤ v ∧ v < (r + 1) * (r + 1) ∧ r ≤ 1000 := by
  have sq1000 : ∀ r, r * r ≤ v → r ≤ 1000 := by
    intro r h
    rcases Nat.lt_or_ge 1000 r with hlt | hge
    · exfalso
      have : 1001 * 1001 ≤ r * r := Nat.mul_le_mul hlt hlt
      omega
    · exact hge
  unfold fX4_rootOf
  refine loopF_inv 10 (fun i q => ∃ r, q = (nI r, nI (512 / 2 ^ i)) ∧ r * r ≤ v ∧ v < (r + 1024 / 2 ^ i) * (r + 1024 / 2 ^ i)) (fun y => ∃ r, y = some (nI r) ∧ r * r ≤ v ∧ v < (r + 1) * (r + 1) ∧ r ≤ 1000) ?_ ?_ FU _ (FU_gt (by decide)) ⟨0, rfl, by omega, by show v < (0 + 1024) * (0 + 1024); omega⟩
  · rintro i q hi ⟨r, rfl, h1, h2⟩
    obtain ⟨b1, b2, b3, b4, b5⟩ := bit10 i hi
    have hr := sq1000 r h1
    generalize hb : 512 / 2 ^ i = b at b1 b2 b3 b4 b5
    have hmul : (r + b) * (r + b) ≤ 1512 * 1512 := Nat.mul_le_mul (by omega) (by omega)
    have step : ∀ K, bX4_rootOf_6 K (nI v) (nI r) (nI b) = K (nI (if v < (r + b) * (r + b) then r else r + b), nI (b / 2)) := by
      intro K
      unfold bX4_rootOf_6 bX4_rootOf_25
      rw [if_neg (nI_nle b1 (by omega)), nI_add, pk_mul, show nI b / 2 = nI (b / 2) from pk_div (d := 2) (by omega) (by decide) (by decide)]
      by_cases d : v < (r + b) * (r + b)
      · rw [if_pos ((nI_ltI (by omega) (by omega)).mpr d), if_pos d]
      · rw [if_neg (fun e => d ((nI_ltI (by omega) (by omega)).mp e)), if_neg d]
    refine ⟨(nI (if v < (r + b) * (r + b) then r else r + b), nI (512 / 2 ^ (i + 1))), ⟨_, rfl, ?_, ?_⟩, fun K => ?_⟩
    · split <;> omega
    · rw [b3]
      split
      · assumption
      · rw [b2] at h2
        rw [show r + b + b = r + 2 * b by omega]
        exact h2
    · rw [← b4]
      exact step K
  · rintro q ⟨r, rfl, h1, h2⟩ K
    refine ⟨r, ?_, h1, h2, sq1000 r h1⟩
    show bX4_rootOf_6 K (nI v) (nI r) (nI 0) = _
    unfold bX4_rootOf_6
    rw [if_pos (by decide)]
theorem sq_lt {a b : Nat} (h : a * a < b * b) : a < b := by
  rcases Nat.lt_or_ge a b with q | q
  · exact q
  · exact absurd (Nat.mul_le_mul q q) (by omega)
theorem m_square {v r : Nat} (hv : v ≤ 1000000) (h1 : r * r ≤ v) (h2 : v < (r + 1) * (r + 1)) : fX10_isSquare (nI v) = if r * r = v then some 1 else some 0 := by
  have hr : r ≤ 1000 := by
    rcases Nat.lt_or_ge 1000 r with hlt | hge
    · exfalso
      have : 1001 * 1001 ≤ r * r := Nat.mul_le_mul hlt hlt
      omega
    · exact hge
  have body : ∀ K x, x ≤ 1001 → bX10_isSquare_2 K (nI v) (nI x) = if v ≤ x * x then (if x * x = v then some 1 else some 0) else K (nI (x + 1)) := by
    intro K x hx
    have hxx : x * x ≤ 1001 * 1001 := Nat.mul_le_mul hx hx
    unfold bX10_isSquare_2
    rw [pk_mul, nI_1]
    by_cases d : v ≤ x * x
    · rw [if_pos ((nI_leI (by omega) (by omega)).mpr d), if_pos d]
      by_cases e : x * x = v
      · rw [if_pos (by rw [e]), if_pos e]
      · rw [if_neg (ne_lit (by omega) (by omega) e), if_neg e]
    · rw [if_neg (fun e => d ((nI_leI (by omega) (by omega)).mp e)), if_neg d]
  unfold fX10_isSquare
  by_cases e : r * r = v
  · rw [if_pos e]
    refine loopF_run r (fun i => nI i) _ ?_ ?_ (FU_gt (by omega))
    · intro i hi K
      rw [body K i (by omega), if_neg]
      intro h
      have : i * i < r * r := Nat.mul_lt_mul'' hi hi
      omega
    · intro K
      rw [body K r (by omega), if_pos (by omega), if_pos e]
  · rw [if_neg e]
    refine loopF_run (r + 1) (fun i => nI i) _ ?_ ?_ (FU_gt (by omega))
    · intro i hi K
      rw [body K i (by omega), if_neg]
      intro h
      have : i * i ≤ r * r := Nat.mul_le_mul (by omega) (by omega)
      omega
    · intro K
      rw [body K (r + 1) (by omega), if_pos (by omega), if_neg (by omega)]
