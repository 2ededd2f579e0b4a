
def bdc (d R : Nat) (s : Nat) : Nat → Nat
  | 0 => s
  | y + 1 => bdc d R s y + (if (R - 7 * y) % d = 0 then 1 else 0)
def bdm (d R x : Nat) (s : Nat) : Nat → Nat
  | 0 => s
  | y + 1 => bdm d R x s y - (bdm d R x s y - (if (R - 7 * y) % d = 0 then x + y + (R - 7 * y) / d else 1000))
def bdC (a d n : Nat) : Nat → Nat
  | 0 => 0
  | x + 1 => bdc d (n - a * x) (bdC a d n x) ((n - a * x) / 7 + 1)
def bdM (a d n : Nat) : Nat → Nat
  | 0 => 1000
  | x + 1 => bdm d (n - a * x) x (bdM a d n x) ((n - a * x) / 7 + 1)
theorem bd_all : ∀ n, n ≤ 200 → bdC 12 5 n (n / 12 + 1) = bdC 5 12 n (n / 5 + 1) ∧ bdM 12 5 n (n / 12 + 1) = bdM 5 12 n (n / 5 + 1) := by decide +kernel
theorem bdm_le {d R x s : Nat} (hs : s ≤ 1000) : ∀ y, bdm d R x s y ≤ 1000
  | 0 => hs
  | y + 1 => by
    show bdm d R x s y - (bdm d R x s y - (if (R - 7 * y) % d = 0 then x + y + (R - 7 * y) / d else 1000)) ≤ 1000
    have := bdm_le (d := d) (R := R) (x := x) hs y
    omega
theorem bdM_le {a d n : Nat} : ∀ x, bdM a d n x ≤ 1000
  | 0 => Nat.le_refl _
  | x + 1 => bdm_le (bdM_le x) _
def cM (M : Nat) : Int32 := if M = 1000 then (-6) else nI M
def mM (M : Nat) : Int32 := if M = 1000 then 100000000 else nI M
theorem c_bd1 {n x y M c : Nat} (hn : n ≤ 200) (h : 12 * x + 7 * y ≤ n) (hM : M ≤ 1000) (K32 : Int32 × Int32 × Int32 → Option Int32) (K44 : Int32 × Int32 × Int32 × Int32 → Option Int32) : bX9_beads_44 K32 K44 (nI n) (cM M) (nI c) (nI x) (nI y) = K44 (cM (M - (M - (if (n - 12 * x - 7 * y) % 5 = 0 then x + y + (n - 12 * x - 7 * y) / 5 else 1000))), nI (c + if (n - 12 * x - 7 * y) % 5 = 0 then 1 else 0), nI x, nI (y + 1)) := by
  unfold bX9_beads_44 bX9_beads_113
  have e1 : 12 * nI x = nI (12 * x) := pk_mul 12 x
  have e2 : 7 * nI y = nI (7 * y) := pk_mul 7 y
  rw [e1, e2, nI_add, nI_add, if_neg (nI_nlt h (by omega)), pk_sub (show 12 * x ≤ n by omega), pk_sub (show 7 * y ≤ n - 12 * x by omega)]
  generalize hr : n - 12 * x - 7 * y = r
  rw [show nI r / 5 = nI (r / 5) from pk_div (d := 5) (by omega) (by omega) (by omega), show nI r - nI (r / 5) * 5 = nI (r % 5) by rw [← pk_rem (d := 5) (a := r) (by omega) (by omega) (by omega), pk_div (by omega) (by omega) (by omega)]; rfl, nI_add, nI_1, nI_1]
  have hv : x + y + r / 5 ≤ 200 := by omega
  by_cases d : r % 5 = 0
  · rw [if_pos (show nI (r % 5) = 0 by rw [d]; rfl), if_pos d, if_pos d]
    unfold cM
    by_cases d2 : M = 1000
    · rw [if_pos d2, if_pos (show (-6 : Int32) = -6 from rfl), show M - (M - (x + y + r / 5)) = x + y + r / 5 by omega, if_neg (by omega)]
    · have hne : ¬ nI M = -6 := fun e => by have : ¬ nI M < 0 := nI_pos (by omega); rw [e] at this; exact this (by decide)
      rw [if_neg d2, if_neg hne]
      by_cases d3 : x + y + r / 5 < M
      · rw [if_pos (nI_lt d3 (by omega)), show M - (M - (x + y + r / 5)) = x + y + r / 5 by omega, if_neg (by omega)]
      · rw [if_neg (nI_nlt (by omega) (by omega)), show M - (M - (x + y + r / 5)) = M by omega, if_neg d2]
  · rw [if_neg (nI_ne0 (by omega) (by omega)), if_neg d, if_neg d, show M - (M - 1000) = M by omega]
    rfl
theorem m_bd1 {n x y M c : Nat} (hn : n ≤ 200) (h : 5 * x + 7 * y ≤ n) (hM : M ≤ 1000) (K32 : Int32 × Int32 × Int32 → Option Int32) (K43 : Int32 × Int32 × Int32 × Int32 → Option Int32) : bX10_beads_43 K32 K43 (nI n) (nI c) (mM M) (nI x) (nI y) = K43 (nI (c + if (n - 5 * x - 7 * y) % 12 = 0 then 1 else 0), mM (M - (M - (if (n - 5 * x - 7 * y) % 12 = 0 then x + y + (n - 5 * x - 7 * y) / 12 else 1000))), nI x, nI (y + 1)) := by
  unfold bX10_beads_43
  have e1 : 5 * nI x = nI (5 * x) := pk_mul 5 x
  have e2 : 7 * nI y = nI (7 * y) := pk_mul 7 y
  rw [e1, e2, nI_add, nI_add, if_neg (nI_nlt h (by omega)), pk_sub (show 5 * x ≤ n by omega), pk_sub (show 7 * y ≤ n - 5 * x by omega)]
  generalize hr : n - 5 * x - 7 * y = r
  rw [show nI r / 12 = nI (r / 12) from pk_div (d := 12) (by omega) (by omega) (by omega), show nI r - nI (r / 12) * 12 = nI (r % 12) by rw [← pk_rem (d := 12) (a := r) (by omega) (by omega) (by omega), pk_div (by omega) (by omega) (by omega)]; rfl, nI_add, nI_1, nI_1]
  have hv : x + y + r / 12 ≤ 200 := by omega
  by_cases d : r % 12 = 0
  · rw [if_pos (show nI (r % 12) = 0 by rw [d]; rfl), if_pos d, if_pos d]
    unfold mM
    by_cases d2 : M = 1000
    · rw [if_pos d2, if_neg (show ¬ (100000000 : Int32) ≤ nI (x + y + r / 12) from nI_ge (b := 100000000) (by omega) (by omega)), show M - (M - (x + y + r / 12)) = x + y + r / 12 by omega, if_neg (by omega)]
    · rw [if_neg d2]
      by_cases d3 : x + y + r / 12 < M
      · rw [if_neg (nI_ge d3 (by omega)), show M - (M - (x + y + r / 12)) = x + y + r / 12 by omega, if_neg (by omega)]
      · rw [if_pos (nI_le (by omega) (by omega)), show M - (M - (x + y + r / 12)) = M by omega, if_neg d2]
  · rw [if_neg (nI_ne0 (by omega) (by omega)), if_neg d, if_neg d, show M - (M - 1000) = M by omega]
    rfl
theorem r_beads (a1 a2 : Int32) : ∃ r, fX9_beads a1 a2 = some r ∧ fX10_beads a1 a2 = some r := by
  unfold fX9_beads fX10_beads
  rcases win a1 0 200 (by decide) (by decide) with ⟨e1, e2⟩ | ⟨n, _, hn, rfl, e1, e2⟩
  · exact ⟨-2, by rw [show fX9_isWithin a1 0 200 = some 0 from e1]; rfl, by rw [show fX10_in a1 0 200 = some 0 from e2]; rfl⟩
  · rw [show fX9_isWithin (nI n) 0 200 = some 1 from e1, show fX10_in (nI n) 0 200 = some 1 from e2, bnd_some, bnd_some, if_neg n10, if_neg n10]
    rcases win a2 0 1 (by decide) (by decide) with ⟨e1, e2⟩ | ⟨v, _, hv, rfl, e1, e2⟩
    · exact ⟨-2, by rw [show fX9_isWithin a2 0 1 = some 0 from e1]; rfl, by rw [show fX10_in a2 0 1 = some 0 from e2]; rfl⟩
    · rw [show fX9_isWithin (nI v) 0 1 = some 1 from e1, show fX10_in (nI v) 0 1 = some 1 from e2, bnd_some, bnd_some, if_neg n10, if_neg n10]
      obtain ⟨k1, k2⟩ := bd_all n hn
      refine ⟨if v = 0 then cM (bdM 12 5 n (n / 12 + 1)) else nI (bdC 12 5 n (n / 12 + 1)), ?_, ?_⟩
      · refine loopF_run (n / 12 + 1) (fun x => (cM (bdM 12 5 n x), nI (bdC 12 5 n x), nI x)) _ (fun x hx K => ?_) (fun K => ?_) (FU_gt (by omega))
        · show bX9_beads_32 K (nI n) (nI v) (cM (bdM 12 5 n x)) (nI (bdC 12 5 n x)) (nI x) = _
          unfold bX9_beads_32
          rw [show 12 * nI x = nI (12 * x) from pk_mul 12 x, if_neg (nI_nlt (by omega) (by omega))]
          refine loopF_run ((n - 12 * x) / 7 + 1) (fun y => (cM (bdm 5 (n - 12 * x) x (bdM 12 5 n x) y), nI (bdc 5 (n - 12 * x) (bdC 12 5 n x) y), nI x, nI y)) _ (fun y hy K4 => ?_) (fun K4 => ?_) (FU_gt (by omega))
          · exact c_bd1 hn (by omega) (bdm_le (bdM_le x) y) K K4
          · show bX9_beads_44 K K4 (nI n) _ _ (nI x) (nI ((n - 12 * x) / 7 + 1)) = _
            unfold bX9_beads_44
            rw [show 12 * nI x = nI (12 * x) from pk_mul 12 x, show 7 * nI ((n - 12 * x) / 7 + 1) = nI (7 * ((n - 12 * x) / 7 + 1)) from pk_mul 7 _, nI_add, if_pos (nI_lt (by omega) (by omega)), nI_1]
            rfl
        · show bX9_beads_32 K (nI n) (nI v) (cM (bdM 12 5 n (n / 12 + 1))) (nI (bdC 12 5 n (n / 12 + 1))) (nI (n / 12 + 1)) = _
          unfold bX9_beads_32
          rw [show 12 * nI (n / 12 + 1) = nI (12 * (n / 12 + 1)) from pk_mul 12 _, if_pos (nI_lt (by omega) (by omega))]
          have hv2 : v = 0 ∨ v = 1 := by omega
          rcases hv2 with rfl | rfl
          · rfl
          · rfl
      · refine loopF_run (n / 5 + 1) (fun x => (nI (bdC 5 12 n x), mM (bdM 5 12 n x), nI x)) _ (fun x hx K => ?_) (fun K => ?_) (FU_gt (by omega))
        · show bX10_beads_32 K (nI n) (nI v) (nI (bdC 5 12 n x)) (mM (bdM 5 12 n x)) (nI x) = _
          unfold bX10_beads_32
          rw [show 5 * nI x = nI (5 * x) from pk_mul 5 x, if_neg (nI_nlt (by omega) (by omega))]
          refine loopF_run ((n - 5 * x) / 7 + 1) (fun y => (nI (bdc 12 (n - 5 * x) (bdC 5 12 n x) y), mM (bdm 12 (n - 5 * x) x (bdM 5 12 n x) y), nI x, nI y)) _ (fun y hy K4 => ?_) (fun K4 => ?_) (FU_gt (by omega))
          · exact m_bd1 hn (by omega) (bdm_le (bdM_le x) y) K K4
          · show bX10_beads_43 K K4 (nI n) _ _ (nI x) (nI ((n - 5 * x) / 7 + 1)) = _
            unfold bX10_beads_43
            rw [show 5 * nI x = nI (5 * x) from pk_mul 5 x, show 7 * nI ((n - 5 * x) / 7 + 1) = nI (7 * ((n - 5 * x) / 7 + 1)) from pk_mul 7 _, nI_add, if_pos (nI_lt (by omega) (by omega)), nI_1]
            rfl
        · show bX10_beads_32 K (nI n) (nI v) (nI (bdC 5 12 n (n / 5 + 1))) (mM (bdM 5 12 n (n / 5 + 1))) (nI (n / 5 + 1)) = _
          unfold bX10_beads_32
          rw [show 5 * nI (n / 5 + 1) = nI (5 * (n / 5 + 1)) from pk_mul 5 _, if_pos (nI_lt (by omega) (by omega)), ← k1, ← k2]
          have hle := bdM_le (a := 12) (d := 5) (n := n) (n / 12 + 1)
          have hv2 : v = 0 ∨ v = 1 := by omega
          rcases hv2 with rfl | rfl
          · rw [if_neg (show ¬ nI 0 = 1 by decide), if_pos rfl]
            unfold mM cM
            by_cases d : bdM 12 5 n (n / 12 + 1) = 1000
            · rw [if_pos d, if_pos d]; rfl
            · rw [if_neg d, if_neg d, if_neg (show ¬ nI (bdM 12 5 n (n / 12 + 1)) = 100000000 from fun e => absurd ((nI_eq (a := bdM 12 5 n (n / 12 + 1)) (b := 100000000) (by omega) (by omega)).mp e) (by omega))]
          · rfl
