/-! Mathematics: loops, bits of eight, rows of naturals. -/
theorem loopF_inv {σ ρ : Type} {body : (σ → Option ρ) → σ → Option ρ} (N : Nat) (I : Nat → σ → Prop) (P : Option ρ → Prop)
    (hs : ∀ i q, i < N → I i q → ∃ q2, I (i + 1) q2 ∧ ∀ K, body K q = K q2)
    (he : ∀ q, I N q → ∀ K, P (body K q)) : ∀ (n : Nat) (q : σ), N < n → I 0 q → P (loopF body n q) := by
  have key : ∀ (d i n : Nat) (q : σ), i + d = N → d < n → I i q → P (loopF body n q) := by
    intro d
    induction d with
    | zero =>
      intro i n q h1 h2 hq
      obtain ⟨n, rfl⟩ : ∃ k, n = k + 1 := ⟨n - 1, by omega⟩
      have e : i = N := by omega
      exact he q (e ▸ hq) _
    | succ d ih =>
      intro i n q h1 h2 hq
      obtain ⟨n, rfl⟩ : ∃ k, n = k + 1 := ⟨n - 1, by omega⟩
      obtain ⟨q2, h3, h4⟩ := hs i q (by omega) hq
      show P (body (loopF body n) q)
      rw [h4]
      exact ih (i + 1) n q2 (by omega) (by omega) h3
  intro n q h hq
  exact key N 0 n q (by omega) h hq
theorem loopF_run {σ ρ : Type} {body : (σ → Option ρ) → σ → Option ρ} (N : Nat) (st : Nat → σ) (x : Option ρ) (hs : ∀ i, i < N → ∀ K, body K (st i) = K (st (i + 1))) (he : ∀ K, body K (st N) = x) {n : Nat} (hn : N < n) : loopF body n (st 0) = x :=
  loopF_inv N (fun i q => q = st i) (fun y => y = x) (fun i q h e => ⟨st (i + 1), rfl, fun K => by rw [e]; exact hs i h K⟩) (fun q e K => by rw [e]; exact he K) n (st 0) hn rfl
theorem FU_gt {n : Nat} (h : n < 2000000) : n < FU := h
/-! bits -/
theorem bt_c : ∀ w, w < 256 → ∀ k, k < 8 → ((nI w &&& (1 <<< (nI k &&& 31))) = 0 ↔ w.testBit k = false) := by decide +kernel
theorem bt_h : ∀ w, w < 256 → ∀ k, k < 8 → (((nI w >>> (nI k &&& 31)) &&& 1) = 1 ↔ w.testBit k = true) := by decide +kernel
theorem bt_b : ∀ w, w < 256 → ∀ k, k < 8 → ((nI w >>> (nI k &&& 31)) &&& 1) = if w.testBit k then 1 else 0 := by decide +kernel
theorem bt_or : ∀ w, w < 256 → ∀ k, k < 8 → nI w ||| (1 <<< (nI k &&& 31)) = nI (w ||| 2 ^ k) := by decide +kernel
theorem bt_an : ∀ w, w < 256 → ∀ k, k < 8 → nI w &&& ((1 <<< (nI k &&& 31)) ^^^ (-1)) = nI (w &&& (255 ^^^ 2 ^ k)) := by decide +kernel
theorem bt_1 : ∀ k, k < 8 → (1 : Int32) <<< (nI k &&& 31) = nI (2 ^ k) := by decide +kernel
theorem bt_an1 : ∀ w, w < 256 → ∀ k, k < 8 → nI w &&& (1 <<< (nI k &&& 31)) = nI (w &&& 2 ^ k) := by decide +kernel
def pop8 (w : Nat) : Nat := (List.range 8).foldl (fun s k => s + if w.testBit k then 1 else 0) 0
theorem pop_c : ∀ w, w < 256 → fJ6_bitCount_0f7a4 (nI w) = some (nI (pop8 w)) := by decide +kernel
theorem pop_m : ∀ w, w < 256 → fX10_bits (nI w) = some (nI (pop8 w)) := by decide +kernel
theorem bt_lt {w k : Nat} (hw : w < 256) (hk : k < 8) : w ||| 2 ^ k < 256 := Nat.or_lt_two_pow (n := 8) hw (Nat.pow_lt_pow_right (by decide) hk)
theorem bt_lta {w x : Nat} (hw : w < 256) : w &&& x < 256 := Nat.lt_of_le_of_lt Nat.and_le_left hw
theorem bt_tor (w k i : Nat) : (w ||| 2 ^ k).testBit i = (w.testBit i || decide (i = k)) := by
  rw [Nat.testBit_or, Nat.testBit_two_pow]
  by_cases h : k = i
  · subst h; simp
  · simp [h, Ne.symm h]
theorem bt_tan : ∀ w, w < 256 → ∀ k, k < 8 → ∀ i, i < 8 → (w &&& (255 ^^^ 2 ^ k)).testBit i = (w.testBit i && !decide (i = k)) := by decide +kernel
theorem bt_ext : ∀ w, w < 256 → ((∀ k, k < 8 → w.testBit k = false) ↔ w = 0) := by decide +kernel
/-! numbers -/
theorem n8 {i : Nat} (h : i < 8) : ¬ (8 : Int32) ≤ nI i := nI_ge (a := i) (b := 8) h (by decide)
theorem n88 : (8 : Int32) ≤ nI 8 := by decide
theorem n0 {i : Nat} (h : i < 2 ^ 31) : ¬ nI i < 0 := nI_pos h
theorem in8 {i : Nat} (h : i < 8) : vp_in (nI i) 8 := vp_in_nI h (by decide)
theorem cl8 {i : Nat} (h : i < 8) : (nI i).toNatClampNeg = i := nI_clamp (by omega)
theorem ge0 {α : Type} {i : Nat} (h : i < 8) (x : Option α) : gIn (nI i) 8 x = x := gIn_ok (in8 h)
def Row (n B : Nat) (f : Nat → Int32) (c : Nat → Nat) : Prop := ∀ k, k < n → f k = nI (c k) ∧ c k ≤ B
def oI (d : Int32) (o : Option Nat) : Int32 := match o with
  | none => d
  | some b => nI b
theorem bnd_some {α β : Type} (a : α) (f : α → Option β) : (some a).bind f = f a := rfl
/-! who is there, who is awake -/
theorem c_isAwake {w k : Nat} (hw : w < 256) (hk : k < 8) : fX2_isAwake (nI w) (nI k) = some (if w.testBit k then 1 else 0) := by
  unfold fX2_isAwake
  rw [if_neg (n0 (by omega)), if_neg (n8 hk)]
  by_cases h : w.testBit k
  · rw [if_neg (by rw [bt_c w hw k hk, h]; decide), if_pos h]
  · rw [if_pos ((bt_c w hw k hk).mpr (by simpa using h)), if_neg h]
theorem c_isThere {w k : Nat} (hw : w < 256) (hk : k < 8) : fX2_isThere (nI w) (nI k) = some (if w.testBit k then 1 else 0) := c_isAwake hw hk
theorem m_has {w k : Nat} (hw : w < 256) (hk : k < 8) : fX10_has (nI w) (nI k) = some (if w.testBit k then 1 else 0) := by
  unfold fX10_has
  by_cases h : w.testBit k
  · rw [if_pos ((bt_h w hw k hk).mpr h), if_pos h]
  · rw [if_neg (fun e => h ((bt_h w hw k hk).mp e)), if_neg h]
