/-! ===== SilenceCount.isWithin(III)Z ===== -/
abbrev rmX9_isWithin : Room := { frames := 0, cells := 0, slots := 0, locals := 0 }
theorem kkX9_isWithin : yX9_isWithin.cls = RX9 ∧ yX9_isWithin.cls ≠ "java/lang/invoke/MethodHandle" ∧ yX9_isWithin.cls ≠ "java/lang/invoke/VarHandle" ∧ (parseMethodDescriptor yX9_isWithin.desc).map (fun d => d.parameters.length) = some 3 := by decide +kernel
def fX9_isWithin (a0 : Int32) (a1 : Int32) (a2 : Int32) : Option (Int32) :=
  if a0 < a1 then some 0 else if a2 < a0 then some 0 else some 1
set_option maxRecDepth 100000 in
set_option maxHeartbeats 4000000 in
theorem CX9_isWithin (l : Launch) {D : va_G} {ty : TY} {a0 : Int32} {a1 : Int32} {a2 : Int32} {q0 : Int32} (hf : fX9_isWithin a0 a1 a2 = some q0) : ROi l yX9_isWithin wsX9_isWithin rmX9_isWithin D ty [.int a0, .int a1, .int a2] [] q0 := by
  refine ROi.start (cc := cX9_isWithin) (maxL := 3) (ret := (some .boolean)) (own := RX9) (by decide) rfl rfl (Nat.le_of_ble_eq_true rfl) ?_
  intro p e s m below meth c ls C hK hP hl
  obtain ⟨hx, hb, hr, hml, hown, hts, hlocks⟩ := id C
  have hl : lv_has ls 3 [(0, .int a0), (1, .int a1), (2, .int a2)] := hl
  unfold fX9_isWithin at hf
  refine lv_iload_n hx hb dX9_isWithin_0 rfl (lv_at hl 0 rfl) ?_
  refine lv_iload_n hx hb dX9_isWithin_1 rfl (lv_at hl 1 rfl) ?_
  refine lv_icmp_lt (tgt := 14) hx hb dX9_isWithin_2 (by decide) (fun hc => ?_) (fun hc => ?_)
  · have hf := ft hf hc
    refine lv_iconst (v := 0) hx hb dX9_isWithin_14 (by decide) ?_
    exact ret_rz hx hb hr hlocks (Or.inl rfl) hf dX9_isWithin_15
  · have hf := ff hf hc
    refine lv_iload_n hx hb dX9_isWithin_5 rfl (lv_at hl 0 rfl) ?_
    refine lv_iload_n hx hb dX9_isWithin_6 rfl (lv_at hl 2 rfl) ?_
    refine lv_icmp_gt (tgt := 14) hx hb dX9_isWithin_7 (by decide) (fun hc => ?_) (fun hc => ?_)
    · have hf := ft hf hc
      refine lv_iconst (v := 0) hx hb dX9_isWithin_14 (by decide) ?_
      exact ret_rz hx hb hr hlocks (Or.inl rfl) hf dX9_isWithin_15
    · have hf := ff hf hc
      refine lv_iconst (v := 1) hx hb dX9_isWithin_10 (by decide) ?_
      refine lv_goto (tgt := 15) hx hb dX9_isWithin_11 (by decide) ?_
      exact ret_rz hx hb hr hlocks (Or.inr rfl) hf dX9_isWithin_15
/-! ===== SilenceCount.isMonk(I)Z ===== -/
abbrev rmX9_isMonk : Room := { frames := 0, cells := 0, slots := 0, locals := 0 }
theorem kkX9_isMonk : yX9_isMonk.cls = RX9 ∧ yX9_isMonk.cls ≠ "java/lang/invoke/MethodHandle" ∧ yX9_isMonk.cls ≠ "java/lang/invoke/VarHandle" ∧ (parseMethodDescriptor yX9_isMonk.desc).map (fun d => d.parameters.length) = some 1 := by decide +kernel
def fX9_isMonk (a0 : Int32) : Option (Int32) :=
  if a0 < 0 then some 0 else if 8 ≤ a0 then some 0 else some 1
set_option maxRecDepth 100000 in
set_option maxHeartbeats 4000000 in
theorem CX9_isMonk (l : Launch) {D : va_G} {ty : TY} {a0 : Int32} {q0 : Int32} (hf : fX9_isMonk a0 = some q0) : ROi l yX9_isMonk wsX9_isMonk rmX9_isMonk D ty [.int a0] [] q0 := by
  refine ROi.start (cc := cX9_isMonk) (maxL := 1) (ret := (some .boolean)) (own := RX9) (by decide) rfl rfl (Nat.le_of_ble_eq_true rfl) ?_
  intro p e s m below meth c ls C hK hP hl
  obtain ⟨hx, hb, hr, hml, hown, hts, hlocks⟩ := id C
  have hl : lv_has ls 1 [(0, .int a0)] := hl
  unfold fX9_isMonk at hf
  refine lv_iload_n hx hb dX9_isMonk_0 rfl (lv_at hl 0 rfl) ?_
  refine lv_if_lt (tgt := 14) hx hb dX9_isMonk_1 (by decide) (fun hc => ?_) (fun hc => ?_)
  · have hf := ft hf hc
    refine lv_iconst (v := 0) hx hb dX9_isMonk_14 (by decide) ?_
    exact ret_rz hx hb hr hlocks (Or.inl rfl) hf dX9_isMonk_15
  · have hf := ff hf hc
    refine lv_iload_n hx hb dX9_isMonk_4 rfl (lv_at hl 0 rfl) ?_
    refine lv_bipush (v := 8) hx hb dX9_isMonk_5 (by decide) ?_
    refine lv_icmp_ge (tgt := 14) hx hb dX9_isMonk_7 (by decide) (fun hc => ?_) (fun hc => ?_)
    · have hf := ft hf hc
      refine lv_iconst (v := 0) hx hb dX9_isMonk_14 (by decide) ?_
      exact ret_rz hx hb hr hlocks (Or.inl rfl) hf dX9_isMonk_15
    · have hf := ff hf hc
      refine lv_iconst (v := 1) hx hb dX9_isMonk_10 (by decide) ?_
      refine lv_goto (tgt := 15) hx hb dX9_isMonk_11 (by decide) ?_
      exact ret_rz hx hb hr hlocks (Or.inr rfl) hf dX9_isMonk_15
/-! ===== SilenceCount.isLaw(I)Z ===== -/
abbrev rmX9_isLaw : Room := { frames := 1, cells := 0, slots := 0, locals := 22 }
theorem kkX9_isLaw : yX9_isLaw.cls = RX9 ∧ yX9_isLaw.cls ≠ "java/lang/invoke/MethodHandle" ∧ yX9_isLaw.cls ≠ "java/lang/invoke/VarHandle" ∧ (parseMethodDescriptor yX9_isLaw.desc).map (fun d => d.parameters.length) = some 1 := by decide +kernel
def fX9_isLaw (a0 : Int32) : Option (Int32) :=
  (fX9_isWithin a0 0 4).bind fun r3 => gB r3 (some r3)
set_option maxRecDepth 100000 in
set_option maxHeartbeats 4000000 in
theorem CX9_isLaw (l : Launch) {D : va_G} {ty : TY} {a0 : Int32} {q0 : Int32} (hf : fX9_isLaw a0 = some q0) : ROi l yX9_isLaw wsX9_isLaw rmX9_isLaw D ty [.int a0] [] q0 := by
  refine ROi.start (cc := cX9_isLaw) (maxL := 1) (ret := (some .boolean)) (own := RX9) (by decide) rfl rfl (Nat.le_of_ble_eq_true rfl) ?_
  intro p e s m below meth c ls C hK hP hl
  obtain ⟨hx, hb, hr, hml, hown, hts, hlocks⟩ := id C
  have hl : lv_has ls 1 [(0, .int a0)] := hl
  unfold fX9_isLaw at hf
  refine lv_iload_n hx hb dX9_isLaw_0 rfl (lv_at hl 0 rfl) ?_
  refine lv_iconst (v := 0) hx hb dX9_isLaw_1 (by decide) ?_
  refine lv_iconst (v := 4) hx hb dX9_isLaw_2 (by decide) ?_
  obtain ⟨r3, hr3, hf⟩ := bnd hf
  refine callS_ri (As := [.int a0, .int 0, .int 4]) (rest := []) ⟨hx, hb, hml, hown, hts⟩ (CX9_isWithin l hr3) (va_cwS 3 hts gX9_isLaw_X9_isWithin rfl rfl rfl kkX9_isWithin.2 ⟨Nat.le_of_ble_eq_true rfl, Nat.le_of_ble_eq_true rfl⟩) hK hP hl.1 rfl (by decide) dX9_isLaw_3 ⟨Nat.zero_le _, Nat.zero_le _⟩ ?_
  obtain ⟨hbv, hf⟩ := gB_some hf
  exact ret_rz hx hb hr hlocks hbv hf dX9_isLaw_6
/-! ===== SilenceCount$House.isThere(I)Z ===== -/
abbrev rmX2_isThere : Room := { frames := 0, cells := 0, slots := 0, locals := 0 }
theorem kkX2_isThere : yX2_isThere.cls = RX2 ∧ yX2_isThere.cls ≠ "java/lang/invoke/MethodHandle" ∧ yX2_isThere.cls ≠ "java/lang/invoke/VarHandle" ∧ (parseMethodDescriptor yX2_isThere.desc).map (fun d => d.parameters.length) = some 1 := by decide +kernel
theorem mX2_isThere_f26 : Cond.fieldLink RX2 26 "SilenceCount$House" "there" "I" ∈ wsX2_isThere := by decide +kernel
theorem wX2_isThere_X2 : ∀ w ∈ u_ws RX2 TX2 6, w ∈ wsX2_isThere := by decide +kernel
def fX2_isThere (t_there : Int32) (a1 : Int32) : Option (Int32) :=
  if a1 < 0 then some 0 else if 8 ≤ a1 then some 0 else if (t_there &&& (1 <<< (a1 &&& 31))) = 0 then some 0 else some 1
set_option maxRecDepth 100000 in
set_option maxHeartbeats 4000000 in
theorem CX2_isThere (l : Launch) {D : va_G} {ty : TY} {A_t A_t_counts A_t_paces : Nat} {t_there : Int32} {t_awake : Int32} {t_start : Int32} {t_sharp : Int32} {t_counts : Nat → Int32} {t_paces : Nat → Int32} {a1 : Int32} {q0 : Int32} (hf : fX2_isThere t_there a1 = some q0) : ROi l yX2_isThere wsX2_isThere rmX2_isThere D ty [.ref A_t, .int a1] [(A_t, .inr (1, [.int t_there, .int t_awake, .int t_start, .int t_sharp, .ref A_t_counts, .ref A_t_paces])), (A_t_counts, .inl (ty.1, 8, .inl t_counts)), (A_t_paces, .inl (ty.1, 8, .inl t_paces))] q0 := by
  refine ROi.start (cc := cX2_isThere) (maxL := 2) (ret := (some .boolean)) (own := RX2) (by decide) rfl rfl (Nat.le_of_ble_eq_true rfl) ?_
  intro p e s m below meth c ls C hK hP hl
  obtain ⟨hx, hb, hr, hml, hown, hts, hlocks⟩ := id C
  have hl : lv_has ls 2 [(0, .ref A_t), (1, .int a1)] := hl
  unfold fX2_isThere at hf
  refine lv_iload_n hx hb dX2_isThere_0 rfl (lv_at hl 1 rfl) ?_
  refine lv_if_lt (tgt := 25) hx hb dX2_isThere_1 (by decide) (fun hc => ?_) (fun hc => ?_)
  · have hf := ft hf hc
    refine lv_iconst (v := 0) hx hb dX2_isThere_25 (by decide) ?_
    exact ret_rz hx hb hr hlocks (Or.inl rfl) hf dX2_isThere_26
  · have hf := ff hf hc
    refine lv_iload_n hx hb dX2_isThere_4 rfl (lv_at hl 1 rfl) ?_
    refine lv_bipush (v := 8) hx hb dX2_isThere_5 (by decide) ?_
    refine lv_icmp_ge (tgt := 25) hx hb dX2_isThere_7 (by decide) (fun hc => ?_) (fun hc => ?_)
    · have hf := ft hf hc
      refine lv_iconst (v := 0) hx hb dX2_isThere_25 (by decide) ?_
      exact ret_rz hx hb hr hlocks (Or.inl rfl) hf dX2_isThere_26
    · have hf := ff hf hc
      refine lv_aload_n hx hb dX2_isThere_10 rfl (lv_at hl 0 rfl) ?_
      refine va_get (D := D) (ci := 1) (v := .int t_there) (C := RX2) (T := TX2) (N := 6) hx hb hts wX2_isThere_X2 hown hK.1 hP 0 rfl rfl 0 (by decide) (hts _ mX2_isThere_f26) (fun _ h9 => h9) rfl dX2_isThere_11 ?_
      refine lv_iconst (v := 1) hx hb dX2_isThere_14 (by decide) ?_
      refine lv_iload_n hx hb dX2_isThere_15 rfl (lv_at hl 1 rfl) ?_
      refine lv_ishl hx hb dX2_isThere_16 ?_
      refine lv_iand hx hb dX2_isThere_17 ?_
      refine lv_if_eq (tgt := 25) hx hb dX2_isThere_18 (by decide) (fun hc => ?_) (fun hc => ?_)
      · have hf := ft hf hc
        refine lv_iconst (v := 0) hx hb dX2_isThere_25 (by decide) ?_
        exact ret_rz hx hb hr hlocks (Or.inl rfl) hf dX2_isThere_26
      · have hf := ff hf hc
        refine lv_iconst (v := 1) hx hb dX2_isThere_21 (by decide) ?_
        refine lv_goto (tgt := 26) hx hb dX2_isThere_22 (by decide) ?_
        exact ret_rz hx hb hr hlocks (Or.inr rfl) hf dX2_isThere_26
/-! ===== SilenceCount$House.isAwake(I)Z ===== -/
abbrev rmX2_isAwake : Room := { frames := 0, cells := 0, slots := 0, locals := 0 }
theorem kkX2_isAwake : yX2_isAwake.cls = RX2 ∧ yX2_isAwake.cls ≠ "java/lang/invoke/MethodHandle" ∧ yX2_isAwake.cls ≠ "java/lang/invoke/VarHandle" ∧ (parseMethodDescriptor yX2_isAwake.desc).map (fun d => d.parameters.length) = some 1 := by decide +kernel
theorem mX2_isAwake_f29 : Cond.fieldLink RX2 29 "SilenceCount$House" "awake" "I" ∈ wsX2_isAwake := by decide +kernel
theorem wX2_isAwake_X2 : ∀ w ∈ u_ws RX2 TX2 6, w ∈ wsX2_isAwake := by decide +kernel
def fX2_isAwake (t_awake : Int32) (a1 : Int32) : Option (Int32) :=
  if a1 < 0 then some 0 else if 8 ≤ a1 then some 0 else if (t_awake &&& (1 <<< (a1 &&& 31))) = 0 then some 0 else some 1
set_option maxRecDepth 100000 in
set_option maxHeartbeats 4000000 in
theorem CX2_isAwake (l : Launch) {D : va_G} {ty : TY} {A_t A_t_counts A_t_paces : Nat} {t_there : Int32} {t_awake : Int32} {t_start : Int32} {t_sharp : Int32} {t_counts : Nat → Int32} {t_paces : Nat → Int32} {a1 : Int32} {q0 : Int32} (hf : fX2_isAwake t_awake a1 = some q0) : ROi l yX2_isAwake wsX2_isAwake rmX2_isAwake D ty [.ref A_t, .int a1] [(A_t, .inr (1, [.int t_there, .int t_awake, .int t_start, .int t_sharp, .ref A_t_counts, .ref A_t_paces])), (A_t_counts, .inl (ty.1, 8, .inl t_counts)), (A_t_paces, .inl (ty.1, 8, .inl t_paces))] q0 := by
  refine ROi.start (cc := cX2_isAwake) (maxL := 2) (ret := (some .boolean)) (own := RX2) (by decide) rfl rfl (Nat.le_of_ble_eq_true rfl) ?_
  intro p e s m below meth c ls C hK hP hl
  obtain ⟨hx, hb, hr, hml, hown, hts, hlocks⟩ := id C
  have hl : lv_has ls 2 [(0, .ref A_t), (1, .int a1)] := hl
  unfold fX2_isAwake at hf
  refine lv_iload_n hx hb dX2_isAwake_0 rfl (lv_at hl 1 rfl) ?_
  refine lv_if_lt (tgt := 25) hx hb dX2_isAwake_1 (by decide) (fun hc => ?_) (fun hc => ?_)
  · have hf := ft hf hc
    refine lv_iconst (v := 0) hx hb dX2_isAwake_25 (by decide) ?_
    exact ret_rz hx hb hr hlocks (Or.inl rfl) hf dX2_isAwake_26
  · have hf := ff hf hc
    refine lv_iload_n hx hb dX2_isAwake_4 rfl (lv_at hl 1 rfl) ?_
    refine lv_bipush (v := 8) hx hb dX2_isAwake_5 (by decide) ?_
    refine lv_icmp_ge (tgt := 25) hx hb dX2_isAwake_7 (by decide) (fun hc => ?_) (fun hc => ?_)
    · have hf := ft hf hc
      refine lv_iconst (v := 0) hx hb dX2_isAwake_25 (by decide) ?_
      exact ret_rz hx hb hr hlocks (Or.inl rfl) hf dX2_isAwake_26
    · have hf := ff hf hc
      refine lv_aload_n hx hb dX2_isAwake_10 rfl (lv_at hl 0 rfl) ?_
      refine va_get (D := D) (ci := 1) (v := .int t_awake) (C := RX2) (T := TX2) (N := 6) hx hb hts wX2_isAwake_X2 hown hK.1 hP 0 rfl rfl 1 (by decide) (hts _ mX2_isAwake_f29) (fun _ h9 => h9) rfl dX2_isAwake_11 ?_
      refine lv_iconst (v := 1) hx hb dX2_isAwake_14 (by decide) ?_
      refine lv_iload_n hx hb dX2_isAwake_15 rfl (lv_at hl 1 rfl) ?_
      refine lv_ishl hx hb dX2_isAwake_16 ?_
      refine lv_iand hx hb dX2_isAwake_17 ?_
      refine lv_if_eq (tgt := 25) hx hb dX2_isAwake_18 (by decide) (fun hc => ?_) (fun hc => ?_)
      · have hf := ft hf hc
        refine lv_iconst (v := 0) hx hb dX2_isAwake_25 (by decide) ?_
        exact ret_rz hx hb hr hlocks (Or.inl rfl) hf dX2_isAwake_26
      · have hf := ff hf hc
        refine lv_iconst (v := 1) hx hb dX2_isAwake_21 (by decide) ?_
        refine lv_goto (tgt := 26) hx hb dX2_isAwake_22 (by decide) ?_
        exact ret_rz hx hb hr hlocks (Or.inr rfl) hf dX2_isAwake_26
/-! ===== SilenceCount$House.foremost()I ===== -/
abbrev rmX2_foremost : Room := { frames := 1, cells := 0, slots := 0, locals := 21 }
theorem kkX2_foremost : yX2_foremost.cls = RX2 ∧ yX2_foremost.cls ≠ "java/lang/invoke/MethodHandle" ∧ yX2_foremost.cls ≠ "java/lang/invoke/VarHandle" ∧ (parseMethodDescriptor yX2_foremost.desc).map (fun d => d.parameters.length) = some 0 := by decide +kernel
theorem mX2_foremost_f19 : Cond.fieldLink RX2 19 "SilenceCount$House" "counts" "[I" ∈ wsX2_foremost := by decide +kernel
theorem wX2_foremost_X2 : ∀ w ∈ u_ws RX2 TX2 6, w ∈ wsX2_foremost := by decide +kernel
def bX2_foremost_38 (k4 : Int32 × Int32 → Option (Int32)) (v2 : Int32) : Option (Int32) :=
  k4 (v2, v2 + 1)
set_option maxRecDepth 100000 in
set_option maxHeartbeats 4000000 in
theorem BX2_foremost_38 {p : Program} {l : Launch} {e : Env} {s : State} {m : MethodId} {below : List Frame} {meth : Method} {c : Code} {D : va_G} {ty : TY} {A_t A_t_counts A_t_paces : Nat} {t_there : Int32} {t_awake : Int32} {t_start : Int32} {t_sharp : Int32} {t_counts : Nat → Int32} {t_paces : Nat → Int32} {q0 : Int32} (C : cx p s m [.ref A_t] meth c cX2_foremost 3 (some .int) RX2 wsX2_foremost) (hK : KK D ty s) (hP : va_P D vwCl [(A_t, .inr (1, [.int t_there, .int t_awake, .int t_start, .int t_sharp, .ref A_t_counts, .ref A_t_paces])), (A_t_counts, .inl (ty.1, 8, .inl t_counts)), (A_t_paces, .inl (ty.1, 8, .inl t_paces))] s.heap) {k4 : Int32 × Int32 → Option (Int32)} (hk4 : ∀ (v1 : Int32) (v2 : Int32) (ls : Array Slot), lv_has ls 3 [(0, .ref A_t), (1, .int v1), (2, .int v2)] → k4 (v1, v2) = some q0 → WRi p l e rmX2_foremost s m [.ref A_t] below meth c q0 (F0 m 4 ls [])) {v2 : Int32} {ls : Array Slot} (hl : lv_has ls 3 [(0, .ref A_t), (2, .int v2)]) (hf : bX2_foremost_38 k4 v2 = some q0) : WRi p l e rmX2_foremost s m [.ref A_t] below meth c q0 (F0 m 38 ls []) := by
  obtain ⟨hx, hb, hr, hml, hown, hts, hlocks⟩ := id C
  unfold bX2_foremost_38 at hf
  refine lv_iload_n hx hb dX2_foremost_38 rfl (lv_at hl 1 rfl) ?_
  refine lv_istore_n (lv' := [(1, .int v2), (0, .ref A_t), (2, .int v2)]) hx hb dX2_foremost_39 rfl hl (by decide) rfl (fun ls hl => ?_)
  refine lv_iinc (v := v2 + 1) (lv' := [(2, .int (v2 + 1)), (1, .int v2), (0, .ref A_t)]) hx hb dX2_foremost_40 hl (k := 2) rfl rfl (by decide) rfl (fun ls hl => ?_)
  refine lv_goto (tgt := 4) hx hb dX2_foremost_43 (by decide) ?_
  exact hk4 _ _ _ (lv_sub hl [2, 1, 0] rfl) hf
def bX2_foremost_4 (k4 : Int32 × Int32 → Option (Int32)) (t_awake : Int32) (t_counts : Nat → Int32) (v1 : Int32) (v2 : Int32) : Option (Int32) :=
  if 8 ≤ v2 then some v1 else (fX2_isAwake t_awake v2).bind fun r12 => if r12 = 0 then k4 (v1, v2 + 1) else if v1 = (-1) then bX2_foremost_38 k4 v2 else gIn v2 8 (gIn v1 8 (if (t_counts (v1 : Int32).toNatClampNeg) ≤ (t_counts (v2 : Int32).toNatClampNeg) then k4 (v1, v2 + 1) else bX2_foremost_38 k4 v2))
set_option maxRecDepth 100000 in
set_option maxHeartbeats 4000000 in
theorem BX2_foremost_4 {p : Program} {l : Launch} {e : Env} {s : State} {m : MethodId} {below : List Frame} {meth : Method} {c : Code} {D : va_G} {ty : TY} {A_t A_t_counts A_t_paces : Nat} {t_there : Int32} {t_awake : Int32} {t_start : Int32} {t_sharp : Int32} {t_counts : Nat → Int32} {t_paces : Nat → Int32} {q0 : Int32} (C : cx p s m [.ref A_t] meth c cX2_foremost 3 (some .int) RX2 wsX2_foremost) (hK : KK D ty s) (hP : va_P D vwCl [(A_t, .inr (1, [.int t_there, .int t_awake, .int t_start, .int t_sharp, .ref A_t_counts, .ref A_t_paces])), (A_t_counts, .inl (ty.1, 8, .inl t_counts)), (A_t_paces, .inl (ty.1, 8, .inl t_paces))] s.heap)   : ∀ (n : Nat) (v1 : Int32) (v2 : Int32) (ls : Array Slot), lv_has ls 3 [(0, .ref A_t), (1, .int v1), (2, .int v2)] → loopF (fun k q => bX2_foremost_4 k t_awake t_counts q.1 q.2) n (v1, v2) = some q0 → WRi p l e rmX2_foremost s m [.ref A_t] below meth c q0 (F0 m 4 ls []) := by
  obtain ⟨hx, hb, hr, hml, hown, hts, hlocks⟩ := id C
  intro n
  induction n with
  | zero =>
    intro v1 v2 ls hl hf
    cases hf
  | succ n ih =>
    intro v1 v2 ls hl hf
    have hf : bX2_foremost_4 (loopF (fun k q => bX2_foremost_4 k t_awake t_counts q.1 q.2) n) t_awake t_counts v1 v2 = some q0 := hf
    have hk4 := ih
    unfold bX2_foremost_4 at hf
    refine lv_iload_n hx hb dX2_foremost_4 rfl (lv_at hl 2 rfl) ?_
    refine lv_bipush (v := 8) hx hb dX2_foremost_5 (by decide) ?_
    refine lv_icmp_ge (tgt := 46) hx hb dX2_foremost_7 (by decide) (fun hc => ?_) (fun hc => ?_)
    · have hf := ft hf hc
      refine lv_iload_n hx hb dX2_foremost_46 rfl (lv_at hl 1 rfl) ?_
      exact ret_ri hx hb hr hlocks hf dX2_foremost_47
    · have hf := ff hf hc
      refine lv_aload_n hx hb dX2_foremost_10 rfl (lv_at hl 0 rfl) ?_
      refine lv_iload_n hx hb dX2_foremost_11 rfl (lv_at hl 2 rfl) ?_
      obtain ⟨r12, hr12, hf⟩ := bnd hf
      refine callV_ri (As := [.int v2]) (rest := []) ⟨hx, hb, hml, hown, hts⟩ (CX2_isAwake l hr12) (cwV 1 hts gX2_foremost_X2_isAwake rfl rfl rfl kkX2_isAwake ⟨Nat.le_of_ble_eq_true rfl, Nat.le_of_ble_eq_true rfl⟩) hK hP 0 rfl rfl rfl hl.1 rfl (by decide) dX2_foremost_12 ⟨Nat.zero_le _, Nat.zero_le _⟩ ?_
      refine lv_if_eq (tgt := 40) hx hb dX2_foremost_15 (by decide) (fun hc => ?_) (fun hc => ?_)
      · have hf := ft hf hc
        refine lv_iinc (v := v2 + 1) (lv' := [(2, .int (v2 + 1)), (0, .ref A_t), (1, .int v1)]) hx hb dX2_foremost_40 hl (k := 2) rfl rfl (by decide) rfl (fun ls hl => ?_)
        refine lv_goto (tgt := 4) hx hb dX2_foremost_43 (by decide) ?_
        exact hk4 _ _ _ (lv_sub hl [1, 2, 0] rfl) hf
      · have hf := ff hf hc
        refine lv_iload_n hx hb dX2_foremost_18 rfl (lv_at hl 1 rfl) ?_
        refine lv_iconst (v := (-1)) hx hb dX2_foremost_19 (by decide) ?_
        refine lv_icmp_eq (tgt := 38) hx hb dX2_foremost_20 (by decide) (fun hc => ?_) (fun hc => ?_)
        · have hf := ft hf hc
          exact BX2_foremost_38 C hK hP hk4 (lv_sub hl [0, 2] rfl) hf
        · have hf := ff hf hc
          refine lv_aload_n hx hb dX2_foremost_23 rfl (lv_at hl 0 rfl) ?_
          refine va_get (D := D) (ci := 1) (v := .ref A_t_counts) (C := RX2) (T := TX2) (N := 6) hx hb hts wX2_foremost_X2 hown hK.1 hP 0 rfl rfl 4 (by decide) (hts _ mX2_foremost_f19) (fun _ h9 => h9) rfl dX2_foremost_24 ?_
          refine lv_iload_n hx hb dX2_foremost_27 rfl (lv_at hl 2 rfl) ?_
          obtain ⟨hin, hf⟩ := gIn_some hf
          refine va_iald hx hb hK.1 hP 1 0 rfl rfl hin dX2_foremost_28 ?_
          refine lv_aload_n hx hb dX2_foremost_29 rfl (lv_at hl 0 rfl) ?_
          refine va_get (D := D) (ci := 1) (v := .ref A_t_counts) (C := RX2) (T := TX2) (N := 6) hx hb hts wX2_foremost_X2 hown hK.1 hP 0 rfl rfl 4 (by decide) (hts _ mX2_foremost_f19) (fun _ h9 => h9) rfl dX2_foremost_30 ?_
          refine lv_iload_n hx hb dX2_foremost_33 rfl (lv_at hl 1 rfl) ?_
          obtain ⟨hin, hf⟩ := gIn_some hf
          refine va_iald hx hb hK.1 hP 1 0 rfl rfl hin dX2_foremost_34 ?_
          refine lv_icmp_ge (tgt := 40) hx hb dX2_foremost_35 (by decide) (fun hc => ?_) (fun hc => ?_)
          · have hf := ft hf hc
            refine lv_iinc (v := v2 + 1) (lv' := [(2, .int (v2 + 1)), (0, .ref A_t), (1, .int v1)]) hx hb dX2_foremost_40 hl (k := 2) rfl rfl (by decide) rfl (fun ls hl => ?_)
            refine lv_goto (tgt := 4) hx hb dX2_foremost_43 (by decide) ?_
            exact hk4 _ _ _ (lv_sub hl [1, 2, 0] rfl) hf
          · have hf := ff hf hc
            exact BX2_foremost_38 C hK hP hk4 (lv_sub hl [0, 2] rfl) hf
def fX2_foremost (t_awake : Int32) (t_counts : Nat → Int32) : Option (Int32) :=
  loopF (fun k q => bX2_foremost_4 k t_awake t_counts q.1 q.2) FU ((-1), 0)
set_option maxRecDepth 100000 in
set_option maxHeartbeats 4000000 in
theorem CX2_foremost (l : Launch) {D : va_G} {ty : TY} {A_t A_t_counts A_t_paces : Nat} {t_there : Int32} {t_awake : Int32} {t_start : Int32} {t_sharp : Int32} {t_counts : Nat → Int32} {t_paces : Nat → Int32} {q0 : Int32} (hf : fX2_foremost t_awake t_counts = some q0) : ROi l yX2_foremost wsX2_foremost rmX2_foremost D ty [.ref A_t] [(A_t, .inr (1, [.int t_there, .int t_awake, .int t_start, .int t_sharp, .ref A_t_counts, .ref A_t_paces])), (A_t_counts, .inl (ty.1, 8, .inl t_counts)), (A_t_paces, .inl (ty.1, 8, .inl t_paces))] q0 := by
  refine ROi.start (cc := cX2_foremost) (maxL := 3) (ret := (some .int)) (own := RX2) (by decide) rfl rfl (Nat.le_of_ble_eq_true rfl) ?_
  intro p e s m below meth c ls C hK hP hl
  obtain ⟨hx, hb, hr, hml, hown, hts, hlocks⟩ := id C
  have hl : lv_has ls 3 [(0, .ref A_t)] := hl
  unfold fX2_foremost at hf
  refine lv_iconst (v := (-1)) hx hb dX2_foremost_0 (by decide) ?_
  refine lv_istore_n (lv' := [(1, .int (-1)), (0, .ref A_t)]) hx hb dX2_foremost_1 rfl hl (by decide) rfl (fun ls hl => ?_)
  refine lv_iconst (v := 0) hx hb dX2_foremost_2 (by decide) ?_
  refine lv_istore_n (lv' := [(2, .int 0), (1, .int (-1)), (0, .ref A_t)]) hx hb dX2_foremost_3 rfl hl (by decide) rfl (fun ls hl => ?_)
  exact BX2_foremost_4 C hK hP  FU _ _ _ (lv_sub hl [2, 1, 0] rfl) hf
/-! ===== SilenceCount$House.countBehind(III)I ===== -/
abbrev rmX2_countBehind : Room := { frames := 1, cells := 0, slots := 0, locals := 13 }
theorem kkX2_countBehind : yX2_countBehind.cls = RX2 ∧ yX2_countBehind.cls ≠ "java/lang/invoke/MethodHandle" ∧ yX2_countBehind.cls ≠ "java/lang/invoke/VarHandle" ∧ (parseMethodDescriptor yX2_countBehind.desc).map (fun d => d.parameters.length) = some 3 := by decide +kernel
theorem mX2_countBehind_f19 : Cond.fieldLink RX2 19 "SilenceCount$House" "counts" "[I" ∈ wsX2_countBehind := by decide +kernel
theorem mX2_countBehind_f23 : Cond.fieldLink RX2 23 "SilenceCount$House" "paces" "[I" ∈ wsX2_countBehind := by decide +kernel
theorem mX2_countBehind_c84 : Cond.methodLink RX2 84 Lib.Math.max.name ∈ wsX2_countBehind := by decide +kernel
theorem mX2_countBehind_smax : Cond.static Lib.Math.max.name ∈ wsX2_countBehind := by decide +kernel
theorem mX2_countBehind_iMath : Cond.initialized "java/lang/Math" ∈ wsX2_countBehind := by decide +kernel
theorem mX2_countBehind_cdmax : Cond.code Lib.Math.max.name Lib.Math.max.code 2 (some .int) ∈ wsX2_countBehind := by decide +kernel
theorem wX2_countBehind_X2 : ∀ w ∈ u_ws RX2 TX2 6, w ∈ wsX2_countBehind := by decide +kernel
def fX2_countBehind (t_counts : Nat → Int32) (t_paces : Nat → Int32) (a1 : Int32) (a2 : Int32) (a3 : Int32) : Option (Int32) :=
  gIn a1 8 (gIn a1 8 (some (if (0 : Int32) < (((t_counts (a1 : Int32).toNatClampNeg) - a2) - (a3 * (t_paces (a1 : Int32).toNatClampNeg))) then (((t_counts (a1 : Int32).toNatClampNeg) - a2) - (a3 * (t_paces (a1 : Int32).toNatClampNeg))) else 0)))
set_option maxRecDepth 100000 in
set_option maxHeartbeats 4000000 in
theorem CX2_countBehind (l : Launch) {D : va_G} {ty : TY} {A_t A_t_counts A_t_paces : Nat} {t_there : Int32} {t_awake : Int32} {t_start : Int32} {t_sharp : Int32} {t_counts : Nat → Int32} {t_paces : Nat → Int32} {a1 : Int32} {a2 : Int32} {a3 : Int32} {q0 : Int32} (hf : fX2_countBehind t_counts t_paces a1 a2 a3 = some q0) : ROi l yX2_countBehind wsX2_countBehind rmX2_countBehind D ty [.ref A_t, .int a1, .int a2, .int a3] [(A_t, .inr (1, [.int t_there, .int t_awake, .int t_start, .int t_sharp, .ref A_t_counts, .ref A_t_paces])), (A_t_counts, .inl (ty.1, 8, .inl t_counts)), (A_t_paces, .inl (ty.1, 8, .inl t_paces))] q0 := by
  refine ROi.start (cc := cX2_countBehind) (maxL := 4) (ret := (some .int)) (own := RX2) (by decide) rfl rfl (Nat.le_of_ble_eq_true rfl) ?_
  intro p e s m below meth c ls C hK hP hl
  obtain ⟨hx, hb, hr, hml, hown, hts, hlocks⟩ := id C
  have hl : lv_has ls 4 [(0, .ref A_t), (1, .int a1), (2, .int a2), (3, .int a3)] := hl
  unfold fX2_countBehind at hf
  refine lv_iconst (v := 0) hx hb dX2_countBehind_0 (by decide) ?_
  refine lv_aload_n hx hb dX2_countBehind_1 rfl (lv_at hl 0 rfl) ?_
  refine va_get (D := D) (ci := 1) (v := .ref A_t_counts) (C := RX2) (T := TX2) (N := 6) hx hb hts wX2_countBehind_X2 hown hK.1 hP 0 rfl rfl 4 (by decide) (hts _ mX2_countBehind_f19) (fun _ h9 => h9) rfl dX2_countBehind_2 ?_
  refine lv_iload_n hx hb dX2_countBehind_5 rfl (lv_at hl 1 rfl) ?_
  obtain ⟨hin, hf⟩ := gIn_some hf
  refine va_iald hx hb hK.1 hP 1 0 rfl rfl hin dX2_countBehind_6 ?_
  refine lv_iload_n hx hb dX2_countBehind_7 rfl (lv_at hl 2 rfl) ?_
  refine lv_isub hx hb dX2_countBehind_8 ?_
  refine lv_iload_n hx hb dX2_countBehind_9 rfl (lv_at hl 3 rfl) ?_
  refine lv_aload_n hx hb dX2_countBehind_10 rfl (lv_at hl 0 rfl) ?_
  refine va_get (D := D) (ci := 1) (v := .ref A_t_paces) (C := RX2) (T := TX2) (N := 6) hx hb hts wX2_countBehind_X2 hown hK.1 hP 0 rfl rfl 5 (by decide) (hts _ mX2_countBehind_f23) (fun _ h9 => h9) rfl dX2_countBehind_11 ?_
  refine lv_iload_n hx hb dX2_countBehind_14 rfl (lv_at hl 1 rfl) ?_
  obtain ⟨hin, hf⟩ := gIn_some hf
  refine va_iald hx hb hK.1 hP 2 0 rfl rfl hin dX2_countBehind_15 ?_
  refine lv_imul hx hb dX2_countBehind_16 ?_
  refine lv_isub hx hb dX2_countBehind_17 ?_
  refine va_mmax hx hb (hml.trans hl.1.symm) hown (hts _ mX2_countBehind_c84) (hts _ mX2_countBehind_smax) (hts _ mX2_countBehind_iMath) (hts _ mX2_countBehind_cdmax) (Nat.le_of_ble_eq_true rfl) (Nat.le_of_ble_eq_true rfl) (Nat.zero_le _) (Nat.zero_le _) dX2_countBehind_18 ?_
  exact ret_ri hx hb hr hlocks hf dX2_countBehind_21
/-! ===== SilenceCount$House.greatestCount(I)I ===== -/
abbrev rmX2_greatestCount : Room := { frames := 1, cells := 0, slots := 0, locals := 13 }
theorem kkX2_greatestCount : yX2_greatestCount.cls = RX2 ∧ yX2_greatestCount.cls ≠ "java/lang/invoke/MethodHandle" ∧ yX2_greatestCount.cls ≠ "java/lang/invoke/VarHandle" ∧ (parseMethodDescriptor yX2_greatestCount.desc).map (fun d => d.parameters.length) = some 1 := by decide +kernel
theorem mX2_greatestCount_f19 : Cond.fieldLink RX2 19 "SilenceCount$House" "counts" "[I" ∈ wsX2_greatestCount := by decide +kernel
theorem mX2_greatestCount_c84 : Cond.methodLink RX2 84 Lib.Math.max.name ∈ wsX2_greatestCount := by decide +kernel
theorem mX2_greatestCount_smax : Cond.static Lib.Math.max.name ∈ wsX2_greatestCount := by decide +kernel
theorem mX2_greatestCount_iMath : Cond.initialized "java/lang/Math" ∈ wsX2_greatestCount := by decide +kernel
theorem mX2_greatestCount_cdmax : Cond.code Lib.Math.max.name Lib.Math.max.code 2 (some .int) ∈ wsX2_greatestCount := by decide +kernel
theorem wX2_greatestCount_X2 : ∀ w ∈ u_ws RX2 TX2 6, w ∈ wsX2_greatestCount := by decide +kernel
def bX2_greatestCount_4 (k4 : Int32 × Int32 → Option (Int32)) (t_counts : Nat → Int32) (a1 : Int32) (v2 : Int32) (v3 : Int32) : Option (Int32) :=
  if 8 ≤ v3 then some v2 else if (a1 &&& (1 <<< (v3 &&& 31))) = 0 then k4 (v2, v3 + 1) else gIn v3 8 (k4 (if v2 < (t_counts (v3 : Int32).toNatClampNeg) then (t_counts (v3 : Int32).toNatClampNeg) else v2, v3 + 1))
set_option maxRecDepth 100000 in
set_option maxHeartbeats 4000000 in
theorem BX2_greatestCount_4 {p : Program} {l : Launch} {e : Env} {s : State} {m : MethodId} {below : List Frame} {meth : Method} {c : Code} {D : va_G} {ty : TY} {A_t A_t_counts A_t_paces : Nat} {t_there : Int32} {t_awake : Int32} {t_start : Int32} {t_sharp : Int32} {t_counts : Nat → Int32} {t_paces : Nat → Int32} {a1 : Int32} {q0 : Int32} (C : cx p s m [.ref A_t, .int a1] meth c cX2_greatestCount 4 (some .int) RX2 wsX2_greatestCount) (hK : KK D ty s) (hP : va_P D vwCl [(A_t, .inr (1, [.int t_there, .int t_awake, .int t_start, .int t_sharp, .ref A_t_counts, .ref A_t_paces])), (A_t_counts, .inl (ty.1, 8, .inl t_counts)), (A_t_paces, .inl (ty.1, 8, .inl t_paces))] s.heap)   : ∀ (n : Nat) (v2 : Int32) (v3 : Int32) (ls : Array Slot), lv_has ls 4 [(0, .ref A_t), (1, .int a1), (2, .int v2), (3, .int v3)] → loopF (fun k q => bX2_greatestCount_4 k t_counts a1 q.1 q.2) n (v2, v3) = some q0 → WRi p l e rmX2_greatestCount s m [.ref A_t, .int a1] below meth c q0 (F0 m 4 ls []) := by
  obtain ⟨hx, hb, hr, hml, hown, hts, hlocks⟩ := id C
  intro n
  induction n with
  | zero =>
    intro v2 v3 ls hl hf
    cases hf
  | succ n ih =>
    intro v2 v3 ls hl hf
    have hf : bX2_greatestCount_4 (loopF (fun k q => bX2_greatestCount_4 k t_counts a1 q.1 q.2) n) t_counts a1 v2 v3 = some q0 := hf
    have hk4 := ih
    unfold bX2_greatestCount_4 at hf
    refine lv_iload_n hx hb dX2_greatestCount_4 rfl (lv_at hl 3 rfl) ?_
    refine lv_bipush (v := 8) hx hb dX2_greatestCount_5 (by decide) ?_
    refine lv_icmp_ge (tgt := 35) hx hb dX2_greatestCount_7 (by decide) (fun hc => ?_) (fun hc => ?_)
    · have hf := ft hf hc
      refine lv_iload_n hx hb dX2_greatestCount_35 rfl (lv_at hl 2 rfl) ?_
      exact ret_ri hx hb hr hlocks hf dX2_greatestCount_36
    · have hf := ff hf hc
      refine lv_iload_n hx hb dX2_greatestCount_10 rfl (lv_at hl 1 rfl) ?_
      refine lv_iconst (v := 1) hx hb dX2_greatestCount_11 (by decide) ?_
      refine lv_iload_n hx hb dX2_greatestCount_12 rfl (lv_at hl 3 rfl) ?_
      refine lv_ishl hx hb dX2_greatestCount_13 ?_
      refine lv_iand hx hb dX2_greatestCount_14 ?_
      refine lv_if_eq (tgt := 29) hx hb dX2_greatestCount_15 (by decide) (fun hc => ?_) (fun hc => ?_)
      · have hf := ft hf hc
        refine lv_iinc (v := v3 + 1) (lv' := [(3, .int (v3 + 1)), (0, .ref A_t), (1, .int a1), (2, .int v2)]) hx hb dX2_greatestCount_29 hl (k := 3) rfl rfl (by decide) rfl (fun ls hl => ?_)
        refine lv_goto (tgt := 4) hx hb dX2_greatestCount_32 (by decide) ?_
        exact hk4 _ _ _ (lv_sub hl [1, 2, 3, 0] rfl) hf
      · have hf := ff hf hc
        refine lv_iload_n hx hb dX2_greatestCount_18 rfl (lv_at hl 2 rfl) ?_
        refine lv_aload_n hx hb dX2_greatestCount_19 rfl (lv_at hl 0 rfl) ?_
        refine va_get (D := D) (ci := 1) (v := .ref A_t_counts) (C := RX2) (T := TX2) (N := 6) hx hb hts wX2_greatestCount_X2 hown hK.1 hP 0 rfl rfl 4 (by decide) (hts _ mX2_greatestCount_f19) (fun _ h9 => h9) rfl dX2_greatestCount_20 ?_
        refine lv_iload_n hx hb dX2_greatestCount_23 rfl (lv_at hl 3 rfl) ?_
        obtain ⟨hin, hf⟩ := gIn_some hf
        refine va_iald hx hb hK.1 hP 1 0 rfl rfl hin dX2_greatestCount_24 ?_
        refine va_mmax hx hb (hml.trans hl.1.symm) hown (hts _ mX2_greatestCount_c84) (hts _ mX2_greatestCount_smax) (hts _ mX2_greatestCount_iMath) (hts _ mX2_greatestCount_cdmax) (Nat.le_of_ble_eq_true rfl) (Nat.le_of_ble_eq_true rfl) (Nat.zero_le _) (Nat.zero_le _) dX2_greatestCount_25 ?_
        refine lv_istore_n (lv' := [(2, .int (if v2 < (t_counts (v3 : Int32).toNatClampNeg) then (t_counts (v3 : Int32).toNatClampNeg) else v2)), (0, .ref A_t), (1, .int a1), (3, .int v3)]) hx hb dX2_greatestCount_28 rfl hl (by decide) rfl (fun ls hl => ?_)
        refine lv_iinc (v := v3 + 1) (lv' := [(3, .int (v3 + 1)), (2, .int (if v2 < (t_counts (v3 : Int32).toNatClampNeg) then (t_counts (v3 : Int32).toNatClampNeg) else v2)), (0, .ref A_t), (1, .int a1)]) hx hb dX2_greatestCount_29 hl (k := 3) rfl rfl (by decide) rfl (fun ls hl => ?_)
        refine lv_goto (tgt := 4) hx hb dX2_greatestCount_32 (by decide) ?_
        exact hk4 _ _ _ (lv_sub hl [2, 3, 1, 0] rfl) hf
def fX2_greatestCount (t_counts : Nat → Int32) (a1 : Int32) : Option (Int32) :=
  loopF (fun k q => bX2_greatestCount_4 k t_counts a1 q.1 q.2) FU (0, 0)
set_option maxRecDepth 100000 in
set_option maxHeartbeats 4000000 in
theorem CX2_greatestCount (l : Launch) {D : va_G} {ty : TY} {A_t A_t_counts A_t_paces : Nat} {t_there : Int32} {t_awake : Int32} {t_start : Int32} {t_sharp : Int32} {t_counts : Nat → Int32} {t_paces : Nat → Int32} {a1 : Int32} {q0 : Int32} (hf : fX2_greatestCount t_counts a1 = some q0) : ROi l yX2_greatestCount wsX2_greatestCount rmX2_greatestCount D ty [.ref A_t, .int a1] [(A_t, .inr (1, [.int t_there, .int t_awake, .int t_start, .int t_sharp, .ref A_t_counts, .ref A_t_paces])), (A_t_counts, .inl (ty.1, 8, .inl t_counts)), (A_t_paces, .inl (ty.1, 8, .inl t_paces))] q0 := by
  refine ROi.start (cc := cX2_greatestCount) (maxL := 4) (ret := (some .int)) (own := RX2) (by decide) rfl rfl (Nat.le_of_ble_eq_true rfl) ?_
  intro p e s m below meth c ls C hK hP hl
  obtain ⟨hx, hb, hr, hml, hown, hts, hlocks⟩ := id C
  have hl : lv_has ls 4 [(0, .ref A_t), (1, .int a1)] := hl
  unfold fX2_greatestCount at hf
  refine lv_iconst (v := 0) hx hb dX2_greatestCount_0 (by decide) ?_
  refine lv_istore_n (lv' := [(2, .int 0), (0, .ref A_t), (1, .int a1)]) hx hb dX2_greatestCount_1 rfl hl (by decide) rfl (fun ls hl => ?_)
  refine lv_iconst (v := 0) hx hb dX2_greatestCount_2 (by decide) ?_
  refine lv_istore_n (lv' := [(3, .int 0), (2, .int 0), (0, .ref A_t), (1, .int a1)]) hx hb dX2_greatestCount_3 rfl hl (by decide) rfl (fun ls hl => ?_)
  exact BX2_greatestCount_4 C hK hP  FU _ _ _ (lv_sub hl [2, 3, 1, 0] rfl) hf
/-! ===== SilenceCount$House.ring()V ===== -/
abbrev rmX2_ring : Room := { frames := 1, cells := 0, slots := 0, locals := 21 }
theorem kkX2_ring : yX2_ring.cls = RX2 ∧ yX2_ring.cls ≠ "java/lang/invoke/MethodHandle" ∧ yX2_ring.cls ≠ "java/lang/invoke/VarHandle" ∧ (parseMethodDescriptor yX2_ring.desc).map (fun d => d.parameters.length) = some 0 := by decide +kernel
theorem mX2_ring_f19 : Cond.fieldLink RX2 19 "SilenceCount$House" "counts" "[I" ∈ wsX2_ring := by decide +kernel
theorem mX2_ring_f10 : Cond.fieldLink RX2 10 "SilenceCount$House" "start" "I" ∈ wsX2_ring := by decide +kernel
theorem mX2_ring_c64 : Cond.methodLink RX2 64 Lib.Math.min.name ∈ wsX2_ring := by decide +kernel
theorem mX2_ring_smin : Cond.static Lib.Math.min.name ∈ wsX2_ring := by decide +kernel
theorem mX2_ring_iMath : Cond.initialized "java/lang/Math" ∈ wsX2_ring := by decide +kernel
theorem mX2_ring_cdmin : Cond.code Lib.Math.min.name Lib.Math.min.code 2 (some .int) ∈ wsX2_ring := by decide +kernel
theorem wX2_ring_X2 : ∀ w ∈ u_ws RX2 TX2 6, w ∈ wsX2_ring := by decide +kernel
def bX2_ring_2 (k2 : Int32 × (Nat → Int32) → Option ((Nat → Int32))) (t_awake : Int32) (t_start : Int32) (v1 : Int32) (t_counts : Nat → Int32) : Option ((Nat → Int32)) :=
  if 8 ≤ v1 then some t_counts else (fX2_isAwake t_awake v1).bind fun r10 => if r10 = 0 then k2 (v1 + 1, t_counts) else gIn v1 8 (gIn v1 8 (k2 (v1 + 1, upd t_counts (v1 : Int32).toNatClampNeg (if ((t_counts (v1 : Int32).toNatClampNeg) + 1) < t_start then ((t_counts (v1 : Int32).toNatClampNeg) + 1) else t_start))))
set_option maxRecDepth 100000 in
set_option maxHeartbeats 4000000 in
theorem BX2_ring_2 {p : Program} {l : Launch} {e : Env} {s : State} {m : MethodId} {below : List Frame} {meth : Method} {c : Code} {D : va_G} {ty : TY} {A_t A_t_counts A_t_paces : Nat} {t_there : Int32} {t_awake : Int32} {t_start : Int32} {t_sharp : Int32} {t_paces : Nat → Int32} {q0 : (Nat → Int32)} {WC : va_W} (C : cx p s m [.ref A_t] meth c cX2_ring 2 none RX2 wsX2_ring) (hK : KK D ty s)   : ∀ (n : Nat) (v1 : Int32) (t_counts : Nat → Int32) (H : Heap) (locs : List Loc) (ls : Array Slot), va_P D vwCl [(A_t, .inr (1, [.int t_there, .int t_awake, .int t_start, .int t_sharp, .ref A_t_counts, .ref A_t_paces])), (A_t_counts, .inl (ty.1, 8, .inl t_counts)), (A_t_paces, .inl (ty.1, 8, .inl t_paces))] H → va_D (va_A WC s.heap.size) [(A_t, .inr (1, [.int t_there, .int t_awake, .int t_start, .int t_sharp, .ref A_t_counts, .ref A_t_paces])), (A_t_counts, .inl (ty.1, 8, .inl t_counts)), (A_t_paces, .inl (ty.1, 8, .inl t_paces))] → va_S (va_A WC s.heap.size) s.heap H locs → lv_has ls 2 [(0, .ref A_t), (1, .int v1)] → loopF (fun k q => bX2_ring_2 k t_awake t_start q.1 q.2) n (v1, t_counts) = some q0 → WWv p l e rmX2_ring s m [.ref A_t] below meth c D WC [(A_t, .inr (1, [.int t_there, .int t_awake, .int t_start, .int t_sharp, .ref A_t_counts, .ref A_t_paces])), (A_t_counts, .inl (ty.1, 8, .inl q0)), (A_t_paces, .inl (ty.1, 8, .inl t_paces))] H locs (F0 m 2 ls []) := by
  obtain ⟨hx, hb, hr, hml, hown, hts, hlocks⟩ := id C
  intro n
  induction n with
  | zero =>
    intro v1 t_counts H locs ls hP hD hS hl hf
    cases hf
  | succ n ih =>
    intro v1 t_counts H locs ls hP hD hS hl hf
    have hf : bX2_ring_2 (loopF (fun k q => bX2_ring_2 k t_awake t_start q.1 q.2) n) t_awake t_start v1 t_counts = some q0 := hf
    have hk2 := ih
    unfold bX2_ring_2 at hf
    refine lv_iload_n hx hb dX2_ring_2 rfl (lv_at hl 1 rfl) ?_
    refine lv_bipush (v := 8) hx hb dX2_ring_3 (by decide) ?_
    refine lv_icmp_ge (tgt := 43) hx hb dX2_ring_5 (by decide) (fun hc => ?_) (fun hc => ?_)
    · have hf := ft hf hc
      cases hf
      exact ret_wv hx hb hr hlocks hP hD hS dX2_ring_43
    · have hf := ff hf hc
      refine lv_aload_n hx hb dX2_ring_8 rfl (lv_at hl 0 rfl) ?_
      refine lv_iload_n hx hb dX2_ring_9 rfl (lv_at hl 1 rfl) ?_
      obtain ⟨r10, hr10, hf⟩ := bnd hf
      refine callV_ri (As := [.int v1]) (rest := []) ⟨hx, hb, hml, hown, hts⟩ (CX2_isAwake l hr10) (cwV 1 hts gX2_ring_X2_isAwake rfl rfl rfl kkX2_isAwake ⟨Nat.le_of_ble_eq_true rfl, Nat.le_of_ble_eq_true rfl⟩) hK hP 0 rfl rfl rfl hl.1 rfl (by decide) dX2_ring_10 ⟨Nat.zero_le _, Nat.zero_le _⟩ ?_
      refine lv_if_eq (tgt := 37) hx hb dX2_ring_13 (by decide) (fun hc => ?_) (fun hc => ?_)
      · have hf := ft hf hc
        refine lv_iinc (v := v1 + 1) (lv' := [(1, .int (v1 + 1)), (0, .ref A_t)]) hx hb dX2_ring_37 hl (k := 1) rfl rfl (by decide) rfl (fun ls hl => ?_)
        refine lv_goto (tgt := 2) hx hb dX2_ring_40 (by decide) ?_
        exact hk2 _ _ _ _ _ hP hD hS (lv_sub hl [1, 0] rfl) hf
      · have hf := ff hf hc
        refine lv_aload_n hx hb dX2_ring_16 rfl (lv_at hl 0 rfl) ?_
        refine va_get (D := D) (ci := 1) (v := .ref A_t_counts) (C := RX2) (T := TX2) (N := 6) hx hb hts wX2_ring_X2 hown hK.1 hP 0 rfl rfl 4 (by decide) (hts _ mX2_ring_f19) (fun _ h9 => h9) rfl dX2_ring_17 ?_
        refine lv_iload_n hx hb dX2_ring_20 rfl (lv_at hl 1 rfl) ?_
        refine lv_aload_n hx hb dX2_ring_21 rfl (lv_at hl 0 rfl) ?_
        refine va_get (D := D) (ci := 1) (v := .int t_start) (C := RX2) (T := TX2) (N := 6) hx hb hts wX2_ring_X2 hown hK.1 hP 0 rfl rfl 2 (by decide) (hts _ mX2_ring_f10) (fun _ h9 => h9) rfl dX2_ring_22 ?_
        refine lv_aload_n hx hb dX2_ring_25 rfl (lv_at hl 0 rfl) ?_
        refine va_get (D := D) (ci := 1) (v := .ref A_t_counts) (C := RX2) (T := TX2) (N := 6) hx hb hts wX2_ring_X2 hown hK.1 hP 0 rfl rfl 4 (by decide) (hts _ mX2_ring_f19) (fun _ h9 => h9) rfl dX2_ring_26 ?_
        refine lv_iload_n hx hb dX2_ring_29 rfl (lv_at hl 1 rfl) ?_
        obtain ⟨hin, hf⟩ := gIn_some hf
        refine va_iald hx hb hK.1 hP 1 0 rfl rfl hin dX2_ring_30 ?_
        refine lv_iconst (v := 1) hx hb dX2_ring_31 (by decide) ?_
        refine lv_iadd hx hb dX2_ring_32 ?_
        refine va_mmin hx hb (hml.trans hl.1.symm) hown (hts _ mX2_ring_c64) (hts _ mX2_ring_smin) (hts _ mX2_ring_iMath) (hts _ mX2_ring_cdmin) (Nat.le_of_ble_eq_true rfl) (Nat.le_of_ble_eq_true rfl) (Nat.zero_le _) (Nat.zero_le _) dX2_ring_33 ?_
        obtain ⟨hin, hf⟩ := gIn_some hf
        refine va_iast hx hb hK.1 hP hD hS 1 0 rfl rfl hin dX2_ring_36 (fun H locs hP hD hS => ?_)
        have hP : va_P D vwCl [(A_t, .inr (1, [.int t_there, .int t_awake, .int t_start, .int t_sharp, .ref A_t_counts, .ref A_t_paces])), (A_t_counts, .inl (ty.1, 8, .inl (upd t_counts (v1 : Int32).toNatClampNeg (if ((t_counts (v1 : Int32).toNatClampNeg) + 1) < t_start then ((t_counts (v1 : Int32).toNatClampNeg) + 1) else t_start)))), (A_t_paces, .inl (ty.1, 8, .inl t_paces))] H := hP
        have hD : va_D (va_A WC s.heap.size) [(A_t, .inr (1, [.int t_there, .int t_awake, .int t_start, .int t_sharp, .ref A_t_counts, .ref A_t_paces])), (A_t_counts, .inl (ty.1, 8, .inl (upd t_counts (v1 : Int32).toNatClampNeg (if ((t_counts (v1 : Int32).toNatClampNeg) + 1) < t_start then ((t_counts (v1 : Int32).toNatClampNeg) + 1) else t_start)))), (A_t_paces, .inl (ty.1, 8, .inl t_paces))] := hD
        refine lv_iinc (v := v1 + 1) (lv' := [(1, .int (v1 + 1)), (0, .ref A_t)]) hx hb dX2_ring_37 hl (k := 1) rfl rfl (by decide) rfl (fun ls hl => ?_)
        refine lv_goto (tgt := 2) hx hb dX2_ring_40 (by decide) ?_
        exact hk2 _ _ _ _ _ hP hD hS (lv_sub hl [1, 0] rfl) hf
def fX2_ring (t_awake : Int32) (t_start : Int32) (t_counts : Nat → Int32) : Option ((Nat → Int32)) :=
  loopF (fun k q => bX2_ring_2 k t_awake t_start q.1 q.2) FU (0, t_counts)
set_option maxRecDepth 100000 in
set_option maxHeartbeats 4000000 in
theorem CX2_ring (l : Launch) {D : va_G} {ty : TY} {A_t A_t_counts A_t_paces : Nat} {t_there : Int32} {t_awake : Int32} {t_start : Int32} {t_sharp : Int32} {t_counts : Nat → Int32} {t_paces : Nat → Int32} {q0 : (Nat → Int32)} (hf : fX2_ring t_awake t_start t_counts = some q0) : RWv l yX2_ring wsX2_ring rmX2_ring D ty [.ref A_t] [(A_t, .inr (1, [.int t_there, .int t_awake, .int t_start, .int t_sharp, .ref A_t_counts, .ref A_t_paces])), (A_t_counts, .inl (ty.1, 8, .inl t_counts)), (A_t_paces, .inl (ty.1, 8, .inl t_paces))] [(A_t, .inr (1, [.int t_there, .int t_awake, .int t_start, .int t_sharp, .ref A_t_counts, .ref A_t_paces])), (A_t_counts, .inl (ty.1, 8, .inl q0)), (A_t_paces, .inl (ty.1, 8, .inl t_paces))] := by
  refine RWv.start (cc := cX2_ring) (maxL := 2) (ret := none) (own := RX2) (by decide) rfl rfl (Nat.le_of_ble_eq_true rfl) ?_
  intro p e s m below meth c ls C hK hP hD hS hl
  obtain ⟨WC, hWC⟩ : ∃ w : va_W, w = [(A_t, .inr (1, [.int t_there, .int t_awake, .int t_start, .int t_sharp, .ref A_t_counts, .ref A_t_paces])), (A_t_counts, .inl (ty.1, 8, .inl t_counts)), (A_t_paces, .inl (ty.1, 8, .inl t_paces))] := ⟨_, rfl⟩
  rw [← hWC] at hD hS ⊢
  have hD : va_D (va_A WC s.heap.size) [(A_t, .inr (1, [.int t_there, .int t_awake, .int t_start, .int t_sharp, .ref A_t_counts, .ref A_t_paces])), (A_t_counts, .inl (ty.1, 8, .inl t_counts)), (A_t_paces, .inl (ty.1, 8, .inl t_paces))] := by rw [← hWC]; exact hD
  obtain ⟨hx, hb, hr, hml, hown, hts, hlocks⟩ := id C
  have hl : lv_has ls 2 [(0, .ref A_t)] := hl
  unfold fX2_ring at hf
  refine lv_iconst (v := 0) hx hb dX2_ring_0 (by decide) ?_
  refine lv_istore_n (lv' := [(1, .int 0), (0, .ref A_t)]) hx hb dX2_ring_1 rfl hl (by decide) rfl (fun ls hl => ?_)
  exact BX2_ring_2 C hK  FU _ _ _ _ _ hP hD hS (lv_sub hl [1, 0] rfl) hf
/-! ===== SilenceCount$House.breathe(I)V ===== -/
abbrev rmX2_breathe : Room := { frames := 2, cells := 0, slots := 0, locals := 36 }
theorem kkX2_breathe : yX2_breathe.cls = RX2 ∧ yX2_breathe.cls ≠ "java/lang/invoke/MethodHandle" ∧ yX2_breathe.cls ≠ "java/lang/invoke/VarHandle" ∧ (parseMethodDescriptor yX2_breathe.desc).map (fun d => d.parameters.length) = some 1 := by decide +kernel
theorem mX2_breathe_f19 : Cond.fieldLink RX2 19 "SilenceCount$House" "counts" "[I" ∈ wsX2_breathe := by decide +kernel
theorem wX2_breathe_X2 : ∀ w ∈ u_ws RX2 TX2 6, w ∈ wsX2_breathe := by decide +kernel
def bX2_breathe_2 (k2 : Int32 × (Nat → Int32) → Option ((Nat → Int32))) (t_awake : Int32) (t_paces : Nat → Int32) (a1 : Int32) (v2 : Int32) (t_counts : Nat → Int32) : Option ((Nat → Int32)) :=
  if 8 ≤ v2 then some t_counts else (fX2_isAwake t_awake v2).bind fun r10 => if r10 = 0 then k2 (v2 + 1, t_counts) else (fX2_countBehind t_counts t_paces v2 0 a1).bind fun r25 => gIn v2 8 (k2 (v2 + 1, upd t_counts (v2 : Int32).toNatClampNeg r25))
set_option maxRecDepth 100000 in
set_option maxHeartbeats 4000000 in
theorem BX2_breathe_2 {p : Program} {l : Launch} {e : Env} {s : State} {m : MethodId} {below : List Frame} {meth : Method} {c : Code} {D : va_G} {ty : TY} {A_t A_t_counts A_t_paces : Nat} {t_there : Int32} {t_awake : Int32} {t_start : Int32} {t_sharp : Int32} {t_paces : Nat → Int32} {a1 : Int32} {q0 : (Nat → Int32)} {WC : va_W} (C : cx p s m [.ref A_t, .int a1] meth c cX2_breathe 3 none RX2 wsX2_breathe) (hK : KK D ty s)   : ∀ (n : Nat) (v2 : Int32) (t_counts : Nat → Int32) (H : Heap) (locs : List Loc) (ls : Array Slot), va_P D vwCl [(A_t, .inr (1, [.int t_there, .int t_awake, .int t_start, .int t_sharp, .ref A_t_counts, .ref A_t_paces])), (A_t_counts, .inl (ty.1, 8, .inl t_counts)), (A_t_paces, .inl (ty.1, 8, .inl t_paces))] H → va_D (va_A WC s.heap.size) [(A_t, .inr (1, [.int t_there, .int t_awake, .int t_start, .int t_sharp, .ref A_t_counts, .ref A_t_paces])), (A_t_counts, .inl (ty.1, 8, .inl t_counts)), (A_t_paces, .inl (ty.1, 8, .inl t_paces))] → va_S (va_A WC s.heap.size) s.heap H locs → lv_has ls 3 [(0, .ref A_t), (1, .int a1), (2, .int v2)] → loopF (fun k q => bX2_breathe_2 k t_awake t_paces a1 q.1 q.2) n (v2, t_counts) = some q0 → WWv p l e rmX2_breathe s m [.ref A_t, .int a1] below meth c D WC [(A_t, .inr (1, [.int t_there, .int t_awake, .int t_start, .int t_sharp, .ref A_t_counts, .ref A_t_paces])), (A_t_counts, .inl (ty.1, 8, .inl q0)), (A_t_paces, .inl (ty.1, 8, .inl t_paces))] H locs (F0 m 2 ls []) := by
  obtain ⟨hx, hb, hr, hml, hown, hts, hlocks⟩ := id C
  intro n
  induction n with
  | zero =>
    intro v2 t_counts H locs ls hP hD hS hl hf
    cases hf
  | succ n ih =>
    intro v2 t_counts H locs ls hP hD hS hl hf
    have hf : bX2_breathe_2 (loopF (fun k q => bX2_breathe_2 k t_awake t_paces a1 q.1 q.2) n) t_awake t_paces a1 v2 t_counts = some q0 := hf
    have hk2 := ih
    unfold bX2_breathe_2 at hf
    refine lv_iload_n hx hb dX2_breathe_2 rfl (lv_at hl 2 rfl) ?_
    refine lv_bipush (v := 8) hx hb dX2_breathe_3 (by decide) ?_
    refine lv_icmp_ge (tgt := 35) hx hb dX2_breathe_5 (by decide) (fun hc => ?_) (fun hc => ?_)
    · have hf := ft hf hc
      cases hf
      exact ret_wv hx hb hr hlocks hP hD hS dX2_breathe_35
    · have hf := ff hf hc
      refine lv_aload_n hx hb dX2_breathe_8 rfl (lv_at hl 0 rfl) ?_
      refine lv_iload_n hx hb dX2_breathe_9 rfl (lv_at hl 2 rfl) ?_
      obtain ⟨r10, hr10, hf⟩ := bnd hf
      refine callV_ri (As := [.int v2]) (rest := []) ⟨hx, hb, hml, hown, hts⟩ (CX2_isAwake l hr10) (cwV 1 hts gX2_breathe_X2_isAwake rfl rfl rfl kkX2_isAwake ⟨Nat.le_of_ble_eq_true rfl, Nat.le_of_ble_eq_true rfl⟩) hK hP 0 rfl rfl rfl hl.1 rfl (by decide) dX2_breathe_10 ⟨Nat.zero_le _, Nat.zero_le _⟩ ?_
      refine lv_if_eq (tgt := 29) hx hb dX2_breathe_13 (by decide) (fun hc => ?_) (fun hc => ?_)
      · have hf := ft hf hc
        refine lv_iinc (v := v2 + 1) (lv' := [(2, .int (v2 + 1)), (0, .ref A_t), (1, .int a1)]) hx hb dX2_breathe_29 hl (k := 2) rfl rfl (by decide) rfl (fun ls hl => ?_)
        refine lv_goto (tgt := 2) hx hb dX2_breathe_32 (by decide) ?_
        exact hk2 _ _ _ _ _ hP hD hS (lv_sub hl [1, 2, 0] rfl) hf
      · have hf := ff hf hc
        refine lv_aload_n hx hb dX2_breathe_16 rfl (lv_at hl 0 rfl) ?_
        refine va_get (D := D) (ci := 1) (v := .ref A_t_counts) (C := RX2) (T := TX2) (N := 6) hx hb hts wX2_breathe_X2 hown hK.1 hP 0 rfl rfl 4 (by decide) (hts _ mX2_breathe_f19) (fun _ h9 => h9) rfl dX2_breathe_17 ?_
        refine lv_iload_n hx hb dX2_breathe_20 rfl (lv_at hl 2 rfl) ?_
        refine lv_aload_n hx hb dX2_breathe_21 rfl (lv_at hl 0 rfl) ?_
        refine lv_iload_n hx hb dX2_breathe_22 rfl (lv_at hl 2 rfl) ?_
        refine lv_iconst (v := 0) hx hb dX2_breathe_23 (by decide) ?_
        refine lv_iload_n hx hb dX2_breathe_24 rfl (lv_at hl 1 rfl) ?_
        obtain ⟨r25, hr25, hf⟩ := bnd hf
        refine callV_ri (As := [.int v2, .int 0, .int a1]) (rest := [.int v2, .ref A_t_counts]) ⟨hx, hb, hml, hown, hts⟩ (CX2_countBehind l hr25) (cwV 3 hts gX2_breathe_X2_countBehind rfl rfl rfl kkX2_countBehind ⟨Nat.le_of_ble_eq_true rfl, Nat.le_of_ble_eq_true rfl⟩) hK hP 0 rfl rfl rfl hl.1 rfl (by decide) dX2_breathe_25 ⟨Nat.zero_le _, Nat.zero_le _⟩ ?_
        obtain ⟨hin, hf⟩ := gIn_some hf
        refine va_iast hx hb hK.1 hP hD hS 1 0 rfl rfl hin dX2_breathe_28 (fun H locs hP hD hS => ?_)
        have hP : va_P D vwCl [(A_t, .inr (1, [.int t_there, .int t_awake, .int t_start, .int t_sharp, .ref A_t_counts, .ref A_t_paces])), (A_t_counts, .inl (ty.1, 8, .inl (upd t_counts (v2 : Int32).toNatClampNeg r25))), (A_t_paces, .inl (ty.1, 8, .inl t_paces))] H := hP
        have hD : va_D (va_A WC s.heap.size) [(A_t, .inr (1, [.int t_there, .int t_awake, .int t_start, .int t_sharp, .ref A_t_counts, .ref A_t_paces])), (A_t_counts, .inl (ty.1, 8, .inl (upd t_counts (v2 : Int32).toNatClampNeg r25))), (A_t_paces, .inl (ty.1, 8, .inl t_paces))] := hD
        refine lv_iinc (v := v2 + 1) (lv' := [(2, .int (v2 + 1)), (0, .ref A_t), (1, .int a1)]) hx hb dX2_breathe_29 hl (k := 2) rfl rfl (by decide) rfl (fun ls hl => ?_)
        refine lv_goto (tgt := 2) hx hb dX2_breathe_32 (by decide) ?_
        exact hk2 _ _ _ _ _ hP hD hS (lv_sub hl [1, 2, 0] rfl) hf
def fX2_breathe (t_awake : Int32) (t_counts : Nat → Int32) (t_paces : Nat → Int32) (a1 : Int32) : Option ((Nat → Int32)) :=
  loopF (fun k q => bX2_breathe_2 k t_awake t_paces a1 q.1 q.2) FU (0, t_counts)
set_option maxRecDepth 100000 in
set_option maxHeartbeats 4000000 in
theorem CX2_breathe (l : Launch) {D : va_G} {ty : TY} {A_t A_t_counts A_t_paces : Nat} {t_there : Int32} {t_awake : Int32} {t_start : Int32} {t_sharp : Int32} {t_counts : Nat → Int32} {t_paces : Nat → Int32} {a1 : Int32} {q0 : (Nat → Int32)} (hf : fX2_breathe t_awake t_counts t_paces a1 = some q0) : RWv l yX2_breathe wsX2_breathe rmX2_breathe D ty [.ref A_t, .int a1] [(A_t, .inr (1, [.int t_there, .int t_awake, .int t_start, .int t_sharp, .ref A_t_counts, .ref A_t_paces])), (A_t_counts, .inl (ty.1, 8, .inl t_counts)), (A_t_paces, .inl (ty.1, 8, .inl t_paces))] [(A_t, .inr (1, [.int t_there, .int t_awake, .int t_start, .int t_sharp, .ref A_t_counts, .ref A_t_paces])), (A_t_counts, .inl (ty.1, 8, .inl q0)), (A_t_paces, .inl (ty.1, 8, .inl t_paces))] := by
  refine RWv.start (cc := cX2_breathe) (maxL := 3) (ret := none) (own := RX2) (by decide) rfl rfl (Nat.le_of_ble_eq_true rfl) ?_
  intro p e s m below meth c ls C hK hP hD hS hl
  obtain ⟨WC, hWC⟩ : ∃ w : va_W, w = [(A_t, .inr (1, [.int t_there, .int t_awake, .int t_start, .int t_sharp, .ref A_t_counts, .ref A_t_paces])), (A_t_counts, .inl (ty.1, 8, .inl t_counts)), (A_t_paces, .inl (ty.1, 8, .inl t_paces))] := ⟨_, rfl⟩
  rw [← hWC] at hD hS ⊢
  have hD : va_D (va_A WC s.heap.size) [(A_t, .inr (1, [.int t_there, .int t_awake, .int t_start, .int t_sharp, .ref A_t_counts, .ref A_t_paces])), (A_t_counts, .inl (ty.1, 8, .inl t_counts)), (A_t_paces, .inl (ty.1, 8, .inl t_paces))] := by rw [← hWC]; exact hD
  obtain ⟨hx, hb, hr, hml, hown, hts, hlocks⟩ := id C
  have hl : lv_has ls 3 [(0, .ref A_t), (1, .int a1)] := hl
  unfold fX2_breathe at hf
  refine lv_iconst (v := 0) hx hb dX2_breathe_0 (by decide) ?_
  refine lv_istore_n (lv' := [(2, .int 0), (0, .ref A_t), (1, .int a1)]) hx hb dX2_breathe_1 rfl hl (by decide) rfl (fun ls hl => ?_)
  exact BX2_breathe_2 C hK  FU _ _ _ _ _ hP hD hS (lv_sub hl [1, 2, 0] rfl) hf
/-! ===== SilenceCount$House.handOver(II)V ===== -/
abbrev rmX2_handOver : Room := { frames := 0, cells := 0, slots := 0, locals := 0 }
theorem kkX2_handOver : yX2_handOver.cls = RX2 ∧ yX2_handOver.cls ≠ "java/lang/invoke/MethodHandle" ∧ yX2_handOver.cls ≠ "java/lang/invoke/VarHandle" ∧ (parseMethodDescriptor yX2_handOver.desc).map (fun d => d.parameters.length) = some 2 := by decide +kernel
theorem mX2_handOver_f29 : Cond.fieldLink RX2 29 "SilenceCount$House" "awake" "I" ∈ wsX2_handOver := by decide +kernel
theorem mX2_handOver_f19 : Cond.fieldLink RX2 19 "SilenceCount$House" "counts" "[I" ∈ wsX2_handOver := by decide +kernel
theorem wX2_handOver_X2 : ∀ w ∈ u_ws RX2 TX2 6, w ∈ wsX2_handOver := by decide +kernel
def fX2_handOver (t_awake : Int32) (t_counts : Nat → Int32) (a1 : Int32) (a2 : Int32) : Option (Int32 × (Nat → Int32)) :=
  gIn a1 8 (gIn a2 8 (gIn a2 8 (some (t_awake &&& ((1 <<< (a1 &&& 31)) ^^^ (-1)), upd t_counts (a2 : Int32).toNatClampNeg (((t_counts (a1 : Int32).toNatClampNeg) + (t_counts (a2 : Int32).toNatClampNeg)) / 2)))))
set_option maxRecDepth 100000 in
set_option maxHeartbeats 4000000 in
theorem CX2_handOver (l : Launch) {D : va_G} {ty : TY} {A_t A_t_counts A_t_paces : Nat} {t_there : Int32} {t_awake : Int32} {t_start : Int32} {t_sharp : Int32} {t_counts : Nat → Int32} {t_paces : Nat → Int32} {a1 : Int32} {a2 : Int32} {q0 : Int32 × (Nat → Int32)} (hf : fX2_handOver t_awake t_counts a1 a2 = some q0) : RWv l yX2_handOver wsX2_handOver rmX2_handOver D ty [.ref A_t, .int a1, .int a2] [(A_t, .inr (1, [.int t_there, .int t_awake, .int t_start, .int t_sharp, .ref A_t_counts, .ref A_t_paces])), (A_t_counts, .inl (ty.1, 8, .inl t_counts)), (A_t_paces, .inl (ty.1, 8, .inl t_paces))] [(A_t, .inr (1, [.int t_there, .int q0.1, .int t_start, .int t_sharp, .ref A_t_counts, .ref A_t_paces])), (A_t_counts, .inl (ty.1, 8, .inl q0.2)), (A_t_paces, .inl (ty.1, 8, .inl t_paces))] := by
  refine RWv.start (cc := cX2_handOver) (maxL := 3) (ret := none) (own := RX2) (by decide) rfl rfl (Nat.le_of_ble_eq_true rfl) ?_
  intro p e s m below meth c ls C hK hP hD hS hl
  obtain ⟨WC, hWC⟩ : ∃ w : va_W, w = [(A_t, .inr (1, [.int t_there, .int t_awake, .int t_start, .int t_sharp, .ref A_t_counts, .ref A_t_paces])), (A_t_counts, .inl (ty.1, 8, .inl t_counts)), (A_t_paces, .inl (ty.1, 8, .inl t_paces))] := ⟨_, rfl⟩
  rw [← hWC] at hD hS ⊢
  have hD : va_D (va_A WC s.heap.size) [(A_t, .inr (1, [.int t_there, .int t_awake, .int t_start, .int t_sharp, .ref A_t_counts, .ref A_t_paces])), (A_t_counts, .inl (ty.1, 8, .inl t_counts)), (A_t_paces, .inl (ty.1, 8, .inl t_paces))] := by rw [← hWC]; exact hD
  obtain ⟨hx, hb, hr, hml, hown, hts, hlocks⟩ := id C
  have hl : lv_has ls 3 [(0, .ref A_t), (1, .int a1), (2, .int a2)] := hl
  unfold fX2_handOver at hf
  refine lv_aload_n hx hb dX2_handOver_0 rfl (lv_at hl 0 rfl) ?_
  refine lv_dup hx hb dX2_handOver_1 rfl ?_
  refine va_get (D := D) (ci := 1) (v := .int t_awake) (C := RX2) (T := TX2) (N := 6) hx hb hts wX2_handOver_X2 hown hK.1 hP 0 rfl rfl 1 (by decide) (hts _ mX2_handOver_f29) (fun _ h9 => h9) rfl dX2_handOver_2 ?_
  refine lv_iconst (v := 1) hx hb dX2_handOver_5 (by decide) ?_
  refine lv_iload_n hx hb dX2_handOver_6 rfl (lv_at hl 1 rfl) ?_
  refine lv_ishl hx hb dX2_handOver_7 ?_
  refine lv_iconst (v := (-1)) hx hb dX2_handOver_8 (by decide) ?_
  refine lv_ixor hx hb dX2_handOver_9 ?_
  refine lv_iand hx hb dX2_handOver_10 ?_
  refine va_put (D := D) (ci := 1) (v := .int (t_awake &&& ((1 <<< (a1 &&& 31)) ^^^ (-1)))) (ty := .int) (C := RX2) (T := TX2) (N := 6) hx hb hts wX2_handOver_X2 tyX2 tyX2_ok nmX2 hown hK.1 hP hD hS 0 rfl rfl 1 (by decide) (hts _ mX2_handOver_f29) (fun _ h9 => h9) rfl (by decide +kernel) rfl rfl (Nat.le_of_ble_eq_true rfl) dX2_handOver_11 (fun H locs hP hD hS => ?_)
  have hP : va_P D vwCl [(A_t, .inr (1, [.int t_there, .int (t_awake &&& ((1 <<< (a1 &&& 31)) ^^^ (-1))), .int t_start, .int t_sharp, .ref A_t_counts, .ref A_t_paces])), (A_t_counts, .inl (ty.1, 8, .inl t_counts)), (A_t_paces, .inl (ty.1, 8, .inl t_paces))] H := hP
  have hD : va_D (va_A WC s.heap.size) [(A_t, .inr (1, [.int t_there, .int (t_awake &&& ((1 <<< (a1 &&& 31)) ^^^ (-1))), .int t_start, .int t_sharp, .ref A_t_counts, .ref A_t_paces])), (A_t_counts, .inl (ty.1, 8, .inl t_counts)), (A_t_paces, .inl (ty.1, 8, .inl t_paces))] := hD
  refine lv_aload_n hx hb dX2_handOver_14 rfl (lv_at hl 0 rfl) ?_
  refine va_get (D := D) (ci := 1) (v := .ref A_t_counts) (C := RX2) (T := TX2) (N := 6) hx hb hts wX2_handOver_X2 hown hK.1 hP 0 rfl rfl 4 (by decide) (hts _ mX2_handOver_f19) (fun _ h9 => h9) rfl dX2_handOver_15 ?_
  refine lv_iload_n hx hb dX2_handOver_18 rfl (lv_at hl 2 rfl) ?_
  refine lv_aload_n hx hb dX2_handOver_19 rfl (lv_at hl 0 rfl) ?_
  refine va_get (D := D) (ci := 1) (v := .ref A_t_counts) (C := RX2) (T := TX2) (N := 6) hx hb hts wX2_handOver_X2 hown hK.1 hP 0 rfl rfl 4 (by decide) (hts _ mX2_handOver_f19) (fun _ h9 => h9) rfl dX2_handOver_20 ?_
  refine lv_iload_n hx hb dX2_handOver_23 rfl (lv_at hl 1 rfl) ?_
  obtain ⟨hin, hf⟩ := gIn_some hf
  refine va_iald hx hb hK.1 hP 1 0 rfl rfl hin dX2_handOver_24 ?_
  refine lv_aload_n hx hb dX2_handOver_25 rfl (lv_at hl 0 rfl) ?_
  refine va_get (D := D) (ci := 1) (v := .ref A_t_counts) (C := RX2) (T := TX2) (N := 6) hx hb hts wX2_handOver_X2 hown hK.1 hP 0 rfl rfl 4 (by decide) (hts _ mX2_handOver_f19) (fun _ h9 => h9) rfl dX2_handOver_26 ?_
  refine lv_iload_n hx hb dX2_handOver_29 rfl (lv_at hl 2 rfl) ?_
  obtain ⟨hin, hf⟩ := gIn_some hf
  refine va_iald hx hb hK.1 hP 1 0 rfl rfl hin dX2_handOver_30 ?_
  refine lv_iadd hx hb dX2_handOver_31 ?_
  refine lv_iconst (v := 2) hx hb dX2_handOver_32 (by decide) ?_
  refine lv_idiv hx hb dX2_handOver_33 (by decide) ?_
  obtain ⟨hin, hf⟩ := gIn_some hf
  refine va_iast hx hb hK.1 hP hD hS 1 0 rfl rfl hin dX2_handOver_34 (fun H locs hP hD hS => ?_)
  have hP : va_P D vwCl [(A_t, .inr (1, [.int t_there, .int (t_awake &&& ((1 <<< (a1 &&& 31)) ^^^ (-1))), .int t_start, .int t_sharp, .ref A_t_counts, .ref A_t_paces])), (A_t_counts, .inl (ty.1, 8, .inl (upd t_counts (a2 : Int32).toNatClampNeg (((t_counts (a1 : Int32).toNatClampNeg) + (t_counts (a2 : Int32).toNatClampNeg)) / 2)))), (A_t_paces, .inl (ty.1, 8, .inl t_paces))] H := hP
  have hD : va_D (va_A WC s.heap.size) [(A_t, .inr (1, [.int t_there, .int (t_awake &&& ((1 <<< (a1 &&& 31)) ^^^ (-1))), .int t_start, .int t_sharp, .ref A_t_counts, .ref A_t_paces])), (A_t_counts, .inl (ty.1, 8, .inl (upd t_counts (a2 : Int32).toNatClampNeg (((t_counts (a1 : Int32).toNatClampNeg) + (t_counts (a2 : Int32).toNatClampNeg)) / 2)))), (A_t_paces, .inl (ty.1, 8, .inl t_paces))] := hD
  cases hf
  exact ret_wv hx hb hr hlocks hP hD hS dX2_handOver_35
/-! ===== SilenceCount$Pad.isLetter(I)Z ===== -/
abbrev rmX5_isLetter : Room := { frames := 1, cells := 0, slots := 0, locals := 20 }
theorem kkX5_isLetter : yX5_isLetter.cls = RX5 ∧ yX5_isLetter.cls ≠ "java/lang/invoke/MethodHandle" ∧ yX5_isLetter.cls ≠ "java/lang/invoke/VarHandle" ∧ (parseMethodDescriptor yX5_isLetter.desc).map (fun d => d.parameters.length) = some 1 := by decide +kernel
theorem mX5_isLetter_iX9 : Cond.initialized RX9 ∈ wsX5_isLetter := by decide +kernel
theorem mX5_isLetter_sX9_isMonk : Cond.static yX9_isMonk ∈ wsX5_isLetter := by decide +kernel
def fX5_isLetter (a0 : Int32) : Option (Int32) :=
  (fX9_isMonk (a0 - 65)).bind fun r4 => gB r4 (some r4)
set_option maxRecDepth 100000 in
set_option maxHeartbeats 4000000 in
theorem CX5_isLetter (l : Launch) {D : va_G} {ty : TY} {a0 : Int32} {q0 : Int32} (hf : fX5_isLetter a0 = some q0) : ROi l yX5_isLetter wsX5_isLetter rmX5_isLetter D ty [.int a0] [] q0 := by
  refine ROi.start (cc := cX5_isLetter) (maxL := 1) (ret := (some .boolean)) (own := RX5) (by decide) rfl rfl (Nat.le_of_ble_eq_true rfl) ?_
  intro p e s m below meth c ls C hK hP hl
  obtain ⟨hx, hb, hr, hml, hown, hts, hlocks⟩ := id C
  have hl : lv_has ls 1 [(0, .int a0)] := hl
  unfold fX5_isLetter at hf
  refine lv_iload_n hx hb dX5_isLetter_0 rfl (lv_at hl 0 rfl) ?_
  refine lv_bipush (v := 65) hx hb dX5_isLetter_1 (by decide) ?_
  refine lv_isub hx hb dX5_isLetter_3 ?_
  obtain ⟨r4, hr4, hf⟩ := bnd hf
  refine callN_ri (As := [.int (a0 - 65)]) (rest := []) ⟨hx, hb, hml, hown, hts⟩ (CX9_isMonk l hr4) ⟨va_cnB 1 hts ggX5_isLetter_X9_isMonk rfl rfl rfl (hK.2 ("SilenceCount$Pad", 42, yX9_isMonk, "SilenceCount") (by decide +kernel)) (hts _ mX5_isLetter_iX9) kkX9_isMonk.2 ⟨Nat.le_of_ble_eq_true rfl, Nat.le_of_ble_eq_true rfl⟩, hts _ mX5_isLetter_sX9_isMonk, trivial⟩ hK hP hl.1 rfl (by decide) dX5_isLetter_4 ⟨Nat.zero_le _, Nat.zero_le _⟩ ?_
  obtain ⟨hbv, hf⟩ := gB_some hf
  exact ret_rz hx hb hr hlocks hbv hf dX5_isLetter_7
