/-! ===== SilenceCountModel.isMonk(I)Z ===== -/
abbrev rmX10_isMonk : Room := { frames := 1, cells := 0, slots := 0, locals := 22 }
theorem kkX10_isMonk : yX10_isMonk.cls = RX10 ∧ yX10_isMonk.cls ≠ "java/lang/invoke/MethodHandle" ∧ yX10_isMonk.cls ≠ "java/lang/invoke/VarHandle" ∧ (parseMethodDescriptor yX10_isMonk.desc).map (fun d => d.parameters.length) = some 1 := by decide +kernel
def fX10_isMonk (a0 : Int32) : Option (Int32) :=
  (fX10_in a0 65 72).bind fun r5 => gB r5 (some r5)
set_option maxRecDepth 100000 in
set_option maxHeartbeats 4000000 in
theorem CX10_isMonk (l : Launch) {D : va_G} {ty : TY} {a0 : Int32} {q0 : Int32} (hf : fX10_isMonk a0 = some q0) : ROi l yX10_isMonk wsX10_isMonk rmX10_isMonk D ty [.int a0] [] q0 := by
  refine ROi.start (cc := cX10_isMonk) (maxL := 1) (ret := (some .boolean)) (own := RX10) (by decide) rfl rfl (Nat.le_of_ble_eq_true rfl) ?_
  intro p e s m below meth c ls C hK hP hl
  obtain ⟨hx, hb, hr, hml, hown, hts, hlocks⟩ := id C
  have hl : lv_has ls 1 [(0, .int a0)] := hl
  unfold fX10_isMonk at hf
  refine lv_iload_n hx hb dX10_isMonk_0 rfl (lv_at hl 0 rfl) ?_
  refine lv_bipush (v := 65) hx hb dX10_isMonk_1 (by decide) ?_
  refine lv_bipush (v := 72) hx hb dX10_isMonk_3 (by decide) ?_
  obtain ⟨r5, hr5, hf⟩ := bnd hf
  refine callS_ri (As := [.int a0, .int 65, .int 72]) (rest := []) ⟨hx, hb, hml, hown, hts⟩ (CX10_in l hr5) (va_cwS 3 hts gX10_isMonk_X10_in rfl rfl rfl kkX10_in.2 ⟨Nat.le_of_ble_eq_true rfl, Nat.le_of_ble_eq_true rfl⟩) hK hP hl.1 rfl (Nat.le_of_ble_eq_true rfl) dX10_isMonk_5 ⟨Nat.zero_le _, Nat.zero_le _⟩ ?_
  obtain ⟨hbv, hf⟩ := gB_some hf
  exact ret_rz hx hb hr hlocks hbv hf dX10_isMonk_8
/-! ===== SilenceCountModel.faultOf()I ===== -/
abbrev rmX10_faultOf : Room := { frames := 2, cells := 0, slots := 0, locals := 42 }
theorem kkX10_faultOf : yX10_faultOf.cls = RX10 ∧ yX10_faultOf.cls ≠ "java/lang/invoke/MethodHandle" ∧ yX10_faultOf.cls ≠ "java/lang/invoke/VarHandle" ∧ (parseMethodDescriptor yX10_faultOf.desc).map (fun d => d.parameters.length) = some 0 := by decide +kernel
theorem mX10_faultOf_f62 : Cond.fieldLink RX10 62 "SilenceCountModel" "signs" "I" ∈ wsX10_faultOf := by decide +kernel
theorem mX10_faultOf_f27 : Cond.fieldLink RX10 27 "SilenceCountModel" "pad" "[I" ∈ wsX10_faultOf := by decide +kernel
theorem wX10_faultOf_X10 : ∀ w ∈ u_ws RX10 TX10 19, w ∈ wsX10_faultOf := by decide +kernel
def bX10_faultOf_116 (k4 : Int32 × Int32 → Option (Int32)) (v2 : Int32) : Option (Int32) :=
  k4 (0, v2 + 1)
set_option maxRecDepth 100000 in
set_option maxHeartbeats 4000000 in
theorem BX10_faultOf_116 {p : Program} {l : Launch} {e : Env} {s : State} {m : MethodId} {below : List Frame} {meth : Method} {c : Code} {D : va_G} {ty : TY} {A_t A_t_count A_t_pace A_t_sight A_t_pad A_t_now A_t_image A_t_isKept : Nat} {t_there : Int32} {t_awake : Int32} {t_house : Int32} {t_sharp : Int32} {t_sights : Int32} {t_signs : Int32} {t_up : Int32} {t_reason : Int32} {t_acts : Int32} {t_breaths : Int32} {t_zeroAt : Int32} {t_noticedAt : Int32} {t_count : Nat → Int32} {t_pace : Nat → Int32} {t_sight : Nat → Int32} {t_pad : Nat → Int32} {t_now : Nat → Int32} {t_image : Nat → Int32} {t_isKept : Nat → Int32} {q0 : Int32} (C : cx p s m [.ref A_t] meth c cX10_faultOf 5 (some .int) RX10 wsX10_faultOf) (hK : KK D ty s) (hP : va_P D vwCl [(A_t, .inr (9, [.int t_there, .int t_awake, .ref A_t_count, .ref A_t_pace, .int t_house, .int t_sharp, .int t_sights, .ref A_t_sight, .int t_signs, .ref A_t_pad, .int t_up, .ref A_t_now, .int t_reason, .int t_acts, .int t_breaths, .int t_zeroAt, .int t_noticedAt, .ref A_t_image, .ref A_t_isKept])), (A_t_count, .inl (ty.1, 8, .inl t_count)), (A_t_pace, .inl (ty.1, 8, .inl t_pace)), (A_t_sight, .inl (ty.1, 24, .inl t_sight)), (A_t_pad, .inl (ty.1, 60, .inl t_pad)), (A_t_now, .inl (ty.1, 8, .inl t_now)), (A_t_image, .inl (ty.1, 120, .inl t_image)), (A_t_isKept, .inl (ty.2.2.1, 2, .inl t_isKept))] s.heap) {k4 : Int32 × Int32 → Option (Int32)} (hk4 : ∀ (v1 : Int32) (v2 : Int32) (ls : Array Slot), lv_has ls 5 [(0, .ref A_t), (1, .int v1), (2, .int v2)] → k4 (v1, v2) = some q0 → WRi p l e rmX10_faultOf s m [.ref A_t] below meth c q0 (F0 m 4 ls [])) {v2 : Int32} {ls : Array Slot} (hl : lv_has ls 5 [(0, .ref A_t), (2, .int v2)]) (hf : bX10_faultOf_116 k4 v2 = some q0) : WRi p l e rmX10_faultOf s m [.ref A_t] below meth c q0 (F0 m 116 ls []) := by
  obtain ⟨hx, hb, hr, hml, hown, hts, hlocks⟩ := id C
  unfold bX10_faultOf_116 at hf
  refine lv_iconst (v := 0) hx hb dX10_faultOf_116 (by decide) ?_
  refine lv_istore_n (lv' := [(1, .int 0), (0, .ref A_t), (2, .int v2)]) hx hb dX10_faultOf_117 rfl hl (by decide) rfl (fun ls hl => ?_)
  refine lv_iinc (v := v2 + 1) (lv' := [(2, .int (v2 + 1)), (1, .int 0), (0, .ref A_t)]) hx hb dX10_faultOf_118 hl (k := 2) rfl rfl (by decide) rfl (fun ls hl => ?_)
  refine lv_goto (tgt := 4) hx hb dX10_faultOf_121 (by decide) ?_
  exact hk4 _ _ _ (lv_sub hl [2, 1, 0] rfl) hf
def bX10_faultOf_92 (k4 : Int32 × Int32 → Option (Int32)) (v1 : Int32) (v2 : Int32) (v3 : Int32) (s0 : Int32) : Option (Int32) :=
  if s0 = 0 then some v2 else if v1 = 0 then (fX10_isMonk v3).bind fun r106 => if r106 = 0 then bX10_faultOf_116 k4 v2 else k4 (1, v2 + 1) else bX10_faultOf_116 k4 v2
set_option maxRecDepth 100000 in
set_option maxHeartbeats 4000000 in
theorem BX10_faultOf_92 {p : Program} {l : Launch} {e : Env} {s : State} {m : MethodId} {below : List Frame} {meth : Method} {c : Code} {D : va_G} {ty : TY} {A_t A_t_count A_t_pace A_t_sight A_t_pad A_t_now A_t_image A_t_isKept : Nat} {t_there : Int32} {t_awake : Int32} {t_house : Int32} {t_sharp : Int32} {t_sights : Int32} {t_signs : Int32} {t_up : Int32} {t_reason : Int32} {t_acts : Int32} {t_breaths : Int32} {t_zeroAt : Int32} {t_noticedAt : Int32} {t_count : Nat → Int32} {t_pace : Nat → Int32} {t_sight : Nat → Int32} {t_pad : Nat → Int32} {t_now : Nat → Int32} {t_image : Nat → Int32} {t_isKept : Nat → Int32} {q0 : Int32} (C : cx p s m [.ref A_t] meth c cX10_faultOf 5 (some .int) RX10 wsX10_faultOf) (hK : KK D ty s) (hP : va_P D vwCl [(A_t, .inr (9, [.int t_there, .int t_awake, .ref A_t_count, .ref A_t_pace, .int t_house, .int t_sharp, .int t_sights, .ref A_t_sight, .int t_signs, .ref A_t_pad, .int t_up, .ref A_t_now, .int t_reason, .int t_acts, .int t_breaths, .int t_zeroAt, .int t_noticedAt, .ref A_t_image, .ref A_t_isKept])), (A_t_count, .inl (ty.1, 8, .inl t_count)), (A_t_pace, .inl (ty.1, 8, .inl t_pace)), (A_t_sight, .inl (ty.1, 24, .inl t_sight)), (A_t_pad, .inl (ty.1, 60, .inl t_pad)), (A_t_now, .inl (ty.1, 8, .inl t_now)), (A_t_image, .inl (ty.1, 120, .inl t_image)), (A_t_isKept, .inl (ty.2.2.1, 2, .inl t_isKept))] s.heap) {k4 : Int32 × Int32 → Option (Int32)} (hk4 : ∀ (v1 : Int32) (v2 : Int32) (ls : Array Slot), lv_has ls 5 [(0, .ref A_t), (1, .int v1), (2, .int v2)] → k4 (v1, v2) = some q0 → WRi p l e rmX10_faultOf s m [.ref A_t] below meth c q0 (F0 m 4 ls [])) {v1 : Int32} {v2 : Int32} {v3 : Int32} {s0 : Int32} {ls : Array Slot} (hl : lv_has ls 5 [(0, .ref A_t), (1, .int v1), (2, .int v2), (3, .int v3)]) (hf : bX10_faultOf_92 k4 v1 v2 v3 s0 = some q0) : WRi p l e rmX10_faultOf s m [.ref A_t] below meth c q0 (F0 m 92 ls [.int s0]) := by
  obtain ⟨hx, hb, hr, hml, hown, hts, hlocks⟩ := id C
  unfold bX10_faultOf_92 at hf
  refine lv_istore (lv' := [(4, .int s0), (0, .ref A_t), (1, .int v1), (2, .int v2), (3, .int v3)]) hx hb dX10_faultOf_92 hl (by decide) rfl (fun ls hl => ?_)
  refine lv_iload hx hb dX10_faultOf_94 (lv_at hl 0 rfl) ?_
  refine lv_if_ne (tgt := 101) hx hb dX10_faultOf_96 (by decide) (fun hc => ?_) (fun hc => ?_)
  · have hf := ff hf hc
    refine lv_iload_n hx hb dX10_faultOf_101 rfl (lv_at hl 2 rfl) ?_
    refine lv_if_ne (tgt := 116) hx hb dX10_faultOf_102 (by decide) (fun hc => ?_) (fun hc => ?_)
    · have hf := ff hf hc
      exact BX10_faultOf_116 C hK hP hk4 (lv_sub hl [1, 3] rfl) hf
    · have hf := ft hf hc
      refine lv_iload_n hx hb dX10_faultOf_105 rfl (lv_at hl 4 rfl) ?_
      obtain ⟨r106, hr106, hf⟩ := bnd hf
      have hPc : va_P D vwCl [] _ := hP.sub [] rfl
      refine callS_ri (As := [.int v3]) (rest := []) ⟨hx, hb, hml, hown, hts⟩ (CX10_isMonk l hr106) (va_cwS 1 hts gX10_faultOf_X10_isMonk rfl rfl rfl kkX10_isMonk.2 ⟨Nat.le_of_ble_eq_true rfl, Nat.le_of_ble_eq_true rfl⟩) hK hPc hl.1 rfl (Nat.le_of_ble_eq_true rfl) dX10_faultOf_106 ⟨Nat.zero_le _, Nat.zero_le _⟩ ?_
      refine lv_if_eq (tgt := 116) hx hb dX10_faultOf_109 (by decide) (fun hc => ?_) (fun hc => ?_)
      · have hf := ft hf hc
        exact BX10_faultOf_116 C hK hP hk4 (lv_sub hl [1, 3] rfl) hf
      · have hf := ff hf hc
        refine lv_iconst (v := 1) hx hb dX10_faultOf_112 (by decide) ?_
        refine lv_goto (tgt := 117) hx hb dX10_faultOf_113 (by decide) ?_
        refine lv_istore_n (lv' := [(1, .int 1), (4, .int s0), (0, .ref A_t), (2, .int v2), (3, .int v3)]) hx hb dX10_faultOf_117 rfl hl (by decide) rfl (fun ls hl => ?_)
        refine lv_iinc (v := v2 + 1) (lv' := [(2, .int (v2 + 1)), (1, .int 1), (4, .int s0), (0, .ref A_t), (3, .int v3)]) hx hb dX10_faultOf_118 hl (k := 3) rfl rfl (by decide) rfl (fun ls hl => ?_)
        refine lv_goto (tgt := 4) hx hb dX10_faultOf_121 (by decide) ?_
        exact hk4 _ _ _ (lv_sub hl [3, 1, 0] rfl) hf
  · have hf := ft hf hc
    refine lv_iload_n hx hb dX10_faultOf_99 rfl (lv_at hl 3 rfl) ?_
    exact ret_ri hx hb hr hlocks hf dX10_faultOf_100
def bX10_faultOf_4 (k4 : Int32 × Int32 → Option (Int32)) (t_signs : Int32) (t_pad : Nat → Int32) (v1 : Int32) (v2 : Int32) : Option (Int32) :=
  if t_signs ≤ v2 then if v1 = 0 then some (-6) else some t_signs else gIn v2 60 (if v1 = 0 then (fX10_isMonk (t_pad (v2 : Int32).toNatClampNeg)).bind fun r57 => if r57 = 0 then if (t_pad (v2 : Int32).toNatClampNeg) = 46 then bX10_faultOf_92 k4 v1 v2 (t_pad (v2 : Int32).toNatClampNeg) 1 else if (t_pad (v2 : Int32).toNatClampNeg) = 58 then bX10_faultOf_92 k4 v1 v2 (t_pad (v2 : Int32).toNatClampNeg) 1 else if (t_pad (v2 : Int32).toNatClampNeg) = 33 then bX10_faultOf_92 k4 v1 v2 (t_pad (v2 : Int32).toNatClampNeg) 1 else if (t_pad (v2 : Int32).toNatClampNeg) = 42 then bX10_faultOf_92 k4 v1 v2 (t_pad (v2 : Int32).toNatClampNeg) 1 else bX10_faultOf_92 k4 v1 v2 (t_pad (v2 : Int32).toNatClampNeg) 0 else bX10_faultOf_92 k4 v1 v2 (t_pad (v2 : Int32).toNatClampNeg) 1 else (fX10_isMonk (t_pad (v2 : Int32).toNatClampNeg)).bind fun r24 => if r24 = 0 then if (t_pad (v2 : Int32).toNatClampNeg) = 119 then bX10_faultOf_92 k4 v1 v2 (t_pad (v2 : Int32).toNatClampNeg) 1 else if (t_pad (v2 : Int32).toNatClampNeg) = 107 then bX10_faultOf_92 k4 v1 v2 (t_pad (v2 : Int32).toNatClampNeg) 1 else if (t_pad (v2 : Int32).toNatClampNeg) = 101 then bX10_faultOf_92 k4 v1 v2 (t_pad (v2 : Int32).toNatClampNeg) 1 else bX10_faultOf_92 k4 v1 v2 (t_pad (v2 : Int32).toNatClampNeg) 0 else bX10_faultOf_92 k4 v1 v2 (t_pad (v2 : Int32).toNatClampNeg) 1)
set_option maxRecDepth 100000 in
set_option maxHeartbeats 4000000 in
theorem BX10_faultOf_4 {p : Program} {l : Launch} {e : Env} {s : State} {m : MethodId} {below : List Frame} {meth : Method} {c : Code} {D : va_G} {ty : TY} {A_t A_t_count A_t_pace A_t_sight A_t_pad A_t_now A_t_image A_t_isKept : Nat} {t_there : Int32} {t_awake : Int32} {t_house : Int32} {t_sharp : Int32} {t_sights : Int32} {t_signs : Int32} {t_up : Int32} {t_reason : Int32} {t_acts : Int32} {t_breaths : Int32} {t_zeroAt : Int32} {t_noticedAt : Int32} {t_count : Nat → Int32} {t_pace : Nat → Int32} {t_sight : Nat → Int32} {t_pad : Nat → Int32} {t_now : Nat → Int32} {t_image : Nat → Int32} {t_isKept : Nat → Int32} {q0 : Int32} (C : cx p s m [.ref A_t] meth c cX10_faultOf 5 (some .int) RX10 wsX10_faultOf) (hK : KK D ty s) (hP : va_P D vwCl [(A_t, .inr (9, [.int t_there, .int t_awake, .ref A_t_count, .ref A_t_pace, .int t_house, .int t_sharp, .int t_sights, .ref A_t_sight, .int t_signs, .ref A_t_pad, .int t_up, .ref A_t_now, .int t_reason, .int t_acts, .int t_breaths, .int t_zeroAt, .int t_noticedAt, .ref A_t_image, .ref A_t_isKept])), (A_t_count, .inl (ty.1, 8, .inl t_count)), (A_t_pace, .inl (ty.1, 8, .inl t_pace)), (A_t_sight, .inl (ty.1, 24, .inl t_sight)), (A_t_pad, .inl (ty.1, 60, .inl t_pad)), (A_t_now, .inl (ty.1, 8, .inl t_now)), (A_t_image, .inl (ty.1, 120, .inl t_image)), (A_t_isKept, .inl (ty.2.2.1, 2, .inl t_isKept))] s.heap)   : ∀ (n : Nat) (v1 : Int32) (v2 : Int32) (ls : Array Slot), lv_has ls 5 [(0, .ref A_t), (1, .int v1), (2, .int v2)] → loopF (fun k q => bX10_faultOf_4 k t_signs t_pad q.1 q.2) n (v1, v2) = some q0 → WRi p l e rmX10_faultOf s m [.ref A_t] below meth c q0 (F0 m 4 ls []) := by
  obtain ⟨hx, hb, hr, hml, hown, hts, hlocks⟩ := id C
  intro n
  induction n with
  | zero =>
    intro v1 v2 ls hl hf
    cases hf
  | succ n ih =>
    intro v1 v2 ls hl hf
    have hf : bX10_faultOf_4 (loopF (fun k q => bX10_faultOf_4 k t_signs t_pad q.1 q.2) n) t_signs t_pad v1 v2 = some q0 := hf
    have hk4 := ih
    unfold bX10_faultOf_4 at hf
    refine lv_iload_n hx hb dX10_faultOf_4 rfl (lv_at hl 2 rfl) ?_
    refine lv_aload_n hx hb dX10_faultOf_5 rfl (lv_at hl 0 rfl) ?_
    refine va_get (D := D) (ci := 9) (v := .int t_signs) (C := RX10) (T := TX10) (N := 19) hx hb hts wX10_faultOf_X10 hown hK.1 hP 0 rfl rfl 8 (by decide) (hts _ mX10_faultOf_f62) (fun _ h9 => h9) rfl dX10_faultOf_6 ?_
    refine lv_icmp_ge (tgt := 124) hx hb dX10_faultOf_9 (by decide) (fun hc => ?_) (fun hc => ?_)
    · have hf := ft hf hc
      refine lv_iload_n hx hb dX10_faultOf_124 rfl (lv_at hl 1 rfl) ?_
      refine lv_if_eq (tgt := 135) hx hb dX10_faultOf_125 (by decide) (fun hc => ?_) (fun hc => ?_)
      · have hf := ft hf hc
        refine lv_bipush (v := (-6)) hx hb dX10_faultOf_135 (by decide) ?_
        exact ret_ri hx hb hr hlocks hf dX10_faultOf_137
      · have hf := ff hf hc
        refine lv_aload_n hx hb dX10_faultOf_128 rfl (lv_at hl 0 rfl) ?_
        refine va_get (D := D) (ci := 9) (v := .int t_signs) (C := RX10) (T := TX10) (N := 19) hx hb hts wX10_faultOf_X10 hown hK.1 hP 0 rfl rfl 8 (by decide) (hts _ mX10_faultOf_f62) (fun _ h9 => h9) rfl dX10_faultOf_129 ?_
        refine lv_goto (tgt := 137) hx hb dX10_faultOf_132 (by decide) ?_
        exact ret_ri hx hb hr hlocks hf dX10_faultOf_137
    · have hf := ff hf hc
      refine lv_aload_n hx hb dX10_faultOf_12 rfl (lv_at hl 0 rfl) ?_
      refine va_get (D := D) (ci := 9) (v := .ref A_t_pad) (C := RX10) (T := TX10) (N := 19) hx hb hts wX10_faultOf_X10 hown hK.1 hP 0 rfl rfl 9 (by decide) (hts _ mX10_faultOf_f27) (fun _ h9 => h9) rfl dX10_faultOf_13 ?_
      refine lv_iload_n hx hb dX10_faultOf_16 rfl (lv_at hl 2 rfl) ?_
      obtain ⟨hin, hf⟩ := gIn_some hf
      refine va_iald hx hb hK.1 hP 4 0 rfl rfl hin dX10_faultOf_17 ?_
      refine lv_istore_n (lv' := [(3, .int (t_pad (v2 : Int32).toNatClampNeg)), (0, .ref A_t), (1, .int v1), (2, .int v2)]) hx hb dX10_faultOf_18 rfl hl (by decide) rfl (fun ls hl => ?_)
      refine lv_iload_n hx hb dX10_faultOf_19 rfl (lv_at hl 2 rfl) ?_
      refine lv_if_eq (tgt := 56) hx hb dX10_faultOf_20 (by decide) (fun hc => ?_) (fun hc => ?_)
      · have hf := ft hf hc
        refine lv_iload_n hx hb dX10_faultOf_56 rfl (lv_at hl 0 rfl) ?_
        obtain ⟨r57, hr57, hf⟩ := bnd hf
        have hPc : va_P D vwCl [] _ := hP.sub [] rfl
        refine callS_ri (As := [.int (t_pad (v2 : Int32).toNatClampNeg)]) (rest := []) ⟨hx, hb, hml, hown, hts⟩ (CX10_isMonk l hr57) (va_cwS 1 hts gX10_faultOf_X10_isMonk rfl rfl rfl kkX10_isMonk.2 ⟨Nat.le_of_ble_eq_true rfl, Nat.le_of_ble_eq_true rfl⟩) hK hPc hl.1 rfl (Nat.le_of_ble_eq_true rfl) dX10_faultOf_57 ⟨Nat.zero_le _, Nat.zero_le _⟩ ?_
        refine lv_if_ne (tgt := 87) hx hb dX10_faultOf_60 (by decide) (fun hc => ?_) (fun hc => ?_)
        · have hf := ff hf hc
          refine lv_iconst (v := 1) hx hb dX10_faultOf_87 (by decide) ?_
          refine lv_goto (tgt := 92) hx hb dX10_faultOf_88 (by decide) ?_
          exact BX10_faultOf_92 C hK hP hk4 (lv_sub hl [1, 2, 3, 0] rfl) hf
        · have hf := ft hf hc
          refine lv_iload_n hx hb dX10_faultOf_63 rfl (lv_at hl 0 rfl) ?_
          refine lv_bipush (v := 46) hx hb dX10_faultOf_64 (by decide) ?_
          refine lv_icmp_eq (tgt := 87) hx hb dX10_faultOf_66 (by decide) (fun hc => ?_) (fun hc => ?_)
          · have hf := ft hf hc
            refine lv_iconst (v := 1) hx hb dX10_faultOf_87 (by decide) ?_
            refine lv_goto (tgt := 92) hx hb dX10_faultOf_88 (by decide) ?_
            exact BX10_faultOf_92 C hK hP hk4 (lv_sub hl [1, 2, 3, 0] rfl) hf
          · have hf := ff hf hc
            refine lv_iload_n hx hb dX10_faultOf_69 rfl (lv_at hl 0 rfl) ?_
            refine lv_bipush (v := 58) hx hb dX10_faultOf_70 (by decide) ?_
            refine lv_icmp_eq (tgt := 87) hx hb dX10_faultOf_72 (by decide) (fun hc => ?_) (fun hc => ?_)
            · have hf := ft hf hc
              refine lv_iconst (v := 1) hx hb dX10_faultOf_87 (by decide) ?_
              refine lv_goto (tgt := 92) hx hb dX10_faultOf_88 (by decide) ?_
              exact BX10_faultOf_92 C hK hP hk4 (lv_sub hl [1, 2, 3, 0] rfl) hf
            · have hf := ff hf hc
              refine lv_iload_n hx hb dX10_faultOf_75 rfl (lv_at hl 0 rfl) ?_
              refine lv_bipush (v := 33) hx hb dX10_faultOf_76 (by decide) ?_
              refine lv_icmp_eq (tgt := 87) hx hb dX10_faultOf_78 (by decide) (fun hc => ?_) (fun hc => ?_)
              · have hf := ft hf hc
                refine lv_iconst (v := 1) hx hb dX10_faultOf_87 (by decide) ?_
                refine lv_goto (tgt := 92) hx hb dX10_faultOf_88 (by decide) ?_
                exact BX10_faultOf_92 C hK hP hk4 (lv_sub hl [1, 2, 3, 0] rfl) hf
              · have hf := ff hf hc
                refine lv_iload_n hx hb dX10_faultOf_81 rfl (lv_at hl 0 rfl) ?_
                refine lv_bipush (v := 42) hx hb dX10_faultOf_82 (by decide) ?_
                refine lv_icmp_ne (tgt := 91) hx hb dX10_faultOf_84 (by decide) (fun hc => ?_) (fun hc => ?_)
                · have hf := ff hf hc
                  refine lv_iconst (v := 0) hx hb dX10_faultOf_91 (by decide) ?_
                  exact BX10_faultOf_92 C hK hP hk4 (lv_sub hl [1, 2, 3, 0] rfl) hf
                · have hf := ft hf hc
                  refine lv_iconst (v := 1) hx hb dX10_faultOf_87 (by decide) ?_
                  refine lv_goto (tgt := 92) hx hb dX10_faultOf_88 (by decide) ?_
                  exact BX10_faultOf_92 C hK hP hk4 (lv_sub hl [1, 2, 3, 0] rfl) hf
      · have hf := ff hf hc
        refine lv_iload_n hx hb dX10_faultOf_23 rfl (lv_at hl 0 rfl) ?_
        obtain ⟨r24, hr24, hf⟩ := bnd hf
        have hPc : va_P D vwCl [] _ := hP.sub [] rfl
        refine callS_ri (As := [.int (t_pad (v2 : Int32).toNatClampNeg)]) (rest := []) ⟨hx, hb, hml, hown, hts⟩ (CX10_isMonk l hr24) (va_cwS 1 hts gX10_faultOf_X10_isMonk rfl rfl rfl kkX10_isMonk.2 ⟨Nat.le_of_ble_eq_true rfl, Nat.le_of_ble_eq_true rfl⟩) hK hPc hl.1 rfl (Nat.le_of_ble_eq_true rfl) dX10_faultOf_24 ⟨Nat.zero_le _, Nat.zero_le _⟩ ?_
        refine lv_if_ne (tgt := 48) hx hb dX10_faultOf_27 (by decide) (fun hc => ?_) (fun hc => ?_)
        · have hf := ff hf hc
          refine lv_iconst (v := 1) hx hb dX10_faultOf_48 (by decide) ?_
          refine lv_goto (tgt := 92) hx hb dX10_faultOf_49 (by decide) ?_
          exact BX10_faultOf_92 C hK hP hk4 (lv_sub hl [1, 2, 3, 0] rfl) hf
        · have hf := ft hf hc
          refine lv_iload_n hx hb dX10_faultOf_30 rfl (lv_at hl 0 rfl) ?_
          refine lv_bipush (v := 119) hx hb dX10_faultOf_31 (by decide) ?_
          refine lv_icmp_eq (tgt := 48) hx hb dX10_faultOf_33 (by decide) (fun hc => ?_) (fun hc => ?_)
          · have hf := ft hf hc
            refine lv_iconst (v := 1) hx hb dX10_faultOf_48 (by decide) ?_
            refine lv_goto (tgt := 92) hx hb dX10_faultOf_49 (by decide) ?_
            exact BX10_faultOf_92 C hK hP hk4 (lv_sub hl [1, 2, 3, 0] rfl) hf
          · have hf := ff hf hc
            refine lv_iload_n hx hb dX10_faultOf_36 rfl (lv_at hl 0 rfl) ?_
            refine lv_bipush (v := 107) hx hb dX10_faultOf_37 (by decide) ?_
            refine lv_icmp_eq (tgt := 48) hx hb dX10_faultOf_39 (by decide) (fun hc => ?_) (fun hc => ?_)
            · have hf := ft hf hc
              refine lv_iconst (v := 1) hx hb dX10_faultOf_48 (by decide) ?_
              refine lv_goto (tgt := 92) hx hb dX10_faultOf_49 (by decide) ?_
              exact BX10_faultOf_92 C hK hP hk4 (lv_sub hl [1, 2, 3, 0] rfl) hf
            · have hf := ff hf hc
              refine lv_iload_n hx hb dX10_faultOf_42 rfl (lv_at hl 0 rfl) ?_
              refine lv_bipush (v := 101) hx hb dX10_faultOf_43 (by decide) ?_
              refine lv_icmp_ne (tgt := 52) hx hb dX10_faultOf_45 (by decide) (fun hc => ?_) (fun hc => ?_)
              · have hf := ff hf hc
                refine lv_iconst (v := 0) hx hb dX10_faultOf_52 (by decide) ?_
                refine lv_goto (tgt := 92) hx hb dX10_faultOf_53 (by decide) ?_
                exact BX10_faultOf_92 C hK hP hk4 (lv_sub hl [1, 2, 3, 0] rfl) hf
              · have hf := ft hf hc
                refine lv_iconst (v := 1) hx hb dX10_faultOf_48 (by decide) ?_
                refine lv_goto (tgt := 92) hx hb dX10_faultOf_49 (by decide) ?_
                exact BX10_faultOf_92 C hK hP hk4 (lv_sub hl [1, 2, 3, 0] rfl) hf
def fX10_faultOf (t_signs : Int32) (t_pad : Nat → Int32) : Option (Int32) :=
  loopF (fun k q => bX10_faultOf_4 k t_signs t_pad q.1 q.2) FU (0, 0)
set_option maxRecDepth 100000 in
set_option maxHeartbeats 4000000 in
theorem CX10_faultOf (l : Launch) {D : va_G} {ty : TY} {A_t A_t_count A_t_pace A_t_sight A_t_pad A_t_now A_t_image A_t_isKept : Nat} {t_there : Int32} {t_awake : Int32} {t_house : Int32} {t_sharp : Int32} {t_sights : Int32} {t_signs : Int32} {t_up : Int32} {t_reason : Int32} {t_acts : Int32} {t_breaths : Int32} {t_zeroAt : Int32} {t_noticedAt : Int32} {t_count : Nat → Int32} {t_pace : Nat → Int32} {t_sight : Nat → Int32} {t_pad : Nat → Int32} {t_now : Nat → Int32} {t_image : Nat → Int32} {t_isKept : Nat → Int32} {q0 : Int32} (hf : fX10_faultOf t_signs t_pad = some q0) : ROi l yX10_faultOf wsX10_faultOf rmX10_faultOf D ty [.ref A_t] [(A_t, .inr (9, [.int t_there, .int t_awake, .ref A_t_count, .ref A_t_pace, .int t_house, .int t_sharp, .int t_sights, .ref A_t_sight, .int t_signs, .ref A_t_pad, .int t_up, .ref A_t_now, .int t_reason, .int t_acts, .int t_breaths, .int t_zeroAt, .int t_noticedAt, .ref A_t_image, .ref A_t_isKept])), (A_t_count, .inl (ty.1, 8, .inl t_count)), (A_t_pace, .inl (ty.1, 8, .inl t_pace)), (A_t_sight, .inl (ty.1, 24, .inl t_sight)), (A_t_pad, .inl (ty.1, 60, .inl t_pad)), (A_t_now, .inl (ty.1, 8, .inl t_now)), (A_t_image, .inl (ty.1, 120, .inl t_image)), (A_t_isKept, .inl (ty.2.2.1, 2, .inl t_isKept))] q0 := by
  refine ROi.start (cc := cX10_faultOf) (maxL := 5) (ret := (some .int)) (own := RX10) (by decide) rfl rfl (Nat.le_of_ble_eq_true rfl) ?_
  intro p e s m below meth c ls C hK hP hl
  obtain ⟨hx, hb, hr, hml, hown, hts, hlocks⟩ := id C
  have hl : lv_has ls 5 [(0, .ref A_t)] := hl
  unfold fX10_faultOf at hf
  refine lv_iconst (v := 0) hx hb dX10_faultOf_0 (by decide) ?_
  refine lv_istore_n (lv' := [(1, .int 0), (0, .ref A_t)]) hx hb dX10_faultOf_1 rfl hl (by decide) rfl (fun ls hl => ?_)
  refine lv_iconst (v := 0) hx hb dX10_faultOf_2 (by decide) ?_
  refine lv_istore_n (lv' := [(2, .int 0), (1, .int 0), (0, .ref A_t)]) hx hb dX10_faultOf_3 rfl hl (by decide) rfl (fun ls hl => ?_)
  exact BX10_faultOf_4 C hK hP  FU _ _ _ (lv_sub hl [2, 1, 0] rfl) hf
/-! ===== SilenceCountModel.isZero()Z ===== -/
abbrev rmX10_isZero : Room := { frames := 1, cells := 0, slots := 0, locals := 21 }
theorem kkX10_isZero : yX10_isZero.cls = RX10 ∧ yX10_isZero.cls ≠ "java/lang/invoke/MethodHandle" ∧ yX10_isZero.cls ≠ "java/lang/invoke/VarHandle" ∧ (parseMethodDescriptor yX10_isZero.desc).map (fun d => d.parameters.length) = some 0 := by decide +kernel
theorem mX10_isZero_f40 : Cond.fieldLink RX10 40 "SilenceCountModel" "there" "I" ∈ wsX10_isZero := by decide +kernel
theorem mX10_isZero_f30 : Cond.fieldLink RX10 30 "SilenceCountModel" "now" "[I" ∈ wsX10_isZero := by decide +kernel
theorem wX10_isZero_X10 : ∀ w ∈ u_ws RX10 TX10 19, w ∈ wsX10_isZero := by decide +kernel
def bX10_isZero_34 (k4 : Int32 × Int32 → Option (Int32)) (v2 : Int32) : Option (Int32) :=
  k4 (1, v2 + 1)
set_option maxRecDepth 100000 in
set_option maxHeartbeats 4000000 in
theorem BX10_isZero_34 {p : Program} {l : Launch} {e : Env} {s : State} {m : MethodId} {below : List Frame} {meth : Method} {c : Code} {D : va_G} {ty : TY} {A_t A_t_count A_t_pace A_t_sight A_t_pad A_t_now A_t_image A_t_isKept : Nat} {t_there : Int32} {t_awake : Int32} {t_house : Int32} {t_sharp : Int32} {t_sights : Int32} {t_signs : Int32} {t_up : Int32} {t_reason : Int32} {t_acts : Int32} {t_breaths : Int32} {t_zeroAt : Int32} {t_noticedAt : Int32} {t_count : Nat → Int32} {t_pace : Nat → Int32} {t_sight : Nat → Int32} {t_pad : Nat → Int32} {t_now : Nat → Int32} {t_image : Nat → Int32} {t_isKept : Nat → Int32} {q0 : Int32} (C : cx p s m [.ref A_t] meth c cX10_isZero 3 (some .boolean) RX10 wsX10_isZero) (hK : KK D ty s) (hP : va_P D vwCl [(A_t, .inr (9, [.int t_there, .int t_awake, .ref A_t_count, .ref A_t_pace, .int t_house, .int t_sharp, .int t_sights, .ref A_t_sight, .int t_signs, .ref A_t_pad, .int t_up, .ref A_t_now, .int t_reason, .int t_acts, .int t_breaths, .int t_zeroAt, .int t_noticedAt, .ref A_t_image, .ref A_t_isKept])), (A_t_count, .inl (ty.1, 8, .inl t_count)), (A_t_pace, .inl (ty.1, 8, .inl t_pace)), (A_t_sight, .inl (ty.1, 24, .inl t_sight)), (A_t_pad, .inl (ty.1, 60, .inl t_pad)), (A_t_now, .inl (ty.1, 8, .inl t_now)), (A_t_image, .inl (ty.1, 120, .inl t_image)), (A_t_isKept, .inl (ty.2.2.1, 2, .inl t_isKept))] s.heap) {k4 : Int32 × Int32 → Option (Int32)} (hk4 : ∀ (v1 : Int32) (v2 : Int32) (ls : Array Slot), lv_has ls 3 [(0, .ref A_t), (1, .int v1), (2, .int v2)] → k4 (v1, v2) = some q0 → WRi p l e rmX10_isZero s m [.ref A_t] below meth c q0 (F0 m 4 ls [])) {v2 : Int32} {ls : Array Slot} (hl : lv_has ls 3 [(0, .ref A_t), (2, .int v2)]) (hf : bX10_isZero_34 k4 v2 = some q0) : WRi p l e rmX10_isZero s m [.ref A_t] below meth c q0 (F0 m 34 ls []) := by
  obtain ⟨hx, hb, hr, hml, hown, hts, hlocks⟩ := id C
  unfold bX10_isZero_34 at hf
  refine lv_iconst (v := 1) hx hb dX10_isZero_34 (by decide) ?_
  refine lv_goto (tgt := 39) hx hb dX10_isZero_35 (by decide) ?_
  refine lv_istore_n (lv' := [(1, .int 1), (0, .ref A_t), (2, .int v2)]) hx hb dX10_isZero_39 rfl hl (by decide) rfl (fun ls hl => ?_)
  refine lv_iinc (v := v2 + 1) (lv' := [(2, .int (v2 + 1)), (1, .int 1), (0, .ref A_t)]) hx hb dX10_isZero_40 hl (k := 2) rfl rfl (by decide) rfl (fun ls hl => ?_)
  refine lv_goto (tgt := 4) hx hb dX10_isZero_43 (by decide) ?_
  exact hk4 _ _ _ (lv_sub hl [2, 1, 0] rfl) hf
def bX10_isZero_38 (k4 : Int32 × Int32 → Option (Int32)) (v2 : Int32) : Option (Int32) :=
  k4 (0, v2 + 1)
set_option maxRecDepth 100000 in
set_option maxHeartbeats 4000000 in
theorem BX10_isZero_38 {p : Program} {l : Launch} {e : Env} {s : State} {m : MethodId} {below : List Frame} {meth : Method} {c : Code} {D : va_G} {ty : TY} {A_t A_t_count A_t_pace A_t_sight A_t_pad A_t_now A_t_image A_t_isKept : Nat} {t_there : Int32} {t_awake : Int32} {t_house : Int32} {t_sharp : Int32} {t_sights : Int32} {t_signs : Int32} {t_up : Int32} {t_reason : Int32} {t_acts : Int32} {t_breaths : Int32} {t_zeroAt : Int32} {t_noticedAt : Int32} {t_count : Nat → Int32} {t_pace : Nat → Int32} {t_sight : Nat → Int32} {t_pad : Nat → Int32} {t_now : Nat → Int32} {t_image : Nat → Int32} {t_isKept : Nat → Int32} {q0 : Int32} (C : cx p s m [.ref A_t] meth c cX10_isZero 3 (some .boolean) RX10 wsX10_isZero) (hK : KK D ty s) (hP : va_P D vwCl [(A_t, .inr (9, [.int t_there, .int t_awake, .ref A_t_count, .ref A_t_pace, .int t_house, .int t_sharp, .int t_sights, .ref A_t_sight, .int t_signs, .ref A_t_pad, .int t_up, .ref A_t_now, .int t_reason, .int t_acts, .int t_breaths, .int t_zeroAt, .int t_noticedAt, .ref A_t_image, .ref A_t_isKept])), (A_t_count, .inl (ty.1, 8, .inl t_count)), (A_t_pace, .inl (ty.1, 8, .inl t_pace)), (A_t_sight, .inl (ty.1, 24, .inl t_sight)), (A_t_pad, .inl (ty.1, 60, .inl t_pad)), (A_t_now, .inl (ty.1, 8, .inl t_now)), (A_t_image, .inl (ty.1, 120, .inl t_image)), (A_t_isKept, .inl (ty.2.2.1, 2, .inl t_isKept))] s.heap) {k4 : Int32 × Int32 → Option (Int32)} (hk4 : ∀ (v1 : Int32) (v2 : Int32) (ls : Array Slot), lv_has ls 3 [(0, .ref A_t), (1, .int v1), (2, .int v2)] → k4 (v1, v2) = some q0 → WRi p l e rmX10_isZero s m [.ref A_t] below meth c q0 (F0 m 4 ls [])) {v2 : Int32} {ls : Array Slot} (hl : lv_has ls 3 [(0, .ref A_t), (2, .int v2)]) (hf : bX10_isZero_38 k4 v2 = some q0) : WRi p l e rmX10_isZero s m [.ref A_t] below meth c q0 (F0 m 38 ls []) := by
  obtain ⟨hx, hb, hr, hml, hown, hts, hlocks⟩ := id C
  unfold bX10_isZero_38 at hf
  refine lv_iconst (v := 0) hx hb dX10_isZero_38 (by decide) ?_
  refine lv_istore_n (lv' := [(1, .int 0), (0, .ref A_t), (2, .int v2)]) hx hb dX10_isZero_39 rfl hl (by decide) rfl (fun ls hl => ?_)
  refine lv_iinc (v := v2 + 1) (lv' := [(2, .int (v2 + 1)), (1, .int 0), (0, .ref A_t)]) hx hb dX10_isZero_40 hl (k := 2) rfl rfl (by decide) rfl (fun ls hl => ?_)
  refine lv_goto (tgt := 4) hx hb dX10_isZero_43 (by decide) ?_
  exact hk4 _ _ _ (lv_sub hl [2, 1, 0] rfl) hf
def bX10_isZero_4 (k4 : Int32 × Int32 → Option (Int32)) (t_there : Int32) (t_now : Nat → Int32) (v1 : Int32) (v2 : Int32) : Option (Int32) :=
  if 8 ≤ v2 then gB v1 (some v1) else if v1 = 0 then (fX10_has t_there v2).bind fun r19 => if r19 = 0 then bX10_isZero_38 k4 v2 else gIn v2 8 (if (t_now (v2 : Int32).toNatClampNeg) = 0 then bX10_isZero_34 k4 v2 else bX10_isZero_38 k4 v2) else bX10_isZero_34 k4 v2
set_option maxRecDepth 100000 in
set_option maxHeartbeats 4000000 in
theorem BX10_isZero_4 {p : Program} {l : Launch} {e : Env} {s : State} {m : MethodId} {below : List Frame} {meth : Method} {c : Code} {D : va_G} {ty : TY} {A_t A_t_count A_t_pace A_t_sight A_t_pad A_t_now A_t_image A_t_isKept : Nat} {t_there : Int32} {t_awake : Int32} {t_house : Int32} {t_sharp : Int32} {t_sights : Int32} {t_signs : Int32} {t_up : Int32} {t_reason : Int32} {t_acts : Int32} {t_breaths : Int32} {t_zeroAt : Int32} {t_noticedAt : Int32} {t_count : Nat → Int32} {t_pace : Nat → Int32} {t_sight : Nat → Int32} {t_pad : Nat → Int32} {t_now : Nat → Int32} {t_image : Nat → Int32} {t_isKept : Nat → Int32} {q0 : Int32} (C : cx p s m [.ref A_t] meth c cX10_isZero 3 (some .boolean) RX10 wsX10_isZero) (hK : KK D ty s) (hP : va_P D vwCl [(A_t, .inr (9, [.int t_there, .int t_awake, .ref A_t_count, .ref A_t_pace, .int t_house, .int t_sharp, .int t_sights, .ref A_t_sight, .int t_signs, .ref A_t_pad, .int t_up, .ref A_t_now, .int t_reason, .int t_acts, .int t_breaths, .int t_zeroAt, .int t_noticedAt, .ref A_t_image, .ref A_t_isKept])), (A_t_count, .inl (ty.1, 8, .inl t_count)), (A_t_pace, .inl (ty.1, 8, .inl t_pace)), (A_t_sight, .inl (ty.1, 24, .inl t_sight)), (A_t_pad, .inl (ty.1, 60, .inl t_pad)), (A_t_now, .inl (ty.1, 8, .inl t_now)), (A_t_image, .inl (ty.1, 120, .inl t_image)), (A_t_isKept, .inl (ty.2.2.1, 2, .inl t_isKept))] s.heap)   : ∀ (n : Nat) (v1 : Int32) (v2 : Int32) (ls : Array Slot), lv_has ls 3 [(0, .ref A_t), (1, .int v1), (2, .int v2)] → loopF (fun k q => bX10_isZero_4 k t_there t_now q.1 q.2) n (v1, v2) = some q0 → WRi p l e rmX10_isZero s m [.ref A_t] below meth c q0 (F0 m 4 ls []) := by
  obtain ⟨hx, hb, hr, hml, hown, hts, hlocks⟩ := id C
  intro n
  induction n with
  | zero =>
    intro v1 v2 ls hl hf
    cases hf
  | succ n ih =>
    intro v1 v2 ls hl hf
    have hf : bX10_isZero_4 (loopF (fun k q => bX10_isZero_4 k t_there t_now q.1 q.2) n) t_there t_now v1 v2 = some q0 := hf
    have hk4 := ih
    unfold bX10_isZero_4 at hf
    refine lv_iload_n hx hb dX10_isZero_4 rfl (lv_at hl 2 rfl) ?_
    refine lv_bipush (v := 8) hx hb dX10_isZero_5 (by decide) ?_
    refine lv_icmp_ge (tgt := 46) hx hb dX10_isZero_7 (by decide) (fun hc => ?_) (fun hc => ?_)
    · have hf := ft hf hc
      refine lv_iload_n hx hb dX10_isZero_46 rfl (lv_at hl 1 rfl) ?_
      obtain ⟨hbv, hf⟩ := gB_some hf
      exact ret_rz hx hb hr hlocks hbv hf dX10_isZero_47
    · have hf := ff hf hc
      refine lv_iload_n hx hb dX10_isZero_10 rfl (lv_at hl 1 rfl) ?_
      refine lv_if_ne (tgt := 34) hx hb dX10_isZero_11 (by decide) (fun hc => ?_) (fun hc => ?_)
      · have hf := ff hf hc
        exact BX10_isZero_34 C hK hP hk4 (lv_sub hl [0, 2] rfl) hf
      · have hf := ft hf hc
        refine lv_aload_n hx hb dX10_isZero_14 rfl (lv_at hl 0 rfl) ?_
        refine va_get (D := D) (ci := 9) (v := .int t_there) (C := RX10) (T := TX10) (N := 19) hx hb hts wX10_isZero_X10 hown hK.1 hP 0 rfl rfl 0 (by decide) (hts _ mX10_isZero_f40) (fun _ h9 => h9) rfl dX10_isZero_15 ?_
        refine lv_iload_n hx hb dX10_isZero_18 rfl (lv_at hl 2 rfl) ?_
        obtain ⟨r19, hr19, hf⟩ := bnd hf
        have hPc : va_P D vwCl [] _ := hP.sub [] rfl
        refine callS_ri (As := [.int t_there, .int v2]) (rest := []) ⟨hx, hb, hml, hown, hts⟩ (CX10_has l hr19) (va_cwS 2 hts gX10_isZero_X10_has rfl rfl rfl kkX10_has.2 ⟨Nat.le_of_ble_eq_true rfl, Nat.le_of_ble_eq_true rfl⟩) hK hPc hl.1 rfl (Nat.le_of_ble_eq_true rfl) dX10_isZero_19 ⟨Nat.zero_le _, Nat.zero_le _⟩ ?_
        refine lv_if_eq (tgt := 38) hx hb dX10_isZero_22 (by decide) (fun hc => ?_) (fun hc => ?_)
        · have hf := ft hf hc
          exact BX10_isZero_38 C hK hP hk4 (lv_sub hl [0, 2] rfl) hf
        · have hf := ff hf hc
          refine lv_aload_n hx hb dX10_isZero_25 rfl (lv_at hl 0 rfl) ?_
          refine va_get (D := D) (ci := 9) (v := .ref A_t_now) (C := RX10) (T := TX10) (N := 19) hx hb hts wX10_isZero_X10 hown hK.1 hP 0 rfl rfl 11 (by decide) (hts _ mX10_isZero_f30) (fun _ h9 => h9) rfl dX10_isZero_26 ?_
          refine lv_iload_n hx hb dX10_isZero_29 rfl (lv_at hl 2 rfl) ?_
          obtain ⟨hin, hf⟩ := gIn_some hf
          refine va_iald hx hb hK.1 hP 5 0 rfl rfl hin dX10_isZero_30 ?_
          refine lv_if_ne (tgt := 38) hx hb dX10_isZero_31 (by decide) (fun hc => ?_) (fun hc => ?_)
          · have hf := ff hf hc
            exact BX10_isZero_38 C hK hP hk4 (lv_sub hl [0, 2] rfl) hf
          · have hf := ft hf hc
            exact BX10_isZero_34 C hK hP hk4 (lv_sub hl [0, 2] rfl) hf
def fX10_isZero (t_there : Int32) (t_now : Nat → Int32) : Option (Int32) :=
  loopF (fun k q => bX10_isZero_4 k t_there t_now q.1 q.2) FU (0, 0)
set_option maxRecDepth 100000 in
set_option maxHeartbeats 4000000 in
theorem CX10_isZero (l : Launch) {D : va_G} {ty : TY} {A_t A_t_count A_t_pace A_t_sight A_t_pad A_t_now A_t_image A_t_isKept : Nat} {t_there : Int32} {t_awake : Int32} {t_house : Int32} {t_sharp : Int32} {t_sights : Int32} {t_signs : Int32} {t_up : Int32} {t_reason : Int32} {t_acts : Int32} {t_breaths : Int32} {t_zeroAt : Int32} {t_noticedAt : Int32} {t_count : Nat → Int32} {t_pace : Nat → Int32} {t_sight : Nat → Int32} {t_pad : Nat → Int32} {t_now : Nat → Int32} {t_image : Nat → Int32} {t_isKept : Nat → Int32} {q0 : Int32} (hf : fX10_isZero t_there t_now = some q0) : ROi l yX10_isZero wsX10_isZero rmX10_isZero D ty [.ref A_t] [(A_t, .inr (9, [.int t_there, .int t_awake, .ref A_t_count, .ref A_t_pace, .int t_house, .int t_sharp, .int t_sights, .ref A_t_sight, .int t_signs, .ref A_t_pad, .int t_up, .ref A_t_now, .int t_reason, .int t_acts, .int t_breaths, .int t_zeroAt, .int t_noticedAt, .ref A_t_image, .ref A_t_isKept])), (A_t_count, .inl (ty.1, 8, .inl t_count)), (A_t_pace, .inl (ty.1, 8, .inl t_pace)), (A_t_sight, .inl (ty.1, 24, .inl t_sight)), (A_t_pad, .inl (ty.1, 60, .inl t_pad)), (A_t_now, .inl (ty.1, 8, .inl t_now)), (A_t_image, .inl (ty.1, 120, .inl t_image)), (A_t_isKept, .inl (ty.2.2.1, 2, .inl t_isKept))] q0 := by
  refine ROi.start (cc := cX10_isZero) (maxL := 3) (ret := (some .boolean)) (own := RX10) (by decide) rfl rfl (Nat.le_of_ble_eq_true rfl) ?_
  intro p e s m below meth c ls C hK hP hl
  obtain ⟨hx, hb, hr, hml, hown, hts, hlocks⟩ := id C
  have hl : lv_has ls 3 [(0, .ref A_t)] := hl
  unfold fX10_isZero at hf
  refine lv_iconst (v := 0) hx hb dX10_isZero_0 (by decide) ?_
  refine lv_istore_n (lv' := [(1, .int 0), (0, .ref A_t)]) hx hb dX10_isZero_1 rfl hl (by decide) rfl (fun ls hl => ?_)
  refine lv_iconst (v := 0) hx hb dX10_isZero_2 (by decide) ?_
  refine lv_istore_n (lv' := [(2, .int 0), (1, .int 0), (0, .ref A_t)]) hx hb dX10_isZero_3 rfl hl (by decide) rfl (fun ls hl => ?_)
  exact BX10_isZero_4 C hK hP  FU _ _ _ (lv_sub hl [2, 1, 0] rfl) hf
/-! ===== SilenceCountModel.whyNotSleep(II)I ===== -/
abbrev rmX10_whyNotSleep : Room := { frames := 2, cells := 0, slots := 0, locals := 43 }
theorem kkX10_whyNotSleep : yX10_whyNotSleep.cls = RX10 ∧ yX10_whyNotSleep.cls ≠ "java/lang/invoke/MethodHandle" ∧ yX10_whyNotSleep.cls ≠ "java/lang/invoke/VarHandle" ∧ (parseMethodDescriptor yX10_whyNotSleep.desc).map (fun d => d.parameters.length) = some 2 := by decide +kernel
theorem mX10_whyNotSleep_f72 : Cond.fieldLink RX10 72 "SilenceCountModel" "up" "I" ∈ wsX10_whyNotSleep := by decide +kernel
theorem wX10_whyNotSleep_X10 : ∀ w ∈ u_ws RX10 TX10 19, w ∈ wsX10_whyNotSleep := by decide +kernel
def fX10_whyNotSleep (t_there : Int32) (t_up : Int32) (a1 : Int32) (a2 : Int32) : Option (Int32) :=
  (fX10_isThere t_there a1).bind fun r2 => if r2 = 0 then some 1 else (fX10_isThere t_there a2).bind fun r10 => if r10 = 0 then some 1 else if a1 = a2 then some 2 else (fX10_has t_up a1).bind fun r32 => if r32 = 0 then some 3 else (fX10_has t_up a2).bind fun r43 => if r43 = 0 then some 3 else some 0
set_option maxRecDepth 100000 in
set_option maxHeartbeats 4000000 in
theorem CX10_whyNotSleep (l : Launch) {D : va_G} {ty : TY} {A_t A_t_count A_t_pace A_t_sight A_t_pad A_t_now A_t_image A_t_isKept : Nat} {t_there : Int32} {t_awake : Int32} {t_house : Int32} {t_sharp : Int32} {t_sights : Int32} {t_signs : Int32} {t_up : Int32} {t_reason : Int32} {t_acts : Int32} {t_breaths : Int32} {t_zeroAt : Int32} {t_noticedAt : Int32} {t_count : Nat → Int32} {t_pace : Nat → Int32} {t_sight : Nat → Int32} {t_pad : Nat → Int32} {t_now : Nat → Int32} {t_image : Nat → Int32} {t_isKept : Nat → Int32} {a1 : Int32} {a2 : Int32} {q0 : Int32} (hf : fX10_whyNotSleep t_there t_up a1 a2 = some q0) : ROi l yX10_whyNotSleep wsX10_whyNotSleep rmX10_whyNotSleep D ty [.ref A_t, .int a1, .int a2] [(A_t, .inr (9, [.int t_there, .int t_awake, .ref A_t_count, .ref A_t_pace, .int t_house, .int t_sharp, .int t_sights, .ref A_t_sight, .int t_signs, .ref A_t_pad, .int t_up, .ref A_t_now, .int t_reason, .int t_acts, .int t_breaths, .int t_zeroAt, .int t_noticedAt, .ref A_t_image, .ref A_t_isKept])), (A_t_count, .inl (ty.1, 8, .inl t_count)), (A_t_pace, .inl (ty.1, 8, .inl t_pace)), (A_t_sight, .inl (ty.1, 24, .inl t_sight)), (A_t_pad, .inl (ty.1, 60, .inl t_pad)), (A_t_now, .inl (ty.1, 8, .inl t_now)), (A_t_image, .inl (ty.1, 120, .inl t_image)), (A_t_isKept, .inl (ty.2.2.1, 2, .inl t_isKept))] q0 := by
  refine ROi.start (cc := cX10_whyNotSleep) (maxL := 3) (ret := (some .int)) (own := RX10) (by decide) rfl rfl (Nat.le_of_ble_eq_true rfl) ?_
  intro p e s m below meth c ls C hK hP hl
  obtain ⟨hx, hb, hr, hml, hown, hts, hlocks⟩ := id C
  have hl : lv_has ls 3 [(0, .ref A_t), (1, .int a1), (2, .int a2)] := hl
  unfold fX10_whyNotSleep at hf
  refine lv_aload_n hx hb dX10_whyNotSleep_0 rfl (lv_at hl 0 rfl) ?_
  refine lv_iload_n hx hb dX10_whyNotSleep_1 rfl (lv_at hl 1 rfl) ?_
  obtain ⟨r2, hr2, hf⟩ := bnd hf
  refine callV_ri (As := [.int a1]) (rest := []) ⟨hx, hb, hml, hown, hts⟩ (CX10_isThere l hr2) (cwV 1 hts gX10_whyNotSleep_X10_isThere rfl rfl rfl kkX10_isThere ⟨Nat.le_of_ble_eq_true rfl, Nat.le_of_ble_eq_true rfl⟩) hK hP 0 rfl rfl rfl hl.1 rfl (Nat.le_of_ble_eq_true rfl) dX10_whyNotSleep_2 ⟨Nat.zero_le _, Nat.zero_le _⟩ ?_
  refine lv_if_eq (tgt := 16) hx hb dX10_whyNotSleep_5 (by decide) (fun hc => ?_) (fun hc => ?_)
  · have hf := ft hf hc
    refine lv_iconst (v := 1) hx hb dX10_whyNotSleep_16 (by decide) ?_
    exact ret_ri hx hb hr hlocks hf dX10_whyNotSleep_17
  · have hf := ff hf hc
    refine lv_aload_n hx hb dX10_whyNotSleep_8 rfl (lv_at hl 0 rfl) ?_
    refine lv_iload_n hx hb dX10_whyNotSleep_9 rfl (lv_at hl 2 rfl) ?_
    obtain ⟨r10, hr10, hf⟩ := bnd hf
    refine callV_ri (As := [.int a2]) (rest := []) ⟨hx, hb, hml, hown, hts⟩ (CX10_isThere l hr10) (cwV 1 hts gX10_whyNotSleep_X10_isThere rfl rfl rfl kkX10_isThere ⟨Nat.le_of_ble_eq_true rfl, Nat.le_of_ble_eq_true rfl⟩) hK hP 0 rfl rfl rfl hl.1 rfl (Nat.le_of_ble_eq_true rfl) dX10_whyNotSleep_10 ⟨Nat.zero_le _, Nat.zero_le _⟩ ?_
    refine lv_if_ne (tgt := 18) hx hb dX10_whyNotSleep_13 (by decide) (fun hc => ?_) (fun hc => ?_)
    · have hf := ff hf hc
      refine lv_iload_n hx hb dX10_whyNotSleep_18 rfl (lv_at hl 1 rfl) ?_
      refine lv_iload_n hx hb dX10_whyNotSleep_19 rfl (lv_at hl 2 rfl) ?_
      refine lv_icmp_ne (tgt := 27) hx hb dX10_whyNotSleep_20 (by decide) (fun hc => ?_) (fun hc => ?_)
      · have hf := ff hf hc
        refine lv_aload_n hx hb dX10_whyNotSleep_27 rfl (lv_at hl 0 rfl) ?_
        refine va_get (D := D) (ci := 9) (v := .int t_up) (C := RX10) (T := TX10) (N := 19) hx hb hts wX10_whyNotSleep_X10 hown hK.1 hP 0 rfl rfl 10 (by decide) (hts _ mX10_whyNotSleep_f72) (fun _ h9 => h9) rfl dX10_whyNotSleep_28 ?_
        refine lv_iload_n hx hb dX10_whyNotSleep_31 rfl (lv_at hl 1 rfl) ?_
        obtain ⟨r32, hr32, hf⟩ := bnd hf
        have hPc : va_P D vwCl [] _ := hP.sub [] rfl
        refine callS_ri (As := [.int t_up, .int a1]) (rest := []) ⟨hx, hb, hml, hown, hts⟩ (CX10_has l hr32) (va_cwS 2 hts gX10_whyNotSleep_X10_has rfl rfl rfl kkX10_has.2 ⟨Nat.le_of_ble_eq_true rfl, Nat.le_of_ble_eq_true rfl⟩) hK hPc hl.1 rfl (Nat.le_of_ble_eq_true rfl) dX10_whyNotSleep_32 ⟨Nat.zero_le _, Nat.zero_le _⟩ ?_
        refine lv_if_eq (tgt := 49) hx hb dX10_whyNotSleep_35 (by decide) (fun hc => ?_) (fun hc => ?_)
        · have hf := ft hf hc
          refine lv_iconst (v := 3) hx hb dX10_whyNotSleep_49 (by decide) ?_
          refine lv_goto (tgt := 54) hx hb dX10_whyNotSleep_50 (by decide) ?_
          exact ret_ri hx hb hr hlocks hf dX10_whyNotSleep_54
        · have hf := ff hf hc
          refine lv_aload_n hx hb dX10_whyNotSleep_38 rfl (lv_at hl 0 rfl) ?_
          refine va_get (D := D) (ci := 9) (v := .int t_up) (C := RX10) (T := TX10) (N := 19) hx hb hts wX10_whyNotSleep_X10 hown hK.1 hP 0 rfl rfl 10 (by decide) (hts _ mX10_whyNotSleep_f72) (fun _ h9 => h9) rfl dX10_whyNotSleep_39 ?_
          refine lv_iload_n hx hb dX10_whyNotSleep_42 rfl (lv_at hl 2 rfl) ?_
          obtain ⟨r43, hr43, hf⟩ := bnd hf
          have hPc : va_P D vwCl [] _ := hP.sub [] rfl
          refine callS_ri (As := [.int t_up, .int a2]) (rest := []) ⟨hx, hb, hml, hown, hts⟩ (CX10_has l hr43) (va_cwS 2 hts gX10_whyNotSleep_X10_has rfl rfl rfl kkX10_has.2 ⟨Nat.le_of_ble_eq_true rfl, Nat.le_of_ble_eq_true rfl⟩) hK hPc hl.1 rfl (Nat.le_of_ble_eq_true rfl) dX10_whyNotSleep_43 ⟨Nat.zero_le _, Nat.zero_le _⟩ ?_
          refine lv_if_ne (tgt := 53) hx hb dX10_whyNotSleep_46 (by decide) (fun hc => ?_) (fun hc => ?_)
          · have hf := ff hf hc
            refine lv_iconst (v := 0) hx hb dX10_whyNotSleep_53 (by decide) ?_
            exact ret_ri hx hb hr hlocks hf dX10_whyNotSleep_54
          · have hf := ft hf hc
            refine lv_iconst (v := 3) hx hb dX10_whyNotSleep_49 (by decide) ?_
            refine lv_goto (tgt := 54) hx hb dX10_whyNotSleep_50 (by decide) ?_
            exact ret_ri hx hb hr hlocks hf dX10_whyNotSleep_54
      · have hf := ft hf hc
        refine lv_iconst (v := 2) hx hb dX10_whyNotSleep_23 (by decide) ?_
        refine lv_goto (tgt := 54) hx hb dX10_whyNotSleep_24 (by decide) ?_
        exact ret_ri hx hb hr hlocks hf dX10_whyNotSleep_54
    · have hf := ft hf hc
      refine lv_iconst (v := 1) hx hb dX10_whyNotSleep_16 (by decide) ?_
      exact ret_ri hx hb hr hlocks hf dX10_whyNotSleep_17
/-! ===== SilenceCountModel.whyNot(II)I ===== -/
abbrev rmX10_whyNot : Room := { frames := 2, cells := 0, slots := 0, locals := 43 }
theorem kkX10_whyNot : yX10_whyNot.cls = RX10 ∧ yX10_whyNot.cls ≠ "java/lang/invoke/MethodHandle" ∧ yX10_whyNot.cls ≠ "java/lang/invoke/VarHandle" ∧ (parseMethodDescriptor yX10_whyNot.desc).map (fun d => d.parameters.length) = some 2 := by decide +kernel
theorem mX10_whyNot_f72 : Cond.fieldLink RX10 72 "SilenceCountModel" "up" "I" ∈ wsX10_whyNot := by decide +kernel
theorem wX10_whyNot_X10 : ∀ w ∈ u_ws RX10 TX10 19, w ∈ wsX10_whyNot := by decide +kernel
def fX10_whyNot (t_there : Int32) (t_up : Int32) (a1 : Int32) (a2 : Int32) : Option (Int32) :=
  (fX10_isThere t_there a1).bind fun r2 => if r2 = 0 then some 1 else if a2 = 119 then (fX10_has t_up a1).bind fun r21 => if r21 = 0 then some 0 else some 4 else (fX10_has t_up a1).bind fun r40 => if r40 = 0 then some 3 else some 0
set_option maxRecDepth 100000 in
set_option maxHeartbeats 4000000 in
theorem CX10_whyNot (l : Launch) {D : va_G} {ty : TY} {A_t A_t_count A_t_pace A_t_sight A_t_pad A_t_now A_t_image A_t_isKept : Nat} {t_there : Int32} {t_awake : Int32} {t_house : Int32} {t_sharp : Int32} {t_sights : Int32} {t_signs : Int32} {t_up : Int32} {t_reason : Int32} {t_acts : Int32} {t_breaths : Int32} {t_zeroAt : Int32} {t_noticedAt : Int32} {t_count : Nat → Int32} {t_pace : Nat → Int32} {t_sight : Nat → Int32} {t_pad : Nat → Int32} {t_now : Nat → Int32} {t_image : Nat → Int32} {t_isKept : Nat → Int32} {a1 : Int32} {a2 : Int32} {q0 : Int32} (hf : fX10_whyNot t_there t_up a1 a2 = some q0) : ROi l yX10_whyNot wsX10_whyNot rmX10_whyNot D ty [.ref A_t, .int a1, .int a2] [(A_t, .inr (9, [.int t_there, .int t_awake, .ref A_t_count, .ref A_t_pace, .int t_house, .int t_sharp, .int t_sights, .ref A_t_sight, .int t_signs, .ref A_t_pad, .int t_up, .ref A_t_now, .int t_reason, .int t_acts, .int t_breaths, .int t_zeroAt, .int t_noticedAt, .ref A_t_image, .ref A_t_isKept])), (A_t_count, .inl (ty.1, 8, .inl t_count)), (A_t_pace, .inl (ty.1, 8, .inl t_pace)), (A_t_sight, .inl (ty.1, 24, .inl t_sight)), (A_t_pad, .inl (ty.1, 60, .inl t_pad)), (A_t_now, .inl (ty.1, 8, .inl t_now)), (A_t_image, .inl (ty.1, 120, .inl t_image)), (A_t_isKept, .inl (ty.2.2.1, 2, .inl t_isKept))] q0 := by
  refine ROi.start (cc := cX10_whyNot) (maxL := 3) (ret := (some .int)) (own := RX10) (by decide) rfl rfl (Nat.le_of_ble_eq_true rfl) ?_
  intro p e s m below meth c ls C hK hP hl
  obtain ⟨hx, hb, hr, hml, hown, hts, hlocks⟩ := id C
  have hl : lv_has ls 3 [(0, .ref A_t), (1, .int a1), (2, .int a2)] := hl
  unfold fX10_whyNot at hf
  refine lv_aload_n hx hb dX10_whyNot_0 rfl (lv_at hl 0 rfl) ?_
  refine lv_iload_n hx hb dX10_whyNot_1 rfl (lv_at hl 1 rfl) ?_
  obtain ⟨r2, hr2, hf⟩ := bnd hf
  refine callV_ri (As := [.int a1]) (rest := []) ⟨hx, hb, hml, hown, hts⟩ (CX10_isThere l hr2) (cwV 1 hts gX10_whyNot_X10_isThere rfl rfl rfl kkX10_isThere ⟨Nat.le_of_ble_eq_true rfl, Nat.le_of_ble_eq_true rfl⟩) hK hP 0 rfl rfl rfl hl.1 rfl (Nat.le_of_ble_eq_true rfl) dX10_whyNot_2 ⟨Nat.zero_le _, Nat.zero_le _⟩ ?_
  refine lv_if_ne (tgt := 10) hx hb dX10_whyNot_5 (by decide) (fun hc => ?_) (fun hc => ?_)
  · have hf := ff hf hc
    refine lv_iload_n hx hb dX10_whyNot_10 rfl (lv_at hl 2 rfl) ?_
    refine lv_bipush (v := 119) hx hb dX10_whyNot_11 (by decide) ?_
    refine lv_icmp_ne (tgt := 35) hx hb dX10_whyNot_13 (by decide) (fun hc => ?_) (fun hc => ?_)
    · have hf := ff hf hc
      refine lv_aload_n hx hb dX10_whyNot_35 rfl (lv_at hl 0 rfl) ?_
      refine va_get (D := D) (ci := 9) (v := .int t_up) (C := RX10) (T := TX10) (N := 19) hx hb hts wX10_whyNot_X10 hown hK.1 hP 0 rfl rfl 10 (by decide) (hts _ mX10_whyNot_f72) (fun _ h9 => h9) rfl dX10_whyNot_36 ?_
      refine lv_iload_n hx hb dX10_whyNot_39 rfl (lv_at hl 1 rfl) ?_
      obtain ⟨r40, hr40, hf⟩ := bnd hf
      have hPc : va_P D vwCl [] _ := hP.sub [] rfl
      refine callS_ri (As := [.int t_up, .int a1]) (rest := []) ⟨hx, hb, hml, hown, hts⟩ (CX10_has l hr40) (va_cwS 2 hts gX10_whyNot_X10_has rfl rfl rfl kkX10_has.2 ⟨Nat.le_of_ble_eq_true rfl, Nat.le_of_ble_eq_true rfl⟩) hK hPc hl.1 rfl (Nat.le_of_ble_eq_true rfl) dX10_whyNot_40 ⟨Nat.zero_le _, Nat.zero_le _⟩ ?_
      refine lv_if_eq (tgt := 50) hx hb dX10_whyNot_43 (by decide) (fun hc => ?_) (fun hc => ?_)
      · have hf := ft hf hc
        refine lv_iconst (v := 3) hx hb dX10_whyNot_50 (by decide) ?_
        exact ret_ri hx hb hr hlocks hf dX10_whyNot_51
      · have hf := ff hf hc
        refine lv_iconst (v := 0) hx hb dX10_whyNot_46 (by decide) ?_
        refine lv_goto (tgt := 51) hx hb dX10_whyNot_47 (by decide) ?_
        exact ret_ri hx hb hr hlocks hf dX10_whyNot_51
    · have hf := ft hf hc
      refine lv_aload_n hx hb dX10_whyNot_16 rfl (lv_at hl 0 rfl) ?_
      refine va_get (D := D) (ci := 9) (v := .int t_up) (C := RX10) (T := TX10) (N := 19) hx hb hts wX10_whyNot_X10 hown hK.1 hP 0 rfl rfl 10 (by decide) (hts _ mX10_whyNot_f72) (fun _ h9 => h9) rfl dX10_whyNot_17 ?_
      refine lv_iload_n hx hb dX10_whyNot_20 rfl (lv_at hl 1 rfl) ?_
      obtain ⟨r21, hr21, hf⟩ := bnd hf
      have hPc : va_P D vwCl [] _ := hP.sub [] rfl
      refine callS_ri (As := [.int t_up, .int a1]) (rest := []) ⟨hx, hb, hml, hown, hts⟩ (CX10_has l hr21) (va_cwS 2 hts gX10_whyNot_X10_has rfl rfl rfl kkX10_has.2 ⟨Nat.le_of_ble_eq_true rfl, Nat.le_of_ble_eq_true rfl⟩) hK hPc hl.1 rfl (Nat.le_of_ble_eq_true rfl) dX10_whyNot_21 ⟨Nat.zero_le _, Nat.zero_le _⟩ ?_
      refine lv_if_eq (tgt := 31) hx hb dX10_whyNot_24 (by decide) (fun hc => ?_) (fun hc => ?_)
      · have hf := ft hf hc
        refine lv_iconst (v := 0) hx hb dX10_whyNot_31 (by decide) ?_
        refine lv_goto (tgt := 51) hx hb dX10_whyNot_32 (by decide) ?_
        exact ret_ri hx hb hr hlocks hf dX10_whyNot_51
      · have hf := ff hf hc
        refine lv_iconst (v := 4) hx hb dX10_whyNot_27 (by decide) ?_
        refine lv_goto (tgt := 51) hx hb dX10_whyNot_28 (by decide) ?_
        exact ret_ri hx hb hr hlocks hf dX10_whyNot_51
  · have hf := ft hf hc
    refine lv_iconst (v := 1) hx hb dX10_whyNot_8 (by decide) ?_
    exact ret_ri hx hb hr hlocks hf dX10_whyNot_9
/-! ===== SilenceCountModel.sleep(II)V ===== -/
abbrev rmX10_sleep : Room := { frames := 0, cells := 0, slots := 0, locals := 0 }
theorem kkX10_sleep : yX10_sleep.cls = RX10 ∧ yX10_sleep.cls ≠ "java/lang/invoke/MethodHandle" ∧ yX10_sleep.cls ≠ "java/lang/invoke/VarHandle" ∧ (parseMethodDescriptor yX10_sleep.desc).map (fun d => d.parameters.length) = some 2 := by decide +kernel
theorem mX10_sleep_f30 : Cond.fieldLink RX10 30 "SilenceCountModel" "now" "[I" ∈ wsX10_sleep := by decide +kernel
theorem mX10_sleep_f72 : Cond.fieldLink RX10 72 "SilenceCountModel" "up" "I" ∈ wsX10_sleep := by decide +kernel
theorem wX10_sleep_X10 : ∀ w ∈ u_ws RX10 TX10 19, w ∈ wsX10_sleep := by decide +kernel
def fX10_sleep (t_up : Int32) (t_now : Nat → Int32) (a1 : Int32) (a2 : Int32) : Option (Int32 × (Nat → Int32)) :=
  gIn a1 8 (gIn a2 8 (gIn a2 8 (some (t_up &&& ((1 <<< (a1 &&& 31)) ^^^ (-1)), upd t_now (a2 : Int32).toNatClampNeg (((t_now (a1 : Int32).toNatClampNeg) + (t_now (a2 : Int32).toNatClampNeg)) / 2)))))
set_option maxRecDepth 100000 in
set_option maxHeartbeats 4000000 in
theorem CX10_sleep (l : Launch) {D : va_G} {ty : TY} {A_t A_t_count A_t_pace A_t_sight A_t_pad A_t_now A_t_image A_t_isKept : Nat} {t_there : Int32} {t_awake : Int32} {t_house : Int32} {t_sharp : Int32} {t_sights : Int32} {t_signs : Int32} {t_up : Int32} {t_reason : Int32} {t_acts : Int32} {t_breaths : Int32} {t_zeroAt : Int32} {t_noticedAt : Int32} {t_count : Nat → Int32} {t_pace : Nat → Int32} {t_sight : Nat → Int32} {t_pad : Nat → Int32} {t_now : Nat → Int32} {t_image : Nat → Int32} {t_isKept : Nat → Int32} {a1 : Int32} {a2 : Int32} {q0 : Int32 × (Nat → Int32)} (hf : fX10_sleep t_up t_now a1 a2 = some q0) : RWv l yX10_sleep wsX10_sleep rmX10_sleep D ty [.ref A_t, .int a1, .int a2] [(A_t, .inr (9, [.int t_there, .int t_awake, .ref A_t_count, .ref A_t_pace, .int t_house, .int t_sharp, .int t_sights, .ref A_t_sight, .int t_signs, .ref A_t_pad, .int t_up, .ref A_t_now, .int t_reason, .int t_acts, .int t_breaths, .int t_zeroAt, .int t_noticedAt, .ref A_t_image, .ref A_t_isKept])), (A_t_count, .inl (ty.1, 8, .inl t_count)), (A_t_pace, .inl (ty.1, 8, .inl t_pace)), (A_t_sight, .inl (ty.1, 24, .inl t_sight)), (A_t_pad, .inl (ty.1, 60, .inl t_pad)), (A_t_now, .inl (ty.1, 8, .inl t_now)), (A_t_image, .inl (ty.1, 120, .inl t_image)), (A_t_isKept, .inl (ty.2.2.1, 2, .inl t_isKept))] [(A_t, .inr (9, [.int t_there, .int t_awake, .ref A_t_count, .ref A_t_pace, .int t_house, .int t_sharp, .int t_sights, .ref A_t_sight, .int t_signs, .ref A_t_pad, .int q0.1, .ref A_t_now, .int t_reason, .int t_acts, .int t_breaths, .int t_zeroAt, .int t_noticedAt, .ref A_t_image, .ref A_t_isKept])), (A_t_count, .inl (ty.1, 8, .inl t_count)), (A_t_pace, .inl (ty.1, 8, .inl t_pace)), (A_t_sight, .inl (ty.1, 24, .inl t_sight)), (A_t_pad, .inl (ty.1, 60, .inl t_pad)), (A_t_now, .inl (ty.1, 8, .inl q0.2)), (A_t_image, .inl (ty.1, 120, .inl t_image)), (A_t_isKept, .inl (ty.2.2.1, 2, .inl t_isKept))] := by
  refine RWv.start (cc := cX10_sleep) (maxL := 3) (ret := none) (own := RX10) (by decide) rfl rfl (Nat.le_of_ble_eq_true rfl) ?_
  intro p e s m below meth c ls C hK hP hD hS hl
  obtain ⟨WC, hWC⟩ : ∃ w : va_W, w = [(A_t, .inr (9, [.int t_there, .int t_awake, .ref A_t_count, .ref A_t_pace, .int t_house, .int t_sharp, .int t_sights, .ref A_t_sight, .int t_signs, .ref A_t_pad, .int t_up, .ref A_t_now, .int t_reason, .int t_acts, .int t_breaths, .int t_zeroAt, .int t_noticedAt, .ref A_t_image, .ref A_t_isKept])), (A_t_count, .inl (ty.1, 8, .inl t_count)), (A_t_pace, .inl (ty.1, 8, .inl t_pace)), (A_t_sight, .inl (ty.1, 24, .inl t_sight)), (A_t_pad, .inl (ty.1, 60, .inl t_pad)), (A_t_now, .inl (ty.1, 8, .inl t_now)), (A_t_image, .inl (ty.1, 120, .inl t_image)), (A_t_isKept, .inl (ty.2.2.1, 2, .inl t_isKept))] := ⟨_, rfl⟩
  rw [← hWC] at hD hS ⊢
  have hD : va_D (va_A WC s.heap.size) [(A_t, .inr (9, [.int t_there, .int t_awake, .ref A_t_count, .ref A_t_pace, .int t_house, .int t_sharp, .int t_sights, .ref A_t_sight, .int t_signs, .ref A_t_pad, .int t_up, .ref A_t_now, .int t_reason, .int t_acts, .int t_breaths, .int t_zeroAt, .int t_noticedAt, .ref A_t_image, .ref A_t_isKept])), (A_t_count, .inl (ty.1, 8, .inl t_count)), (A_t_pace, .inl (ty.1, 8, .inl t_pace)), (A_t_sight, .inl (ty.1, 24, .inl t_sight)), (A_t_pad, .inl (ty.1, 60, .inl t_pad)), (A_t_now, .inl (ty.1, 8, .inl t_now)), (A_t_image, .inl (ty.1, 120, .inl t_image)), (A_t_isKept, .inl (ty.2.2.1, 2, .inl t_isKept))] := by rw [← hWC]; exact hD
  obtain ⟨hx, hb, hr, hml, hown, hts, hlocks⟩ := id C
  have hl : lv_has ls 3 [(0, .ref A_t), (1, .int a1), (2, .int a2)] := hl
  unfold fX10_sleep at hf
  refine lv_aload_n hx hb dX10_sleep_0 rfl (lv_at hl 0 rfl) ?_
  refine va_get (D := D) (ci := 9) (v := .ref A_t_now) (C := RX10) (T := TX10) (N := 19) hx hb hts wX10_sleep_X10 hown hK.1 hP 0 rfl rfl 11 (by decide) (hts _ mX10_sleep_f30) (fun _ h9 => h9) rfl dX10_sleep_1 ?_
  refine lv_iload_n hx hb dX10_sleep_4 rfl (lv_at hl 2 rfl) ?_
  refine lv_aload_n hx hb dX10_sleep_5 rfl (lv_at hl 0 rfl) ?_
  refine va_get (D := D) (ci := 9) (v := .ref A_t_now) (C := RX10) (T := TX10) (N := 19) hx hb hts wX10_sleep_X10 hown hK.1 hP 0 rfl rfl 11 (by decide) (hts _ mX10_sleep_f30) (fun _ h9 => h9) rfl dX10_sleep_6 ?_
  refine lv_iload_n hx hb dX10_sleep_9 rfl (lv_at hl 1 rfl) ?_
  obtain ⟨hin, hf⟩ := gIn_some hf
  refine va_iald hx hb hK.1 hP 5 0 rfl rfl hin dX10_sleep_10 ?_
  refine lv_aload_n hx hb dX10_sleep_11 rfl (lv_at hl 0 rfl) ?_
  refine va_get (D := D) (ci := 9) (v := .ref A_t_now) (C := RX10) (T := TX10) (N := 19) hx hb hts wX10_sleep_X10 hown hK.1 hP 0 rfl rfl 11 (by decide) (hts _ mX10_sleep_f30) (fun _ h9 => h9) rfl dX10_sleep_12 ?_
  refine lv_iload_n hx hb dX10_sleep_15 rfl (lv_at hl 2 rfl) ?_
  obtain ⟨hin, hf⟩ := gIn_some hf
  refine va_iald hx hb hK.1 hP 5 0 rfl rfl hin dX10_sleep_16 ?_
  refine lv_iadd hx hb dX10_sleep_17 ?_
  refine lv_iconst (v := 2) hx hb dX10_sleep_18 (by decide) ?_
  refine lv_idiv hx hb dX10_sleep_19 (by decide) ?_
  obtain ⟨hin, hf⟩ := gIn_some hf
  refine va_iast hx hb hK.1 hP hD hS 5 0 rfl rfl hin dX10_sleep_20 (fun H locs hP hD hS => ?_)
  have hP : va_P D vwCl [(A_t, .inr (9, [.int t_there, .int t_awake, .ref A_t_count, .ref A_t_pace, .int t_house, .int t_sharp, .int t_sights, .ref A_t_sight, .int t_signs, .ref A_t_pad, .int t_up, .ref A_t_now, .int t_reason, .int t_acts, .int t_breaths, .int t_zeroAt, .int t_noticedAt, .ref A_t_image, .ref A_t_isKept])), (A_t_count, .inl (ty.1, 8, .inl t_count)), (A_t_pace, .inl (ty.1, 8, .inl t_pace)), (A_t_sight, .inl (ty.1, 24, .inl t_sight)), (A_t_pad, .inl (ty.1, 60, .inl t_pad)), (A_t_now, .inl (ty.1, 8, .inl (upd t_now (a2 : Int32).toNatClampNeg (((t_now (a1 : Int32).toNatClampNeg) + (t_now (a2 : Int32).toNatClampNeg)) / 2)))), (A_t_image, .inl (ty.1, 120, .inl t_image)), (A_t_isKept, .inl (ty.2.2.1, 2, .inl t_isKept))] H := hP
  have hD : va_D (va_A WC s.heap.size) [(A_t, .inr (9, [.int t_there, .int t_awake, .ref A_t_count, .ref A_t_pace, .int t_house, .int t_sharp, .int t_sights, .ref A_t_sight, .int t_signs, .ref A_t_pad, .int t_up, .ref A_t_now, .int t_reason, .int t_acts, .int t_breaths, .int t_zeroAt, .int t_noticedAt, .ref A_t_image, .ref A_t_isKept])), (A_t_count, .inl (ty.1, 8, .inl t_count)), (A_t_pace, .inl (ty.1, 8, .inl t_pace)), (A_t_sight, .inl (ty.1, 24, .inl t_sight)), (A_t_pad, .inl (ty.1, 60, .inl t_pad)), (A_t_now, .inl (ty.1, 8, .inl (upd t_now (a2 : Int32).toNatClampNeg (((t_now (a1 : Int32).toNatClampNeg) + (t_now (a2 : Int32).toNatClampNeg)) / 2)))), (A_t_image, .inl (ty.1, 120, .inl t_image)), (A_t_isKept, .inl (ty.2.2.1, 2, .inl t_isKept))] := hD
  refine lv_aload_n hx hb dX10_sleep_21 rfl (lv_at hl 0 rfl) ?_
  refine lv_dup hx hb dX10_sleep_22 rfl ?_
  refine va_get (D := D) (ci := 9) (v := .int t_up) (C := RX10) (T := TX10) (N := 19) hx hb hts wX10_sleep_X10 hown hK.1 hP 0 rfl rfl 10 (by decide) (hts _ mX10_sleep_f72) (fun _ h9 => h9) rfl dX10_sleep_23 ?_
  refine lv_iconst (v := 1) hx hb dX10_sleep_26 (by decide) ?_
  refine lv_iload_n hx hb dX10_sleep_27 rfl (lv_at hl 1 rfl) ?_
  refine lv_ishl hx hb dX10_sleep_28 ?_
  refine lv_iconst (v := (-1)) hx hb dX10_sleep_29 (by decide) ?_
  refine lv_ixor hx hb dX10_sleep_30 ?_
  refine lv_iand hx hb dX10_sleep_31 ?_
  refine va_put (D := D) (ci := 9) (v := .int (t_up &&& ((1 <<< (a1 &&& 31)) ^^^ (-1)))) (ty := .int) (C := RX10) (T := TX10) (N := 19) hx hb hts wX10_sleep_X10 tyX10 tyX10_ok nmX10 hown hK.1 hP hD hS 0 rfl rfl 10 (by decide) (hts _ mX10_sleep_f72) (fun _ h9 => h9) rfl (by decide +kernel) rfl rfl (Nat.le_of_ble_eq_true rfl) dX10_sleep_32 (fun H locs hP hD hS => ?_)
  have hP : va_P D vwCl [(A_t, .inr (9, [.int t_there, .int t_awake, .ref A_t_count, .ref A_t_pace, .int t_house, .int t_sharp, .int t_sights, .ref A_t_sight, .int t_signs, .ref A_t_pad, .int (t_up &&& ((1 <<< (a1 &&& 31)) ^^^ (-1))), .ref A_t_now, .int t_reason, .int t_acts, .int t_breaths, .int t_zeroAt, .int t_noticedAt, .ref A_t_image, .ref A_t_isKept])), (A_t_count, .inl (ty.1, 8, .inl t_count)), (A_t_pace, .inl (ty.1, 8, .inl t_pace)), (A_t_sight, .inl (ty.1, 24, .inl t_sight)), (A_t_pad, .inl (ty.1, 60, .inl t_pad)), (A_t_now, .inl (ty.1, 8, .inl (upd t_now (a2 : Int32).toNatClampNeg (((t_now (a1 : Int32).toNatClampNeg) + (t_now (a2 : Int32).toNatClampNeg)) / 2)))), (A_t_image, .inl (ty.1, 120, .inl t_image)), (A_t_isKept, .inl (ty.2.2.1, 2, .inl t_isKept))] H := hP
  have hD : va_D (va_A WC s.heap.size) [(A_t, .inr (9, [.int t_there, .int t_awake, .ref A_t_count, .ref A_t_pace, .int t_house, .int t_sharp, .int t_sights, .ref A_t_sight, .int t_signs, .ref A_t_pad, .int (t_up &&& ((1 <<< (a1 &&& 31)) ^^^ (-1))), .ref A_t_now, .int t_reason, .int t_acts, .int t_breaths, .int t_zeroAt, .int t_noticedAt, .ref A_t_image, .ref A_t_isKept])), (A_t_count, .inl (ty.1, 8, .inl t_count)), (A_t_pace, .inl (ty.1, 8, .inl t_pace)), (A_t_sight, .inl (ty.1, 24, .inl t_sight)), (A_t_pad, .inl (ty.1, 60, .inl t_pad)), (A_t_now, .inl (ty.1, 8, .inl (upd t_now (a2 : Int32).toNatClampNeg (((t_now (a1 : Int32).toNatClampNeg) + (t_now (a2 : Int32).toNatClampNeg)) / 2)))), (A_t_image, .inl (ty.1, 120, .inl t_image)), (A_t_isKept, .inl (ty.2.2.1, 2, .inl t_isKept))] := hD
  cases hf
  exact ret_wv hx hb hr hlocks hP hD hS dX10_sleep_35
/-! ===== SilenceCountModel.breath()V ===== -/
abbrev rmX10_breath : Room := { frames := 1, cells := 0, slots := 0, locals := 21 }
theorem kkX10_breath : yX10_breath.cls = RX10 ∧ yX10_breath.cls ≠ "java/lang/invoke/MethodHandle" ∧ yX10_breath.cls ≠ "java/lang/invoke/VarHandle" ∧ (parseMethodDescriptor yX10_breath.desc).map (fun d => d.parameters.length) = some 0 := by decide +kernel
theorem mX10_breath_f72 : Cond.fieldLink RX10 72 "SilenceCountModel" "up" "I" ∈ wsX10_breath := by decide +kernel
theorem mX10_breath_f30 : Cond.fieldLink RX10 30 "SilenceCountModel" "now" "[I" ∈ wsX10_breath := by decide +kernel
theorem mX10_breath_f13 : Cond.fieldLink RX10 13 "SilenceCountModel" "pace" "[I" ∈ wsX10_breath := by decide +kernel
theorem wX10_breath_X10 : ∀ w ∈ u_ws RX10 TX10 19, w ∈ wsX10_breath := by decide +kernel
def bX10_breath_2 (k2 : Int32 × (Nat → Int32) → Option ((Nat → Int32))) (t_up : Int32) (t_pace : Nat → Int32) (v1 : Int32) (t_now : Nat → Int32) : Option ((Nat → Int32)) :=
  if 8 ≤ v1 then some t_now else (fX10_has t_up v1).bind fun r13 => if r13 = 0 then k2 (v1 + 1, t_now) else gIn v1 8 (gIn v1 8 (if (t_now (v1 : Int32).toNatClampNeg) ≤ (t_pace (v1 : Int32).toNatClampNeg) then gIn v1 8 (k2 (v1 + 1, upd t_now (v1 : Int32).toNatClampNeg 0)) else gIn v1 8 (gIn v1 8 (gIn v1 8 (k2 (v1 + 1, upd t_now (v1 : Int32).toNatClampNeg ((t_now (v1 : Int32).toNatClampNeg) - (t_pace (v1 : Int32).toNatClampNeg))))))))
set_option maxRecDepth 100000 in
set_option maxHeartbeats 4000000 in
theorem BX10_breath_2 {p : Program} {l : Launch} {e : Env} {s : State} {m : MethodId} {below : List Frame} {meth : Method} {c : Code} {D : va_G} {ty : TY} {A_t A_t_count A_t_pace A_t_sight A_t_pad A_t_now A_t_image A_t_isKept : Nat} {t_there : Int32} {t_awake : Int32} {t_house : Int32} {t_sharp : Int32} {t_sights : Int32} {t_signs : Int32} {t_up : Int32} {t_reason : Int32} {t_acts : Int32} {t_breaths : Int32} {t_zeroAt : Int32} {t_noticedAt : Int32} {t_count : Nat → Int32} {t_pace : Nat → Int32} {t_sight : Nat → Int32} {t_pad : Nat → Int32} {t_image : Nat → Int32} {t_isKept : Nat → Int32} {q0 : (Nat → Int32)} {WC : va_W} (C : cx p s m [.ref A_t] meth c cX10_breath 2 none RX10 wsX10_breath) (hK : KK D ty s)   : ∀ (n : Nat) (v1 : Int32) (t_now : Nat → Int32) (H : Heap) (locs : List Loc) (ls : Array Slot), va_P D vwCl [(A_t, .inr (9, [.int t_there, .int t_awake, .ref A_t_count, .ref A_t_pace, .int t_house, .int t_sharp, .int t_sights, .ref A_t_sight, .int t_signs, .ref A_t_pad, .int t_up, .ref A_t_now, .int t_reason, .int t_acts, .int t_breaths, .int t_zeroAt, .int t_noticedAt, .ref A_t_image, .ref A_t_isKept])), (A_t_count, .inl (ty.1, 8, .inl t_count)), (A_t_pace, .inl (ty.1, 8, .inl t_pace)), (A_t_sight, .inl (ty.1, 24, .inl t_sight)), (A_t_pad, .inl (ty.1, 60, .inl t_pad)), (A_t_now, .inl (ty.1, 8, .inl t_now)), (A_t_image, .inl (ty.1, 120, .inl t_image)), (A_t_isKept, .inl (ty.2.2.1, 2, .inl t_isKept))] H → va_D (va_A WC s.heap.size) [(A_t, .inr (9, [.int t_there, .int t_awake, .ref A_t_count, .ref A_t_pace, .int t_house, .int t_sharp, .int t_sights, .ref A_t_sight, .int t_signs, .ref A_t_pad, .int t_up, .ref A_t_now, .int t_reason, .int t_acts, .int t_breaths, .int t_zeroAt, .int t_noticedAt, .ref A_t_image, .ref A_t_isKept])), (A_t_count, .inl (ty.1, 8, .inl t_count)), (A_t_pace, .inl (ty.1, 8, .inl t_pace)), (A_t_sight, .inl (ty.1, 24, .inl t_sight)), (A_t_pad, .inl (ty.1, 60, .inl t_pad)), (A_t_now, .inl (ty.1, 8, .inl t_now)), (A_t_image, .inl (ty.1, 120, .inl t_image)), (A_t_isKept, .inl (ty.2.2.1, 2, .inl t_isKept))] → va_S (va_A WC s.heap.size) s.heap H locs → lv_has ls 2 [(0, .ref A_t), (1, .int v1)] → loopF (fun k q => bX10_breath_2 k t_up t_pace q.1 q.2) n (v1, t_now) = some q0 → WWv p l e rmX10_breath s m [.ref A_t] below meth c D WC [(A_t, .inr (9, [.int t_there, .int t_awake, .ref A_t_count, .ref A_t_pace, .int t_house, .int t_sharp, .int t_sights, .ref A_t_sight, .int t_signs, .ref A_t_pad, .int t_up, .ref A_t_now, .int t_reason, .int t_acts, .int t_breaths, .int t_zeroAt, .int t_noticedAt, .ref A_t_image, .ref A_t_isKept])), (A_t_count, .inl (ty.1, 8, .inl t_count)), (A_t_pace, .inl (ty.1, 8, .inl t_pace)), (A_t_sight, .inl (ty.1, 24, .inl t_sight)), (A_t_pad, .inl (ty.1, 60, .inl t_pad)), (A_t_now, .inl (ty.1, 8, .inl q0)), (A_t_image, .inl (ty.1, 120, .inl t_image)), (A_t_isKept, .inl (ty.2.2.1, 2, .inl t_isKept))] H locs (F0 m 2 ls []) := by
  obtain ⟨hx, hb, hr, hml, hown, hts, hlocks⟩ := id C
  intro n
  induction n with
  | zero =>
    intro v1 t_now H locs ls hP hD hS hl hf
    cases hf
  | succ n ih =>
    intro v1 t_now H locs ls hP hD hS hl hf
    have hf : bX10_breath_2 (loopF (fun k q => bX10_breath_2 k t_up t_pace q.1 q.2) n) t_up t_pace v1 t_now = some q0 := hf
    have hk2 := ih
    unfold bX10_breath_2 at hf
    refine lv_iload_n hx hb dX10_breath_2 rfl (lv_at hl 1 rfl) ?_
    refine lv_bipush (v := 8) hx hb dX10_breath_3 (by decide) ?_
    refine lv_icmp_ge (tgt := 63) hx hb dX10_breath_5 (by decide) (fun hc => ?_) (fun hc => ?_)
    · have hf := ft hf hc
      cases hf
      exact ret_wv hx hb hr hlocks hP hD hS dX10_breath_63
    · have hf := ff hf hc
      refine lv_aload_n hx hb dX10_breath_8 rfl (lv_at hl 0 rfl) ?_
      refine va_get (D := D) (ci := 9) (v := .int t_up) (C := RX10) (T := TX10) (N := 19) hx hb hts wX10_breath_X10 hown hK.1 hP 0 rfl rfl 10 (by decide) (hts _ mX10_breath_f72) (fun _ h9 => h9) rfl dX10_breath_9 ?_
      refine lv_iload_n hx hb dX10_breath_12 rfl (lv_at hl 1 rfl) ?_
      obtain ⟨r13, hr13, hf⟩ := bnd hf
      have hPc : va_P D vwCl [] _ := hP.sub [] rfl
      refine callS_ri (As := [.int t_up, .int v1]) (rest := []) ⟨hx, hb, hml, hown, hts⟩ (CX10_has l hr13) (va_cwS 2 hts gX10_breath_X10_has rfl rfl rfl kkX10_has.2 ⟨Nat.le_of_ble_eq_true rfl, Nat.le_of_ble_eq_true rfl⟩) hK hPc hl.1 rfl (Nat.le_of_ble_eq_true rfl) dX10_breath_13 ⟨Nat.zero_le _, Nat.zero_le _⟩ ?_
      refine lv_if_eq (tgt := 57) hx hb dX10_breath_16 (by decide) (fun hc => ?_) (fun hc => ?_)
      · have hf := ft hf hc
        refine lv_iinc (v := v1 + 1) (lv' := [(1, .int (v1 + 1)), (0, .ref A_t)]) hx hb dX10_breath_57 hl (k := 1) rfl rfl (by decide) rfl (fun ls hl => ?_)
        refine lv_goto (tgt := 2) hx hb dX10_breath_60 (by decide) ?_
        exact hk2 _ _ _ _ _ hP hD hS (lv_sub hl [1, 0] rfl) hf
      · have hf := ff hf hc
        refine lv_aload_n hx hb dX10_breath_19 rfl (lv_at hl 0 rfl) ?_
        refine va_get (D := D) (ci := 9) (v := .ref A_t_now) (C := RX10) (T := TX10) (N := 19) hx hb hts wX10_breath_X10 hown hK.1 hP 0 rfl rfl 11 (by decide) (hts _ mX10_breath_f30) (fun _ h9 => h9) rfl dX10_breath_20 ?_
        refine lv_iload_n hx hb dX10_breath_23 rfl (lv_at hl 1 rfl) ?_
        refine lv_aload_n hx hb dX10_breath_24 rfl (lv_at hl 0 rfl) ?_
        refine va_get (D := D) (ci := 9) (v := .ref A_t_now) (C := RX10) (T := TX10) (N := 19) hx hb hts wX10_breath_X10 hown hK.1 hP 0 rfl rfl 11 (by decide) (hts _ mX10_breath_f30) (fun _ h9 => h9) rfl dX10_breath_25 ?_
        refine lv_iload_n hx hb dX10_breath_28 rfl (lv_at hl 1 rfl) ?_
        obtain ⟨hin, hf⟩ := gIn_some hf
        refine va_iald hx hb hK.1 hP 5 0 rfl rfl hin dX10_breath_29 ?_
        refine lv_aload_n hx hb dX10_breath_30 rfl (lv_at hl 0 rfl) ?_
        refine va_get (D := D) (ci := 9) (v := .ref A_t_pace) (C := RX10) (T := TX10) (N := 19) hx hb hts wX10_breath_X10 hown hK.1 hP 0 rfl rfl 3 (by decide) (hts _ mX10_breath_f13) (fun _ h9 => h9) rfl dX10_breath_31 ?_
        refine lv_iload_n hx hb dX10_breath_34 rfl (lv_at hl 1 rfl) ?_
        obtain ⟨hin, hf⟩ := gIn_some hf
        refine va_iald hx hb hK.1 hP 2 0 rfl rfl hin dX10_breath_35 ?_
        refine lv_icmp_le (tgt := 55) hx hb dX10_breath_36 (by decide) (fun hc => ?_) (fun hc => ?_)
        · have hf := ft hf hc
          refine lv_iconst (v := 0) hx hb dX10_breath_55 (by decide) ?_
          obtain ⟨hin, hf⟩ := gIn_some hf
          refine va_iast hx hb hK.1 hP hD hS 5 0 rfl rfl hin dX10_breath_56 (fun H locs hP hD hS => ?_)
          have hP : va_P D vwCl [(A_t, .inr (9, [.int t_there, .int t_awake, .ref A_t_count, .ref A_t_pace, .int t_house, .int t_sharp, .int t_sights, .ref A_t_sight, .int t_signs, .ref A_t_pad, .int t_up, .ref A_t_now, .int t_reason, .int t_acts, .int t_breaths, .int t_zeroAt, .int t_noticedAt, .ref A_t_image, .ref A_t_isKept])), (A_t_count, .inl (ty.1, 8, .inl t_count)), (A_t_pace, .inl (ty.1, 8, .inl t_pace)), (A_t_sight, .inl (ty.1, 24, .inl t_sight)), (A_t_pad, .inl (ty.1, 60, .inl t_pad)), (A_t_now, .inl (ty.1, 8, .inl (upd t_now (v1 : Int32).toNatClampNeg 0))), (A_t_image, .inl (ty.1, 120, .inl t_image)), (A_t_isKept, .inl (ty.2.2.1, 2, .inl t_isKept))] H := hP
          have hD : va_D (va_A WC s.heap.size) [(A_t, .inr (9, [.int t_there, .int t_awake, .ref A_t_count, .ref A_t_pace, .int t_house, .int t_sharp, .int t_sights, .ref A_t_sight, .int t_signs, .ref A_t_pad, .int t_up, .ref A_t_now, .int t_reason, .int t_acts, .int t_breaths, .int t_zeroAt, .int t_noticedAt, .ref A_t_image, .ref A_t_isKept])), (A_t_count, .inl (ty.1, 8, .inl t_count)), (A_t_pace, .inl (ty.1, 8, .inl t_pace)), (A_t_sight, .inl (ty.1, 24, .inl t_sight)), (A_t_pad, .inl (ty.1, 60, .inl t_pad)), (A_t_now, .inl (ty.1, 8, .inl (upd t_now (v1 : Int32).toNatClampNeg 0))), (A_t_image, .inl (ty.1, 120, .inl t_image)), (A_t_isKept, .inl (ty.2.2.1, 2, .inl t_isKept))] := hD
          refine lv_iinc (v := v1 + 1) (lv' := [(1, .int (v1 + 1)), (0, .ref A_t)]) hx hb dX10_breath_57 hl (k := 1) rfl rfl (by decide) rfl (fun ls hl => ?_)
          refine lv_goto (tgt := 2) hx hb dX10_breath_60 (by decide) ?_
          exact hk2 _ _ _ _ _ hP hD hS (lv_sub hl [1, 0] rfl) hf
        · have hf := ff hf hc
          refine lv_aload_n hx hb dX10_breath_39 rfl (lv_at hl 0 rfl) ?_
          refine va_get (D := D) (ci := 9) (v := .ref A_t_now) (C := RX10) (T := TX10) (N := 19) hx hb hts wX10_breath_X10 hown hK.1 hP 0 rfl rfl 11 (by decide) (hts _ mX10_breath_f30) (fun _ h9 => h9) rfl dX10_breath_40 ?_
          refine lv_iload_n hx hb dX10_breath_43 rfl (lv_at hl 1 rfl) ?_
          obtain ⟨hin, hf⟩ := gIn_some hf
          refine va_iald hx hb hK.1 hP 5 0 rfl rfl hin dX10_breath_44 ?_
          refine lv_aload_n hx hb dX10_breath_45 rfl (lv_at hl 0 rfl) ?_
          refine va_get (D := D) (ci := 9) (v := .ref A_t_pace) (C := RX10) (T := TX10) (N := 19) hx hb hts wX10_breath_X10 hown hK.1 hP 0 rfl rfl 3 (by decide) (hts _ mX10_breath_f13) (fun _ h9 => h9) rfl dX10_breath_46 ?_
          refine lv_iload_n hx hb dX10_breath_49 rfl (lv_at hl 1 rfl) ?_
          obtain ⟨hin, hf⟩ := gIn_some hf
          refine va_iald hx hb hK.1 hP 2 0 rfl rfl hin dX10_breath_50 ?_
          refine lv_isub hx hb dX10_breath_51 ?_
          refine lv_goto (tgt := 56) hx hb dX10_breath_52 (by decide) ?_
          obtain ⟨hin, hf⟩ := gIn_some hf
          refine va_iast hx hb hK.1 hP hD hS 5 0 rfl rfl hin dX10_breath_56 (fun H locs hP hD hS => ?_)
          have hP : va_P D vwCl [(A_t, .inr (9, [.int t_there, .int t_awake, .ref A_t_count, .ref A_t_pace, .int t_house, .int t_sharp, .int t_sights, .ref A_t_sight, .int t_signs, .ref A_t_pad, .int t_up, .ref A_t_now, .int t_reason, .int t_acts, .int t_breaths, .int t_zeroAt, .int t_noticedAt, .ref A_t_image, .ref A_t_isKept])), (A_t_count, .inl (ty.1, 8, .inl t_count)), (A_t_pace, .inl (ty.1, 8, .inl t_pace)), (A_t_sight, .inl (ty.1, 24, .inl t_sight)), (A_t_pad, .inl (ty.1, 60, .inl t_pad)), (A_t_now, .inl (ty.1, 8, .inl (upd t_now (v1 : Int32).toNatClampNeg ((t_now (v1 : Int32).toNatClampNeg) - (t_pace (v1 : Int32).toNatClampNeg))))), (A_t_image, .inl (ty.1, 120, .inl t_image)), (A_t_isKept, .inl (ty.2.2.1, 2, .inl t_isKept))] H := hP
          have hD : va_D (va_A WC s.heap.size) [(A_t, .inr (9, [.int t_there, .int t_awake, .ref A_t_count, .ref A_t_pace, .int t_house, .int t_sharp, .int t_sights, .ref A_t_sight, .int t_signs, .ref A_t_pad, .int t_up, .ref A_t_now, .int t_reason, .int t_acts, .int t_breaths, .int t_zeroAt, .int t_noticedAt, .ref A_t_image, .ref A_t_isKept])), (A_t_count, .inl (ty.1, 8, .inl t_count)), (A_t_pace, .inl (ty.1, 8, .inl t_pace)), (A_t_sight, .inl (ty.1, 24, .inl t_sight)), (A_t_pad, .inl (ty.1, 60, .inl t_pad)), (A_t_now, .inl (ty.1, 8, .inl (upd t_now (v1 : Int32).toNatClampNeg ((t_now (v1 : Int32).toNatClampNeg) - (t_pace (v1 : Int32).toNatClampNeg))))), (A_t_image, .inl (ty.1, 120, .inl t_image)), (A_t_isKept, .inl (ty.2.2.1, 2, .inl t_isKept))] := hD
          refine lv_iinc (v := v1 + 1) (lv' := [(1, .int (v1 + 1)), (0, .ref A_t)]) hx hb dX10_breath_57 hl (k := 1) rfl rfl (by decide) rfl (fun ls hl => ?_)
          refine lv_goto (tgt := 2) hx hb dX10_breath_60 (by decide) ?_
          exact hk2 _ _ _ _ _ hP hD hS (lv_sub hl [1, 0] rfl) hf
def fX10_breath (t_up : Int32) (t_pace : Nat → Int32) (t_now : Nat → Int32) : Option ((Nat → Int32)) :=
  loopF (fun k q => bX10_breath_2 k t_up t_pace q.1 q.2) FU (0, t_now)
set_option maxRecDepth 100000 in
set_option maxHeartbeats 4000000 in
theorem CX10_breath (l : Launch) {D : va_G} {ty : TY} {A_t A_t_count A_t_pace A_t_sight A_t_pad A_t_now A_t_image A_t_isKept : Nat} {t_there : Int32} {t_awake : Int32} {t_house : Int32} {t_sharp : Int32} {t_sights : Int32} {t_signs : Int32} {t_up : Int32} {t_reason : Int32} {t_acts : Int32} {t_breaths : Int32} {t_zeroAt : Int32} {t_noticedAt : Int32} {t_count : Nat → Int32} {t_pace : Nat → Int32} {t_sight : Nat → Int32} {t_pad : Nat → Int32} {t_now : Nat → Int32} {t_image : Nat → Int32} {t_isKept : Nat → Int32} {q0 : (Nat → Int32)} (hf : fX10_breath t_up t_pace t_now = some q0) : RWv l yX10_breath wsX10_breath rmX10_breath D ty [.ref A_t] [(A_t, .inr (9, [.int t_there, .int t_awake, .ref A_t_count, .ref A_t_pace, .int t_house, .int t_sharp, .int t_sights, .ref A_t_sight, .int t_signs, .ref A_t_pad, .int t_up, .ref A_t_now, .int t_reason, .int t_acts, .int t_breaths, .int t_zeroAt, .int t_noticedAt, .ref A_t_image, .ref A_t_isKept])), (A_t_count, .inl (ty.1, 8, .inl t_count)), (A_t_pace, .inl (ty.1, 8, .inl t_pace)), (A_t_sight, .inl (ty.1, 24, .inl t_sight)), (A_t_pad, .inl (ty.1, 60, .inl t_pad)), (A_t_now, .inl (ty.1, 8, .inl t_now)), (A_t_image, .inl (ty.1, 120, .inl t_image)), (A_t_isKept, .inl (ty.2.2.1, 2, .inl t_isKept))] [(A_t, .inr (9, [.int t_there, .int t_awake, .ref A_t_count, .ref A_t_pace, .int t_house, .int t_sharp, .int t_sights, .ref A_t_sight, .int t_signs, .ref A_t_pad, .int t_up, .ref A_t_now, .int t_reason, .int t_acts, .int t_breaths, .int t_zeroAt, .int t_noticedAt, .ref A_t_image, .ref A_t_isKept])), (A_t_count, .inl (ty.1, 8, .inl t_count)), (A_t_pace, .inl (ty.1, 8, .inl t_pace)), (A_t_sight, .inl (ty.1, 24, .inl t_sight)), (A_t_pad, .inl (ty.1, 60, .inl t_pad)), (A_t_now, .inl (ty.1, 8, .inl q0)), (A_t_image, .inl (ty.1, 120, .inl t_image)), (A_t_isKept, .inl (ty.2.2.1, 2, .inl t_isKept))] := by
  refine RWv.start (cc := cX10_breath) (maxL := 2) (ret := none) (own := RX10) (by decide) rfl rfl (Nat.le_of_ble_eq_true rfl) ?_
  intro p e s m below meth c ls C hK hP hD hS hl
  obtain ⟨WC, hWC⟩ : ∃ w : va_W, w = [(A_t, .inr (9, [.int t_there, .int t_awake, .ref A_t_count, .ref A_t_pace, .int t_house, .int t_sharp, .int t_sights, .ref A_t_sight, .int t_signs, .ref A_t_pad, .int t_up, .ref A_t_now, .int t_reason, .int t_acts, .int t_breaths, .int t_zeroAt, .int t_noticedAt, .ref A_t_image, .ref A_t_isKept])), (A_t_count, .inl (ty.1, 8, .inl t_count)), (A_t_pace, .inl (ty.1, 8, .inl t_pace)), (A_t_sight, .inl (ty.1, 24, .inl t_sight)), (A_t_pad, .inl (ty.1, 60, .inl t_pad)), (A_t_now, .inl (ty.1, 8, .inl t_now)), (A_t_image, .inl (ty.1, 120, .inl t_image)), (A_t_isKept, .inl (ty.2.2.1, 2, .inl t_isKept))] := ⟨_, rfl⟩
  rw [← hWC] at hD hS ⊢
  have hD : va_D (va_A WC s.heap.size) [(A_t, .inr (9, [.int t_there, .int t_awake, .ref A_t_count, .ref A_t_pace, .int t_house, .int t_sharp, .int t_sights, .ref A_t_sight, .int t_signs, .ref A_t_pad, .int t_up, .ref A_t_now, .int t_reason, .int t_acts, .int t_breaths, .int t_zeroAt, .int t_noticedAt, .ref A_t_image, .ref A_t_isKept])), (A_t_count, .inl (ty.1, 8, .inl t_count)), (A_t_pace, .inl (ty.1, 8, .inl t_pace)), (A_t_sight, .inl (ty.1, 24, .inl t_sight)), (A_t_pad, .inl (ty.1, 60, .inl t_pad)), (A_t_now, .inl (ty.1, 8, .inl t_now)), (A_t_image, .inl (ty.1, 120, .inl t_image)), (A_t_isKept, .inl (ty.2.2.1, 2, .inl t_isKept))] := by rw [← hWC]; exact hD
  obtain ⟨hx, hb, hr, hml, hown, hts, hlocks⟩ := id C
  have hl : lv_has ls 2 [(0, .ref A_t)] := hl
  unfold fX10_breath at hf
  refine lv_iconst (v := 0) hx hb dX10_breath_0 (by decide) ?_
  refine lv_istore_n (lv' := [(1, .int 0), (0, .ref A_t)]) hx hb dX10_breath_1 rfl hl (by decide) rfl (fun ls hl => ?_)
  exact BX10_breath_2 C hK  FU _ _ _ _ _ hP hD hS (lv_sub hl [1, 0] rfl) hf
/-! ===== SilenceCountModel.bell()V ===== -/
abbrev rmX10_bell : Room := { frames := 1, cells := 0, slots := 0, locals := 22 }
theorem kkX10_bell : yX10_bell.cls = RX10 ∧ yX10_bell.cls ≠ "java/lang/invoke/MethodHandle" ∧ yX10_bell.cls ≠ "java/lang/invoke/VarHandle" ∧ (parseMethodDescriptor yX10_bell.desc).map (fun d => d.parameters.length) = some 0 := by decide +kernel
theorem mX10_bell_f72 : Cond.fieldLink RX10 72 "SilenceCountModel" "up" "I" ∈ wsX10_bell := by decide +kernel
theorem wX10_bell_X10 : ∀ w ∈ u_ws RX10 TX10 19, w ∈ wsX10_bell := by decide +kernel
def bX10_bell_2 (k2 : Int32 × (Nat → Int32) → Option ((Nat → Int32))) (t_house : Int32) (t_up : Int32) (v1 : Int32) (t_now : Nat → Int32) : Option ((Nat → Int32)) :=
  if 8 ≤ v1 then some t_now else (fX10_has t_up v1).bind fun r13 => if r13 = 0 then k2 (v1 + 1, t_now) else (fX10_more t_house t_now v1 1).bind fun r22 => k2 (v1 + 1, r22)
set_option maxRecDepth 100000 in
set_option maxHeartbeats 4000000 in
theorem BX10_bell_2 {p : Program} {l : Launch} {e : Env} {s : State} {m : MethodId} {below : List Frame} {meth : Method} {c : Code} {D : va_G} {ty : TY} {A_t A_t_count A_t_pace A_t_sight A_t_pad A_t_now A_t_image A_t_isKept : Nat} {t_there : Int32} {t_awake : Int32} {t_house : Int32} {t_sharp : Int32} {t_sights : Int32} {t_signs : Int32} {t_up : Int32} {t_reason : Int32} {t_acts : Int32} {t_breaths : Int32} {t_zeroAt : Int32} {t_noticedAt : Int32} {t_count : Nat → Int32} {t_pace : Nat → Int32} {t_sight : Nat → Int32} {t_pad : Nat → Int32} {t_image : Nat → Int32} {t_isKept : Nat → Int32} {q0 : (Nat → Int32)} {WC : va_W} (C : cx p s m [.ref A_t] meth c cX10_bell 2 none RX10 wsX10_bell) (hK : KK D ty s)   : ∀ (n : Nat) (v1 : Int32) (t_now : Nat → Int32) (H : Heap) (locs : List Loc) (ls : Array Slot), va_P D vwCl [(A_t, .inr (9, [.int t_there, .int t_awake, .ref A_t_count, .ref A_t_pace, .int t_house, .int t_sharp, .int t_sights, .ref A_t_sight, .int t_signs, .ref A_t_pad, .int t_up, .ref A_t_now, .int t_reason, .int t_acts, .int t_breaths, .int t_zeroAt, .int t_noticedAt, .ref A_t_image, .ref A_t_isKept])), (A_t_count, .inl (ty.1, 8, .inl t_count)), (A_t_pace, .inl (ty.1, 8, .inl t_pace)), (A_t_sight, .inl (ty.1, 24, .inl t_sight)), (A_t_pad, .inl (ty.1, 60, .inl t_pad)), (A_t_now, .inl (ty.1, 8, .inl t_now)), (A_t_image, .inl (ty.1, 120, .inl t_image)), (A_t_isKept, .inl (ty.2.2.1, 2, .inl t_isKept))] H → va_D (va_A WC s.heap.size) [(A_t, .inr (9, [.int t_there, .int t_awake, .ref A_t_count, .ref A_t_pace, .int t_house, .int t_sharp, .int t_sights, .ref A_t_sight, .int t_signs, .ref A_t_pad, .int t_up, .ref A_t_now, .int t_reason, .int t_acts, .int t_breaths, .int t_zeroAt, .int t_noticedAt, .ref A_t_image, .ref A_t_isKept])), (A_t_count, .inl (ty.1, 8, .inl t_count)), (A_t_pace, .inl (ty.1, 8, .inl t_pace)), (A_t_sight, .inl (ty.1, 24, .inl t_sight)), (A_t_pad, .inl (ty.1, 60, .inl t_pad)), (A_t_now, .inl (ty.1, 8, .inl t_now)), (A_t_image, .inl (ty.1, 120, .inl t_image)), (A_t_isKept, .inl (ty.2.2.1, 2, .inl t_isKept))] → va_S (va_A WC s.heap.size) s.heap H locs → lv_has ls 2 [(0, .ref A_t), (1, .int v1)] → loopF (fun k q => bX10_bell_2 k t_house t_up q.1 q.2) n (v1, t_now) = some q0 → WWv p l e rmX10_bell s m [.ref A_t] below meth c D WC [(A_t, .inr (9, [.int t_there, .int t_awake, .ref A_t_count, .ref A_t_pace, .int t_house, .int t_sharp, .int t_sights, .ref A_t_sight, .int t_signs, .ref A_t_pad, .int t_up, .ref A_t_now, .int t_reason, .int t_acts, .int t_breaths, .int t_zeroAt, .int t_noticedAt, .ref A_t_image, .ref A_t_isKept])), (A_t_count, .inl (ty.1, 8, .inl t_count)), (A_t_pace, .inl (ty.1, 8, .inl t_pace)), (A_t_sight, .inl (ty.1, 24, .inl t_sight)), (A_t_pad, .inl (ty.1, 60, .inl t_pad)), (A_t_now, .inl (ty.1, 8, .inl q0)), (A_t_image, .inl (ty.1, 120, .inl t_image)), (A_t_isKept, .inl (ty.2.2.1, 2, .inl t_isKept))] H locs (F0 m 2 ls []) := by
  obtain ⟨hx, hb, hr, hml, hown, hts, hlocks⟩ := id C
  intro n
  induction n with
  | zero =>
    intro v1 t_now H locs ls hP hD hS hl hf
    cases hf
  | succ n ih =>
    intro v1 t_now H locs ls hP hD hS hl hf
    have hf : bX10_bell_2 (loopF (fun k q => bX10_bell_2 k t_house t_up q.1 q.2) n) t_house t_up v1 t_now = some q0 := hf
    have hk2 := ih
    unfold bX10_bell_2 at hf
    refine lv_iload_n hx hb dX10_bell_2 rfl (lv_at hl 1 rfl) ?_
    refine lv_bipush (v := 8) hx hb dX10_bell_3 (by decide) ?_
    refine lv_icmp_ge (tgt := 31) hx hb dX10_bell_5 (by decide) (fun hc => ?_) (fun hc => ?_)
    · have hf := ft hf hc
      cases hf
      exact ret_wv hx hb hr hlocks hP hD hS dX10_bell_31
    · have hf := ff hf hc
      refine lv_aload_n hx hb dX10_bell_8 rfl (lv_at hl 0 rfl) ?_
      refine va_get (D := D) (ci := 9) (v := .int t_up) (C := RX10) (T := TX10) (N := 19) hx hb hts wX10_bell_X10 hown hK.1 hP 0 rfl rfl 10 (by decide) (hts _ mX10_bell_f72) (fun _ h9 => h9) rfl dX10_bell_9 ?_
      refine lv_iload_n hx hb dX10_bell_12 rfl (lv_at hl 1 rfl) ?_
      obtain ⟨r13, hr13, hf⟩ := bnd hf
      have hPc : va_P D vwCl [] _ := hP.sub [] rfl
      refine callS_ri (As := [.int t_up, .int v1]) (rest := []) ⟨hx, hb, hml, hown, hts⟩ (CX10_has l hr13) (va_cwS 2 hts gX10_bell_X10_has rfl rfl rfl kkX10_has.2 ⟨Nat.le_of_ble_eq_true rfl, Nat.le_of_ble_eq_true rfl⟩) hK hPc hl.1 rfl (Nat.le_of_ble_eq_true rfl) dX10_bell_13 ⟨Nat.zero_le _, Nat.zero_le _⟩ ?_
      refine lv_if_eq (tgt := 25) hx hb dX10_bell_16 (by decide) (fun hc => ?_) (fun hc => ?_)
      · have hf := ft hf hc
        refine lv_iinc (v := v1 + 1) (lv' := [(1, .int (v1 + 1)), (0, .ref A_t)]) hx hb dX10_bell_25 hl (k := 1) rfl rfl (by decide) rfl (fun ls hl => ?_)
        refine lv_goto (tgt := 2) hx hb dX10_bell_28 (by decide) ?_
        exact hk2 _ _ _ _ _ hP hD hS (lv_sub hl [1, 0] rfl) hf
      · have hf := ff hf hc
        refine lv_aload_n hx hb dX10_bell_19 rfl (lv_at hl 0 rfl) ?_
        refine lv_iload_n hx hb dX10_bell_20 rfl (lv_at hl 1 rfl) ?_
        refine lv_iconst (v := 1) hx hb dX10_bell_21 (by decide) ?_
        obtain ⟨r22, hr22, hf⟩ := bnd hf
        refine callV_wv (As := [.int v1, .int 1]) (rest := []) ⟨hx, hb, hml, hown, hts⟩ (CX10_more l hr22) (cwV 2 hts gX10_bell_X10_more rfl rfl rfl kkX10_more ⟨Nat.le_of_ble_eq_true rfl, Nat.le_of_ble_eq_true rfl⟩) hK hP hD hS (fun _ h => Or.inr h) [0, 1, 2, 3, 4, 5, 6, 7] [] [0, 1, 2, 3, 4, 5, 6, 7] rfl (by decide) (by decide) rfl rfl 0 rfl rfl rfl hl.1 rfl (Nat.le_of_ble_eq_true rfl) dX10_bell_22 ⟨Nat.zero_le _, Nat.zero_le _⟩ (fun H locs hP hD hS => ?_)
        have hP : va_P D vwCl [(A_t, .inr (9, [.int t_there, .int t_awake, .ref A_t_count, .ref A_t_pace, .int t_house, .int t_sharp, .int t_sights, .ref A_t_sight, .int t_signs, .ref A_t_pad, .int t_up, .ref A_t_now, .int t_reason, .int t_acts, .int t_breaths, .int t_zeroAt, .int t_noticedAt, .ref A_t_image, .ref A_t_isKept])), (A_t_count, .inl (ty.1, 8, .inl t_count)), (A_t_pace, .inl (ty.1, 8, .inl t_pace)), (A_t_sight, .inl (ty.1, 24, .inl t_sight)), (A_t_pad, .inl (ty.1, 60, .inl t_pad)), (A_t_now, .inl (ty.1, 8, .inl r22)), (A_t_image, .inl (ty.1, 120, .inl t_image)), (A_t_isKept, .inl (ty.2.2.1, 2, .inl t_isKept))] H := hP
        have hD : va_D (va_A WC s.heap.size) [(A_t, .inr (9, [.int t_there, .int t_awake, .ref A_t_count, .ref A_t_pace, .int t_house, .int t_sharp, .int t_sights, .ref A_t_sight, .int t_signs, .ref A_t_pad, .int t_up, .ref A_t_now, .int t_reason, .int t_acts, .int t_breaths, .int t_zeroAt, .int t_noticedAt, .ref A_t_image, .ref A_t_isKept])), (A_t_count, .inl (ty.1, 8, .inl t_count)), (A_t_pace, .inl (ty.1, 8, .inl t_pace)), (A_t_sight, .inl (ty.1, 24, .inl t_sight)), (A_t_pad, .inl (ty.1, 60, .inl t_pad)), (A_t_now, .inl (ty.1, 8, .inl r22)), (A_t_image, .inl (ty.1, 120, .inl t_image)), (A_t_isKept, .inl (ty.2.2.1, 2, .inl t_isKept))] := hD
        refine lv_iinc (v := v1 + 1) (lv' := [(1, .int (v1 + 1)), (0, .ref A_t)]) hx hb dX10_bell_25 hl (k := 1) rfl rfl (by decide) rfl (fun ls hl => ?_)
        refine lv_goto (tgt := 2) hx hb dX10_bell_28 (by decide) ?_
        exact hk2 _ _ _ _ _ hP hD hS (lv_sub hl [1, 0] rfl) hf
def fX10_bell (t_house : Int32) (t_up : Int32) (t_now : Nat → Int32) : Option ((Nat → Int32)) :=
  loopF (fun k q => bX10_bell_2 k t_house t_up q.1 q.2) FU (0, t_now)
set_option maxRecDepth 100000 in
set_option maxHeartbeats 4000000 in
theorem CX10_bell (l : Launch) {D : va_G} {ty : TY} {A_t A_t_count A_t_pace A_t_sight A_t_pad A_t_now A_t_image A_t_isKept : Nat} {t_there : Int32} {t_awake : Int32} {t_house : Int32} {t_sharp : Int32} {t_sights : Int32} {t_signs : Int32} {t_up : Int32} {t_reason : Int32} {t_acts : Int32} {t_breaths : Int32} {t_zeroAt : Int32} {t_noticedAt : Int32} {t_count : Nat → Int32} {t_pace : Nat → Int32} {t_sight : Nat → Int32} {t_pad : Nat → Int32} {t_now : Nat → Int32} {t_image : Nat → Int32} {t_isKept : Nat → Int32} {q0 : (Nat → Int32)} (hf : fX10_bell t_house t_up t_now = some q0) : RWv l yX10_bell wsX10_bell rmX10_bell D ty [.ref A_t] [(A_t, .inr (9, [.int t_there, .int t_awake, .ref A_t_count, .ref A_t_pace, .int t_house, .int t_sharp, .int t_sights, .ref A_t_sight, .int t_signs, .ref A_t_pad, .int t_up, .ref A_t_now, .int t_reason, .int t_acts, .int t_breaths, .int t_zeroAt, .int t_noticedAt, .ref A_t_image, .ref A_t_isKept])), (A_t_count, .inl (ty.1, 8, .inl t_count)), (A_t_pace, .inl (ty.1, 8, .inl t_pace)), (A_t_sight, .inl (ty.1, 24, .inl t_sight)), (A_t_pad, .inl (ty.1, 60, .inl t_pad)), (A_t_now, .inl (ty.1, 8, .inl t_now)), (A_t_image, .inl (ty.1, 120, .inl t_image)), (A_t_isKept, .inl (ty.2.2.1, 2, .inl t_isKept))] [(A_t, .inr (9, [.int t_there, .int t_awake, .ref A_t_count, .ref A_t_pace, .int t_house, .int t_sharp, .int t_sights, .ref A_t_sight, .int t_signs, .ref A_t_pad, .int t_up, .ref A_t_now, .int t_reason, .int t_acts, .int t_breaths, .int t_zeroAt, .int t_noticedAt, .ref A_t_image, .ref A_t_isKept])), (A_t_count, .inl (ty.1, 8, .inl t_count)), (A_t_pace, .inl (ty.1, 8, .inl t_pace)), (A_t_sight, .inl (ty.1, 24, .inl t_sight)), (A_t_pad, .inl (ty.1, 60, .inl t_pad)), (A_t_now, .inl (ty.1, 8, .inl q0)), (A_t_image, .inl (ty.1, 120, .inl t_image)), (A_t_isKept, .inl (ty.2.2.1, 2, .inl t_isKept))] := by
  refine RWv.start (cc := cX10_bell) (maxL := 2) (ret := none) (own := RX10) (by decide) rfl rfl (Nat.le_of_ble_eq_true rfl) ?_
  intro p e s m below meth c ls C hK hP hD hS hl
  obtain ⟨WC, hWC⟩ : ∃ w : va_W, w = [(A_t, .inr (9, [.int t_there, .int t_awake, .ref A_t_count, .ref A_t_pace, .int t_house, .int t_sharp, .int t_sights, .ref A_t_sight, .int t_signs, .ref A_t_pad, .int t_up, .ref A_t_now, .int t_reason, .int t_acts, .int t_breaths, .int t_zeroAt, .int t_noticedAt, .ref A_t_image, .ref A_t_isKept])), (A_t_count, .inl (ty.1, 8, .inl t_count)), (A_t_pace, .inl (ty.1, 8, .inl t_pace)), (A_t_sight, .inl (ty.1, 24, .inl t_sight)), (A_t_pad, .inl (ty.1, 60, .inl t_pad)), (A_t_now, .inl (ty.1, 8, .inl t_now)), (A_t_image, .inl (ty.1, 120, .inl t_image)), (A_t_isKept, .inl (ty.2.2.1, 2, .inl t_isKept))] := ⟨_, rfl⟩
  rw [← hWC] at hD hS ⊢
  have hD : va_D (va_A WC s.heap.size) [(A_t, .inr (9, [.int t_there, .int t_awake, .ref A_t_count, .ref A_t_pace, .int t_house, .int t_sharp, .int t_sights, .ref A_t_sight, .int t_signs, .ref A_t_pad, .int t_up, .ref A_t_now, .int t_reason, .int t_acts, .int t_breaths, .int t_zeroAt, .int t_noticedAt, .ref A_t_image, .ref A_t_isKept])), (A_t_count, .inl (ty.1, 8, .inl t_count)), (A_t_pace, .inl (ty.1, 8, .inl t_pace)), (A_t_sight, .inl (ty.1, 24, .inl t_sight)), (A_t_pad, .inl (ty.1, 60, .inl t_pad)), (A_t_now, .inl (ty.1, 8, .inl t_now)), (A_t_image, .inl (ty.1, 120, .inl t_image)), (A_t_isKept, .inl (ty.2.2.1, 2, .inl t_isKept))] := by rw [← hWC]; exact hD
  obtain ⟨hx, hb, hr, hml, hown, hts, hlocks⟩ := id C
  have hl : lv_has ls 2 [(0, .ref A_t)] := hl
  unfold fX10_bell at hf
  refine lv_iconst (v := 0) hx hb dX10_bell_0 (by decide) ?_
  refine lv_istore_n (lv' := [(1, .int 0), (0, .ref A_t)]) hx hb dX10_bell_1 rfl hl (by decide) rfl (fun ls hl => ?_)
  exact BX10_bell_2 C hK  FU _ _ _ _ _ hP hD hS (lv_sub hl [1, 0] rfl) hf
/-! ===== SilenceCountModel.spread()I ===== -/
abbrev rmX10_spread : Room := { frames := 1, cells := 0, slots := 0, locals := 21 }
theorem kkX10_spread : yX10_spread.cls = RX10 ∧ yX10_spread.cls ≠ "java/lang/invoke/MethodHandle" ∧ yX10_spread.cls ≠ "java/lang/invoke/VarHandle" ∧ (parseMethodDescriptor yX10_spread.desc).map (fun d => d.parameters.length) = some 0 := by decide +kernel
theorem mX10_spread_k75 : Cond.constant RX10 75 (100000000) ∈ wsX10_spread := by decide +kernel
theorem mX10_spread_f72 : Cond.fieldLink RX10 72 "SilenceCountModel" "up" "I" ∈ wsX10_spread := by decide +kernel
theorem mX10_spread_f30 : Cond.fieldLink RX10 30 "SilenceCountModel" "now" "[I" ∈ wsX10_spread := by decide +kernel
theorem wX10_spread_X10 : ∀ w ∈ u_ws RX10 TX10 19, w ∈ wsX10_spread := by decide +kernel
def bX10_spread_44 (k7 : Int32 × Int32 × Int32 → Option (Int32)) (t_now : Nat → Int32) (v2 : Int32) (v3 : Int32) (s0 : Int32) : Option (Int32) :=
  gIn v3 8 (if (t_now (v3 : Int32).toNatClampNeg) ≤ v2 then k7 (s0, v2, v3 + 1) else gIn v3 8 (k7 (s0, t_now (v3 : Int32).toNatClampNeg, v3 + 1)))
set_option maxRecDepth 100000 in
set_option maxHeartbeats 4000000 in
theorem BX10_spread_44 {p : Program} {l : Launch} {e : Env} {s : State} {m : MethodId} {below : List Frame} {meth : Method} {c : Code} {D : va_G} {ty : TY} {A_t A_t_count A_t_pace A_t_sight A_t_pad A_t_now A_t_image A_t_isKept : Nat} {t_there : Int32} {t_awake : Int32} {t_house : Int32} {t_sharp : Int32} {t_sights : Int32} {t_signs : Int32} {t_up : Int32} {t_reason : Int32} {t_acts : Int32} {t_breaths : Int32} {t_zeroAt : Int32} {t_noticedAt : Int32} {t_count : Nat → Int32} {t_pace : Nat → Int32} {t_sight : Nat → Int32} {t_pad : Nat → Int32} {t_now : Nat → Int32} {t_image : Nat → Int32} {t_isKept : Nat → Int32} {q0 : Int32} (C : cx p s m [.ref A_t] meth c cX10_spread 4 (some .int) RX10 wsX10_spread) (hK : KK D ty s) (hP : va_P D vwCl [(A_t, .inr (9, [.int t_there, .int t_awake, .ref A_t_count, .ref A_t_pace, .int t_house, .int t_sharp, .int t_sights, .ref A_t_sight, .int t_signs, .ref A_t_pad, .int t_up, .ref A_t_now, .int t_reason, .int t_acts, .int t_breaths, .int t_zeroAt, .int t_noticedAt, .ref A_t_image, .ref A_t_isKept])), (A_t_count, .inl (ty.1, 8, .inl t_count)), (A_t_pace, .inl (ty.1, 8, .inl t_pace)), (A_t_sight, .inl (ty.1, 24, .inl t_sight)), (A_t_pad, .inl (ty.1, 60, .inl t_pad)), (A_t_now, .inl (ty.1, 8, .inl t_now)), (A_t_image, .inl (ty.1, 120, .inl t_image)), (A_t_isKept, .inl (ty.2.2.1, 2, .inl t_isKept))] s.heap) {k7 : Int32 × Int32 × Int32 → Option (Int32)} (hk7 : ∀ (v1 : Int32) (v2 : Int32) (v3 : Int32) (ls : Array Slot), lv_has ls 4 [(0, .ref A_t), (1, .int v1), (2, .int v2), (3, .int v3)] → k7 (v1, v2, v3) = some q0 → WRi p l e rmX10_spread s m [.ref A_t] below meth c q0 (F0 m 7 ls [])) {v2 : Int32} {v3 : Int32} {s0 : Int32} {ls : Array Slot} (hl : lv_has ls 4 [(0, .ref A_t), (2, .int v2), (3, .int v3)]) (hf : bX10_spread_44 k7 t_now v2 v3 s0 = some q0) : WRi p l e rmX10_spread s m [.ref A_t] below meth c q0 (F0 m 44 ls [.int s0]) := by
  obtain ⟨hx, hb, hr, hml, hown, hts, hlocks⟩ := id C
  unfold bX10_spread_44 at hf
  refine lv_istore_n (lv' := [(1, .int s0), (0, .ref A_t), (2, .int v2), (3, .int v3)]) hx hb dX10_spread_44 rfl hl (by decide) rfl (fun ls hl => ?_)
  refine lv_aload_n hx hb dX10_spread_45 rfl (lv_at hl 1 rfl) ?_
  refine va_get (D := D) (ci := 9) (v := .ref A_t_now) (C := RX10) (T := TX10) (N := 19) hx hb hts wX10_spread_X10 hown hK.1 hP 0 rfl rfl 11 (by decide) (hts _ mX10_spread_f30) (fun _ h9 => h9) rfl dX10_spread_46 ?_
  refine lv_iload_n hx hb dX10_spread_49 rfl (lv_at hl 3 rfl) ?_
  obtain ⟨hin, hf⟩ := gIn_some hf
  refine va_iald hx hb hK.1 hP 5 0 rfl rfl hin dX10_spread_50 ?_
  refine lv_iload_n hx hb dX10_spread_51 rfl (lv_at hl 2 rfl) ?_
  refine lv_icmp_le (tgt := 64) hx hb dX10_spread_52 (by decide) (fun hc => ?_) (fun hc => ?_)
  · have hf := ft hf hc
    refine lv_iload_n hx hb dX10_spread_64 rfl (lv_at hl 2 rfl) ?_
    refine lv_istore_n (lv' := [(2, .int v2), (1, .int s0), (0, .ref A_t), (3, .int v3)]) hx hb dX10_spread_65 rfl hl (by decide) rfl (fun ls hl => ?_)
    refine lv_iinc (v := v3 + 1) (lv' := [(3, .int (v3 + 1)), (2, .int v2), (1, .int s0), (0, .ref A_t)]) hx hb dX10_spread_66 hl (k := 3) rfl rfl (by decide) rfl (fun ls hl => ?_)
    refine lv_goto (tgt := 7) hx hb dX10_spread_69 (by decide) ?_
    exact hk7 _ _ _ _ (lv_sub hl [3, 2, 1, 0] rfl) hf
  · have hf := ff hf hc
    refine lv_aload_n hx hb dX10_spread_55 rfl (lv_at hl 1 rfl) ?_
    refine va_get (D := D) (ci := 9) (v := .ref A_t_now) (C := RX10) (T := TX10) (N := 19) hx hb hts wX10_spread_X10 hown hK.1 hP 0 rfl rfl 11 (by decide) (hts _ mX10_spread_f30) (fun _ h9 => h9) rfl dX10_spread_56 ?_
    refine lv_iload_n hx hb dX10_spread_59 rfl (lv_at hl 3 rfl) ?_
    obtain ⟨hin, hf⟩ := gIn_some hf
    refine va_iald hx hb hK.1 hP 5 0 rfl rfl hin dX10_spread_60 ?_
    refine lv_goto (tgt := 65) hx hb dX10_spread_61 (by decide) ?_
    refine lv_istore_n (lv' := [(2, .int (t_now (v3 : Int32).toNatClampNeg)), (1, .int s0), (0, .ref A_t), (3, .int v3)]) hx hb dX10_spread_65 rfl hl (by decide) rfl (fun ls hl => ?_)
    refine lv_iinc (v := v3 + 1) (lv' := [(3, .int (v3 + 1)), (2, .int (t_now (v3 : Int32).toNatClampNeg)), (1, .int s0), (0, .ref A_t)]) hx hb dX10_spread_66 hl (k := 3) rfl rfl (by decide) rfl (fun ls hl => ?_)
    refine lv_goto (tgt := 7) hx hb dX10_spread_69 (by decide) ?_
    exact hk7 _ _ _ _ (lv_sub hl [3, 2, 1, 0] rfl) hf
def bX10_spread_7 (k7 : Int32 × Int32 × Int32 → Option (Int32)) (t_up : Int32) (t_now : Nat → Int32) (v1 : Int32) (v2 : Int32) (v3 : Int32) : Option (Int32) :=
  if 8 ≤ v3 then if v1 = 100000000 then some 0 else some (v2 - v1) else (fX10_has t_up v3).bind fun r18 => if r18 = 0 then k7 (v1, v2, v3 + 1) else gIn v3 8 (if v1 ≤ (t_now (v3 : Int32).toNatClampNeg) then bX10_spread_44 k7 t_now v2 v3 v1 else gIn v3 8 (bX10_spread_44 k7 t_now v2 v3 (t_now (v3 : Int32).toNatClampNeg)))
set_option maxRecDepth 100000 in
set_option maxHeartbeats 4000000 in
theorem BX10_spread_7 {p : Program} {l : Launch} {e : Env} {s : State} {m : MethodId} {below : List Frame} {meth : Method} {c : Code} {D : va_G} {ty : TY} {A_t A_t_count A_t_pace A_t_sight A_t_pad A_t_now A_t_image A_t_isKept : Nat} {t_there : Int32} {t_awake : Int32} {t_house : Int32} {t_sharp : Int32} {t_sights : Int32} {t_signs : Int32} {t_up : Int32} {t_reason : Int32} {t_acts : Int32} {t_breaths : Int32} {t_zeroAt : Int32} {t_noticedAt : Int32} {t_count : Nat → Int32} {t_pace : Nat → Int32} {t_sight : Nat → Int32} {t_pad : Nat → Int32} {t_now : Nat → Int32} {t_image : Nat → Int32} {t_isKept : Nat → Int32} {q0 : Int32} (C : cx p s m [.ref A_t] meth c cX10_spread 4 (some .int) RX10 wsX10_spread) (hK : KK D ty s) (hP : va_P D vwCl [(A_t, .inr (9, [.int t_there, .int t_awake, .ref A_t_count, .ref A_t_pace, .int t_house, .int t_sharp, .int t_sights, .ref A_t_sight, .int t_signs, .ref A_t_pad, .int t_up, .ref A_t_now, .int t_reason, .int t_acts, .int t_breaths, .int t_zeroAt, .int t_noticedAt, .ref A_t_image, .ref A_t_isKept])), (A_t_count, .inl (ty.1, 8, .inl t_count)), (A_t_pace, .inl (ty.1, 8, .inl t_pace)), (A_t_sight, .inl (ty.1, 24, .inl t_sight)), (A_t_pad, .inl (ty.1, 60, .inl t_pad)), (A_t_now, .inl (ty.1, 8, .inl t_now)), (A_t_image, .inl (ty.1, 120, .inl t_image)), (A_t_isKept, .inl (ty.2.2.1, 2, .inl t_isKept))] s.heap)   : ∀ (n : Nat) (v1 : Int32) (v2 : Int32) (v3 : Int32) (ls : Array Slot), lv_has ls 4 [(0, .ref A_t), (1, .int v1), (2, .int v2), (3, .int v3)] → loopF (fun k q => bX10_spread_7 k t_up t_now q.1 q.2.1 q.2.2) n (v1, v2, v3) = some q0 → WRi p l e rmX10_spread s m [.ref A_t] below meth c q0 (F0 m 7 ls []) := by
  obtain ⟨hx, hb, hr, hml, hown, hts, hlocks⟩ := id C
  intro n
  induction n with
  | zero =>
    intro v1 v2 v3 ls hl hf
    cases hf
  | succ n ih =>
    intro v1 v2 v3 ls hl hf
    have hf : bX10_spread_7 (loopF (fun k q => bX10_spread_7 k t_up t_now q.1 q.2.1 q.2.2) n) t_up t_now v1 v2 v3 = some q0 := hf
    have hk7 := ih
    unfold bX10_spread_7 at hf
    refine lv_iload_n hx hb dX10_spread_7 rfl (lv_at hl 3 rfl) ?_
    refine lv_bipush (v := 8) hx hb dX10_spread_8 (by decide) ?_
    refine lv_icmp_ge (tgt := 72) hx hb dX10_spread_10 (by decide) (fun hc => ?_) (fun hc => ?_)
    · have hf := ft hf hc
      refine lv_iload_n hx hb dX10_spread_72 rfl (lv_at hl 1 rfl) ?_
      refine lv_ldc (v := 100000000) hx hb hown (hts _ mX10_spread_k75) dX10_spread_73 ?_
      refine lv_icmp_ne (tgt := 82) hx hb dX10_spread_75 (by decide) (fun hc => ?_) (fun hc => ?_)
      · have hf := ff hf hc
        refine lv_iload_n hx hb dX10_spread_82 rfl (lv_at hl 2 rfl) ?_
        refine lv_iload_n hx hb dX10_spread_83 rfl (lv_at hl 1 rfl) ?_
        refine lv_isub hx hb dX10_spread_84 ?_
        exact ret_ri hx hb hr hlocks hf dX10_spread_85
      · have hf := ft hf hc
        refine lv_iconst (v := 0) hx hb dX10_spread_78 (by decide) ?_
        refine lv_goto (tgt := 85) hx hb dX10_spread_79 (by decide) ?_
        exact ret_ri hx hb hr hlocks hf dX10_spread_85
    · have hf := ff hf hc
      refine lv_aload_n hx hb dX10_spread_13 rfl (lv_at hl 0 rfl) ?_
      refine va_get (D := D) (ci := 9) (v := .int t_up) (C := RX10) (T := TX10) (N := 19) hx hb hts wX10_spread_X10 hown hK.1 hP 0 rfl rfl 10 (by decide) (hts _ mX10_spread_f72) (fun _ h9 => h9) rfl dX10_spread_14 ?_
      refine lv_iload_n hx hb dX10_spread_17 rfl (lv_at hl 3 rfl) ?_
      obtain ⟨r18, hr18, hf⟩ := bnd hf
      have hPc : va_P D vwCl [] _ := hP.sub [] rfl
      refine callS_ri (As := [.int t_up, .int v3]) (rest := []) ⟨hx, hb, hml, hown, hts⟩ (CX10_has l hr18) (va_cwS 2 hts gX10_spread_X10_has rfl rfl rfl kkX10_has.2 ⟨Nat.le_of_ble_eq_true rfl, Nat.le_of_ble_eq_true rfl⟩) hK hPc hl.1 rfl (Nat.le_of_ble_eq_true rfl) dX10_spread_18 ⟨Nat.zero_le _, Nat.zero_le _⟩ ?_
      refine lv_if_eq (tgt := 66) hx hb dX10_spread_21 (by decide) (fun hc => ?_) (fun hc => ?_)
      · have hf := ft hf hc
        refine lv_iinc (v := v3 + 1) (lv' := [(3, .int (v3 + 1)), (0, .ref A_t), (1, .int v1), (2, .int v2)]) hx hb dX10_spread_66 hl (k := 3) rfl rfl (by decide) rfl (fun ls hl => ?_)
        refine lv_goto (tgt := 7) hx hb dX10_spread_69 (by decide) ?_
        exact hk7 _ _ _ _ (lv_sub hl [1, 2, 3, 0] rfl) hf
      · have hf := ff hf hc
        refine lv_aload_n hx hb dX10_spread_24 rfl (lv_at hl 0 rfl) ?_
        refine va_get (D := D) (ci := 9) (v := .ref A_t_now) (C := RX10) (T := TX10) (N := 19) hx hb hts wX10_spread_X10 hown hK.1 hP 0 rfl rfl 11 (by decide) (hts _ mX10_spread_f30) (fun _ h9 => h9) rfl dX10_spread_25 ?_
        refine lv_iload_n hx hb dX10_spread_28 rfl (lv_at hl 3 rfl) ?_
        obtain ⟨hin, hf⟩ := gIn_some hf
        refine va_iald hx hb hK.1 hP 5 0 rfl rfl hin dX10_spread_29 ?_
        refine lv_iload_n hx hb dX10_spread_30 rfl (lv_at hl 1 rfl) ?_
        refine lv_icmp_ge (tgt := 43) hx hb dX10_spread_31 (by decide) (fun hc => ?_) (fun hc => ?_)
        · have hf := ft hf hc
          refine lv_iload_n hx hb dX10_spread_43 rfl (lv_at hl 1 rfl) ?_
          exact BX10_spread_44 C hK hP hk7 (lv_sub hl [0, 2, 3] rfl) hf
        · have hf := ff hf hc
          refine lv_aload_n hx hb dX10_spread_34 rfl (lv_at hl 0 rfl) ?_
          refine va_get (D := D) (ci := 9) (v := .ref A_t_now) (C := RX10) (T := TX10) (N := 19) hx hb hts wX10_spread_X10 hown hK.1 hP 0 rfl rfl 11 (by decide) (hts _ mX10_spread_f30) (fun _ h9 => h9) rfl dX10_spread_35 ?_
          refine lv_iload_n hx hb dX10_spread_38 rfl (lv_at hl 3 rfl) ?_
          obtain ⟨hin, hf⟩ := gIn_some hf
          refine va_iald hx hb hK.1 hP 5 0 rfl rfl hin dX10_spread_39 ?_
          refine lv_goto (tgt := 44) hx hb dX10_spread_40 (by decide) ?_
          exact BX10_spread_44 C hK hP hk7 (lv_sub hl [0, 2, 3] rfl) hf
def fX10_spread (t_up : Int32) (t_now : Nat → Int32) : Option (Int32) :=
  loopF (fun k q => bX10_spread_7 k t_up t_now q.1 q.2.1 q.2.2) FU (100000000, 0, 0)
set_option maxRecDepth 100000 in
set_option maxHeartbeats 4000000 in
theorem CX10_spread (l : Launch) {D : va_G} {ty : TY} {A_t A_t_count A_t_pace A_t_sight A_t_pad A_t_now A_t_image A_t_isKept : Nat} {t_there : Int32} {t_awake : Int32} {t_house : Int32} {t_sharp : Int32} {t_sights : Int32} {t_signs : Int32} {t_up : Int32} {t_reason : Int32} {t_acts : Int32} {t_breaths : Int32} {t_zeroAt : Int32} {t_noticedAt : Int32} {t_count : Nat → Int32} {t_pace : Nat → Int32} {t_sight : Nat → Int32} {t_pad : Nat → Int32} {t_now : Nat → Int32} {t_image : Nat → Int32} {t_isKept : Nat → Int32} {q0 : Int32} (hf : fX10_spread t_up t_now = some q0) : ROi l yX10_spread wsX10_spread rmX10_spread D ty [.ref A_t] [(A_t, .inr (9, [.int t_there, .int t_awake, .ref A_t_count, .ref A_t_pace, .int t_house, .int t_sharp, .int t_sights, .ref A_t_sight, .int t_signs, .ref A_t_pad, .int t_up, .ref A_t_now, .int t_reason, .int t_acts, .int t_breaths, .int t_zeroAt, .int t_noticedAt, .ref A_t_image, .ref A_t_isKept])), (A_t_count, .inl (ty.1, 8, .inl t_count)), (A_t_pace, .inl (ty.1, 8, .inl t_pace)), (A_t_sight, .inl (ty.1, 24, .inl t_sight)), (A_t_pad, .inl (ty.1, 60, .inl t_pad)), (A_t_now, .inl (ty.1, 8, .inl t_now)), (A_t_image, .inl (ty.1, 120, .inl t_image)), (A_t_isKept, .inl (ty.2.2.1, 2, .inl t_isKept))] q0 := by
  refine ROi.start (cc := cX10_spread) (maxL := 4) (ret := (some .int)) (own := RX10) (by decide) rfl rfl (Nat.le_of_ble_eq_true rfl) ?_
  intro p e s m below meth c ls C hK hP hl
  obtain ⟨hx, hb, hr, hml, hown, hts, hlocks⟩ := id C
  have hl : lv_has ls 4 [(0, .ref A_t)] := hl
  unfold fX10_spread at hf
  refine lv_ldc (v := 100000000) hx hb hown (hts _ mX10_spread_k75) dX10_spread_0 ?_
  refine lv_istore_n (lv' := [(1, .int 100000000), (0, .ref A_t)]) hx hb dX10_spread_2 rfl hl (by decide) rfl (fun ls hl => ?_)
  refine lv_iconst (v := 0) hx hb dX10_spread_3 (by decide) ?_
  refine lv_istore_n (lv' := [(2, .int 0), (1, .int 100000000), (0, .ref A_t)]) hx hb dX10_spread_4 rfl hl (by decide) rfl (fun ls hl => ?_)
  refine lv_iconst (v := 0) hx hb dX10_spread_5 (by decide) ?_
  refine lv_istore_n (lv' := [(3, .int 0), (2, .int 0), (1, .int 100000000), (0, .ref A_t)]) hx hb dX10_spread_6 rfl hl (by decide) rfl (fun ls hl => ?_)
  exact BX10_spread_7 C hK hP  FU _ _ _ _ (lv_sub hl [3, 2, 1, 0] rfl) hf
/-! ===== SilenceCountModel.goHours()I ===== -/
abbrev rmX10_goHours : Room := { frames := 3, cells := 0, slots := 0, locals := 68 }
theorem kkX10_goHours : yX10_goHours.cls = RX10 ∧ yX10_goHours.cls ≠ "java/lang/invoke/MethodHandle" ∧ yX10_goHours.cls ≠ "java/lang/invoke/VarHandle" ∧ (parseMethodDescriptor yX10_goHours.desc).map (fun d => d.parameters.length) = some 0 := by decide +kernel
theorem mX10_goHours_f62 : Cond.fieldLink RX10 62 "SilenceCountModel" "signs" "I" ∈ wsX10_goHours := by decide +kernel
theorem mX10_goHours_f27 : Cond.fieldLink RX10 27 "SilenceCountModel" "pad" "[I" ∈ wsX10_goHours := by decide +kernel
theorem mX10_goHours_f72 : Cond.fieldLink RX10 72 "SilenceCountModel" "up" "I" ∈ wsX10_goHours := by decide +kernel
theorem mX10_goHours_f102 : Cond.fieldLink RX10 102 "SilenceCountModel" "reason" "I" ∈ wsX10_goHours := by decide +kernel
theorem mX10_goHours_f99 : Cond.fieldLink RX10 99 "SilenceCountModel" "noticedAt" "I" ∈ wsX10_goHours := by decide +kernel
theorem mX10_goHours_f86 : Cond.fieldLink RX10 86 "SilenceCountModel" "acts" "I" ∈ wsX10_goHours := by decide +kernel
theorem mX10_goHours_f21 : Cond.fieldLink RX10 21 "SilenceCountModel" "sharp" "I" ∈ wsX10_goHours := by decide +kernel
theorem mX10_goHours_f30 : Cond.fieldLink RX10 30 "SilenceCountModel" "now" "[I" ∈ wsX10_goHours := by decide +kernel
theorem mX10_goHours_f17 : Cond.fieldLink RX10 17 "SilenceCountModel" "house" "I" ∈ wsX10_goHours := by decide +kernel
theorem mX10_goHours_f89 : Cond.fieldLink RX10 89 "SilenceCountModel" "breaths" "I" ∈ wsX10_goHours := by decide +kernel
theorem mX10_goHours_f96 : Cond.fieldLink RX10 96 "SilenceCountModel" "zeroAt" "I" ∈ wsX10_goHours := by decide +kernel
theorem wX10_goHours_X10 : ∀ w ∈ u_ws RX10 TX10 19, w ∈ wsX10_goHours := by decide +kernel
def bX10_goHours_360 (k39 : Int32 × Int32 × Int32 × Int32 × Int32 × Int32 × Int32 × (Nat → Int32) → Option (Int32 × Int32 × Int32 × Int32 × Int32 × Int32 × Int32 × (Nat → Int32))) (v1 : Int32) (s0 : Int32) (t_up : Int32) (t_reason : Int32) (t_acts : Int32) (t_breaths : Int32) (t_zeroAt : Int32) (t_noticedAt : Int32) (t_now : Nat → Int32) : Option (Int32 × Int32 × Int32 × Int32 × Int32 × Int32 × Int32 × (Nat → Int32)) :=
  k39 (v1, t_up, t_reason, t_acts + 1, t_breaths, t_zeroAt, s0, t_now)
set_option maxRecDepth 100000 in
set_option maxHeartbeats 4000000 in
theorem BX10_goHours_360 {p : Program} {l : Launch} {e : Env} {s : State} {m : MethodId} {below : List Frame} {meth : Method} {c : Code} {D : va_G} {ty : TY} {A_t A_t_count A_t_pace A_t_sight A_t_pad A_t_now A_t_image A_t_isKept : Nat} {t_there : Int32} {t_awake : Int32} {t_house : Int32} {t_sharp : Int32} {t_sights : Int32} {t_signs : Int32} {t_count : Nat → Int32} {t_pace : Nat → Int32} {t_sight : Nat → Int32} {t_pad : Nat → Int32} {t_image : Nat → Int32} {t_isKept : Nat → Int32} {q0 : Int32 × Int32 × Int32 × Int32 × Int32 × Int32 × Int32 × (Nat → Int32)} {WC : va_W} (C : cx p s m [.ref A_t] meth c cX10_goHours 5 (some .int) RX10 wsX10_goHours) (hK : KK D ty s) {k39 : Int32 × Int32 × Int32 × Int32 × Int32 × Int32 × Int32 × (Nat → Int32) → Option (Int32 × Int32 × Int32 × Int32 × Int32 × Int32 × Int32 × (Nat → Int32))} (hk39 : ∀ (v1 : Int32) (t_up : Int32) (t_reason : Int32) (t_acts : Int32) (t_breaths : Int32) (t_zeroAt : Int32) (t_noticedAt : Int32) (t_now : Nat → Int32) (H : Heap) (locs : List Loc) (ls : Array Slot), va_P D vwCl [(A_t, .inr (9, [.int t_there, .int t_awake, .ref A_t_count, .ref A_t_pace, .int t_house, .int t_sharp, .int t_sights, .ref A_t_sight, .int t_signs, .ref A_t_pad, .int t_up, .ref A_t_now, .int t_reason, .int t_acts, .int t_breaths, .int t_zeroAt, .int t_noticedAt, .ref A_t_image, .ref A_t_isKept])), (A_t_count, .inl (ty.1, 8, .inl t_count)), (A_t_pace, .inl (ty.1, 8, .inl t_pace)), (A_t_sight, .inl (ty.1, 24, .inl t_sight)), (A_t_pad, .inl (ty.1, 60, .inl t_pad)), (A_t_now, .inl (ty.1, 8, .inl t_now)), (A_t_image, .inl (ty.1, 120, .inl t_image)), (A_t_isKept, .inl (ty.2.2.1, 2, .inl t_isKept))] H → va_D (va_A WC s.heap.size) [(A_t, .inr (9, [.int t_there, .int t_awake, .ref A_t_count, .ref A_t_pace, .int t_house, .int t_sharp, .int t_sights, .ref A_t_sight, .int t_signs, .ref A_t_pad, .int t_up, .ref A_t_now, .int t_reason, .int t_acts, .int t_breaths, .int t_zeroAt, .int t_noticedAt, .ref A_t_image, .ref A_t_isKept])), (A_t_count, .inl (ty.1, 8, .inl t_count)), (A_t_pace, .inl (ty.1, 8, .inl t_pace)), (A_t_sight, .inl (ty.1, 24, .inl t_sight)), (A_t_pad, .inl (ty.1, 60, .inl t_pad)), (A_t_now, .inl (ty.1, 8, .inl t_now)), (A_t_image, .inl (ty.1, 120, .inl t_image)), (A_t_isKept, .inl (ty.2.2.1, 2, .inl t_isKept))] → va_S (va_A WC s.heap.size) s.heap H locs → lv_has ls 5 [(0, .ref A_t), (1, .int v1)] → k39 (v1, t_up, t_reason, t_acts, t_breaths, t_zeroAt, t_noticedAt, t_now) = some q0 → WWi p l e rmX10_goHours s m [.ref A_t] below meth c D WC [(A_t, .inr (9, [.int t_there, .int t_awake, .ref A_t_count, .ref A_t_pace, .int t_house, .int t_sharp, .int t_sights, .ref A_t_sight, .int t_signs, .ref A_t_pad, .int q0.2.1, .ref A_t_now, .int q0.2.2.1, .int q0.2.2.2.1, .int q0.2.2.2.2.1, .int q0.2.2.2.2.2.1, .int q0.2.2.2.2.2.2.1, .ref A_t_image, .ref A_t_isKept])), (A_t_count, .inl (ty.1, 8, .inl t_count)), (A_t_pace, .inl (ty.1, 8, .inl t_pace)), (A_t_sight, .inl (ty.1, 24, .inl t_sight)), (A_t_pad, .inl (ty.1, 60, .inl t_pad)), (A_t_now, .inl (ty.1, 8, .inl q0.2.2.2.2.2.2.2)), (A_t_image, .inl (ty.1, 120, .inl t_image)), (A_t_isKept, .inl (ty.2.2.1, 2, .inl t_isKept))] q0.1 H locs (F0 m 39 ls [])) {v1 : Int32} {s0 : Int32} {t_up : Int32} {t_reason : Int32} {t_acts : Int32} {t_breaths : Int32} {t_zeroAt : Int32} {t_noticedAt : Int32} {t_now : Nat → Int32} {H : Heap} {locs : List Loc} {ls : Array Slot} (hP : va_P D vwCl [(A_t, .inr (9, [.int t_there, .int t_awake, .ref A_t_count, .ref A_t_pace, .int t_house, .int t_sharp, .int t_sights, .ref A_t_sight, .int t_signs, .ref A_t_pad, .int t_up, .ref A_t_now, .int t_reason, .int t_acts, .int t_breaths, .int t_zeroAt, .int t_noticedAt, .ref A_t_image, .ref A_t_isKept])), (A_t_count, .inl (ty.1, 8, .inl t_count)), (A_t_pace, .inl (ty.1, 8, .inl t_pace)), (A_t_sight, .inl (ty.1, 24, .inl t_sight)), (A_t_pad, .inl (ty.1, 60, .inl t_pad)), (A_t_now, .inl (ty.1, 8, .inl t_now)), (A_t_image, .inl (ty.1, 120, .inl t_image)), (A_t_isKept, .inl (ty.2.2.1, 2, .inl t_isKept))] H) (hD : va_D (va_A WC s.heap.size) [(A_t, .inr (9, [.int t_there, .int t_awake, .ref A_t_count, .ref A_t_pace, .int t_house, .int t_sharp, .int t_sights, .ref A_t_sight, .int t_signs, .ref A_t_pad, .int t_up, .ref A_t_now, .int t_reason, .int t_acts, .int t_breaths, .int t_zeroAt, .int t_noticedAt, .ref A_t_image, .ref A_t_isKept])), (A_t_count, .inl (ty.1, 8, .inl t_count)), (A_t_pace, .inl (ty.1, 8, .inl t_pace)), (A_t_sight, .inl (ty.1, 24, .inl t_sight)), (A_t_pad, .inl (ty.1, 60, .inl t_pad)), (A_t_now, .inl (ty.1, 8, .inl t_now)), (A_t_image, .inl (ty.1, 120, .inl t_image)), (A_t_isKept, .inl (ty.2.2.1, 2, .inl t_isKept))]) (hS : va_S (va_A WC s.heap.size) s.heap H locs) (hl : lv_has ls 5 [(0, .ref A_t), (1, .int v1)]) (hf : bX10_goHours_360 k39 v1 s0 t_up t_reason t_acts t_breaths t_zeroAt t_noticedAt t_now = some q0) : WWi p l e rmX10_goHours s m [.ref A_t] below meth c D WC [(A_t, .inr (9, [.int t_there, .int t_awake, .ref A_t_count, .ref A_t_pace, .int t_house, .int t_sharp, .int t_sights, .ref A_t_sight, .int t_signs, .ref A_t_pad, .int q0.2.1, .ref A_t_now, .int q0.2.2.1, .int q0.2.2.2.1, .int q0.2.2.2.2.1, .int q0.2.2.2.2.2.1, .int q0.2.2.2.2.2.2.1, .ref A_t_image, .ref A_t_isKept])), (A_t_count, .inl (ty.1, 8, .inl t_count)), (A_t_pace, .inl (ty.1, 8, .inl t_pace)), (A_t_sight, .inl (ty.1, 24, .inl t_sight)), (A_t_pad, .inl (ty.1, 60, .inl t_pad)), (A_t_now, .inl (ty.1, 8, .inl q0.2.2.2.2.2.2.2)), (A_t_image, .inl (ty.1, 120, .inl t_image)), (A_t_isKept, .inl (ty.2.2.1, 2, .inl t_isKept))] q0.1 H locs (F0 m 360 ls [.int s0, .ref A_t]) := by
  obtain ⟨hx, hb, hr, hml, hown, hts, hlocks⟩ := id C
  unfold bX10_goHours_360 at hf
  refine va_put (D := D) (ci := 9) (v := .int s0) (ty := .int) (C := RX10) (T := TX10) (N := 19) hx hb hts wX10_goHours_X10 tyX10 tyX10_ok nmX10 hown hK.1 hP hD hS 0 rfl rfl 16 (by decide) (hts _ mX10_goHours_f99) (fun _ h9 => h9) rfl (by decide +kernel) rfl rfl (Nat.le_of_ble_eq_true rfl) dX10_goHours_360 (fun H locs hP hD hS => ?_)
  have hP : va_P D vwCl [(A_t, .inr (9, [.int t_there, .int t_awake, .ref A_t_count, .ref A_t_pace, .int t_house, .int t_sharp, .int t_sights, .ref A_t_sight, .int t_signs, .ref A_t_pad, .int t_up, .ref A_t_now, .int t_reason, .int t_acts, .int t_breaths, .int t_zeroAt, .int s0, .ref A_t_image, .ref A_t_isKept])), (A_t_count, .inl (ty.1, 8, .inl t_count)), (A_t_pace, .inl (ty.1, 8, .inl t_pace)), (A_t_sight, .inl (ty.1, 24, .inl t_sight)), (A_t_pad, .inl (ty.1, 60, .inl t_pad)), (A_t_now, .inl (ty.1, 8, .inl t_now)), (A_t_image, .inl (ty.1, 120, .inl t_image)), (A_t_isKept, .inl (ty.2.2.1, 2, .inl t_isKept))] H := hP
  have hD : va_D (va_A WC s.heap.size) [(A_t, .inr (9, [.int t_there, .int t_awake, .ref A_t_count, .ref A_t_pace, .int t_house, .int t_sharp, .int t_sights, .ref A_t_sight, .int t_signs, .ref A_t_pad, .int t_up, .ref A_t_now, .int t_reason, .int t_acts, .int t_breaths, .int t_zeroAt, .int s0, .ref A_t_image, .ref A_t_isKept])), (A_t_count, .inl (ty.1, 8, .inl t_count)), (A_t_pace, .inl (ty.1, 8, .inl t_pace)), (A_t_sight, .inl (ty.1, 24, .inl t_sight)), (A_t_pad, .inl (ty.1, 60, .inl t_pad)), (A_t_now, .inl (ty.1, 8, .inl t_now)), (A_t_image, .inl (ty.1, 120, .inl t_image)), (A_t_isKept, .inl (ty.2.2.1, 2, .inl t_isKept))] := hD
  refine lv_aload_n hx hb dX10_goHours_363 rfl (lv_at hl 0 rfl) ?_
  refine lv_dup hx hb dX10_goHours_364 rfl ?_
  refine va_get (D := D) (ci := 9) (v := .int t_acts) (C := RX10) (T := TX10) (N := 19) hx hb hts wX10_goHours_X10 hown hK.1 hP 0 rfl rfl 13 (by decide) (hts _ mX10_goHours_f86) (fun _ h9 => h9) rfl dX10_goHours_365 ?_
  refine lv_iconst (v := 1) hx hb dX10_goHours_368 (by decide) ?_
  refine lv_iadd hx hb dX10_goHours_369 ?_
  refine va_put (D := D) (ci := 9) (v := .int (t_acts + 1)) (ty := .int) (C := RX10) (T := TX10) (N := 19) hx hb hts wX10_goHours_X10 tyX10 tyX10_ok nmX10 hown hK.1 hP hD hS 0 rfl rfl 13 (by decide) (hts _ mX10_goHours_f86) (fun _ h9 => h9) rfl (by decide +kernel) rfl rfl (Nat.le_of_ble_eq_true rfl) dX10_goHours_370 (fun H locs hP hD hS => ?_)
  have hP : va_P D vwCl [(A_t, .inr (9, [.int t_there, .int t_awake, .ref A_t_count, .ref A_t_pace, .int t_house, .int t_sharp, .int t_sights, .ref A_t_sight, .int t_signs, .ref A_t_pad, .int t_up, .ref A_t_now, .int t_reason, .int (t_acts + 1), .int t_breaths, .int t_zeroAt, .int s0, .ref A_t_image, .ref A_t_isKept])), (A_t_count, .inl (ty.1, 8, .inl t_count)), (A_t_pace, .inl (ty.1, 8, .inl t_pace)), (A_t_sight, .inl (ty.1, 24, .inl t_sight)), (A_t_pad, .inl (ty.1, 60, .inl t_pad)), (A_t_now, .inl (ty.1, 8, .inl t_now)), (A_t_image, .inl (ty.1, 120, .inl t_image)), (A_t_isKept, .inl (ty.2.2.1, 2, .inl t_isKept))] H := hP
  have hD : va_D (va_A WC s.heap.size) [(A_t, .inr (9, [.int t_there, .int t_awake, .ref A_t_count, .ref A_t_pace, .int t_house, .int t_sharp, .int t_sights, .ref A_t_sight, .int t_signs, .ref A_t_pad, .int t_up, .ref A_t_now, .int t_reason, .int (t_acts + 1), .int t_breaths, .int t_zeroAt, .int s0, .ref A_t_image, .ref A_t_isKept])), (A_t_count, .inl (ty.1, 8, .inl t_count)), (A_t_pace, .inl (ty.1, 8, .inl t_pace)), (A_t_sight, .inl (ty.1, 24, .inl t_sight)), (A_t_pad, .inl (ty.1, 60, .inl t_pad)), (A_t_now, .inl (ty.1, 8, .inl t_now)), (A_t_image, .inl (ty.1, 120, .inl t_image)), (A_t_isKept, .inl (ty.2.2.1, 2, .inl t_isKept))] := hD
  refine lv_goto (tgt := 39) hx hb dX10_goHours_373 (by decide) ?_
  exact hk39 _ _ _ _ _ _ _ _ _ _ _ hP hD hS (lv_sub hl [0, 1] rfl) hf
def bX10_goHours_318 (k39 : Int32 × Int32 × Int32 × Int32 × Int32 × Int32 × Int32 × (Nat → Int32) → Option (Int32 × Int32 × Int32 × Int32 × Int32 × Int32 × Int32 × (Nat → Int32))) (t_sharp : Int32) (v1 : Int32) (t_up : Int32) (t_reason : Int32) (t_acts : Int32) (t_breaths : Int32) (t_zeroAt : Int32) (t_noticedAt : Int32) (t_now : Nat → Int32) : Option (Int32 × Int32 × Int32 × Int32 × Int32 × Int32 × Int32 × (Nat → Int32)) :=
  if t_reason ≤ 0 then if 0 ≤ t_noticedAt then bX10_goHours_360 k39 v1 t_noticedAt t_up t_reason t_acts t_breaths t_zeroAt t_noticedAt t_now else (fX10_spread t_up t_now).bind fun r339 => if r339 ≤ t_sharp then bX10_goHours_360 k39 v1 t_noticedAt t_up t_reason t_acts t_breaths t_zeroAt t_noticedAt t_now else bX10_goHours_360 k39 v1 t_acts t_up t_reason t_acts t_breaths t_zeroAt t_noticedAt t_now else some (t_acts, t_up, t_reason, t_acts, t_breaths, t_zeroAt, t_noticedAt, t_now)
set_option maxRecDepth 100000 in
set_option maxHeartbeats 4000000 in
theorem BX10_goHours_318 {p : Program} {l : Launch} {e : Env} {s : State} {m : MethodId} {below : List Frame} {meth : Method} {c : Code} {D : va_G} {ty : TY} {A_t A_t_count A_t_pace A_t_sight A_t_pad A_t_now A_t_image A_t_isKept : Nat} {t_there : Int32} {t_awake : Int32} {t_house : Int32} {t_sharp : Int32} {t_sights : Int32} {t_signs : Int32} {t_count : Nat → Int32} {t_pace : Nat → Int32} {t_sight : Nat → Int32} {t_pad : Nat → Int32} {t_image : Nat → Int32} {t_isKept : Nat → Int32} {q0 : Int32 × Int32 × Int32 × Int32 × Int32 × Int32 × Int32 × (Nat → Int32)} {WC : va_W} (C : cx p s m [.ref A_t] meth c cX10_goHours 5 (some .int) RX10 wsX10_goHours) (hK : KK D ty s) {k39 : Int32 × Int32 × Int32 × Int32 × Int32 × Int32 × Int32 × (Nat → Int32) → Option (Int32 × Int32 × Int32 × Int32 × Int32 × Int32 × Int32 × (Nat → Int32))} (hk39 : ∀ (v1 : Int32) (t_up : Int32) (t_reason : Int32) (t_acts : Int32) (t_breaths : Int32) (t_zeroAt : Int32) (t_noticedAt : Int32) (t_now : Nat → Int32) (H : Heap) (locs : List Loc) (ls : Array Slot), va_P D vwCl [(A_t, .inr (9, [.int t_there, .int t_awake, .ref A_t_count, .ref A_t_pace, .int t_house, .int t_sharp, .int t_sights, .ref A_t_sight, .int t_signs, .ref A_t_pad, .int t_up, .ref A_t_now, .int t_reason, .int t_acts, .int t_breaths, .int t_zeroAt, .int t_noticedAt, .ref A_t_image, .ref A_t_isKept])), (A_t_count, .inl (ty.1, 8, .inl t_count)), (A_t_pace, .inl (ty.1, 8, .inl t_pace)), (A_t_sight, .inl (ty.1, 24, .inl t_sight)), (A_t_pad, .inl (ty.1, 60, .inl t_pad)), (A_t_now, .inl (ty.1, 8, .inl t_now)), (A_t_image, .inl (ty.1, 120, .inl t_image)), (A_t_isKept, .inl (ty.2.2.1, 2, .inl t_isKept))] H → va_D (va_A WC s.heap.size) [(A_t, .inr (9, [.int t_there, .int t_awake, .ref A_t_count, .ref A_t_pace, .int t_house, .int t_sharp, .int t_sights, .ref A_t_sight, .int t_signs, .ref A_t_pad, .int t_up, .ref A_t_now, .int t_reason, .int t_acts, .int t_breaths, .int t_zeroAt, .int t_noticedAt, .ref A_t_image, .ref A_t_isKept])), (A_t_count, .inl (ty.1, 8, .inl t_count)), (A_t_pace, .inl (ty.1, 8, .inl t_pace)), (A_t_sight, .inl (ty.1, 24, .inl t_sight)), (A_t_pad, .inl (ty.1, 60, .inl t_pad)), (A_t_now, .inl (ty.1, 8, .inl t_now)), (A_t_image, .inl (ty.1, 120, .inl t_image)), (A_t_isKept, .inl (ty.2.2.1, 2, .inl t_isKept))] → va_S (va_A WC s.heap.size) s.heap H locs → lv_has ls 5 [(0, .ref A_t), (1, .int v1)] → k39 (v1, t_up, t_reason, t_acts, t_breaths, t_zeroAt, t_noticedAt, t_now) = some q0 → WWi p l e rmX10_goHours s m [.ref A_t] below meth c D WC [(A_t, .inr (9, [.int t_there, .int t_awake, .ref A_t_count, .ref A_t_pace, .int t_house, .int t_sharp, .int t_sights, .ref A_t_sight, .int t_signs, .ref A_t_pad, .int q0.2.1, .ref A_t_now, .int q0.2.2.1, .int q0.2.2.2.1, .int q0.2.2.2.2.1, .int q0.2.2.2.2.2.1, .int q0.2.2.2.2.2.2.1, .ref A_t_image, .ref A_t_isKept])), (A_t_count, .inl (ty.1, 8, .inl t_count)), (A_t_pace, .inl (ty.1, 8, .inl t_pace)), (A_t_sight, .inl (ty.1, 24, .inl t_sight)), (A_t_pad, .inl (ty.1, 60, .inl t_pad)), (A_t_now, .inl (ty.1, 8, .inl q0.2.2.2.2.2.2.2)), (A_t_image, .inl (ty.1, 120, .inl t_image)), (A_t_isKept, .inl (ty.2.2.1, 2, .inl t_isKept))] q0.1 H locs (F0 m 39 ls [])) {v1 : Int32} {t_up : Int32} {t_reason : Int32} {t_acts : Int32} {t_breaths : Int32} {t_zeroAt : Int32} {t_noticedAt : Int32} {t_now : Nat → Int32} {H : Heap} {locs : List Loc} {ls : Array Slot} (hP : va_P D vwCl [(A_t, .inr (9, [.int t_there, .int t_awake, .ref A_t_count, .ref A_t_pace, .int t_house, .int t_sharp, .int t_sights, .ref A_t_sight, .int t_signs, .ref A_t_pad, .int t_up, .ref A_t_now, .int t_reason, .int t_acts, .int t_breaths, .int t_zeroAt, .int t_noticedAt, .ref A_t_image, .ref A_t_isKept])), (A_t_count, .inl (ty.1, 8, .inl t_count)), (A_t_pace, .inl (ty.1, 8, .inl t_pace)), (A_t_sight, .inl (ty.1, 24, .inl t_sight)), (A_t_pad, .inl (ty.1, 60, .inl t_pad)), (A_t_now, .inl (ty.1, 8, .inl t_now)), (A_t_image, .inl (ty.1, 120, .inl t_image)), (A_t_isKept, .inl (ty.2.2.1, 2, .inl t_isKept))] H) (hD : va_D (va_A WC s.heap.size) [(A_t, .inr (9, [.int t_there, .int t_awake, .ref A_t_count, .ref A_t_pace, .int t_house, .int t_sharp, .int t_sights, .ref A_t_sight, .int t_signs, .ref A_t_pad, .int t_up, .ref A_t_now, .int t_reason, .int t_acts, .int t_breaths, .int t_zeroAt, .int t_noticedAt, .ref A_t_image, .ref A_t_isKept])), (A_t_count, .inl (ty.1, 8, .inl t_count)), (A_t_pace, .inl (ty.1, 8, .inl t_pace)), (A_t_sight, .inl (ty.1, 24, .inl t_sight)), (A_t_pad, .inl (ty.1, 60, .inl t_pad)), (A_t_now, .inl (ty.1, 8, .inl t_now)), (A_t_image, .inl (ty.1, 120, .inl t_image)), (A_t_isKept, .inl (ty.2.2.1, 2, .inl t_isKept))]) (hS : va_S (va_A WC s.heap.size) s.heap H locs) (hl : lv_has ls 5 [(0, .ref A_t), (1, .int v1)]) (hf : bX10_goHours_318 k39 t_sharp v1 t_up t_reason t_acts t_breaths t_zeroAt t_noticedAt t_now = some q0) : WWi p l e rmX10_goHours s m [.ref A_t] below meth c D WC [(A_t, .inr (9, [.int t_there, .int t_awake, .ref A_t_count, .ref A_t_pace, .int t_house, .int t_sharp, .int t_sights, .ref A_t_sight, .int t_signs, .ref A_t_pad, .int q0.2.1, .ref A_t_now, .int q0.2.2.1, .int q0.2.2.2.1, .int q0.2.2.2.2.1, .int q0.2.2.2.2.2.1, .int q0.2.2.2.2.2.2.1, .ref A_t_image, .ref A_t_isKept])), (A_t_count, .inl (ty.1, 8, .inl t_count)), (A_t_pace, .inl (ty.1, 8, .inl t_pace)), (A_t_sight, .inl (ty.1, 24, .inl t_sight)), (A_t_pad, .inl (ty.1, 60, .inl t_pad)), (A_t_now, .inl (ty.1, 8, .inl q0.2.2.2.2.2.2.2)), (A_t_image, .inl (ty.1, 120, .inl t_image)), (A_t_isKept, .inl (ty.2.2.1, 2, .inl t_isKept))] q0.1 H locs (F0 m 318 ls []) := by
  obtain ⟨hx, hb, hr, hml, hown, hts, hlocks⟩ := id C
  unfold bX10_goHours_318 at hf
  refine lv_aload_n hx hb dX10_goHours_318 rfl (lv_at hl 0 rfl) ?_
  refine va_get (D := D) (ci := 9) (v := .int t_reason) (C := RX10) (T := TX10) (N := 19) hx hb hts wX10_goHours_X10 hown hK.1 hP 0 rfl rfl 12 (by decide) (hts _ mX10_goHours_f102) (fun _ h9 => h9) rfl dX10_goHours_319 ?_
  refine lv_if_le (tgt := 330) hx hb dX10_goHours_322 (by decide) (fun hc => ?_) (fun hc => ?_)
  · have hf := ft hf hc
    refine lv_aload_n hx hb dX10_goHours_330 rfl (lv_at hl 0 rfl) ?_
    refine lv_aload_n hx hb dX10_goHours_331 rfl (lv_at hl 0 rfl) ?_
    refine va_get (D := D) (ci := 9) (v := .int t_noticedAt) (C := RX10) (T := TX10) (N := 19) hx hb hts wX10_goHours_X10 hown hK.1 hP 0 rfl rfl 16 (by decide) (hts _ mX10_goHours_f99) (fun _ h9 => h9) rfl dX10_goHours_332 ?_
    refine lv_if_ge (tgt := 356) hx hb dX10_goHours_335 (by decide) (fun hc => ?_) (fun hc => ?_)
    · have hf := ft hf hc
      refine lv_aload_n hx hb dX10_goHours_356 rfl (lv_at hl 0 rfl) ?_
      refine va_get (D := D) (ci := 9) (v := .int t_noticedAt) (C := RX10) (T := TX10) (N := 19) hx hb hts wX10_goHours_X10 hown hK.1 hP 0 rfl rfl 16 (by decide) (hts _ mX10_goHours_f99) (fun _ h9 => h9) rfl dX10_goHours_357 ?_
      exact BX10_goHours_360 C hK hk39 hP hD hS (lv_sub hl [0, 1] rfl) hf
    · have hf := ff hf hc
      refine lv_aload_n hx hb dX10_goHours_338 rfl (lv_at hl 0 rfl) ?_
      obtain ⟨r339, hr339, hf⟩ := bnd hf
      refine callV_ri (As := []) (rest := [.ref A_t]) ⟨hx, hb, hml, hown, hts⟩ (CX10_spread l hr339) (cwV 0 hts gX10_goHours_X10_spread rfl rfl rfl kkX10_spread ⟨Nat.le_of_ble_eq_true rfl, Nat.le_of_ble_eq_true rfl⟩) hK hP 0 rfl rfl rfl hl.1 rfl (Nat.le_of_ble_eq_true rfl) dX10_goHours_339 ⟨Nat.zero_le _, Nat.zero_le _⟩ ?_
      refine lv_aload_n hx hb dX10_goHours_342 rfl (lv_at hl 0 rfl) ?_
      refine va_get (D := D) (ci := 9) (v := .int t_sharp) (C := RX10) (T := TX10) (N := 19) hx hb hts wX10_goHours_X10 hown hK.1 hP 0 rfl rfl 5 (by decide) (hts _ mX10_goHours_f21) (fun _ h9 => h9) rfl dX10_goHours_343 ?_
      refine lv_icmp_le (tgt := 356) hx hb dX10_goHours_346 (by decide) (fun hc => ?_) (fun hc => ?_)
      · have hf := ft hf hc
        refine lv_aload_n hx hb dX10_goHours_356 rfl (lv_at hl 0 rfl) ?_
        refine va_get (D := D) (ci := 9) (v := .int t_noticedAt) (C := RX10) (T := TX10) (N := 19) hx hb hts wX10_goHours_X10 hown hK.1 hP 0 rfl rfl 16 (by decide) (hts _ mX10_goHours_f99) (fun _ h9 => h9) rfl dX10_goHours_357 ?_
        exact BX10_goHours_360 C hK hk39 hP hD hS (lv_sub hl [0, 1] rfl) hf
      · have hf := ff hf hc
        refine lv_aload_n hx hb dX10_goHours_349 rfl (lv_at hl 0 rfl) ?_
        refine va_get (D := D) (ci := 9) (v := .int t_acts) (C := RX10) (T := TX10) (N := 19) hx hb hts wX10_goHours_X10 hown hK.1 hP 0 rfl rfl 13 (by decide) (hts _ mX10_goHours_f86) (fun _ h9 => h9) rfl dX10_goHours_350 ?_
        refine lv_goto (tgt := 360) hx hb dX10_goHours_353 (by decide) ?_
        exact BX10_goHours_360 C hK hk39 hP hD hS (lv_sub hl [0, 1] rfl) hf
  · have hf := ff hf hc
    refine lv_aload_n hx hb dX10_goHours_325 rfl (lv_at hl 0 rfl) ?_
    refine va_get (D := D) (ci := 9) (v := .int t_acts) (C := RX10) (T := TX10) (N := 19) hx hb hts wX10_goHours_X10 hown hK.1 hP 0 rfl rfl 13 (by decide) (hts _ mX10_goHours_f86) (fun _ h9 => h9) rfl dX10_goHours_326 ?_
    cases hf
    exact ret_wi hx hb hr hlocks hP hD hS dX10_goHours_329
def bX10_goHours_289 (k39 : Int32 × Int32 × Int32 × Int32 × Int32 × Int32 × Int32 × (Nat → Int32) → Option (Int32 × Int32 × Int32 × Int32 × Int32 × Int32 × Int32 × (Nat → Int32))) (t_house : Int32) (t_sharp : Int32) (v1 : Int32) (v2 : Int32) (t_up : Int32) (t_reason : Int32) (t_acts : Int32) (t_breaths : Int32) (t_zeroAt : Int32) (t_noticedAt : Int32) (t_now : Nat → Int32) : Option (Int32 × Int32 × Int32 × Int32 × Int32 × Int32 × Int32 × (Nat → Int32)) :=
  if t_reason = 0 then if v2 = 42 then (fX10_first t_up t_now).bind fun r307 => gIn r307 8 (bX10_goHours_318 k39 t_sharp (v1 + 1) t_up t_reason t_acts t_breaths t_zeroAt t_noticedAt (upd t_now (r307 : Int32).toNatClampNeg t_house)) else bX10_goHours_318 k39 t_sharp (v1 + 1) t_up t_reason t_acts t_breaths t_zeroAt t_noticedAt t_now else bX10_goHours_318 k39 t_sharp (v1 + 1) t_up t_reason t_acts t_breaths t_zeroAt t_noticedAt t_now
set_option maxRecDepth 100000 in
set_option maxHeartbeats 4000000 in
theorem BX10_goHours_289 {p : Program} {l : Launch} {e : Env} {s : State} {m : MethodId} {below : List Frame} {meth : Method} {c : Code} {D : va_G} {ty : TY} {A_t A_t_count A_t_pace A_t_sight A_t_pad A_t_now A_t_image A_t_isKept : Nat} {t_there : Int32} {t_awake : Int32} {t_house : Int32} {t_sharp : Int32} {t_sights : Int32} {t_signs : Int32} {t_count : Nat → Int32} {t_pace : Nat → Int32} {t_sight : Nat → Int32} {t_pad : Nat → Int32} {t_image : Nat → Int32} {t_isKept : Nat → Int32} {q0 : Int32 × Int32 × Int32 × Int32 × Int32 × Int32 × Int32 × (Nat → Int32)} {WC : va_W} (C : cx p s m [.ref A_t] meth c cX10_goHours 5 (some .int) RX10 wsX10_goHours) (hK : KK D ty s) {k39 : Int32 × Int32 × Int32 × Int32 × Int32 × Int32 × Int32 × (Nat → Int32) → Option (Int32 × Int32 × Int32 × Int32 × Int32 × Int32 × Int32 × (Nat → Int32))} (hk39 : ∀ (v1 : Int32) (t_up : Int32) (t_reason : Int32) (t_acts : Int32) (t_breaths : Int32) (t_zeroAt : Int32) (t_noticedAt : Int32) (t_now : Nat → Int32) (H : Heap) (locs : List Loc) (ls : Array Slot), va_P D vwCl [(A_t, .inr (9, [.int t_there, .int t_awake, .ref A_t_count, .ref A_t_pace, .int t_house, .int t_sharp, .int t_sights, .ref A_t_sight, .int t_signs, .ref A_t_pad, .int t_up, .ref A_t_now, .int t_reason, .int t_acts, .int t_breaths, .int t_zeroAt, .int t_noticedAt, .ref A_t_image, .ref A_t_isKept])), (A_t_count, .inl (ty.1, 8, .inl t_count)), (A_t_pace, .inl (ty.1, 8, .inl t_pace)), (A_t_sight, .inl (ty.1, 24, .inl t_sight)), (A_t_pad, .inl (ty.1, 60, .inl t_pad)), (A_t_now, .inl (ty.1, 8, .inl t_now)), (A_t_image, .inl (ty.1, 120, .inl t_image)), (A_t_isKept, .inl (ty.2.2.1, 2, .inl t_isKept))] H → va_D (va_A WC s.heap.size) [(A_t, .inr (9, [.int t_there, .int t_awake, .ref A_t_count, .ref A_t_pace, .int t_house, .int t_sharp, .int t_sights, .ref A_t_sight, .int t_signs, .ref A_t_pad, .int t_up, .ref A_t_now, .int t_reason, .int t_acts, .int t_breaths, .int t_zeroAt, .int t_noticedAt, .ref A_t_image, .ref A_t_isKept])), (A_t_count, .inl (ty.1, 8, .inl t_count)), (A_t_pace, .inl (ty.1, 8, .inl t_pace)), (A_t_sight, .inl (ty.1, 24, .inl t_sight)), (A_t_pad, .inl (ty.1, 60, .inl t_pad)), (A_t_now, .inl (ty.1, 8, .inl t_now)), (A_t_image, .inl (ty.1, 120, .inl t_image)), (A_t_isKept, .inl (ty.2.2.1, 2, .inl t_isKept))] → va_S (va_A WC s.heap.size) s.heap H locs → lv_has ls 5 [(0, .ref A_t), (1, .int v1)] → k39 (v1, t_up, t_reason, t_acts, t_breaths, t_zeroAt, t_noticedAt, t_now) = some q0 → WWi p l e rmX10_goHours s m [.ref A_t] below meth c D WC [(A_t, .inr (9, [.int t_there, .int t_awake, .ref A_t_count, .ref A_t_pace, .int t_house, .int t_sharp, .int t_sights, .ref A_t_sight, .int t_signs, .ref A_t_pad, .int q0.2.1, .ref A_t_now, .int q0.2.2.1, .int q0.2.2.2.1, .int q0.2.2.2.2.1, .int q0.2.2.2.2.2.1, .int q0.2.2.2.2.2.2.1, .ref A_t_image, .ref A_t_isKept])), (A_t_count, .inl (ty.1, 8, .inl t_count)), (A_t_pace, .inl (ty.1, 8, .inl t_pace)), (A_t_sight, .inl (ty.1, 24, .inl t_sight)), (A_t_pad, .inl (ty.1, 60, .inl t_pad)), (A_t_now, .inl (ty.1, 8, .inl q0.2.2.2.2.2.2.2)), (A_t_image, .inl (ty.1, 120, .inl t_image)), (A_t_isKept, .inl (ty.2.2.1, 2, .inl t_isKept))] q0.1 H locs (F0 m 39 ls [])) {v1 : Int32} {v2 : Int32} {t_up : Int32} {t_reason : Int32} {t_acts : Int32} {t_breaths : Int32} {t_zeroAt : Int32} {t_noticedAt : Int32} {t_now : Nat → Int32} {H : Heap} {locs : List Loc} {ls : Array Slot} (hP : va_P D vwCl [(A_t, .inr (9, [.int t_there, .int t_awake, .ref A_t_count, .ref A_t_pace, .int t_house, .int t_sharp, .int t_sights, .ref A_t_sight, .int t_signs, .ref A_t_pad, .int t_up, .ref A_t_now, .int t_reason, .int t_acts, .int t_breaths, .int t_zeroAt, .int t_noticedAt, .ref A_t_image, .ref A_t_isKept])), (A_t_count, .inl (ty.1, 8, .inl t_count)), (A_t_pace, .inl (ty.1, 8, .inl t_pace)), (A_t_sight, .inl (ty.1, 24, .inl t_sight)), (A_t_pad, .inl (ty.1, 60, .inl t_pad)), (A_t_now, .inl (ty.1, 8, .inl t_now)), (A_t_image, .inl (ty.1, 120, .inl t_image)), (A_t_isKept, .inl (ty.2.2.1, 2, .inl t_isKept))] H) (hD : va_D (va_A WC s.heap.size) [(A_t, .inr (9, [.int t_there, .int t_awake, .ref A_t_count, .ref A_t_pace, .int t_house, .int t_sharp, .int t_sights, .ref A_t_sight, .int t_signs, .ref A_t_pad, .int t_up, .ref A_t_now, .int t_reason, .int t_acts, .int t_breaths, .int t_zeroAt, .int t_noticedAt, .ref A_t_image, .ref A_t_isKept])), (A_t_count, .inl (ty.1, 8, .inl t_count)), (A_t_pace, .inl (ty.1, 8, .inl t_pace)), (A_t_sight, .inl (ty.1, 24, .inl t_sight)), (A_t_pad, .inl (ty.1, 60, .inl t_pad)), (A_t_now, .inl (ty.1, 8, .inl t_now)), (A_t_image, .inl (ty.1, 120, .inl t_image)), (A_t_isKept, .inl (ty.2.2.1, 2, .inl t_isKept))]) (hS : va_S (va_A WC s.heap.size) s.heap H locs) (hl : lv_has ls 5 [(0, .ref A_t), (1, .int v1), (2, .int v2)]) (hf : bX10_goHours_289 k39 t_house t_sharp v1 v2 t_up t_reason t_acts t_breaths t_zeroAt t_noticedAt t_now = some q0) : WWi p l e rmX10_goHours s m [.ref A_t] below meth c D WC [(A_t, .inr (9, [.int t_there, .int t_awake, .ref A_t_count, .ref A_t_pace, .int t_house, .int t_sharp, .int t_sights, .ref A_t_sight, .int t_signs, .ref A_t_pad, .int q0.2.1, .ref A_t_now, .int q0.2.2.1, .int q0.2.2.2.1, .int q0.2.2.2.2.1, .int q0.2.2.2.2.2.1, .int q0.2.2.2.2.2.2.1, .ref A_t_image, .ref A_t_isKept])), (A_t_count, .inl (ty.1, 8, .inl t_count)), (A_t_pace, .inl (ty.1, 8, .inl t_pace)), (A_t_sight, .inl (ty.1, 24, .inl t_sight)), (A_t_pad, .inl (ty.1, 60, .inl t_pad)), (A_t_now, .inl (ty.1, 8, .inl q0.2.2.2.2.2.2.2)), (A_t_image, .inl (ty.1, 120, .inl t_image)), (A_t_isKept, .inl (ty.2.2.1, 2, .inl t_isKept))] q0.1 H locs (F0 m 289 ls []) := by
  obtain ⟨hx, hb, hr, hml, hown, hts, hlocks⟩ := id C
  unfold bX10_goHours_289 at hf
  refine lv_aload_n hx hb dX10_goHours_289 rfl (lv_at hl 0 rfl) ?_
  refine va_get (D := D) (ci := 9) (v := .int t_reason) (C := RX10) (T := TX10) (N := 19) hx hb hts wX10_goHours_X10 hown hK.1 hP 0 rfl rfl 12 (by decide) (hts _ mX10_goHours_f102) (fun _ h9 => h9) rfl dX10_goHours_290 ?_
  refine lv_if_ne (tgt := 315) hx hb dX10_goHours_293 (by decide) (fun hc => ?_) (fun hc => ?_)
  · have hf := ff hf hc
    refine lv_iinc (v := v1 + 1) (lv' := [(1, .int (v1 + 1)), (0, .ref A_t), (2, .int v2)]) hx hb dX10_goHours_315 hl (k := 1) rfl rfl (by decide) rfl (fun ls hl => ?_)
    exact BX10_goHours_318 C hK hk39 hP hD hS (lv_sub hl [1, 0] rfl) hf
  · have hf := ft hf hc
    refine lv_iload_n hx hb dX10_goHours_296 rfl (lv_at hl 2 rfl) ?_
    refine lv_bipush (v := 42) hx hb dX10_goHours_297 (by decide) ?_
    refine lv_icmp_ne (tgt := 315) hx hb dX10_goHours_299 (by decide) (fun hc => ?_) (fun hc => ?_)
    · have hf := ff hf hc
      refine lv_iinc (v := v1 + 1) (lv' := [(1, .int (v1 + 1)), (0, .ref A_t), (2, .int v2)]) hx hb dX10_goHours_315 hl (k := 1) rfl rfl (by decide) rfl (fun ls hl => ?_)
      exact BX10_goHours_318 C hK hk39 hP hD hS (lv_sub hl [1, 0] rfl) hf
    · have hf := ft hf hc
      refine lv_aload_n hx hb dX10_goHours_302 rfl (lv_at hl 0 rfl) ?_
      refine va_get (D := D) (ci := 9) (v := .ref A_t_now) (C := RX10) (T := TX10) (N := 19) hx hb hts wX10_goHours_X10 hown hK.1 hP 0 rfl rfl 11 (by decide) (hts _ mX10_goHours_f30) (fun _ h9 => h9) rfl dX10_goHours_303 ?_
      refine lv_aload_n hx hb dX10_goHours_306 rfl (lv_at hl 0 rfl) ?_
      obtain ⟨r307, hr307, hf⟩ := bnd hf
      refine callV_ri (As := []) (rest := [.ref A_t_now]) ⟨hx, hb, hml, hown, hts⟩ (CX10_first l hr307) (cwV 0 hts gX10_goHours_X10_first rfl rfl rfl kkX10_first ⟨Nat.le_of_ble_eq_true rfl, Nat.le_of_ble_eq_true rfl⟩) hK hP 0 rfl rfl rfl hl.1 rfl (Nat.le_of_ble_eq_true rfl) dX10_goHours_307 ⟨Nat.zero_le _, Nat.zero_le _⟩ ?_
      refine lv_aload_n hx hb dX10_goHours_310 rfl (lv_at hl 0 rfl) ?_
      refine va_get (D := D) (ci := 9) (v := .int t_house) (C := RX10) (T := TX10) (N := 19) hx hb hts wX10_goHours_X10 hown hK.1 hP 0 rfl rfl 4 (by decide) (hts _ mX10_goHours_f17) (fun _ h9 => h9) rfl dX10_goHours_311 ?_
      obtain ⟨hin, hf⟩ := gIn_some hf
      refine va_iast hx hb hK.1 hP hD hS 5 0 rfl rfl hin dX10_goHours_314 (fun H locs hP hD hS => ?_)
      have hP : va_P D vwCl [(A_t, .inr (9, [.int t_there, .int t_awake, .ref A_t_count, .ref A_t_pace, .int t_house, .int t_sharp, .int t_sights, .ref A_t_sight, .int t_signs, .ref A_t_pad, .int t_up, .ref A_t_now, .int t_reason, .int t_acts, .int t_breaths, .int t_zeroAt, .int t_noticedAt, .ref A_t_image, .ref A_t_isKept])), (A_t_count, .inl (ty.1, 8, .inl t_count)), (A_t_pace, .inl (ty.1, 8, .inl t_pace)), (A_t_sight, .inl (ty.1, 24, .inl t_sight)), (A_t_pad, .inl (ty.1, 60, .inl t_pad)), (A_t_now, .inl (ty.1, 8, .inl (upd t_now (r307 : Int32).toNatClampNeg t_house))), (A_t_image, .inl (ty.1, 120, .inl t_image)), (A_t_isKept, .inl (ty.2.2.1, 2, .inl t_isKept))] H := hP
      have hD : va_D (va_A WC s.heap.size) [(A_t, .inr (9, [.int t_there, .int t_awake, .ref A_t_count, .ref A_t_pace, .int t_house, .int t_sharp, .int t_sights, .ref A_t_sight, .int t_signs, .ref A_t_pad, .int t_up, .ref A_t_now, .int t_reason, .int t_acts, .int t_breaths, .int t_zeroAt, .int t_noticedAt, .ref A_t_image, .ref A_t_isKept])), (A_t_count, .inl (ty.1, 8, .inl t_count)), (A_t_pace, .inl (ty.1, 8, .inl t_pace)), (A_t_sight, .inl (ty.1, 24, .inl t_sight)), (A_t_pad, .inl (ty.1, 60, .inl t_pad)), (A_t_now, .inl (ty.1, 8, .inl (upd t_now (r307 : Int32).toNatClampNeg t_house))), (A_t_image, .inl (ty.1, 120, .inl t_image)), (A_t_isKept, .inl (ty.2.2.1, 2, .inl t_isKept))] := hD
      refine lv_iinc (v := v1 + 1) (lv' := [(1, .int (v1 + 1)), (0, .ref A_t), (2, .int v2)]) hx hb dX10_goHours_315 hl (k := 1) rfl rfl (by decide) rfl (fun ls hl => ?_)
      exact BX10_goHours_318 C hK hk39 hP hD hS (lv_sub hl [1, 0] rfl) hf
def bX10_goHours_256 (k39 : Int32 × Int32 × Int32 × Int32 × Int32 × Int32 × Int32 × (Nat → Int32) → Option (Int32 × Int32 × Int32 × Int32 × Int32 × Int32 × Int32 × (Nat → Int32))) (k214 : Int32 × Int32 × Int32 × Int32 × Int32 × Int32 × Int32 × Int32 × Int32 × Int32 × (Nat → Int32) → Option (Int32 × Int32 × Int32 × Int32 × Int32 × Int32 × Int32 × (Nat → Int32))) (v1 : Int32) (v2 : Int32) (v3 : Int32) (v4 : Int32) (t_up : Int32) (t_reason : Int32) (t_acts : Int32) (t_breaths : Int32) (t_zeroAt : Int32) (t_noticedAt : Int32) (t_now : Nat → Int32) : Option (Int32 × Int32 × Int32 × Int32 × Int32 × Int32 × Int32 × (Nat → Int32)) :=
  k214 (v1, v2, v3, v4 + 1, t_up, t_reason, t_acts, t_breaths, t_zeroAt, t_noticedAt, t_now)
set_option maxRecDepth 100000 in
set_option maxHeartbeats 4000000 in
theorem BX10_goHours_256 {p : Program} {l : Launch} {e : Env} {s : State} {m : MethodId} {below : List Frame} {meth : Method} {c : Code} {D : va_G} {ty : TY} {A_t A_t_count A_t_pace A_t_sight A_t_pad A_t_now A_t_image A_t_isKept : Nat} {t_there : Int32} {t_awake : Int32} {t_house : Int32} {t_sharp : Int32} {t_sights : Int32} {t_signs : Int32} {t_count : Nat → Int32} {t_pace : Nat → Int32} {t_sight : Nat → Int32} {t_pad : Nat → Int32} {t_image : Nat → Int32} {t_isKept : Nat → Int32} {q0 : Int32 × Int32 × Int32 × Int32 × Int32 × Int32 × Int32 × (Nat → Int32)} {WC : va_W} (C : cx p s m [.ref A_t] meth c cX10_goHours 5 (some .int) RX10 wsX10_goHours) (hK : KK D ty s) {k39 : Int32 × Int32 × Int32 × Int32 × Int32 × Int32 × Int32 × (Nat → Int32) → Option (Int32 × Int32 × Int32 × Int32 × Int32 × Int32 × Int32 × (Nat → Int32))} {k214 : Int32 × Int32 × Int32 × Int32 × Int32 × Int32 × Int32 × Int32 × Int32 × Int32 × (Nat → Int32) → Option (Int32 × Int32 × Int32 × Int32 × Int32 × Int32 × Int32 × (Nat → Int32))} (hk39 : ∀ (v1 : Int32) (t_up : Int32) (t_reason : Int32) (t_acts : Int32) (t_breaths : Int32) (t_zeroAt : Int32) (t_noticedAt : Int32) (t_now : Nat → Int32) (H : Heap) (locs : List Loc) (ls : Array Slot), va_P D vwCl [(A_t, .inr (9, [.int t_there, .int t_awake, .ref A_t_count, .ref A_t_pace, .int t_house, .int t_sharp, .int t_sights, .ref A_t_sight, .int t_signs, .ref A_t_pad, .int t_up, .ref A_t_now, .int t_reason, .int t_acts, .int t_breaths, .int t_zeroAt, .int t_noticedAt, .ref A_t_image, .ref A_t_isKept])), (A_t_count, .inl (ty.1, 8, .inl t_count)), (A_t_pace, .inl (ty.1, 8, .inl t_pace)), (A_t_sight, .inl (ty.1, 24, .inl t_sight)), (A_t_pad, .inl (ty.1, 60, .inl t_pad)), (A_t_now, .inl (ty.1, 8, .inl t_now)), (A_t_image, .inl (ty.1, 120, .inl t_image)), (A_t_isKept, .inl (ty.2.2.1, 2, .inl t_isKept))] H → va_D (va_A WC s.heap.size) [(A_t, .inr (9, [.int t_there, .int t_awake, .ref A_t_count, .ref A_t_pace, .int t_house, .int t_sharp, .int t_sights, .ref A_t_sight, .int t_signs, .ref A_t_pad, .int t_up, .ref A_t_now, .int t_reason, .int t_acts, .int t_breaths, .int t_zeroAt, .int t_noticedAt, .ref A_t_image, .ref A_t_isKept])), (A_t_count, .inl (ty.1, 8, .inl t_count)), (A_t_pace, .inl (ty.1, 8, .inl t_pace)), (A_t_sight, .inl (ty.1, 24, .inl t_sight)), (A_t_pad, .inl (ty.1, 60, .inl t_pad)), (A_t_now, .inl (ty.1, 8, .inl t_now)), (A_t_image, .inl (ty.1, 120, .inl t_image)), (A_t_isKept, .inl (ty.2.2.1, 2, .inl t_isKept))] → va_S (va_A WC s.heap.size) s.heap H locs → lv_has ls 5 [(0, .ref A_t), (1, .int v1)] → k39 (v1, t_up, t_reason, t_acts, t_breaths, t_zeroAt, t_noticedAt, t_now) = some q0 → WWi p l e rmX10_goHours s m [.ref A_t] below meth c D WC [(A_t, .inr (9, [.int t_there, .int t_awake, .ref A_t_count, .ref A_t_pace, .int t_house, .int t_sharp, .int t_sights, .ref A_t_sight, .int t_signs, .ref A_t_pad, .int q0.2.1, .ref A_t_now, .int q0.2.2.1, .int q0.2.2.2.1, .int q0.2.2.2.2.1, .int q0.2.2.2.2.2.1, .int q0.2.2.2.2.2.2.1, .ref A_t_image, .ref A_t_isKept])), (A_t_count, .inl (ty.1, 8, .inl t_count)), (A_t_pace, .inl (ty.1, 8, .inl t_pace)), (A_t_sight, .inl (ty.1, 24, .inl t_sight)), (A_t_pad, .inl (ty.1, 60, .inl t_pad)), (A_t_now, .inl (ty.1, 8, .inl q0.2.2.2.2.2.2.2)), (A_t_image, .inl (ty.1, 120, .inl t_image)), (A_t_isKept, .inl (ty.2.2.1, 2, .inl t_isKept))] q0.1 H locs (F0 m 39 ls [])) (hk214 : ∀ (v1 : Int32) (v2 : Int32) (v3 : Int32) (v4 : Int32) (t_up : Int32) (t_reason : Int32) (t_acts : Int32) (t_breaths : Int32) (t_zeroAt : Int32) (t_noticedAt : Int32) (t_now : Nat → Int32) (H : Heap) (locs : List Loc) (ls : Array Slot), va_P D vwCl [(A_t, .inr (9, [.int t_there, .int t_awake, .ref A_t_count, .ref A_t_pace, .int t_house, .int t_sharp, .int t_sights, .ref A_t_sight, .int t_signs, .ref A_t_pad, .int t_up, .ref A_t_now, .int t_reason, .int t_acts, .int t_breaths, .int t_zeroAt, .int t_noticedAt, .ref A_t_image, .ref A_t_isKept])), (A_t_count, .inl (ty.1, 8, .inl t_count)), (A_t_pace, .inl (ty.1, 8, .inl t_pace)), (A_t_sight, .inl (ty.1, 24, .inl t_sight)), (A_t_pad, .inl (ty.1, 60, .inl t_pad)), (A_t_now, .inl (ty.1, 8, .inl t_now)), (A_t_image, .inl (ty.1, 120, .inl t_image)), (A_t_isKept, .inl (ty.2.2.1, 2, .inl t_isKept))] H → va_D (va_A WC s.heap.size) [(A_t, .inr (9, [.int t_there, .int t_awake, .ref A_t_count, .ref A_t_pace, .int t_house, .int t_sharp, .int t_sights, .ref A_t_sight, .int t_signs, .ref A_t_pad, .int t_up, .ref A_t_now, .int t_reason, .int t_acts, .int t_breaths, .int t_zeroAt, .int t_noticedAt, .ref A_t_image, .ref A_t_isKept])), (A_t_count, .inl (ty.1, 8, .inl t_count)), (A_t_pace, .inl (ty.1, 8, .inl t_pace)), (A_t_sight, .inl (ty.1, 24, .inl t_sight)), (A_t_pad, .inl (ty.1, 60, .inl t_pad)), (A_t_now, .inl (ty.1, 8, .inl t_now)), (A_t_image, .inl (ty.1, 120, .inl t_image)), (A_t_isKept, .inl (ty.2.2.1, 2, .inl t_isKept))] → va_S (va_A WC s.heap.size) s.heap H locs → lv_has ls 5 [(0, .ref A_t), (1, .int v1), (2, .int v2), (3, .int v3), (4, .int v4)] → k214 (v1, v2, v3, v4, t_up, t_reason, t_acts, t_breaths, t_zeroAt, t_noticedAt, t_now) = some q0 → WWi p l e rmX10_goHours s m [.ref A_t] below meth c D WC [(A_t, .inr (9, [.int t_there, .int t_awake, .ref A_t_count, .ref A_t_pace, .int t_house, .int t_sharp, .int t_sights, .ref A_t_sight, .int t_signs, .ref A_t_pad, .int q0.2.1, .ref A_t_now, .int q0.2.2.1, .int q0.2.2.2.1, .int q0.2.2.2.2.1, .int q0.2.2.2.2.2.1, .int q0.2.2.2.2.2.2.1, .ref A_t_image, .ref A_t_isKept])), (A_t_count, .inl (ty.1, 8, .inl t_count)), (A_t_pace, .inl (ty.1, 8, .inl t_pace)), (A_t_sight, .inl (ty.1, 24, .inl t_sight)), (A_t_pad, .inl (ty.1, 60, .inl t_pad)), (A_t_now, .inl (ty.1, 8, .inl q0.2.2.2.2.2.2.2)), (A_t_image, .inl (ty.1, 120, .inl t_image)), (A_t_isKept, .inl (ty.2.2.1, 2, .inl t_isKept))] q0.1 H locs (F0 m 214 ls [])) {v1 : Int32} {v2 : Int32} {v3 : Int32} {v4 : Int32} {t_up : Int32} {t_reason : Int32} {t_acts : Int32} {t_breaths : Int32} {t_zeroAt : Int32} {t_noticedAt : Int32} {t_now : Nat → Int32} {H : Heap} {locs : List Loc} {ls : Array Slot} (hP : va_P D vwCl [(A_t, .inr (9, [.int t_there, .int t_awake, .ref A_t_count, .ref A_t_pace, .int t_house, .int t_sharp, .int t_sights, .ref A_t_sight, .int t_signs, .ref A_t_pad, .int t_up, .ref A_t_now, .int t_reason, .int t_acts, .int t_breaths, .int t_zeroAt, .int t_noticedAt, .ref A_t_image, .ref A_t_isKept])), (A_t_count, .inl (ty.1, 8, .inl t_count)), (A_t_pace, .inl (ty.1, 8, .inl t_pace)), (A_t_sight, .inl (ty.1, 24, .inl t_sight)), (A_t_pad, .inl (ty.1, 60, .inl t_pad)), (A_t_now, .inl (ty.1, 8, .inl t_now)), (A_t_image, .inl (ty.1, 120, .inl t_image)), (A_t_isKept, .inl (ty.2.2.1, 2, .inl t_isKept))] H) (hD : va_D (va_A WC s.heap.size) [(A_t, .inr (9, [.int t_there, .int t_awake, .ref A_t_count, .ref A_t_pace, .int t_house, .int t_sharp, .int t_sights, .ref A_t_sight, .int t_signs, .ref A_t_pad, .int t_up, .ref A_t_now, .int t_reason, .int t_acts, .int t_breaths, .int t_zeroAt, .int t_noticedAt, .ref A_t_image, .ref A_t_isKept])), (A_t_count, .inl (ty.1, 8, .inl t_count)), (A_t_pace, .inl (ty.1, 8, .inl t_pace)), (A_t_sight, .inl (ty.1, 24, .inl t_sight)), (A_t_pad, .inl (ty.1, 60, .inl t_pad)), (A_t_now, .inl (ty.1, 8, .inl t_now)), (A_t_image, .inl (ty.1, 120, .inl t_image)), (A_t_isKept, .inl (ty.2.2.1, 2, .inl t_isKept))]) (hS : va_S (va_A WC s.heap.size) s.heap H locs) (hl : lv_has ls 5 [(0, .ref A_t), (1, .int v1), (2, .int v2), (3, .int v3), (4, .int v4)]) (hf : bX10_goHours_256 k39 k214 v1 v2 v3 v4 t_up t_reason t_acts t_breaths t_zeroAt t_noticedAt t_now = some q0) : WWi p l e rmX10_goHours s m [.ref A_t] below meth c D WC [(A_t, .inr (9, [.int t_there, .int t_awake, .ref A_t_count, .ref A_t_pace, .int t_house, .int t_sharp, .int t_sights, .ref A_t_sight, .int t_signs, .ref A_t_pad, .int q0.2.1, .ref A_t_now, .int q0.2.2.1, .int q0.2.2.2.1, .int q0.2.2.2.2.1, .int q0.2.2.2.2.2.1, .int q0.2.2.2.2.2.2.1, .ref A_t_image, .ref A_t_isKept])), (A_t_count, .inl (ty.1, 8, .inl t_count)), (A_t_pace, .inl (ty.1, 8, .inl t_pace)), (A_t_sight, .inl (ty.1, 24, .inl t_sight)), (A_t_pad, .inl (ty.1, 60, .inl t_pad)), (A_t_now, .inl (ty.1, 8, .inl q0.2.2.2.2.2.2.2)), (A_t_image, .inl (ty.1, 120, .inl t_image)), (A_t_isKept, .inl (ty.2.2.1, 2, .inl t_isKept))] q0.1 H locs (F0 m 256 ls [.ref A_t]) := by
  obtain ⟨hx, hb, hr, hml, hown, hts, hlocks⟩ := id C
  unfold bX10_goHours_256 at hf
  refine lv_aload_n hx hb dX10_goHours_256 rfl (lv_at hl 0 rfl) ?_
  refine va_get (D := D) (ci := 9) (v := .int t_zeroAt) (C := RX10) (T := TX10) (N := 19) hx hb hts wX10_goHours_X10 hown hK.1 hP 0 rfl rfl 15 (by decide) (hts _ mX10_goHours_f96) (fun _ h9 => h9) rfl dX10_goHours_257 ?_
  refine va_put (D := D) (ci := 9) (v := .int t_zeroAt) (ty := .int) (C := RX10) (T := TX10) (N := 19) hx hb hts wX10_goHours_X10 tyX10 tyX10_ok nmX10 hown hK.1 hP hD hS 0 rfl rfl 15 (by decide) (hts _ mX10_goHours_f96) (fun _ h9 => h9) rfl (by decide +kernel) rfl rfl (Nat.le_of_ble_eq_true rfl) dX10_goHours_260 (fun H locs hP hD hS => ?_)
  have hP : va_P D vwCl [(A_t, .inr (9, [.int t_there, .int t_awake, .ref A_t_count, .ref A_t_pace, .int t_house, .int t_sharp, .int t_sights, .ref A_t_sight, .int t_signs, .ref A_t_pad, .int t_up, .ref A_t_now, .int t_reason, .int t_acts, .int t_breaths, .int t_zeroAt, .int t_noticedAt, .ref A_t_image, .ref A_t_isKept])), (A_t_count, .inl (ty.1, 8, .inl t_count)), (A_t_pace, .inl (ty.1, 8, .inl t_pace)), (A_t_sight, .inl (ty.1, 24, .inl t_sight)), (A_t_pad, .inl (ty.1, 60, .inl t_pad)), (A_t_now, .inl (ty.1, 8, .inl t_now)), (A_t_image, .inl (ty.1, 120, .inl t_image)), (A_t_isKept, .inl (ty.2.2.1, 2, .inl t_isKept))] H := hP
  have hD : va_D (va_A WC s.heap.size) [(A_t, .inr (9, [.int t_there, .int t_awake, .ref A_t_count, .ref A_t_pace, .int t_house, .int t_sharp, .int t_sights, .ref A_t_sight, .int t_signs, .ref A_t_pad, .int t_up, .ref A_t_now, .int t_reason, .int t_acts, .int t_breaths, .int t_zeroAt, .int t_noticedAt, .ref A_t_image, .ref A_t_isKept])), (A_t_count, .inl (ty.1, 8, .inl t_count)), (A_t_pace, .inl (ty.1, 8, .inl t_pace)), (A_t_sight, .inl (ty.1, 24, .inl t_sight)), (A_t_pad, .inl (ty.1, 60, .inl t_pad)), (A_t_now, .inl (ty.1, 8, .inl t_now)), (A_t_image, .inl (ty.1, 120, .inl t_image)), (A_t_isKept, .inl (ty.2.2.1, 2, .inl t_isKept))] := hD
  refine lv_iinc (v := v4 + 1) (lv' := [(4, .int (v4 + 1)), (0, .ref A_t), (1, .int v1), (2, .int v2), (3, .int v3)]) hx hb dX10_goHours_263 hl (k := 4) rfl rfl (by decide) rfl (fun ls hl => ?_)
  refine lv_goto (tgt := 214) hx hb dX10_goHours_266 (by decide) ?_
  exact hk214 _ _ _ _ _ _ _ _ _ _ _ _ _ _ hP hD hS (lv_sub hl [1, 2, 3, 4, 0] rfl) hf
def bX10_goHours_214 (k39 : Int32 × Int32 × Int32 × Int32 × Int32 × Int32 × Int32 × (Nat → Int32) → Option (Int32 × Int32 × Int32 × Int32 × Int32 × Int32 × Int32 × (Nat → Int32))) (k214 : Int32 × Int32 × Int32 × Int32 × Int32 × Int32 × Int32 × Int32 × Int32 × Int32 × (Nat → Int32) → Option (Int32 × Int32 × Int32 × Int32 × Int32 × Int32 × Int32 × (Nat → Int32))) (t_there : Int32) (t_house : Int32) (t_sharp : Int32) (t_pace : Nat → Int32) (v1 : Int32) (v2 : Int32) (v3 : Int32) (v4 : Int32) (t_up : Int32) (t_reason : Int32) (t_acts : Int32) (t_breaths : Int32) (t_zeroAt : Int32) (t_noticedAt : Int32) (t_now : Nat → Int32) : Option (Int32 × Int32 × Int32 × Int32 × Int32 × Int32 × Int32 × (Nat → Int32)) :=
  if v3 ≤ v4 then if t_reason = 0 then if v2 = 33 then (fX10_bell t_house t_up t_now).bind fun r283 => bX10_goHours_318 k39 t_sharp (v1 + 1) t_up t_reason t_acts t_breaths t_zeroAt t_noticedAt r283 else bX10_goHours_289 k39 t_house t_sharp v1 v2 t_up t_reason t_acts t_breaths t_zeroAt t_noticedAt t_now else bX10_goHours_289 k39 t_house t_sharp v1 v2 t_up t_reason t_acts t_breaths t_zeroAt t_noticedAt t_now else (fX10_breath t_up t_pace t_now).bind fun r221 => if 0 ≤ t_zeroAt then bX10_goHours_256 k39 k214 v1 v2 v3 v4 t_up t_reason t_acts (t_breaths + 1) t_zeroAt t_noticedAt r221 else (fX10_isZero t_there r221).bind fun r243 => if r243 = 0 then bX10_goHours_256 k39 k214 v1 v2 v3 v4 t_up t_reason t_acts (t_breaths + 1) t_zeroAt t_noticedAt r221 else k214 (v1, v2, v3, v4 + 1, t_up, t_reason, t_acts, t_breaths + 1, t_breaths + 1, t_noticedAt, r221)
set_option maxRecDepth 100000 in
set_option maxHeartbeats 4000000 in
theorem BX10_goHours_214 {p : Program} {l : Launch} {e : Env} {s : State} {m : MethodId} {below : List Frame} {meth : Method} {c : Code} {D : va_G} {ty : TY} {A_t A_t_count A_t_pace A_t_sight A_t_pad A_t_now A_t_image A_t_isKept : Nat} {t_there : Int32} {t_awake : Int32} {t_house : Int32} {t_sharp : Int32} {t_sights : Int32} {t_signs : Int32} {t_count : Nat → Int32} {t_pace : Nat → Int32} {t_sight : Nat → Int32} {t_pad : Nat → Int32} {t_image : Nat → Int32} {t_isKept : Nat → Int32} {q0 : Int32 × Int32 × Int32 × Int32 × Int32 × Int32 × Int32 × (Nat → Int32)} {WC : va_W} (C : cx p s m [.ref A_t] meth c cX10_goHours 5 (some .int) RX10 wsX10_goHours) (hK : KK D ty s) {k39 : Int32 × Int32 × Int32 × Int32 × Int32 × Int32 × Int32 × (Nat → Int32) → Option (Int32 × Int32 × Int32 × Int32 × Int32 × Int32 × Int32 × (Nat → Int32))} (hk39 : ∀ (v1 : Int32) (t_up : Int32) (t_reason : Int32) (t_acts : Int32) (t_breaths : Int32) (t_zeroAt : Int32) (t_noticedAt : Int32) (t_now : Nat → Int32) (H : Heap) (locs : List Loc) (ls : Array Slot), va_P D vwCl [(A_t, .inr (9, [.int t_there, .int t_awake, .ref A_t_count, .ref A_t_pace, .int t_house, .int t_sharp, .int t_sights, .ref A_t_sight, .int t_signs, .ref A_t_pad, .int t_up, .ref A_t_now, .int t_reason, .int t_acts, .int t_breaths, .int t_zeroAt, .int t_noticedAt, .ref A_t_image, .ref A_t_isKept])), (A_t_count, .inl (ty.1, 8, .inl t_count)), (A_t_pace, .inl (ty.1, 8, .inl t_pace)), (A_t_sight, .inl (ty.1, 24, .inl t_sight)), (A_t_pad, .inl (ty.1, 60, .inl t_pad)), (A_t_now, .inl (ty.1, 8, .inl t_now)), (A_t_image, .inl (ty.1, 120, .inl t_image)), (A_t_isKept, .inl (ty.2.2.1, 2, .inl t_isKept))] H → va_D (va_A WC s.heap.size) [(A_t, .inr (9, [.int t_there, .int t_awake, .ref A_t_count, .ref A_t_pace, .int t_house, .int t_sharp, .int t_sights, .ref A_t_sight, .int t_signs, .ref A_t_pad, .int t_up, .ref A_t_now, .int t_reason, .int t_acts, .int t_breaths, .int t_zeroAt, .int t_noticedAt, .ref A_t_image, .ref A_t_isKept])), (A_t_count, .inl (ty.1, 8, .inl t_count)), (A_t_pace, .inl (ty.1, 8, .inl t_pace)), (A_t_sight, .inl (ty.1, 24, .inl t_sight)), (A_t_pad, .inl (ty.1, 60, .inl t_pad)), (A_t_now, .inl (ty.1, 8, .inl t_now)), (A_t_image, .inl (ty.1, 120, .inl t_image)), (A_t_isKept, .inl (ty.2.2.1, 2, .inl t_isKept))] → va_S (va_A WC s.heap.size) s.heap H locs → lv_has ls 5 [(0, .ref A_t), (1, .int v1)] → k39 (v1, t_up, t_reason, t_acts, t_breaths, t_zeroAt, t_noticedAt, t_now) = some q0 → WWi p l e rmX10_goHours s m [.ref A_t] below meth c D WC [(A_t, .inr (9, [.int t_there, .int t_awake, .ref A_t_count, .ref A_t_pace, .int t_house, .int t_sharp, .int t_sights, .ref A_t_sight, .int t_signs, .ref A_t_pad, .int q0.2.1, .ref A_t_now, .int q0.2.2.1, .int q0.2.2.2.1, .int q0.2.2.2.2.1, .int q0.2.2.2.2.2.1, .int q0.2.2.2.2.2.2.1, .ref A_t_image, .ref A_t_isKept])), (A_t_count, .inl (ty.1, 8, .inl t_count)), (A_t_pace, .inl (ty.1, 8, .inl t_pace)), (A_t_sight, .inl (ty.1, 24, .inl t_sight)), (A_t_pad, .inl (ty.1, 60, .inl t_pad)), (A_t_now, .inl (ty.1, 8, .inl q0.2.2.2.2.2.2.2)), (A_t_image, .inl (ty.1, 120, .inl t_image)), (A_t_isKept, .inl (ty.2.2.1, 2, .inl t_isKept))] q0.1 H locs (F0 m 39 ls [])) : ∀ (n : Nat) (v1 : Int32) (v2 : Int32) (v3 : Int32) (v4 : Int32) (t_up : Int32) (t_reason : Int32) (t_acts : Int32) (t_breaths : Int32) (t_zeroAt : Int32) (t_noticedAt : Int32) (t_now : Nat → Int32) (H : Heap) (locs : List Loc) (ls : Array Slot), va_P D vwCl [(A_t, .inr (9, [.int t_there, .int t_awake, .ref A_t_count, .ref A_t_pace, .int t_house, .int t_sharp, .int t_sights, .ref A_t_sight, .int t_signs, .ref A_t_pad, .int t_up, .ref A_t_now, .int t_reason, .int t_acts, .int t_breaths, .int t_zeroAt, .int t_noticedAt, .ref A_t_image, .ref A_t_isKept])), (A_t_count, .inl (ty.1, 8, .inl t_count)), (A_t_pace, .inl (ty.1, 8, .inl t_pace)), (A_t_sight, .inl (ty.1, 24, .inl t_sight)), (A_t_pad, .inl (ty.1, 60, .inl t_pad)), (A_t_now, .inl (ty.1, 8, .inl t_now)), (A_t_image, .inl (ty.1, 120, .inl t_image)), (A_t_isKept, .inl (ty.2.2.1, 2, .inl t_isKept))] H → va_D (va_A WC s.heap.size) [(A_t, .inr (9, [.int t_there, .int t_awake, .ref A_t_count, .ref A_t_pace, .int t_house, .int t_sharp, .int t_sights, .ref A_t_sight, .int t_signs, .ref A_t_pad, .int t_up, .ref A_t_now, .int t_reason, .int t_acts, .int t_breaths, .int t_zeroAt, .int t_noticedAt, .ref A_t_image, .ref A_t_isKept])), (A_t_count, .inl (ty.1, 8, .inl t_count)), (A_t_pace, .inl (ty.1, 8, .inl t_pace)), (A_t_sight, .inl (ty.1, 24, .inl t_sight)), (A_t_pad, .inl (ty.1, 60, .inl t_pad)), (A_t_now, .inl (ty.1, 8, .inl t_now)), (A_t_image, .inl (ty.1, 120, .inl t_image)), (A_t_isKept, .inl (ty.2.2.1, 2, .inl t_isKept))] → va_S (va_A WC s.heap.size) s.heap H locs → lv_has ls 5 [(0, .ref A_t), (1, .int v1), (2, .int v2), (3, .int v3), (4, .int v4)] → loopF (fun k q => bX10_goHours_214 k39 k t_there t_house t_sharp t_pace q.1 q.2.1 q.2.2.1 q.2.2.2.1 q.2.2.2.2.1 q.2.2.2.2.2.1 q.2.2.2.2.2.2.1 q.2.2.2.2.2.2.2.1 q.2.2.2.2.2.2.2.2.1 q.2.2.2.2.2.2.2.2.2.1 q.2.2.2.2.2.2.2.2.2.2) n (v1, v2, v3, v4, t_up, t_reason, t_acts, t_breaths, t_zeroAt, t_noticedAt, t_now) = some q0 → WWi p l e rmX10_goHours s m [.ref A_t] below meth c D WC [(A_t, .inr (9, [.int t_there, .int t_awake, .ref A_t_count, .ref A_t_pace, .int t_house, .int t_sharp, .int t_sights, .ref A_t_sight, .int t_signs, .ref A_t_pad, .int q0.2.1, .ref A_t_now, .int q0.2.2.1, .int q0.2.2.2.1, .int q0.2.2.2.2.1, .int q0.2.2.2.2.2.1, .int q0.2.2.2.2.2.2.1, .ref A_t_image, .ref A_t_isKept])), (A_t_count, .inl (ty.1, 8, .inl t_count)), (A_t_pace, .inl (ty.1, 8, .inl t_pace)), (A_t_sight, .inl (ty.1, 24, .inl t_sight)), (A_t_pad, .inl (ty.1, 60, .inl t_pad)), (A_t_now, .inl (ty.1, 8, .inl q0.2.2.2.2.2.2.2)), (A_t_image, .inl (ty.1, 120, .inl t_image)), (A_t_isKept, .inl (ty.2.2.1, 2, .inl t_isKept))] q0.1 H locs (F0 m 214 ls []) := by
  obtain ⟨hx, hb, hr, hml, hown, hts, hlocks⟩ := id C
  intro n
  induction n with
  | zero =>
    intro v1 v2 v3 v4 t_up t_reason t_acts t_breaths t_zeroAt t_noticedAt t_now H locs ls hP hD hS hl hf
    cases hf
  | succ n ih =>
    intro v1 v2 v3 v4 t_up t_reason t_acts t_breaths t_zeroAt t_noticedAt t_now H locs ls hP hD hS hl hf
    have hf : bX10_goHours_214 k39 (loopF (fun k q => bX10_goHours_214 k39 k t_there t_house t_sharp t_pace q.1 q.2.1 q.2.2.1 q.2.2.2.1 q.2.2.2.2.1 q.2.2.2.2.2.1 q.2.2.2.2.2.2.1 q.2.2.2.2.2.2.2.1 q.2.2.2.2.2.2.2.2.1 q.2.2.2.2.2.2.2.2.2.1 q.2.2.2.2.2.2.2.2.2.2) n) t_there t_house t_sharp t_pace v1 v2 v3 v4 t_up t_reason t_acts t_breaths t_zeroAt t_noticedAt t_now = some q0 := hf
    have hk214 := ih
    unfold bX10_goHours_214 at hf
    refine lv_iload hx hb dX10_goHours_214 (lv_at hl 4 rfl) ?_
    refine lv_iload_n hx hb dX10_goHours_216 rfl (lv_at hl 3 rfl) ?_
    refine lv_icmp_ge (tgt := 269) hx hb dX10_goHours_217 (by decide) (fun hc => ?_) (fun hc => ?_)
    · have hf := ft hf hc
      refine lv_aload_n hx hb dX10_goHours_269 rfl (lv_at hl 0 rfl) ?_
      refine va_get (D := D) (ci := 9) (v := .int t_reason) (C := RX10) (T := TX10) (N := 19) hx hb hts wX10_goHours_X10 hown hK.1 hP 0 rfl rfl 12 (by decide) (hts _ mX10_goHours_f102) (fun _ h9 => h9) rfl dX10_goHours_270 ?_
      refine lv_if_ne (tgt := 289) hx hb dX10_goHours_273 (by decide) (fun hc => ?_) (fun hc => ?_)
      · have hf := ff hf hc
        exact BX10_goHours_289 C hK hk39 hP hD hS (lv_sub hl [0, 1, 2] rfl) hf
      · have hf := ft hf hc
        refine lv_iload_n hx hb dX10_goHours_276 rfl (lv_at hl 2 rfl) ?_
        refine lv_bipush (v := 33) hx hb dX10_goHours_277 (by decide) ?_
        refine lv_icmp_ne (tgt := 289) hx hb dX10_goHours_279 (by decide) (fun hc => ?_) (fun hc => ?_)
        · have hf := ff hf hc
          exact BX10_goHours_289 C hK hk39 hP hD hS (lv_sub hl [0, 1, 2] rfl) hf
        · have hf := ft hf hc
          refine lv_aload_n hx hb dX10_goHours_282 rfl (lv_at hl 0 rfl) ?_
          obtain ⟨r283, hr283, hf⟩ := bnd hf
          refine callV_wv (As := []) (rest := []) ⟨hx, hb, hml, hown, hts⟩ (CX10_bell l hr283) (cwV 0 hts gX10_goHours_X10_bell rfl rfl rfl kkX10_bell ⟨Nat.le_of_ble_eq_true rfl, Nat.le_of_ble_eq_true rfl⟩) hK hP hD hS (fun _ h => Or.inr h) [0, 1, 2, 3, 4, 5, 6, 7] [] [0, 1, 2, 3, 4, 5, 6, 7] rfl (by decide) (by decide) rfl rfl 0 rfl rfl rfl hl.1 rfl (Nat.le_of_ble_eq_true rfl) dX10_goHours_283 ⟨Nat.zero_le _, Nat.zero_le _⟩ (fun H locs hP hD hS => ?_)
          have hP : va_P D vwCl [(A_t, .inr (9, [.int t_there, .int t_awake, .ref A_t_count, .ref A_t_pace, .int t_house, .int t_sharp, .int t_sights, .ref A_t_sight, .int t_signs, .ref A_t_pad, .int t_up, .ref A_t_now, .int t_reason, .int t_acts, .int t_breaths, .int t_zeroAt, .int t_noticedAt, .ref A_t_image, .ref A_t_isKept])), (A_t_count, .inl (ty.1, 8, .inl t_count)), (A_t_pace, .inl (ty.1, 8, .inl t_pace)), (A_t_sight, .inl (ty.1, 24, .inl t_sight)), (A_t_pad, .inl (ty.1, 60, .inl t_pad)), (A_t_now, .inl (ty.1, 8, .inl r283)), (A_t_image, .inl (ty.1, 120, .inl t_image)), (A_t_isKept, .inl (ty.2.2.1, 2, .inl t_isKept))] H := hP
          have hD : va_D (va_A WC s.heap.size) [(A_t, .inr (9, [.int t_there, .int t_awake, .ref A_t_count, .ref A_t_pace, .int t_house, .int t_sharp, .int t_sights, .ref A_t_sight, .int t_signs, .ref A_t_pad, .int t_up, .ref A_t_now, .int t_reason, .int t_acts, .int t_breaths, .int t_zeroAt, .int t_noticedAt, .ref A_t_image, .ref A_t_isKept])), (A_t_count, .inl (ty.1, 8, .inl t_count)), (A_t_pace, .inl (ty.1, 8, .inl t_pace)), (A_t_sight, .inl (ty.1, 24, .inl t_sight)), (A_t_pad, .inl (ty.1, 60, .inl t_pad)), (A_t_now, .inl (ty.1, 8, .inl r283)), (A_t_image, .inl (ty.1, 120, .inl t_image)), (A_t_isKept, .inl (ty.2.2.1, 2, .inl t_isKept))] := hD
          refine lv_goto (tgt := 315) hx hb dX10_goHours_286 (by decide) ?_
          refine lv_iinc (v := v1 + 1) (lv' := [(1, .int (v1 + 1)), (0, .ref A_t), (2, .int v2), (3, .int v3), (4, .int v4)]) hx hb dX10_goHours_315 hl (k := 1) rfl rfl (by decide) rfl (fun ls hl => ?_)
          exact BX10_goHours_318 C hK hk39 hP hD hS (lv_sub hl [1, 0] rfl) hf
    · have hf := ff hf hc
      refine lv_aload_n hx hb dX10_goHours_220 rfl (lv_at hl 0 rfl) ?_
      obtain ⟨r221, hr221, hf⟩ := bnd hf
      refine callV_wv (As := []) (rest := []) ⟨hx, hb, hml, hown, hts⟩ (CX10_breath l hr221) (cwV 0 hts gX10_goHours_X10_breath rfl rfl rfl kkX10_breath ⟨Nat.le_of_ble_eq_true rfl, Nat.le_of_ble_eq_true rfl⟩) hK hP hD hS (fun _ h => Or.inr h) [0, 1, 2, 3, 4, 5, 6, 7] [] [0, 1, 2, 3, 4, 5, 6, 7] rfl (by decide) (by decide) rfl rfl 0 rfl rfl rfl hl.1 rfl (Nat.le_of_ble_eq_true rfl) dX10_goHours_221 ⟨Nat.zero_le _, Nat.zero_le _⟩ (fun H locs hP hD hS => ?_)
      have hP : va_P D vwCl [(A_t, .inr (9, [.int t_there, .int t_awake, .ref A_t_count, .ref A_t_pace, .int t_house, .int t_sharp, .int t_sights, .ref A_t_sight, .int t_signs, .ref A_t_pad, .int t_up, .ref A_t_now, .int t_reason, .int t_acts, .int t_breaths, .int t_zeroAt, .int t_noticedAt, .ref A_t_image, .ref A_t_isKept])), (A_t_count, .inl (ty.1, 8, .inl t_count)), (A_t_pace, .inl (ty.1, 8, .inl t_pace)), (A_t_sight, .inl (ty.1, 24, .inl t_sight)), (A_t_pad, .inl (ty.1, 60, .inl t_pad)), (A_t_now, .inl (ty.1, 8, .inl r221)), (A_t_image, .inl (ty.1, 120, .inl t_image)), (A_t_isKept, .inl (ty.2.2.1, 2, .inl t_isKept))] H := hP
      have hD : va_D (va_A WC s.heap.size) [(A_t, .inr (9, [.int t_there, .int t_awake, .ref A_t_count, .ref A_t_pace, .int t_house, .int t_sharp, .int t_sights, .ref A_t_sight, .int t_signs, .ref A_t_pad, .int t_up, .ref A_t_now, .int t_reason, .int t_acts, .int t_breaths, .int t_zeroAt, .int t_noticedAt, .ref A_t_image, .ref A_t_isKept])), (A_t_count, .inl (ty.1, 8, .inl t_count)), (A_t_pace, .inl (ty.1, 8, .inl t_pace)), (A_t_sight, .inl (ty.1, 24, .inl t_sight)), (A_t_pad, .inl (ty.1, 60, .inl t_pad)), (A_t_now, .inl (ty.1, 8, .inl r221)), (A_t_image, .inl (ty.1, 120, .inl t_image)), (A_t_isKept, .inl (ty.2.2.1, 2, .inl t_isKept))] := hD
      refine lv_aload_n hx hb dX10_goHours_224 rfl (lv_at hl 0 rfl) ?_
      refine lv_dup hx hb dX10_goHours_225 rfl ?_
      refine va_get (D := D) (ci := 9) (v := .int t_breaths) (C := RX10) (T := TX10) (N := 19) hx hb hts wX10_goHours_X10 hown hK.1 hP 0 rfl rfl 14 (by decide) (hts _ mX10_goHours_f89) (fun _ h9 => h9) rfl dX10_goHours_226 ?_
      refine lv_iconst (v := 1) hx hb dX10_goHours_229 (by decide) ?_
      refine lv_iadd hx hb dX10_goHours_230 ?_
      refine va_put (D := D) (ci := 9) (v := .int (t_breaths + 1)) (ty := .int) (C := RX10) (T := TX10) (N := 19) hx hb hts wX10_goHours_X10 tyX10 tyX10_ok nmX10 hown hK.1 hP hD hS 0 rfl rfl 14 (by decide) (hts _ mX10_goHours_f89) (fun _ h9 => h9) rfl (by decide +kernel) rfl rfl (Nat.le_of_ble_eq_true rfl) dX10_goHours_231 (fun H locs hP hD hS => ?_)
      have hP : va_P D vwCl [(A_t, .inr (9, [.int t_there, .int t_awake, .ref A_t_count, .ref A_t_pace, .int t_house, .int t_sharp, .int t_sights, .ref A_t_sight, .int t_signs, .ref A_t_pad, .int t_up, .ref A_t_now, .int t_reason, .int t_acts, .int (t_breaths + 1), .int t_zeroAt, .int t_noticedAt, .ref A_t_image, .ref A_t_isKept])), (A_t_count, .inl (ty.1, 8, .inl t_count)), (A_t_pace, .inl (ty.1, 8, .inl t_pace)), (A_t_sight, .inl (ty.1, 24, .inl t_sight)), (A_t_pad, .inl (ty.1, 60, .inl t_pad)), (A_t_now, .inl (ty.1, 8, .inl r221)), (A_t_image, .inl (ty.1, 120, .inl t_image)), (A_t_isKept, .inl (ty.2.2.1, 2, .inl t_isKept))] H := hP
      have hD : va_D (va_A WC s.heap.size) [(A_t, .inr (9, [.int t_there, .int t_awake, .ref A_t_count, .ref A_t_pace, .int t_house, .int t_sharp, .int t_sights, .ref A_t_sight, .int t_signs, .ref A_t_pad, .int t_up, .ref A_t_now, .int t_reason, .int t_acts, .int (t_breaths + 1), .int t_zeroAt, .int t_noticedAt, .ref A_t_image, .ref A_t_isKept])), (A_t_count, .inl (ty.1, 8, .inl t_count)), (A_t_pace, .inl (ty.1, 8, .inl t_pace)), (A_t_sight, .inl (ty.1, 24, .inl t_sight)), (A_t_pad, .inl (ty.1, 60, .inl t_pad)), (A_t_now, .inl (ty.1, 8, .inl r221)), (A_t_image, .inl (ty.1, 120, .inl t_image)), (A_t_isKept, .inl (ty.2.2.1, 2, .inl t_isKept))] := hD
      refine lv_aload_n hx hb dX10_goHours_234 rfl (lv_at hl 0 rfl) ?_
      refine lv_aload_n hx hb dX10_goHours_235 rfl (lv_at hl 0 rfl) ?_
      refine va_get (D := D) (ci := 9) (v := .int t_zeroAt) (C := RX10) (T := TX10) (N := 19) hx hb hts wX10_goHours_X10 hown hK.1 hP 0 rfl rfl 15 (by decide) (hts _ mX10_goHours_f96) (fun _ h9 => h9) rfl dX10_goHours_236 ?_
      refine lv_if_ge (tgt := 256) hx hb dX10_goHours_239 (by decide) (fun hc => ?_) (fun hc => ?_)
      · have hf := ft hf hc
        exact BX10_goHours_256 C hK hk39 hk214 hP hD hS (lv_sub hl [0, 1, 2, 3, 4] rfl) hf
      · have hf := ff hf hc
        refine lv_aload_n hx hb dX10_goHours_242 rfl (lv_at hl 0 rfl) ?_
        obtain ⟨r243, hr243, hf⟩ := bnd hf
        refine callV_ri (As := []) (rest := [.ref A_t]) ⟨hx, hb, hml, hown, hts⟩ (CX10_isZero l hr243) (cwV 0 hts gX10_goHours_X10_isZero rfl rfl rfl kkX10_isZero ⟨Nat.le_of_ble_eq_true rfl, Nat.le_of_ble_eq_true rfl⟩) hK hP 0 rfl rfl rfl hl.1 rfl (Nat.le_of_ble_eq_true rfl) dX10_goHours_243 ⟨Nat.zero_le _, Nat.zero_le _⟩ ?_
        refine lv_if_eq (tgt := 256) hx hb dX10_goHours_246 (by decide) (fun hc => ?_) (fun hc => ?_)
        · have hf := ft hf hc
          exact BX10_goHours_256 C hK hk39 hk214 hP hD hS (lv_sub hl [0, 1, 2, 3, 4] rfl) hf
        · have hf := ff hf hc
          refine lv_aload_n hx hb dX10_goHours_249 rfl (lv_at hl 0 rfl) ?_
          refine va_get (D := D) (ci := 9) (v := .int (t_breaths + 1)) (C := RX10) (T := TX10) (N := 19) hx hb hts wX10_goHours_X10 hown hK.1 hP 0 rfl rfl 14 (by decide) (hts _ mX10_goHours_f89) (fun _ h9 => h9) rfl dX10_goHours_250 ?_
          refine lv_goto (tgt := 260) hx hb dX10_goHours_253 (by decide) ?_
          refine va_put (D := D) (ci := 9) (v := .int (t_breaths + 1)) (ty := .int) (C := RX10) (T := TX10) (N := 19) hx hb hts wX10_goHours_X10 tyX10 tyX10_ok nmX10 hown hK.1 hP hD hS 0 rfl rfl 15 (by decide) (hts _ mX10_goHours_f96) (fun _ h9 => h9) rfl (by decide +kernel) rfl rfl (Nat.le_of_ble_eq_true rfl) dX10_goHours_260 (fun H locs hP hD hS => ?_)
          have hP : va_P D vwCl [(A_t, .inr (9, [.int t_there, .int t_awake, .ref A_t_count, .ref A_t_pace, .int t_house, .int t_sharp, .int t_sights, .ref A_t_sight, .int t_signs, .ref A_t_pad, .int t_up, .ref A_t_now, .int t_reason, .int t_acts, .int (t_breaths + 1), .int (t_breaths + 1), .int t_noticedAt, .ref A_t_image, .ref A_t_isKept])), (A_t_count, .inl (ty.1, 8, .inl t_count)), (A_t_pace, .inl (ty.1, 8, .inl t_pace)), (A_t_sight, .inl (ty.1, 24, .inl t_sight)), (A_t_pad, .inl (ty.1, 60, .inl t_pad)), (A_t_now, .inl (ty.1, 8, .inl r221)), (A_t_image, .inl (ty.1, 120, .inl t_image)), (A_t_isKept, .inl (ty.2.2.1, 2, .inl t_isKept))] H := hP
          have hD : va_D (va_A WC s.heap.size) [(A_t, .inr (9, [.int t_there, .int t_awake, .ref A_t_count, .ref A_t_pace, .int t_house, .int t_sharp, .int t_sights, .ref A_t_sight, .int t_signs, .ref A_t_pad, .int t_up, .ref A_t_now, .int t_reason, .int t_acts, .int (t_breaths + 1), .int (t_breaths + 1), .int t_noticedAt, .ref A_t_image, .ref A_t_isKept])), (A_t_count, .inl (ty.1, 8, .inl t_count)), (A_t_pace, .inl (ty.1, 8, .inl t_pace)), (A_t_sight, .inl (ty.1, 24, .inl t_sight)), (A_t_pad, .inl (ty.1, 60, .inl t_pad)), (A_t_now, .inl (ty.1, 8, .inl r221)), (A_t_image, .inl (ty.1, 120, .inl t_image)), (A_t_isKept, .inl (ty.2.2.1, 2, .inl t_isKept))] := hD
          refine lv_iinc (v := v4 + 1) (lv' := [(4, .int (v4 + 1)), (0, .ref A_t), (1, .int v1), (2, .int v2), (3, .int v3)]) hx hb dX10_goHours_263 hl (k := 4) rfl rfl (by decide) rfl (fun ls hl => ?_)
          refine lv_goto (tgt := 214) hx hb dX10_goHours_266 (by decide) ?_
          exact hk214 _ _ _ _ _ _ _ _ _ _ _ _ _ _ hP hD hS (lv_sub hl [1, 2, 3, 4, 0] rfl) hf
def bX10_goHours_174 (k39 : Int32 × Int32 × Int32 × Int32 × Int32 × Int32 × Int32 × (Nat → Int32) → Option (Int32 × Int32 × Int32 × Int32 × Int32 × Int32 × Int32 × (Nat → Int32))) (t_there : Int32) (t_house : Int32) (t_sharp : Int32) (t_pace : Nat → Int32) (v1 : Int32) (v2 : Int32) (s0 : Int32) (t_up : Int32) (t_reason : Int32) (t_acts : Int32) (t_breaths : Int32) (t_zeroAt : Int32) (t_noticedAt : Int32) (t_now : Nat → Int32) : Option (Int32 × Int32 × Int32 × Int32 × Int32 × Int32 × Int32 × (Nat → Int32)) :=
  if s0 ≤ 0 then if v2 = 46 then loopF (fun k q => bX10_goHours_214 k39 k t_there t_house t_sharp t_pace q.1 q.2.1 q.2.2.1 q.2.2.2.1 q.2.2.2.2.1 q.2.2.2.2.2.1 q.2.2.2.2.2.2.1 q.2.2.2.2.2.2.2.1 q.2.2.2.2.2.2.2.2.1 q.2.2.2.2.2.2.2.2.2.1 q.2.2.2.2.2.2.2.2.2.2) FU (v1, v2, 1, 0, t_up, s0, t_acts, t_breaths, t_zeroAt, t_noticedAt, t_now) else if v2 = 58 then loopF (fun k q => bX10_goHours_214 k39 k t_there t_house t_sharp t_pace q.1 q.2.1 q.2.2.1 q.2.2.2.1 q.2.2.2.2.1 q.2.2.2.2.2.1 q.2.2.2.2.2.2.1 q.2.2.2.2.2.2.2.1 q.2.2.2.2.2.2.2.2.1 q.2.2.2.2.2.2.2.2.2.1 q.2.2.2.2.2.2.2.2.2.2) FU (v1, v2, 10, 0, t_up, s0, t_acts, t_breaths, t_zeroAt, t_noticedAt, t_now) else loopF (fun k q => bX10_goHours_214 k39 k t_there t_house t_sharp t_pace q.1 q.2.1 q.2.2.1 q.2.2.2.1 q.2.2.2.2.1 q.2.2.2.2.2.1 q.2.2.2.2.2.2.1 q.2.2.2.2.2.2.2.1 q.2.2.2.2.2.2.2.2.1 q.2.2.2.2.2.2.2.2.2.1 q.2.2.2.2.2.2.2.2.2.2) FU (v1, v2, 0, 0, t_up, s0, t_acts, t_breaths, t_zeroAt, t_noticedAt, t_now) else loopF (fun k q => bX10_goHours_214 k39 k t_there t_house t_sharp t_pace q.1 q.2.1 q.2.2.1 q.2.2.2.1 q.2.2.2.2.1 q.2.2.2.2.2.1 q.2.2.2.2.2.2.1 q.2.2.2.2.2.2.2.1 q.2.2.2.2.2.2.2.2.1 q.2.2.2.2.2.2.2.2.2.1 q.2.2.2.2.2.2.2.2.2.2) FU (v1, v2, 0, 0, t_up, s0, t_acts, t_breaths, t_zeroAt, t_noticedAt, t_now)
set_option maxRecDepth 100000 in
set_option maxHeartbeats 4000000 in
theorem BX10_goHours_174 {p : Program} {l : Launch} {e : Env} {s : State} {m : MethodId} {below : List Frame} {meth : Method} {c : Code} {D : va_G} {ty : TY} {A_t A_t_count A_t_pace A_t_sight A_t_pad A_t_now A_t_image A_t_isKept : Nat} {t_there : Int32} {t_awake : Int32} {t_house : Int32} {t_sharp : Int32} {t_sights : Int32} {t_signs : Int32} {t_count : Nat → Int32} {t_pace : Nat → Int32} {t_sight : Nat → Int32} {t_pad : Nat → Int32} {t_image : Nat → Int32} {t_isKept : Nat → Int32} {q0 : Int32 × Int32 × Int32 × Int32 × Int32 × Int32 × Int32 × (Nat → Int32)} {WC : va_W} (C : cx p s m [.ref A_t] meth c cX10_goHours 5 (some .int) RX10 wsX10_goHours) (hK : KK D ty s) {k39 : Int32 × Int32 × Int32 × Int32 × Int32 × Int32 × Int32 × (Nat → Int32) → Option (Int32 × Int32 × Int32 × Int32 × Int32 × Int32 × Int32 × (Nat → Int32))} (hk39 : ∀ (v1 : Int32) (t_up : Int32) (t_reason : Int32) (t_acts : Int32) (t_breaths : Int32) (t_zeroAt : Int32) (t_noticedAt : Int32) (t_now : Nat → Int32) (H : Heap) (locs : List Loc) (ls : Array Slot), va_P D vwCl [(A_t, .inr (9, [.int t_there, .int t_awake, .ref A_t_count, .ref A_t_pace, .int t_house, .int t_sharp, .int t_sights, .ref A_t_sight, .int t_signs, .ref A_t_pad, .int t_up, .ref A_t_now, .int t_reason, .int t_acts, .int t_breaths, .int t_zeroAt, .int t_noticedAt, .ref A_t_image, .ref A_t_isKept])), (A_t_count, .inl (ty.1, 8, .inl t_count)), (A_t_pace, .inl (ty.1, 8, .inl t_pace)), (A_t_sight, .inl (ty.1, 24, .inl t_sight)), (A_t_pad, .inl (ty.1, 60, .inl t_pad)), (A_t_now, .inl (ty.1, 8, .inl t_now)), (A_t_image, .inl (ty.1, 120, .inl t_image)), (A_t_isKept, .inl (ty.2.2.1, 2, .inl t_isKept))] H → va_D (va_A WC s.heap.size) [(A_t, .inr (9, [.int t_there, .int t_awake, .ref A_t_count, .ref A_t_pace, .int t_house, .int t_sharp, .int t_sights, .ref A_t_sight, .int t_signs, .ref A_t_pad, .int t_up, .ref A_t_now, .int t_reason, .int t_acts, .int t_breaths, .int t_zeroAt, .int t_noticedAt, .ref A_t_image, .ref A_t_isKept])), (A_t_count, .inl (ty.1, 8, .inl t_count)), (A_t_pace, .inl (ty.1, 8, .inl t_pace)), (A_t_sight, .inl (ty.1, 24, .inl t_sight)), (A_t_pad, .inl (ty.1, 60, .inl t_pad)), (A_t_now, .inl (ty.1, 8, .inl t_now)), (A_t_image, .inl (ty.1, 120, .inl t_image)), (A_t_isKept, .inl (ty.2.2.1, 2, .inl t_isKept))] → va_S (va_A WC s.heap.size) s.heap H locs → lv_has ls 5 [(0, .ref A_t), (1, .int v1)] → k39 (v1, t_up, t_reason, t_acts, t_breaths, t_zeroAt, t_noticedAt, t_now) = some q0 → WWi p l e rmX10_goHours s m [.ref A_t] below meth c D WC [(A_t, .inr (9, [.int t_there, .int t_awake, .ref A_t_count, .ref A_t_pace, .int t_house, .int t_sharp, .int t_sights, .ref A_t_sight, .int t_signs, .ref A_t_pad, .int q0.2.1, .ref A_t_now, .int q0.2.2.1, .int q0.2.2.2.1, .int q0.2.2.2.2.1, .int q0.2.2.2.2.2.1, .int q0.2.2.2.2.2.2.1, .ref A_t_image, .ref A_t_isKept])), (A_t_count, .inl (ty.1, 8, .inl t_count)), (A_t_pace, .inl (ty.1, 8, .inl t_pace)), (A_t_sight, .inl (ty.1, 24, .inl t_sight)), (A_t_pad, .inl (ty.1, 60, .inl t_pad)), (A_t_now, .inl (ty.1, 8, .inl q0.2.2.2.2.2.2.2)), (A_t_image, .inl (ty.1, 120, .inl t_image)), (A_t_isKept, .inl (ty.2.2.1, 2, .inl t_isKept))] q0.1 H locs (F0 m 39 ls [])) {v1 : Int32} {v2 : Int32} {s0 : Int32} {t_up : Int32} {t_reason : Int32} {t_acts : Int32} {t_breaths : Int32} {t_zeroAt : Int32} {t_noticedAt : Int32} {t_now : Nat → Int32} {H : Heap} {locs : List Loc} {ls : Array Slot} (hP : va_P D vwCl [(A_t, .inr (9, [.int t_there, .int t_awake, .ref A_t_count, .ref A_t_pace, .int t_house, .int t_sharp, .int t_sights, .ref A_t_sight, .int t_signs, .ref A_t_pad, .int t_up, .ref A_t_now, .int t_reason, .int t_acts, .int t_breaths, .int t_zeroAt, .int t_noticedAt, .ref A_t_image, .ref A_t_isKept])), (A_t_count, .inl (ty.1, 8, .inl t_count)), (A_t_pace, .inl (ty.1, 8, .inl t_pace)), (A_t_sight, .inl (ty.1, 24, .inl t_sight)), (A_t_pad, .inl (ty.1, 60, .inl t_pad)), (A_t_now, .inl (ty.1, 8, .inl t_now)), (A_t_image, .inl (ty.1, 120, .inl t_image)), (A_t_isKept, .inl (ty.2.2.1, 2, .inl t_isKept))] H) (hD : va_D (va_A WC s.heap.size) [(A_t, .inr (9, [.int t_there, .int t_awake, .ref A_t_count, .ref A_t_pace, .int t_house, .int t_sharp, .int t_sights, .ref A_t_sight, .int t_signs, .ref A_t_pad, .int t_up, .ref A_t_now, .int t_reason, .int t_acts, .int t_breaths, .int t_zeroAt, .int t_noticedAt, .ref A_t_image, .ref A_t_isKept])), (A_t_count, .inl (ty.1, 8, .inl t_count)), (A_t_pace, .inl (ty.1, 8, .inl t_pace)), (A_t_sight, .inl (ty.1, 24, .inl t_sight)), (A_t_pad, .inl (ty.1, 60, .inl t_pad)), (A_t_now, .inl (ty.1, 8, .inl t_now)), (A_t_image, .inl (ty.1, 120, .inl t_image)), (A_t_isKept, .inl (ty.2.2.1, 2, .inl t_isKept))]) (hS : va_S (va_A WC s.heap.size) s.heap H locs) (hl : lv_has ls 5 [(0, .ref A_t), (1, .int v1), (2, .int v2)]) (hf : bX10_goHours_174 k39 t_there t_house t_sharp t_pace v1 v2 s0 t_up t_reason t_acts t_breaths t_zeroAt t_noticedAt t_now = some q0) : WWi p l e rmX10_goHours s m [.ref A_t] below meth c D WC [(A_t, .inr (9, [.int t_there, .int t_awake, .ref A_t_count, .ref A_t_pace, .int t_house, .int t_sharp, .int t_sights, .ref A_t_sight, .int t_signs, .ref A_t_pad, .int q0.2.1, .ref A_t_now, .int q0.2.2.1, .int q0.2.2.2.1, .int q0.2.2.2.2.1, .int q0.2.2.2.2.2.1, .int q0.2.2.2.2.2.2.1, .ref A_t_image, .ref A_t_isKept])), (A_t_count, .inl (ty.1, 8, .inl t_count)), (A_t_pace, .inl (ty.1, 8, .inl t_pace)), (A_t_sight, .inl (ty.1, 24, .inl t_sight)), (A_t_pad, .inl (ty.1, 60, .inl t_pad)), (A_t_now, .inl (ty.1, 8, .inl q0.2.2.2.2.2.2.2)), (A_t_image, .inl (ty.1, 120, .inl t_image)), (A_t_isKept, .inl (ty.2.2.1, 2, .inl t_isKept))] q0.1 H locs (F0 m 174 ls [.int s0, .ref A_t]) := by
  obtain ⟨hx, hb, hr, hml, hown, hts, hlocks⟩ := id C
  unfold bX10_goHours_174 at hf
  refine va_put (D := D) (ci := 9) (v := .int s0) (ty := .int) (C := RX10) (T := TX10) (N := 19) hx hb hts wX10_goHours_X10 tyX10 tyX10_ok nmX10 hown hK.1 hP hD hS 0 rfl rfl 12 (by decide) (hts _ mX10_goHours_f102) (fun _ h9 => h9) rfl (by decide +kernel) rfl rfl (Nat.le_of_ble_eq_true rfl) dX10_goHours_174 (fun H locs hP hD hS => ?_)
  have hP : va_P D vwCl [(A_t, .inr (9, [.int t_there, .int t_awake, .ref A_t_count, .ref A_t_pace, .int t_house, .int t_sharp, .int t_sights, .ref A_t_sight, .int t_signs, .ref A_t_pad, .int t_up, .ref A_t_now, .int s0, .int t_acts, .int t_breaths, .int t_zeroAt, .int t_noticedAt, .ref A_t_image, .ref A_t_isKept])), (A_t_count, .inl (ty.1, 8, .inl t_count)), (A_t_pace, .inl (ty.1, 8, .inl t_pace)), (A_t_sight, .inl (ty.1, 24, .inl t_sight)), (A_t_pad, .inl (ty.1, 60, .inl t_pad)), (A_t_now, .inl (ty.1, 8, .inl t_now)), (A_t_image, .inl (ty.1, 120, .inl t_image)), (A_t_isKept, .inl (ty.2.2.1, 2, .inl t_isKept))] H := hP
  have hD : va_D (va_A WC s.heap.size) [(A_t, .inr (9, [.int t_there, .int t_awake, .ref A_t_count, .ref A_t_pace, .int t_house, .int t_sharp, .int t_sights, .ref A_t_sight, .int t_signs, .ref A_t_pad, .int t_up, .ref A_t_now, .int s0, .int t_acts, .int t_breaths, .int t_zeroAt, .int t_noticedAt, .ref A_t_image, .ref A_t_isKept])), (A_t_count, .inl (ty.1, 8, .inl t_count)), (A_t_pace, .inl (ty.1, 8, .inl t_pace)), (A_t_sight, .inl (ty.1, 24, .inl t_sight)), (A_t_pad, .inl (ty.1, 60, .inl t_pad)), (A_t_now, .inl (ty.1, 8, .inl t_now)), (A_t_image, .inl (ty.1, 120, .inl t_image)), (A_t_isKept, .inl (ty.2.2.1, 2, .inl t_isKept))] := hD
  refine lv_aload_n hx hb dX10_goHours_177 rfl (lv_at hl 0 rfl) ?_
  refine va_get (D := D) (ci := 9) (v := .int s0) (C := RX10) (T := TX10) (N := 19) hx hb hts wX10_goHours_X10 hown hK.1 hP 0 rfl rfl 12 (by decide) (hts _ mX10_goHours_f102) (fun _ h9 => h9) rfl dX10_goHours_178 ?_
  refine lv_if_le (tgt := 188) hx hb dX10_goHours_181 (by decide) (fun hc => ?_) (fun hc => ?_)
  · have hf := ft hf hc
    refine lv_iload_n hx hb dX10_goHours_188 rfl (lv_at hl 2 rfl) ?_
    refine lv_bipush (v := 46) hx hb dX10_goHours_189 (by decide) ?_
    refine lv_icmp_ne (tgt := 198) hx hb dX10_goHours_191 (by decide) (fun hc => ?_) (fun hc => ?_)
    · have hf := ff hf hc
      refine lv_iload_n hx hb dX10_goHours_198 rfl (lv_at hl 2 rfl) ?_
      refine lv_bipush (v := 58) hx hb dX10_goHours_199 (by decide) ?_
      refine lv_icmp_ne (tgt := 209) hx hb dX10_goHours_201 (by decide) (fun hc => ?_) (fun hc => ?_)
      · have hf := ff hf hc
        refine lv_iconst (v := 0) hx hb dX10_goHours_209 (by decide) ?_
        refine lv_istore_n (lv' := [(3, .int 0), (0, .ref A_t), (1, .int v1), (2, .int v2)]) hx hb dX10_goHours_210 rfl hl (by decide) rfl (fun ls hl => ?_)
        refine lv_iconst (v := 0) hx hb dX10_goHours_211 (by decide) ?_
        refine lv_istore (lv' := [(4, .int 0), (3, .int 0), (0, .ref A_t), (1, .int v1), (2, .int v2)]) hx hb dX10_goHours_212 hl (by decide) rfl (fun ls hl => ?_)
        exact BX10_goHours_214 C hK hk39 FU _ _ _ _ _ _ _ _ _ _ _ _ _ _ hP hD hS (lv_sub hl [2, 3, 4, 1, 0] rfl) hf
      · have hf := ft hf hc
        refine lv_bipush (v := 10) hx hb dX10_goHours_204 (by decide) ?_
        refine lv_goto (tgt := 210) hx hb dX10_goHours_206 (by decide) ?_
        refine lv_istore_n (lv' := [(3, .int 10), (0, .ref A_t), (1, .int v1), (2, .int v2)]) hx hb dX10_goHours_210 rfl hl (by decide) rfl (fun ls hl => ?_)
        refine lv_iconst (v := 0) hx hb dX10_goHours_211 (by decide) ?_
        refine lv_istore (lv' := [(4, .int 0), (3, .int 10), (0, .ref A_t), (1, .int v1), (2, .int v2)]) hx hb dX10_goHours_212 hl (by decide) rfl (fun ls hl => ?_)
        exact BX10_goHours_214 C hK hk39 FU _ _ _ _ _ _ _ _ _ _ _ _ _ _ hP hD hS (lv_sub hl [2, 3, 4, 1, 0] rfl) hf
    · have hf := ft hf hc
      refine lv_iconst (v := 1) hx hb dX10_goHours_194 (by decide) ?_
      refine lv_goto (tgt := 210) hx hb dX10_goHours_195 (by decide) ?_
      refine lv_istore_n (lv' := [(3, .int 1), (0, .ref A_t), (1, .int v1), (2, .int v2)]) hx hb dX10_goHours_210 rfl hl (by decide) rfl (fun ls hl => ?_)
      refine lv_iconst (v := 0) hx hb dX10_goHours_211 (by decide) ?_
      refine lv_istore (lv' := [(4, .int 0), (3, .int 1), (0, .ref A_t), (1, .int v1), (2, .int v2)]) hx hb dX10_goHours_212 hl (by decide) rfl (fun ls hl => ?_)
      exact BX10_goHours_214 C hK hk39 FU _ _ _ _ _ _ _ _ _ _ _ _ _ _ hP hD hS (lv_sub hl [2, 3, 4, 1, 0] rfl) hf
  · have hf := ff hf hc
    refine lv_iconst (v := 0) hx hb dX10_goHours_184 (by decide) ?_
    refine lv_goto (tgt := 210) hx hb dX10_goHours_185 (by decide) ?_
    refine lv_istore_n (lv' := [(3, .int 0), (0, .ref A_t), (1, .int v1), (2, .int v2)]) hx hb dX10_goHours_210 rfl hl (by decide) rfl (fun ls hl => ?_)
    refine lv_iconst (v := 0) hx hb dX10_goHours_211 (by decide) ?_
    refine lv_istore (lv' := [(4, .int 0), (3, .int 0), (0, .ref A_t), (1, .int v1), (2, .int v2)]) hx hb dX10_goHours_212 hl (by decide) rfl (fun ls hl => ?_)
    exact BX10_goHours_214 C hK hk39 FU _ _ _ _ _ _ _ _ _ _ _ _ _ _ hP hD hS (lv_sub hl [2, 3, 4, 1, 0] rfl) hf
def bX10_goHours_141 (k39 : Int32 × Int32 × Int32 × Int32 × Int32 × Int32 × Int32 × (Nat → Int32) → Option (Int32 × Int32 × Int32 × Int32 × Int32 × Int32 × Int32 × (Nat → Int32))) (t_house : Int32) (t_sharp : Int32) (v1 : Int32) (v3 : Int32) (v4 : Int32) (t_up : Int32) (t_reason : Int32) (t_acts : Int32) (t_breaths : Int32) (t_zeroAt : Int32) (t_noticedAt : Int32) (t_now : Nat → Int32) : Option (Int32 × Int32 × Int32 × Int32 × Int32 × Int32 × Int32 × (Nat → Int32)) :=
  if t_reason = 0 then (fX10_act t_house t_up t_now v3 v4).bind fun r152 => bX10_goHours_318 k39 t_sharp (v1 + 2) r152.1 t_reason t_acts t_breaths t_zeroAt t_noticedAt r152.2 else bX10_goHours_318 k39 t_sharp (v1 + 2) t_up t_reason t_acts t_breaths t_zeroAt t_noticedAt t_now
set_option maxRecDepth 100000 in
set_option maxHeartbeats 4000000 in
theorem BX10_goHours_141 {p : Program} {l : Launch} {e : Env} {s : State} {m : MethodId} {below : List Frame} {meth : Method} {c : Code} {D : va_G} {ty : TY} {A_t A_t_count A_t_pace A_t_sight A_t_pad A_t_now A_t_image A_t_isKept : Nat} {t_there : Int32} {t_awake : Int32} {t_house : Int32} {t_sharp : Int32} {t_sights : Int32} {t_signs : Int32} {t_count : Nat → Int32} {t_pace : Nat → Int32} {t_sight : Nat → Int32} {t_pad : Nat → Int32} {t_image : Nat → Int32} {t_isKept : Nat → Int32} {q0 : Int32 × Int32 × Int32 × Int32 × Int32 × Int32 × Int32 × (Nat → Int32)} {WC : va_W} (C : cx p s m [.ref A_t] meth c cX10_goHours 5 (some .int) RX10 wsX10_goHours) (hK : KK D ty s) {k39 : Int32 × Int32 × Int32 × Int32 × Int32 × Int32 × Int32 × (Nat → Int32) → Option (Int32 × Int32 × Int32 × Int32 × Int32 × Int32 × Int32 × (Nat → Int32))} (hk39 : ∀ (v1 : Int32) (t_up : Int32) (t_reason : Int32) (t_acts : Int32) (t_breaths : Int32) (t_zeroAt : Int32) (t_noticedAt : Int32) (t_now : Nat → Int32) (H : Heap) (locs : List Loc) (ls : Array Slot), va_P D vwCl [(A_t, .inr (9, [.int t_there, .int t_awake, .ref A_t_count, .ref A_t_pace, .int t_house, .int t_sharp, .int t_sights, .ref A_t_sight, .int t_signs, .ref A_t_pad, .int t_up, .ref A_t_now, .int t_reason, .int t_acts, .int t_breaths, .int t_zeroAt, .int t_noticedAt, .ref A_t_image, .ref A_t_isKept])), (A_t_count, .inl (ty.1, 8, .inl t_count)), (A_t_pace, .inl (ty.1, 8, .inl t_pace)), (A_t_sight, .inl (ty.1, 24, .inl t_sight)), (A_t_pad, .inl (ty.1, 60, .inl t_pad)), (A_t_now, .inl (ty.1, 8, .inl t_now)), (A_t_image, .inl (ty.1, 120, .inl t_image)), (A_t_isKept, .inl (ty.2.2.1, 2, .inl t_isKept))] H → va_D (va_A WC s.heap.size) [(A_t, .inr (9, [.int t_there, .int t_awake, .ref A_t_count, .ref A_t_pace, .int t_house, .int t_sharp, .int t_sights, .ref A_t_sight, .int t_signs, .ref A_t_pad, .int t_up, .ref A_t_now, .int t_reason, .int t_acts, .int t_breaths, .int t_zeroAt, .int t_noticedAt, .ref A_t_image, .ref A_t_isKept])), (A_t_count, .inl (ty.1, 8, .inl t_count)), (A_t_pace, .inl (ty.1, 8, .inl t_pace)), (A_t_sight, .inl (ty.1, 24, .inl t_sight)), (A_t_pad, .inl (ty.1, 60, .inl t_pad)), (A_t_now, .inl (ty.1, 8, .inl t_now)), (A_t_image, .inl (ty.1, 120, .inl t_image)), (A_t_isKept, .inl (ty.2.2.1, 2, .inl t_isKept))] → va_S (va_A WC s.heap.size) s.heap H locs → lv_has ls 5 [(0, .ref A_t), (1, .int v1)] → k39 (v1, t_up, t_reason, t_acts, t_breaths, t_zeroAt, t_noticedAt, t_now) = some q0 → WWi p l e rmX10_goHours s m [.ref A_t] below meth c D WC [(A_t, .inr (9, [.int t_there, .int t_awake, .ref A_t_count, .ref A_t_pace, .int t_house, .int t_sharp, .int t_sights, .ref A_t_sight, .int t_signs, .ref A_t_pad, .int q0.2.1, .ref A_t_now, .int q0.2.2.1, .int q0.2.2.2.1, .int q0.2.2.2.2.1, .int q0.2.2.2.2.2.1, .int q0.2.2.2.2.2.2.1, .ref A_t_image, .ref A_t_isKept])), (A_t_count, .inl (ty.1, 8, .inl t_count)), (A_t_pace, .inl (ty.1, 8, .inl t_pace)), (A_t_sight, .inl (ty.1, 24, .inl t_sight)), (A_t_pad, .inl (ty.1, 60, .inl t_pad)), (A_t_now, .inl (ty.1, 8, .inl q0.2.2.2.2.2.2.2)), (A_t_image, .inl (ty.1, 120, .inl t_image)), (A_t_isKept, .inl (ty.2.2.1, 2, .inl t_isKept))] q0.1 H locs (F0 m 39 ls [])) {v1 : Int32} {v3 : Int32} {v4 : Int32} {t_up : Int32} {t_reason : Int32} {t_acts : Int32} {t_breaths : Int32} {t_zeroAt : Int32} {t_noticedAt : Int32} {t_now : Nat → Int32} {H : Heap} {locs : List Loc} {ls : Array Slot} (hP : va_P D vwCl [(A_t, .inr (9, [.int t_there, .int t_awake, .ref A_t_count, .ref A_t_pace, .int t_house, .int t_sharp, .int t_sights, .ref A_t_sight, .int t_signs, .ref A_t_pad, .int t_up, .ref A_t_now, .int t_reason, .int t_acts, .int t_breaths, .int t_zeroAt, .int t_noticedAt, .ref A_t_image, .ref A_t_isKept])), (A_t_count, .inl (ty.1, 8, .inl t_count)), (A_t_pace, .inl (ty.1, 8, .inl t_pace)), (A_t_sight, .inl (ty.1, 24, .inl t_sight)), (A_t_pad, .inl (ty.1, 60, .inl t_pad)), (A_t_now, .inl (ty.1, 8, .inl t_now)), (A_t_image, .inl (ty.1, 120, .inl t_image)), (A_t_isKept, .inl (ty.2.2.1, 2, .inl t_isKept))] H) (hD : va_D (va_A WC s.heap.size) [(A_t, .inr (9, [.int t_there, .int t_awake, .ref A_t_count, .ref A_t_pace, .int t_house, .int t_sharp, .int t_sights, .ref A_t_sight, .int t_signs, .ref A_t_pad, .int t_up, .ref A_t_now, .int t_reason, .int t_acts, .int t_breaths, .int t_zeroAt, .int t_noticedAt, .ref A_t_image, .ref A_t_isKept])), (A_t_count, .inl (ty.1, 8, .inl t_count)), (A_t_pace, .inl (ty.1, 8, .inl t_pace)), (A_t_sight, .inl (ty.1, 24, .inl t_sight)), (A_t_pad, .inl (ty.1, 60, .inl t_pad)), (A_t_now, .inl (ty.1, 8, .inl t_now)), (A_t_image, .inl (ty.1, 120, .inl t_image)), (A_t_isKept, .inl (ty.2.2.1, 2, .inl t_isKept))]) (hS : va_S (va_A WC s.heap.size) s.heap H locs) (hl : lv_has ls 5 [(0, .ref A_t), (1, .int v1), (3, .int v3), (4, .int v4)]) (hf : bX10_goHours_141 k39 t_house t_sharp v1 v3 v4 t_up t_reason t_acts t_breaths t_zeroAt t_noticedAt t_now = some q0) : WWi p l e rmX10_goHours s m [.ref A_t] below meth c D WC [(A_t, .inr (9, [.int t_there, .int t_awake, .ref A_t_count, .ref A_t_pace, .int t_house, .int t_sharp, .int t_sights, .ref A_t_sight, .int t_signs, .ref A_t_pad, .int q0.2.1, .ref A_t_now, .int q0.2.2.1, .int q0.2.2.2.1, .int q0.2.2.2.2.1, .int q0.2.2.2.2.2.1, .int q0.2.2.2.2.2.2.1, .ref A_t_image, .ref A_t_isKept])), (A_t_count, .inl (ty.1, 8, .inl t_count)), (A_t_pace, .inl (ty.1, 8, .inl t_pace)), (A_t_sight, .inl (ty.1, 24, .inl t_sight)), (A_t_pad, .inl (ty.1, 60, .inl t_pad)), (A_t_now, .inl (ty.1, 8, .inl q0.2.2.2.2.2.2.2)), (A_t_image, .inl (ty.1, 120, .inl t_image)), (A_t_isKept, .inl (ty.2.2.1, 2, .inl t_isKept))] q0.1 H locs (F0 m 141 ls []) := by
  obtain ⟨hx, hb, hr, hml, hown, hts, hlocks⟩ := id C
  unfold bX10_goHours_141 at hf
  refine lv_aload_n hx hb dX10_goHours_141 rfl (lv_at hl 0 rfl) ?_
  refine va_get (D := D) (ci := 9) (v := .int t_reason) (C := RX10) (T := TX10) (N := 19) hx hb hts wX10_goHours_X10 hown hK.1 hP 0 rfl rfl 12 (by decide) (hts _ mX10_goHours_f102) (fun _ h9 => h9) rfl dX10_goHours_142 ?_
  refine lv_if_ne (tgt := 155) hx hb dX10_goHours_145 (by decide) (fun hc => ?_) (fun hc => ?_)
  · have hf := ff hf hc
    refine lv_iinc (v := v1 + 2) (lv' := [(1, .int (v1 + 2)), (0, .ref A_t), (3, .int v3), (4, .int v4)]) hx hb dX10_goHours_155 hl (k := 1) rfl rfl (by decide) rfl (fun ls hl => ?_)
    refine lv_goto (tgt := 318) hx hb dX10_goHours_158 (by decide) ?_
    exact BX10_goHours_318 C hK hk39 hP hD hS (lv_sub hl [1, 0] rfl) hf
  · have hf := ft hf hc
    refine lv_aload_n hx hb dX10_goHours_148 rfl (lv_at hl 0 rfl) ?_
    refine lv_iload_n hx hb dX10_goHours_149 rfl (lv_at hl 2 rfl) ?_
    refine lv_iload hx hb dX10_goHours_150 (lv_at hl 3 rfl) ?_
    obtain ⟨r152, hr152, hf⟩ := bnd hf
    refine callV_wv (As := [.int v3, .int v4]) (rest := []) ⟨hx, hb, hml, hown, hts⟩ (CX10_act l hr152) (cwV 2 hts gX10_goHours_X10_act rfl rfl rfl kkX10_act ⟨Nat.le_of_ble_eq_true rfl, Nat.le_of_ble_eq_true rfl⟩) hK hP hD hS (fun _ h => Or.inr h) [0, 1, 2, 3, 4, 5, 6, 7] [] [0, 1, 2, 3, 4, 5, 6, 7] rfl (by decide) (by decide) rfl rfl 0 rfl rfl rfl hl.1 rfl (Nat.le_of_ble_eq_true rfl) dX10_goHours_152 ⟨Nat.zero_le _, Nat.zero_le _⟩ (fun H locs hP hD hS => ?_)
    have hP : va_P D vwCl [(A_t, .inr (9, [.int t_there, .int t_awake, .ref A_t_count, .ref A_t_pace, .int t_house, .int t_sharp, .int t_sights, .ref A_t_sight, .int t_signs, .ref A_t_pad, .int r152.1, .ref A_t_now, .int t_reason, .int t_acts, .int t_breaths, .int t_zeroAt, .int t_noticedAt, .ref A_t_image, .ref A_t_isKept])), (A_t_count, .inl (ty.1, 8, .inl t_count)), (A_t_pace, .inl (ty.1, 8, .inl t_pace)), (A_t_sight, .inl (ty.1, 24, .inl t_sight)), (A_t_pad, .inl (ty.1, 60, .inl t_pad)), (A_t_now, .inl (ty.1, 8, .inl r152.2)), (A_t_image, .inl (ty.1, 120, .inl t_image)), (A_t_isKept, .inl (ty.2.2.1, 2, .inl t_isKept))] H := hP
    have hD : va_D (va_A WC s.heap.size) [(A_t, .inr (9, [.int t_there, .int t_awake, .ref A_t_count, .ref A_t_pace, .int t_house, .int t_sharp, .int t_sights, .ref A_t_sight, .int t_signs, .ref A_t_pad, .int r152.1, .ref A_t_now, .int t_reason, .int t_acts, .int t_breaths, .int t_zeroAt, .int t_noticedAt, .ref A_t_image, .ref A_t_isKept])), (A_t_count, .inl (ty.1, 8, .inl t_count)), (A_t_pace, .inl (ty.1, 8, .inl t_pace)), (A_t_sight, .inl (ty.1, 24, .inl t_sight)), (A_t_pad, .inl (ty.1, 60, .inl t_pad)), (A_t_now, .inl (ty.1, 8, .inl r152.2)), (A_t_image, .inl (ty.1, 120, .inl t_image)), (A_t_isKept, .inl (ty.2.2.1, 2, .inl t_isKept))] := hD
    refine lv_iinc (v := v1 + 2) (lv' := [(1, .int (v1 + 2)), (0, .ref A_t), (3, .int v3), (4, .int v4)]) hx hb dX10_goHours_155 hl (k := 1) rfl rfl (by decide) rfl (fun ls hl => ?_)
    refine lv_goto (tgt := 318) hx hb dX10_goHours_158 (by decide) ?_
    exact BX10_goHours_318 C hK hk39 hP hD hS (lv_sub hl [1, 0] rfl) hf
def bX10_goHours_110 (k39 : Int32 × Int32 × Int32 × Int32 × Int32 × Int32 × Int32 × (Nat → Int32) → Option (Int32 × Int32 × Int32 × Int32 × Int32 × Int32 × Int32 × (Nat → Int32))) (t_house : Int32) (t_sharp : Int32) (v1 : Int32) (v3 : Int32) (v4 : Int32) (s0 : Int32) (t_up : Int32) (t_reason : Int32) (t_acts : Int32) (t_breaths : Int32) (t_zeroAt : Int32) (t_noticedAt : Int32) (t_now : Nat → Int32) : Option (Int32 × Int32 × Int32 × Int32 × Int32 × Int32 × Int32 × (Nat → Int32)) :=
  if s0 = 0 then (fX10_isMonk v4).bind fun r122 => if r122 = 0 then bX10_goHours_141 k39 t_house t_sharp v1 v3 v4 t_up s0 t_acts t_breaths t_zeroAt t_noticedAt t_now else (fX10_sleep t_up t_now v3 (v4 - 65)).bind fun r135 => bX10_goHours_318 k39 t_sharp (v1 + 2) r135.1 s0 t_acts t_breaths t_zeroAt t_noticedAt r135.2 else bX10_goHours_141 k39 t_house t_sharp v1 v3 v4 t_up s0 t_acts t_breaths t_zeroAt t_noticedAt t_now
set_option maxRecDepth 100000 in
set_option maxHeartbeats 4000000 in
theorem BX10_goHours_110 {p : Program} {l : Launch} {e : Env} {s : State} {m : MethodId} {below : List Frame} {meth : Method} {c : Code} {D : va_G} {ty : TY} {A_t A_t_count A_t_pace A_t_sight A_t_pad A_t_now A_t_image A_t_isKept : Nat} {t_there : Int32} {t_awake : Int32} {t_house : Int32} {t_sharp : Int32} {t_sights : Int32} {t_signs : Int32} {t_count : Nat → Int32} {t_pace : Nat → Int32} {t_sight : Nat → Int32} {t_pad : Nat → Int32} {t_image : Nat → Int32} {t_isKept : Nat → Int32} {q0 : Int32 × Int32 × Int32 × Int32 × Int32 × Int32 × Int32 × (Nat → Int32)} {WC : va_W} (C : cx p s m [.ref A_t] meth c cX10_goHours 5 (some .int) RX10 wsX10_goHours) (hK : KK D ty s) {k39 : Int32 × Int32 × Int32 × Int32 × Int32 × Int32 × Int32 × (Nat → Int32) → Option (Int32 × Int32 × Int32 × Int32 × Int32 × Int32 × Int32 × (Nat → Int32))} (hk39 : ∀ (v1 : Int32) (t_up : Int32) (t_reason : Int32) (t_acts : Int32) (t_breaths : Int32) (t_zeroAt : Int32) (t_noticedAt : Int32) (t_now : Nat → Int32) (H : Heap) (locs : List Loc) (ls : Array Slot), va_P D vwCl [(A_t, .inr (9, [.int t_there, .int t_awake, .ref A_t_count, .ref A_t_pace, .int t_house, .int t_sharp, .int t_sights, .ref A_t_sight, .int t_signs, .ref A_t_pad, .int t_up, .ref A_t_now, .int t_reason, .int t_acts, .int t_breaths, .int t_zeroAt, .int t_noticedAt, .ref A_t_image, .ref A_t_isKept])), (A_t_count, .inl (ty.1, 8, .inl t_count)), (A_t_pace, .inl (ty.1, 8, .inl t_pace)), (A_t_sight, .inl (ty.1, 24, .inl t_sight)), (A_t_pad, .inl (ty.1, 60, .inl t_pad)), (A_t_now, .inl (ty.1, 8, .inl t_now)), (A_t_image, .inl (ty.1, 120, .inl t_image)), (A_t_isKept, .inl (ty.2.2.1, 2, .inl t_isKept))] H → va_D (va_A WC s.heap.size) [(A_t, .inr (9, [.int t_there, .int t_awake, .ref A_t_count, .ref A_t_pace, .int t_house, .int t_sharp, .int t_sights, .ref A_t_sight, .int t_signs, .ref A_t_pad, .int t_up, .ref A_t_now, .int t_reason, .int t_acts, .int t_breaths, .int t_zeroAt, .int t_noticedAt, .ref A_t_image, .ref A_t_isKept])), (A_t_count, .inl (ty.1, 8, .inl t_count)), (A_t_pace, .inl (ty.1, 8, .inl t_pace)), (A_t_sight, .inl (ty.1, 24, .inl t_sight)), (A_t_pad, .inl (ty.1, 60, .inl t_pad)), (A_t_now, .inl (ty.1, 8, .inl t_now)), (A_t_image, .inl (ty.1, 120, .inl t_image)), (A_t_isKept, .inl (ty.2.2.1, 2, .inl t_isKept))] → va_S (va_A WC s.heap.size) s.heap H locs → lv_has ls 5 [(0, .ref A_t), (1, .int v1)] → k39 (v1, t_up, t_reason, t_acts, t_breaths, t_zeroAt, t_noticedAt, t_now) = some q0 → WWi p l e rmX10_goHours s m [.ref A_t] below meth c D WC [(A_t, .inr (9, [.int t_there, .int t_awake, .ref A_t_count, .ref A_t_pace, .int t_house, .int t_sharp, .int t_sights, .ref A_t_sight, .int t_signs, .ref A_t_pad, .int q0.2.1, .ref A_t_now, .int q0.2.2.1, .int q0.2.2.2.1, .int q0.2.2.2.2.1, .int q0.2.2.2.2.2.1, .int q0.2.2.2.2.2.2.1, .ref A_t_image, .ref A_t_isKept])), (A_t_count, .inl (ty.1, 8, .inl t_count)), (A_t_pace, .inl (ty.1, 8, .inl t_pace)), (A_t_sight, .inl (ty.1, 24, .inl t_sight)), (A_t_pad, .inl (ty.1, 60, .inl t_pad)), (A_t_now, .inl (ty.1, 8, .inl q0.2.2.2.2.2.2.2)), (A_t_image, .inl (ty.1, 120, .inl t_image)), (A_t_isKept, .inl (ty.2.2.1, 2, .inl t_isKept))] q0.1 H locs (F0 m 39 ls [])) {v1 : Int32} {v3 : Int32} {v4 : Int32} {s0 : Int32} {t_up : Int32} {t_reason : Int32} {t_acts : Int32} {t_breaths : Int32} {t_zeroAt : Int32} {t_noticedAt : Int32} {t_now : Nat → Int32} {H : Heap} {locs : List Loc} {ls : Array Slot} (hP : va_P D vwCl [(A_t, .inr (9, [.int t_there, .int t_awake, .ref A_t_count, .ref A_t_pace, .int t_house, .int t_sharp, .int t_sights, .ref A_t_sight, .int t_signs, .ref A_t_pad, .int t_up, .ref A_t_now, .int t_reason, .int t_acts, .int t_breaths, .int t_zeroAt, .int t_noticedAt, .ref A_t_image, .ref A_t_isKept])), (A_t_count, .inl (ty.1, 8, .inl t_count)), (A_t_pace, .inl (ty.1, 8, .inl t_pace)), (A_t_sight, .inl (ty.1, 24, .inl t_sight)), (A_t_pad, .inl (ty.1, 60, .inl t_pad)), (A_t_now, .inl (ty.1, 8, .inl t_now)), (A_t_image, .inl (ty.1, 120, .inl t_image)), (A_t_isKept, .inl (ty.2.2.1, 2, .inl t_isKept))] H) (hD : va_D (va_A WC s.heap.size) [(A_t, .inr (9, [.int t_there, .int t_awake, .ref A_t_count, .ref A_t_pace, .int t_house, .int t_sharp, .int t_sights, .ref A_t_sight, .int t_signs, .ref A_t_pad, .int t_up, .ref A_t_now, .int t_reason, .int t_acts, .int t_breaths, .int t_zeroAt, .int t_noticedAt, .ref A_t_image, .ref A_t_isKept])), (A_t_count, .inl (ty.1, 8, .inl t_count)), (A_t_pace, .inl (ty.1, 8, .inl t_pace)), (A_t_sight, .inl (ty.1, 24, .inl t_sight)), (A_t_pad, .inl (ty.1, 60, .inl t_pad)), (A_t_now, .inl (ty.1, 8, .inl t_now)), (A_t_image, .inl (ty.1, 120, .inl t_image)), (A_t_isKept, .inl (ty.2.2.1, 2, .inl t_isKept))]) (hS : va_S (va_A WC s.heap.size) s.heap H locs) (hl : lv_has ls 5 [(0, .ref A_t), (1, .int v1), (3, .int v3), (4, .int v4)]) (hf : bX10_goHours_110 k39 t_house t_sharp v1 v3 v4 s0 t_up t_reason t_acts t_breaths t_zeroAt t_noticedAt t_now = some q0) : WWi p l e rmX10_goHours s m [.ref A_t] below meth c D WC [(A_t, .inr (9, [.int t_there, .int t_awake, .ref A_t_count, .ref A_t_pace, .int t_house, .int t_sharp, .int t_sights, .ref A_t_sight, .int t_signs, .ref A_t_pad, .int q0.2.1, .ref A_t_now, .int q0.2.2.1, .int q0.2.2.2.1, .int q0.2.2.2.2.1, .int q0.2.2.2.2.2.1, .int q0.2.2.2.2.2.2.1, .ref A_t_image, .ref A_t_isKept])), (A_t_count, .inl (ty.1, 8, .inl t_count)), (A_t_pace, .inl (ty.1, 8, .inl t_pace)), (A_t_sight, .inl (ty.1, 24, .inl t_sight)), (A_t_pad, .inl (ty.1, 60, .inl t_pad)), (A_t_now, .inl (ty.1, 8, .inl q0.2.2.2.2.2.2.2)), (A_t_image, .inl (ty.1, 120, .inl t_image)), (A_t_isKept, .inl (ty.2.2.1, 2, .inl t_isKept))] q0.1 H locs (F0 m 110 ls [.int s0, .ref A_t]) := by
  obtain ⟨hx, hb, hr, hml, hown, hts, hlocks⟩ := id C
  unfold bX10_goHours_110 at hf
  refine va_put (D := D) (ci := 9) (v := .int s0) (ty := .int) (C := RX10) (T := TX10) (N := 19) hx hb hts wX10_goHours_X10 tyX10 tyX10_ok nmX10 hown hK.1 hP hD hS 0 rfl rfl 12 (by decide) (hts _ mX10_goHours_f102) (fun _ h9 => h9) rfl (by decide +kernel) rfl rfl (Nat.le_of_ble_eq_true rfl) dX10_goHours_110 (fun H locs hP hD hS => ?_)
  have hP : va_P D vwCl [(A_t, .inr (9, [.int t_there, .int t_awake, .ref A_t_count, .ref A_t_pace, .int t_house, .int t_sharp, .int t_sights, .ref A_t_sight, .int t_signs, .ref A_t_pad, .int t_up, .ref A_t_now, .int s0, .int t_acts, .int t_breaths, .int t_zeroAt, .int t_noticedAt, .ref A_t_image, .ref A_t_isKept])), (A_t_count, .inl (ty.1, 8, .inl t_count)), (A_t_pace, .inl (ty.1, 8, .inl t_pace)), (A_t_sight, .inl (ty.1, 24, .inl t_sight)), (A_t_pad, .inl (ty.1, 60, .inl t_pad)), (A_t_now, .inl (ty.1, 8, .inl t_now)), (A_t_image, .inl (ty.1, 120, .inl t_image)), (A_t_isKept, .inl (ty.2.2.1, 2, .inl t_isKept))] H := hP
  have hD : va_D (va_A WC s.heap.size) [(A_t, .inr (9, [.int t_there, .int t_awake, .ref A_t_count, .ref A_t_pace, .int t_house, .int t_sharp, .int t_sights, .ref A_t_sight, .int t_signs, .ref A_t_pad, .int t_up, .ref A_t_now, .int s0, .int t_acts, .int t_breaths, .int t_zeroAt, .int t_noticedAt, .ref A_t_image, .ref A_t_isKept])), (A_t_count, .inl (ty.1, 8, .inl t_count)), (A_t_pace, .inl (ty.1, 8, .inl t_pace)), (A_t_sight, .inl (ty.1, 24, .inl t_sight)), (A_t_pad, .inl (ty.1, 60, .inl t_pad)), (A_t_now, .inl (ty.1, 8, .inl t_now)), (A_t_image, .inl (ty.1, 120, .inl t_image)), (A_t_isKept, .inl (ty.2.2.1, 2, .inl t_isKept))] := hD
  refine lv_aload_n hx hb dX10_goHours_113 rfl (lv_at hl 0 rfl) ?_
  refine va_get (D := D) (ci := 9) (v := .int s0) (C := RX10) (T := TX10) (N := 19) hx hb hts wX10_goHours_X10 hown hK.1 hP 0 rfl rfl 12 (by decide) (hts _ mX10_goHours_f102) (fun _ h9 => h9) rfl dX10_goHours_114 ?_
  refine lv_if_ne (tgt := 141) hx hb dX10_goHours_117 (by decide) (fun hc => ?_) (fun hc => ?_)
  · have hf := ff hf hc
    exact BX10_goHours_141 C hK hk39 hP hD hS (lv_sub hl [0, 1, 2, 3] rfl) hf
  · have hf := ft hf hc
    refine lv_iload hx hb dX10_goHours_120 (lv_at hl 3 rfl) ?_
    obtain ⟨r122, hr122, hf⟩ := bnd hf
    have hPc : va_P D vwCl [] _ := hP.sub [] rfl
    refine callS_ri (As := [.int v4]) (rest := []) ⟨hx, hb, hml, hown, hts⟩ (CX10_isMonk l hr122) (va_cwS 1 hts gX10_goHours_X10_isMonk rfl rfl rfl kkX10_isMonk.2 ⟨Nat.le_of_ble_eq_true rfl, Nat.le_of_ble_eq_true rfl⟩) hK hPc hl.1 rfl (Nat.le_of_ble_eq_true rfl) dX10_goHours_122 ⟨Nat.zero_le _, Nat.zero_le _⟩ ?_
    refine lv_if_eq (tgt := 141) hx hb dX10_goHours_125 (by decide) (fun hc => ?_) (fun hc => ?_)
    · have hf := ft hf hc
      exact BX10_goHours_141 C hK hk39 hP hD hS (lv_sub hl [0, 1, 2, 3] rfl) hf
    · have hf := ff hf hc
      refine lv_aload_n hx hb dX10_goHours_128 rfl (lv_at hl 0 rfl) ?_
      refine lv_iload_n hx hb dX10_goHours_129 rfl (lv_at hl 2 rfl) ?_
      refine lv_iload hx hb dX10_goHours_130 (lv_at hl 3 rfl) ?_
      refine lv_bipush (v := 65) hx hb dX10_goHours_132 (by decide) ?_
      refine lv_isub hx hb dX10_goHours_134 ?_
      obtain ⟨r135, hr135, hf⟩ := bnd hf
      refine callV_wv (As := [.int v3, .int (v4 - 65)]) (rest := []) ⟨hx, hb, hml, hown, hts⟩ (CX10_sleep l hr135) (cwV 2 hts gX10_goHours_X10_sleep rfl rfl rfl kkX10_sleep ⟨Nat.le_of_ble_eq_true rfl, Nat.le_of_ble_eq_true rfl⟩) hK hP hD hS (fun _ h => Or.inr h) [0, 1, 2, 3, 4, 5, 6, 7] [] [0, 1, 2, 3, 4, 5, 6, 7] rfl (by decide) (by decide) rfl rfl 0 rfl rfl rfl hl.1 rfl (Nat.le_of_ble_eq_true rfl) dX10_goHours_135 ⟨Nat.zero_le _, Nat.zero_le _⟩ (fun H locs hP hD hS => ?_)
      have hP : va_P D vwCl [(A_t, .inr (9, [.int t_there, .int t_awake, .ref A_t_count, .ref A_t_pace, .int t_house, .int t_sharp, .int t_sights, .ref A_t_sight, .int t_signs, .ref A_t_pad, .int r135.1, .ref A_t_now, .int s0, .int t_acts, .int t_breaths, .int t_zeroAt, .int t_noticedAt, .ref A_t_image, .ref A_t_isKept])), (A_t_count, .inl (ty.1, 8, .inl t_count)), (A_t_pace, .inl (ty.1, 8, .inl t_pace)), (A_t_sight, .inl (ty.1, 24, .inl t_sight)), (A_t_pad, .inl (ty.1, 60, .inl t_pad)), (A_t_now, .inl (ty.1, 8, .inl r135.2)), (A_t_image, .inl (ty.1, 120, .inl t_image)), (A_t_isKept, .inl (ty.2.2.1, 2, .inl t_isKept))] H := hP
      have hD : va_D (va_A WC s.heap.size) [(A_t, .inr (9, [.int t_there, .int t_awake, .ref A_t_count, .ref A_t_pace, .int t_house, .int t_sharp, .int t_sights, .ref A_t_sight, .int t_signs, .ref A_t_pad, .int r135.1, .ref A_t_now, .int s0, .int t_acts, .int t_breaths, .int t_zeroAt, .int t_noticedAt, .ref A_t_image, .ref A_t_isKept])), (A_t_count, .inl (ty.1, 8, .inl t_count)), (A_t_pace, .inl (ty.1, 8, .inl t_pace)), (A_t_sight, .inl (ty.1, 24, .inl t_sight)), (A_t_pad, .inl (ty.1, 60, .inl t_pad)), (A_t_now, .inl (ty.1, 8, .inl r135.2)), (A_t_image, .inl (ty.1, 120, .inl t_image)), (A_t_isKept, .inl (ty.2.2.1, 2, .inl t_isKept))] := hD
      refine lv_goto (tgt := 155) hx hb dX10_goHours_138 (by decide) ?_
      refine lv_iinc (v := v1 + 2) (lv' := [(1, .int (v1 + 2)), (0, .ref A_t), (3, .int v3), (4, .int v4)]) hx hb dX10_goHours_155 hl (k := 1) rfl rfl (by decide) rfl (fun ls hl => ?_)
      refine lv_goto (tgt := 318) hx hb dX10_goHours_158 (by decide) ?_
      exact BX10_goHours_318 C hK hk39 hP hD hS (lv_sub hl [1, 0] rfl) hf
def bX10_goHours_39 (k39 : Int32 × Int32 × Int32 × Int32 × Int32 × Int32 × Int32 × (Nat → Int32) → Option (Int32 × Int32 × Int32 × Int32 × Int32 × Int32 × Int32 × (Nat → Int32))) (t_there : Int32) (t_house : Int32) (t_sharp : Int32) (t_signs : Int32) (t_pace : Nat → Int32) (t_pad : Nat → Int32) (v1 : Int32) (t_up : Int32) (t_reason : Int32) (t_acts : Int32) (t_breaths : Int32) (t_zeroAt : Int32) (t_noticedAt : Int32) (t_now : Nat → Int32) : Option (Int32 × Int32 × Int32 × Int32 × Int32 × Int32 × Int32 × (Nat → Int32)) :=
  if t_signs ≤ v1 then some ((-6), t_up, t_reason, t_acts, t_breaths, t_zeroAt, t_noticedAt, t_now) else gIn v1 60 ((fX10_isMonk (t_pad (v1 : Int32).toNatClampNeg)).bind fun r60 => if r60 = 0 then if t_up = 0 then bX10_goHours_174 k39 t_there t_house t_sharp t_pace v1 (t_pad (v1 : Int32).toNatClampNeg) 5 t_up 0 t_acts t_breaths t_zeroAt t_noticedAt t_now else bX10_goHours_174 k39 t_there t_house t_sharp t_pace v1 (t_pad (v1 : Int32).toNatClampNeg) 0 t_up 0 t_acts t_breaths t_zeroAt t_noticedAt t_now else gIn (v1 + 1) 60 ((fX10_isMonk (t_pad (v1 + 1 : Int32).toNatClampNeg)).bind fun r84 => if r84 = 0 then (fX10_whyNot t_there t_up ((t_pad (v1 : Int32).toNatClampNeg) - 65) (t_pad (v1 + 1 : Int32).toNatClampNeg)).bind fun r107 => bX10_goHours_110 k39 t_house t_sharp v1 ((t_pad (v1 : Int32).toNatClampNeg) - 65) (t_pad (v1 + 1 : Int32).toNatClampNeg) r107 t_up 0 t_acts t_breaths t_zeroAt t_noticedAt t_now else (fX10_whyNotSleep t_there t_up ((t_pad (v1 : Int32).toNatClampNeg) - 65) ((t_pad (v1 + 1 : Int32).toNatClampNeg) - 65)).bind fun r97 => bX10_goHours_110 k39 t_house t_sharp v1 ((t_pad (v1 : Int32).toNatClampNeg) - 65) (t_pad (v1 + 1 : Int32).toNatClampNeg) r97 t_up 0 t_acts t_breaths t_zeroAt t_noticedAt t_now))
set_option maxRecDepth 100000 in
set_option maxHeartbeats 4000000 in
theorem BX10_goHours_39 {p : Program} {l : Launch} {e : Env} {s : State} {m : MethodId} {below : List Frame} {meth : Method} {c : Code} {D : va_G} {ty : TY} {A_t A_t_count A_t_pace A_t_sight A_t_pad A_t_now A_t_image A_t_isKept : Nat} {t_there : Int32} {t_awake : Int32} {t_house : Int32} {t_sharp : Int32} {t_sights : Int32} {t_signs : Int32} {t_count : Nat → Int32} {t_pace : Nat → Int32} {t_sight : Nat → Int32} {t_pad : Nat → Int32} {t_image : Nat → Int32} {t_isKept : Nat → Int32} {q0 : Int32 × Int32 × Int32 × Int32 × Int32 × Int32 × Int32 × (Nat → Int32)} {WC : va_W} (C : cx p s m [.ref A_t] meth c cX10_goHours 5 (some .int) RX10 wsX10_goHours) (hK : KK D ty s)   : ∀ (n : Nat) (v1 : Int32) (t_up : Int32) (t_reason : Int32) (t_acts : Int32) (t_breaths : Int32) (t_zeroAt : Int32) (t_noticedAt : Int32) (t_now : Nat → Int32) (H : Heap) (locs : List Loc) (ls : Array Slot), va_P D vwCl [(A_t, .inr (9, [.int t_there, .int t_awake, .ref A_t_count, .ref A_t_pace, .int t_house, .int t_sharp, .int t_sights, .ref A_t_sight, .int t_signs, .ref A_t_pad, .int t_up, .ref A_t_now, .int t_reason, .int t_acts, .int t_breaths, .int t_zeroAt, .int t_noticedAt, .ref A_t_image, .ref A_t_isKept])), (A_t_count, .inl (ty.1, 8, .inl t_count)), (A_t_pace, .inl (ty.1, 8, .inl t_pace)), (A_t_sight, .inl (ty.1, 24, .inl t_sight)), (A_t_pad, .inl (ty.1, 60, .inl t_pad)), (A_t_now, .inl (ty.1, 8, .inl t_now)), (A_t_image, .inl (ty.1, 120, .inl t_image)), (A_t_isKept, .inl (ty.2.2.1, 2, .inl t_isKept))] H → va_D (va_A WC s.heap.size) [(A_t, .inr (9, [.int t_there, .int t_awake, .ref A_t_count, .ref A_t_pace, .int t_house, .int t_sharp, .int t_sights, .ref A_t_sight, .int t_signs, .ref A_t_pad, .int t_up, .ref A_t_now, .int t_reason, .int t_acts, .int t_breaths, .int t_zeroAt, .int t_noticedAt, .ref A_t_image, .ref A_t_isKept])), (A_t_count, .inl (ty.1, 8, .inl t_count)), (A_t_pace, .inl (ty.1, 8, .inl t_pace)), (A_t_sight, .inl (ty.1, 24, .inl t_sight)), (A_t_pad, .inl (ty.1, 60, .inl t_pad)), (A_t_now, .inl (ty.1, 8, .inl t_now)), (A_t_image, .inl (ty.1, 120, .inl t_image)), (A_t_isKept, .inl (ty.2.2.1, 2, .inl t_isKept))] → va_S (va_A WC s.heap.size) s.heap H locs → lv_has ls 5 [(0, .ref A_t), (1, .int v1)] → loopF (fun k q => bX10_goHours_39 k t_there t_house t_sharp t_signs t_pace t_pad q.1 q.2.1 q.2.2.1 q.2.2.2.1 q.2.2.2.2.1 q.2.2.2.2.2.1 q.2.2.2.2.2.2.1 q.2.2.2.2.2.2.2) n (v1, t_up, t_reason, t_acts, t_breaths, t_zeroAt, t_noticedAt, t_now) = some q0 → WWi p l e rmX10_goHours s m [.ref A_t] below meth c D WC [(A_t, .inr (9, [.int t_there, .int t_awake, .ref A_t_count, .ref A_t_pace, .int t_house, .int t_sharp, .int t_sights, .ref A_t_sight, .int t_signs, .ref A_t_pad, .int q0.2.1, .ref A_t_now, .int q0.2.2.1, .int q0.2.2.2.1, .int q0.2.2.2.2.1, .int q0.2.2.2.2.2.1, .int q0.2.2.2.2.2.2.1, .ref A_t_image, .ref A_t_isKept])), (A_t_count, .inl (ty.1, 8, .inl t_count)), (A_t_pace, .inl (ty.1, 8, .inl t_pace)), (A_t_sight, .inl (ty.1, 24, .inl t_sight)), (A_t_pad, .inl (ty.1, 60, .inl t_pad)), (A_t_now, .inl (ty.1, 8, .inl q0.2.2.2.2.2.2.2)), (A_t_image, .inl (ty.1, 120, .inl t_image)), (A_t_isKept, .inl (ty.2.2.1, 2, .inl t_isKept))] q0.1 H locs (F0 m 39 ls []) := by
  obtain ⟨hx, hb, hr, hml, hown, hts, hlocks⟩ := id C
  intro n
  induction n with
  | zero =>
    intro v1 t_up t_reason t_acts t_breaths t_zeroAt t_noticedAt t_now H locs ls hP hD hS hl hf
    cases hf
  | succ n ih =>
    intro v1 t_up t_reason t_acts t_breaths t_zeroAt t_noticedAt t_now H locs ls hP hD hS hl hf
    have hf : bX10_goHours_39 (loopF (fun k q => bX10_goHours_39 k t_there t_house t_sharp t_signs t_pace t_pad q.1 q.2.1 q.2.2.1 q.2.2.2.1 q.2.2.2.2.1 q.2.2.2.2.2.1 q.2.2.2.2.2.2.1 q.2.2.2.2.2.2.2) n) t_there t_house t_sharp t_signs t_pace t_pad v1 t_up t_reason t_acts t_breaths t_zeroAt t_noticedAt t_now = some q0 := hf
    have hk39 := ih
    unfold bX10_goHours_39 at hf
    refine lv_iload_n hx hb dX10_goHours_39 rfl (lv_at hl 1 rfl) ?_
    refine lv_aload_n hx hb dX10_goHours_40 rfl (lv_at hl 0 rfl) ?_
    refine va_get (D := D) (ci := 9) (v := .int t_signs) (C := RX10) (T := TX10) (N := 19) hx hb hts wX10_goHours_X10 hown hK.1 hP 0 rfl rfl 8 (by decide) (hts _ mX10_goHours_f62) (fun _ h9 => h9) rfl dX10_goHours_41 ?_
    refine lv_icmp_ge (tgt := 376) hx hb dX10_goHours_44 (by decide) (fun hc => ?_) (fun hc => ?_)
    · have hf := ft hf hc
      refine lv_bipush (v := (-6)) hx hb dX10_goHours_376 (by decide) ?_
      cases hf
      exact ret_wi hx hb hr hlocks hP hD hS dX10_goHours_378
    · have hf := ff hf hc
      refine lv_aload_n hx hb dX10_goHours_47 rfl (lv_at hl 0 rfl) ?_
      refine va_get (D := D) (ci := 9) (v := .ref A_t_pad) (C := RX10) (T := TX10) (N := 19) hx hb hts wX10_goHours_X10 hown hK.1 hP 0 rfl rfl 9 (by decide) (hts _ mX10_goHours_f27) (fun _ h9 => h9) rfl dX10_goHours_48 ?_
      refine lv_iload_n hx hb dX10_goHours_51 rfl (lv_at hl 1 rfl) ?_
      obtain ⟨hin, hf⟩ := gIn_some hf
      refine va_iald hx hb hK.1 hP 4 0 rfl rfl hin dX10_goHours_52 ?_
      refine lv_istore_n (lv' := [(2, .int (t_pad (v1 : Int32).toNatClampNeg)), (0, .ref A_t), (1, .int v1)]) hx hb dX10_goHours_53 rfl hl (by decide) rfl (fun ls hl => ?_)
      refine lv_aload_n hx hb dX10_goHours_54 rfl (lv_at hl 1 rfl) ?_
      refine lv_iconst (v := 0) hx hb dX10_goHours_55 (by decide) ?_
      refine va_put (D := D) (ci := 9) (v := .int 0) (ty := .int) (C := RX10) (T := TX10) (N := 19) hx hb hts wX10_goHours_X10 tyX10 tyX10_ok nmX10 hown hK.1 hP hD hS 0 rfl rfl 12 (by decide) (hts _ mX10_goHours_f102) (fun _ h9 => h9) rfl (by decide +kernel) rfl rfl (Nat.le_of_ble_eq_true rfl) dX10_goHours_56 (fun H locs hP hD hS => ?_)
      have hP : va_P D vwCl [(A_t, .inr (9, [.int t_there, .int t_awake, .ref A_t_count, .ref A_t_pace, .int t_house, .int t_sharp, .int t_sights, .ref A_t_sight, .int t_signs, .ref A_t_pad, .int t_up, .ref A_t_now, .int 0, .int t_acts, .int t_breaths, .int t_zeroAt, .int t_noticedAt, .ref A_t_image, .ref A_t_isKept])), (A_t_count, .inl (ty.1, 8, .inl t_count)), (A_t_pace, .inl (ty.1, 8, .inl t_pace)), (A_t_sight, .inl (ty.1, 24, .inl t_sight)), (A_t_pad, .inl (ty.1, 60, .inl t_pad)), (A_t_now, .inl (ty.1, 8, .inl t_now)), (A_t_image, .inl (ty.1, 120, .inl t_image)), (A_t_isKept, .inl (ty.2.2.1, 2, .inl t_isKept))] H := hP
      have hD : va_D (va_A WC s.heap.size) [(A_t, .inr (9, [.int t_there, .int t_awake, .ref A_t_count, .ref A_t_pace, .int t_house, .int t_sharp, .int t_sights, .ref A_t_sight, .int t_signs, .ref A_t_pad, .int t_up, .ref A_t_now, .int 0, .int t_acts, .int t_breaths, .int t_zeroAt, .int t_noticedAt, .ref A_t_image, .ref A_t_isKept])), (A_t_count, .inl (ty.1, 8, .inl t_count)), (A_t_pace, .inl (ty.1, 8, .inl t_pace)), (A_t_sight, .inl (ty.1, 24, .inl t_sight)), (A_t_pad, .inl (ty.1, 60, .inl t_pad)), (A_t_now, .inl (ty.1, 8, .inl t_now)), (A_t_image, .inl (ty.1, 120, .inl t_image)), (A_t_isKept, .inl (ty.2.2.1, 2, .inl t_isKept))] := hD
      refine lv_iload_n hx hb dX10_goHours_59 rfl (lv_at hl 0 rfl) ?_
      obtain ⟨r60, hr60, hf⟩ := bnd hf
      have hPc : va_P D vwCl [] _ := hP.sub [] rfl
      refine callS_ri (As := [.int (t_pad (v1 : Int32).toNatClampNeg)]) (rest := []) ⟨hx, hb, hml, hown, hts⟩ (CX10_isMonk l hr60) (va_cwS 1 hts gX10_goHours_X10_isMonk rfl rfl rfl kkX10_isMonk.2 ⟨Nat.le_of_ble_eq_true rfl, Nat.le_of_ble_eq_true rfl⟩) hK hPc hl.1 rfl (Nat.le_of_ble_eq_true rfl) dX10_goHours_60 ⟨Nat.zero_le _, Nat.zero_le _⟩ ?_
      refine lv_if_eq (tgt := 161) hx hb dX10_goHours_63 (by decide) (fun hc => ?_) (fun hc => ?_)
      · have hf := ft hf hc
        refine lv_aload_n hx hb dX10_goHours_161 rfl (lv_at hl 1 rfl) ?_
        refine lv_aload_n hx hb dX10_goHours_162 rfl (lv_at hl 1 rfl) ?_
        refine va_get (D := D) (ci := 9) (v := .int t_up) (C := RX10) (T := TX10) (N := 19) hx hb hts wX10_goHours_X10 hown hK.1 hP 0 rfl rfl 10 (by decide) (hts _ mX10_goHours_f72) (fun _ h9 => h9) rfl dX10_goHours_163 ?_
        refine lv_if_ne (tgt := 173) hx hb dX10_goHours_166 (by decide) (fun hc => ?_) (fun hc => ?_)
        · have hf := ff hf hc
          refine lv_iconst (v := 0) hx hb dX10_goHours_173 (by decide) ?_
          exact BX10_goHours_174 C hK hk39 hP hD hS (lv_sub hl [1, 2, 0] rfl) hf
        · have hf := ft hf hc
          refine lv_iconst (v := 5) hx hb dX10_goHours_169 (by decide) ?_
          refine lv_goto (tgt := 174) hx hb dX10_goHours_170 (by decide) ?_
          exact BX10_goHours_174 C hK hk39 hP hD hS (lv_sub hl [1, 2, 0] rfl) hf
      · have hf := ff hf hc
        refine lv_iload_n hx hb dX10_goHours_66 rfl (lv_at hl 0 rfl) ?_
        refine lv_bipush (v := 65) hx hb dX10_goHours_67 (by decide) ?_
        refine lv_isub hx hb dX10_goHours_69 ?_
        refine lv_istore_n (lv' := [(3, .int ((t_pad (v1 : Int32).toNatClampNeg) - 65)), (2, .int (t_pad (v1 : Int32).toNatClampNeg)), (0, .ref A_t), (1, .int v1)]) hx hb dX10_goHours_70 rfl hl (by decide) rfl (fun ls hl => ?_)
        refine lv_aload_n hx hb dX10_goHours_71 rfl (lv_at hl 2 rfl) ?_
        refine va_get (D := D) (ci := 9) (v := .ref A_t_pad) (C := RX10) (T := TX10) (N := 19) hx hb hts wX10_goHours_X10 hown hK.1 hP 0 rfl rfl 9 (by decide) (hts _ mX10_goHours_f27) (fun _ h9 => h9) rfl dX10_goHours_72 ?_
        refine lv_iload_n hx hb dX10_goHours_75 rfl (lv_at hl 3 rfl) ?_
        refine lv_iconst (v := 1) hx hb dX10_goHours_76 (by decide) ?_
        refine lv_iadd hx hb dX10_goHours_77 ?_
        obtain ⟨hin, hf⟩ := gIn_some hf
        refine va_iald hx hb hK.1 hP 4 0 rfl rfl hin dX10_goHours_78 ?_
        refine lv_istore (lv' := [(4, .int (t_pad (v1 + 1 : Int32).toNatClampNeg)), (3, .int ((t_pad (v1 : Int32).toNatClampNeg) - 65)), (2, .int (t_pad (v1 : Int32).toNatClampNeg)), (0, .ref A_t), (1, .int v1)]) hx hb dX10_goHours_79 hl (by decide) rfl (fun ls hl => ?_)
        refine lv_aload_n hx hb dX10_goHours_81 rfl (lv_at hl 3 rfl) ?_
        refine lv_iload hx hb dX10_goHours_82 (lv_at hl 0 rfl) ?_
        obtain ⟨r84, hr84, hf⟩ := bnd hf
        have hPc : va_P D vwCl [] _ := hP.sub [] rfl
        refine callS_ri (As := [.int (t_pad (v1 + 1 : Int32).toNatClampNeg)]) (rest := [.ref A_t]) ⟨hx, hb, hml, hown, hts⟩ (CX10_isMonk l hr84) (va_cwS 1 hts gX10_goHours_X10_isMonk rfl rfl rfl kkX10_isMonk.2 ⟨Nat.le_of_ble_eq_true rfl, Nat.le_of_ble_eq_true rfl⟩) hK hPc hl.1 rfl (Nat.le_of_ble_eq_true rfl) dX10_goHours_84 ⟨Nat.zero_le _, Nat.zero_le _⟩ ?_
        refine lv_if_eq (tgt := 103) hx hb dX10_goHours_87 (by decide) (fun hc => ?_) (fun hc => ?_)
        · have hf := ft hf hc
          refine lv_aload_n hx hb dX10_goHours_103 rfl (lv_at hl 3 rfl) ?_
          refine lv_iload_n hx hb dX10_goHours_104 rfl (lv_at hl 1 rfl) ?_
          refine lv_iload hx hb dX10_goHours_105 (lv_at hl 0 rfl) ?_
          obtain ⟨r107, hr107, hf⟩ := bnd hf
          refine callV_ri (As := [.int ((t_pad (v1 : Int32).toNatClampNeg) - 65), .int (t_pad (v1 + 1 : Int32).toNatClampNeg)]) (rest := [.ref A_t]) ⟨hx, hb, hml, hown, hts⟩ (CX10_whyNot l hr107) (cwV 2 hts gX10_goHours_X10_whyNot rfl rfl rfl kkX10_whyNot ⟨Nat.le_of_ble_eq_true rfl, Nat.le_of_ble_eq_true rfl⟩) hK hP 0 rfl rfl rfl hl.1 rfl (Nat.le_of_ble_eq_true rfl) dX10_goHours_107 ⟨Nat.zero_le _, Nat.zero_le _⟩ ?_
          exact BX10_goHours_110 C hK hk39 hP hD hS (lv_sub hl [3, 4, 1, 0] rfl) hf
        · have hf := ff hf hc
          refine lv_aload_n hx hb dX10_goHours_90 rfl (lv_at hl 3 rfl) ?_
          refine lv_iload_n hx hb dX10_goHours_91 rfl (lv_at hl 1 rfl) ?_
          refine lv_iload hx hb dX10_goHours_92 (lv_at hl 0 rfl) ?_
          refine lv_bipush (v := 65) hx hb dX10_goHours_94 (by decide) ?_
          refine lv_isub hx hb dX10_goHours_96 ?_
          obtain ⟨r97, hr97, hf⟩ := bnd hf
          refine callV_ri (As := [.int ((t_pad (v1 : Int32).toNatClampNeg) - 65), .int ((t_pad (v1 + 1 : Int32).toNatClampNeg) - 65)]) (rest := [.ref A_t]) ⟨hx, hb, hml, hown, hts⟩ (CX10_whyNotSleep l hr97) (cwV 2 hts gX10_goHours_X10_whyNotSleep rfl rfl rfl kkX10_whyNotSleep ⟨Nat.le_of_ble_eq_true rfl, Nat.le_of_ble_eq_true rfl⟩) hK hP 0 rfl rfl rfl hl.1 rfl (Nat.le_of_ble_eq_true rfl) dX10_goHours_97 ⟨Nat.zero_le _, Nat.zero_le _⟩ ?_
          refine lv_goto (tgt := 110) hx hb dX10_goHours_100 (by decide) ?_
          exact BX10_goHours_110 C hK hk39 hP hD hS (lv_sub hl [3, 4, 1, 0] rfl) hf
def bX10_goHours_28 (t_there : Int32) (t_house : Int32) (t_sharp : Int32) (t_signs : Int32) (t_pace : Nat → Int32) (t_pad : Nat → Int32) (s0 : Int32) (t_up : Int32) (t_reason : Int32) (t_acts : Int32) (t_breaths : Int32) (t_zeroAt : Int32) (t_noticedAt : Int32) (t_now : Nat → Int32) : Option (Int32 × Int32 × Int32 × Int32 × Int32 × Int32 × Int32 × (Nat → Int32)) :=
  loopF (fun k q => bX10_goHours_39 k t_there t_house t_sharp t_signs t_pace t_pad q.1 q.2.1 q.2.2.1 q.2.2.2.1 q.2.2.2.2.1 q.2.2.2.2.2.1 q.2.2.2.2.2.2.1 q.2.2.2.2.2.2.2) FU (0, t_up, t_reason, t_acts, t_breaths, s0, (-6), t_now)
set_option maxRecDepth 100000 in
set_option maxHeartbeats 4000000 in
theorem BX10_goHours_28 {p : Program} {l : Launch} {e : Env} {s : State} {m : MethodId} {below : List Frame} {meth : Method} {c : Code} {D : va_G} {ty : TY} {A_t A_t_count A_t_pace A_t_sight A_t_pad A_t_now A_t_image A_t_isKept : Nat} {t_there : Int32} {t_awake : Int32} {t_house : Int32} {t_sharp : Int32} {t_sights : Int32} {t_signs : Int32} {t_count : Nat → Int32} {t_pace : Nat → Int32} {t_sight : Nat → Int32} {t_pad : Nat → Int32} {t_image : Nat → Int32} {t_isKept : Nat → Int32} {q0 : Int32 × Int32 × Int32 × Int32 × Int32 × Int32 × Int32 × (Nat → Int32)} {WC : va_W} (C : cx p s m [.ref A_t] meth c cX10_goHours 5 (some .int) RX10 wsX10_goHours) (hK : KK D ty s)   {s0 : Int32} {t_up : Int32} {t_reason : Int32} {t_acts : Int32} {t_breaths : Int32} {t_zeroAt : Int32} {t_noticedAt : Int32} {t_now : Nat → Int32} {H : Heap} {locs : List Loc} {ls : Array Slot} (hP : va_P D vwCl [(A_t, .inr (9, [.int t_there, .int t_awake, .ref A_t_count, .ref A_t_pace, .int t_house, .int t_sharp, .int t_sights, .ref A_t_sight, .int t_signs, .ref A_t_pad, .int t_up, .ref A_t_now, .int t_reason, .int t_acts, .int t_breaths, .int t_zeroAt, .int t_noticedAt, .ref A_t_image, .ref A_t_isKept])), (A_t_count, .inl (ty.1, 8, .inl t_count)), (A_t_pace, .inl (ty.1, 8, .inl t_pace)), (A_t_sight, .inl (ty.1, 24, .inl t_sight)), (A_t_pad, .inl (ty.1, 60, .inl t_pad)), (A_t_now, .inl (ty.1, 8, .inl t_now)), (A_t_image, .inl (ty.1, 120, .inl t_image)), (A_t_isKept, .inl (ty.2.2.1, 2, .inl t_isKept))] H) (hD : va_D (va_A WC s.heap.size) [(A_t, .inr (9, [.int t_there, .int t_awake, .ref A_t_count, .ref A_t_pace, .int t_house, .int t_sharp, .int t_sights, .ref A_t_sight, .int t_signs, .ref A_t_pad, .int t_up, .ref A_t_now, .int t_reason, .int t_acts, .int t_breaths, .int t_zeroAt, .int t_noticedAt, .ref A_t_image, .ref A_t_isKept])), (A_t_count, .inl (ty.1, 8, .inl t_count)), (A_t_pace, .inl (ty.1, 8, .inl t_pace)), (A_t_sight, .inl (ty.1, 24, .inl t_sight)), (A_t_pad, .inl (ty.1, 60, .inl t_pad)), (A_t_now, .inl (ty.1, 8, .inl t_now)), (A_t_image, .inl (ty.1, 120, .inl t_image)), (A_t_isKept, .inl (ty.2.2.1, 2, .inl t_isKept))]) (hS : va_S (va_A WC s.heap.size) s.heap H locs) (hl : lv_has ls 5 [(0, .ref A_t)]) (hf : bX10_goHours_28 t_there t_house t_sharp t_signs t_pace t_pad s0 t_up t_reason t_acts t_breaths t_zeroAt t_noticedAt t_now = some q0) : WWi p l e rmX10_goHours s m [.ref A_t] below meth c D WC [(A_t, .inr (9, [.int t_there, .int t_awake, .ref A_t_count, .ref A_t_pace, .int t_house, .int t_sharp, .int t_sights, .ref A_t_sight, .int t_signs, .ref A_t_pad, .int q0.2.1, .ref A_t_now, .int q0.2.2.1, .int q0.2.2.2.1, .int q0.2.2.2.2.1, .int q0.2.2.2.2.2.1, .int q0.2.2.2.2.2.2.1, .ref A_t_image, .ref A_t_isKept])), (A_t_count, .inl (ty.1, 8, .inl t_count)), (A_t_pace, .inl (ty.1, 8, .inl t_pace)), (A_t_sight, .inl (ty.1, 24, .inl t_sight)), (A_t_pad, .inl (ty.1, 60, .inl t_pad)), (A_t_now, .inl (ty.1, 8, .inl q0.2.2.2.2.2.2.2)), (A_t_image, .inl (ty.1, 120, .inl t_image)), (A_t_isKept, .inl (ty.2.2.1, 2, .inl t_isKept))] q0.1 H locs (F0 m 28 ls [.int s0, .ref A_t]) := by
  obtain ⟨hx, hb, hr, hml, hown, hts, hlocks⟩ := id C
  unfold bX10_goHours_28 at hf
  refine va_put (D := D) (ci := 9) (v := .int s0) (ty := .int) (C := RX10) (T := TX10) (N := 19) hx hb hts wX10_goHours_X10 tyX10 tyX10_ok nmX10 hown hK.1 hP hD hS 0 rfl rfl 15 (by decide) (hts _ mX10_goHours_f96) (fun _ h9 => h9) rfl (by decide +kernel) rfl rfl (Nat.le_of_ble_eq_true rfl) dX10_goHours_28 (fun H locs hP hD hS => ?_)
  have hP : va_P D vwCl [(A_t, .inr (9, [.int t_there, .int t_awake, .ref A_t_count, .ref A_t_pace, .int t_house, .int t_sharp, .int t_sights, .ref A_t_sight, .int t_signs, .ref A_t_pad, .int t_up, .ref A_t_now, .int t_reason, .int t_acts, .int t_breaths, .int s0, .int t_noticedAt, .ref A_t_image, .ref A_t_isKept])), (A_t_count, .inl (ty.1, 8, .inl t_count)), (A_t_pace, .inl (ty.1, 8, .inl t_pace)), (A_t_sight, .inl (ty.1, 24, .inl t_sight)), (A_t_pad, .inl (ty.1, 60, .inl t_pad)), (A_t_now, .inl (ty.1, 8, .inl t_now)), (A_t_image, .inl (ty.1, 120, .inl t_image)), (A_t_isKept, .inl (ty.2.2.1, 2, .inl t_isKept))] H := hP
  have hD : va_D (va_A WC s.heap.size) [(A_t, .inr (9, [.int t_there, .int t_awake, .ref A_t_count, .ref A_t_pace, .int t_house, .int t_sharp, .int t_sights, .ref A_t_sight, .int t_signs, .ref A_t_pad, .int t_up, .ref A_t_now, .int t_reason, .int t_acts, .int t_breaths, .int s0, .int t_noticedAt, .ref A_t_image, .ref A_t_isKept])), (A_t_count, .inl (ty.1, 8, .inl t_count)), (A_t_pace, .inl (ty.1, 8, .inl t_pace)), (A_t_sight, .inl (ty.1, 24, .inl t_sight)), (A_t_pad, .inl (ty.1, 60, .inl t_pad)), (A_t_now, .inl (ty.1, 8, .inl t_now)), (A_t_image, .inl (ty.1, 120, .inl t_image)), (A_t_isKept, .inl (ty.2.2.1, 2, .inl t_isKept))] := hD
  refine lv_aload_n hx hb dX10_goHours_31 rfl (lv_at hl 0 rfl) ?_
  refine lv_bipush (v := (-6)) hx hb dX10_goHours_32 (by decide) ?_
  refine va_put (D := D) (ci := 9) (v := .int (-6)) (ty := .int) (C := RX10) (T := TX10) (N := 19) hx hb hts wX10_goHours_X10 tyX10 tyX10_ok nmX10 hown hK.1 hP hD hS 0 rfl rfl 16 (by decide) (hts _ mX10_goHours_f99) (fun _ h9 => h9) rfl (by decide +kernel) rfl rfl (Nat.le_of_ble_eq_true rfl) dX10_goHours_34 (fun H locs hP hD hS => ?_)
  have hP : va_P D vwCl [(A_t, .inr (9, [.int t_there, .int t_awake, .ref A_t_count, .ref A_t_pace, .int t_house, .int t_sharp, .int t_sights, .ref A_t_sight, .int t_signs, .ref A_t_pad, .int t_up, .ref A_t_now, .int t_reason, .int t_acts, .int t_breaths, .int s0, .int (-6), .ref A_t_image, .ref A_t_isKept])), (A_t_count, .inl (ty.1, 8, .inl t_count)), (A_t_pace, .inl (ty.1, 8, .inl t_pace)), (A_t_sight, .inl (ty.1, 24, .inl t_sight)), (A_t_pad, .inl (ty.1, 60, .inl t_pad)), (A_t_now, .inl (ty.1, 8, .inl t_now)), (A_t_image, .inl (ty.1, 120, .inl t_image)), (A_t_isKept, .inl (ty.2.2.1, 2, .inl t_isKept))] H := hP
  have hD : va_D (va_A WC s.heap.size) [(A_t, .inr (9, [.int t_there, .int t_awake, .ref A_t_count, .ref A_t_pace, .int t_house, .int t_sharp, .int t_sights, .ref A_t_sight, .int t_signs, .ref A_t_pad, .int t_up, .ref A_t_now, .int t_reason, .int t_acts, .int t_breaths, .int s0, .int (-6), .ref A_t_image, .ref A_t_isKept])), (A_t_count, .inl (ty.1, 8, .inl t_count)), (A_t_pace, .inl (ty.1, 8, .inl t_pace)), (A_t_sight, .inl (ty.1, 24, .inl t_sight)), (A_t_pad, .inl (ty.1, 60, .inl t_pad)), (A_t_now, .inl (ty.1, 8, .inl t_now)), (A_t_image, .inl (ty.1, 120, .inl t_image)), (A_t_isKept, .inl (ty.2.2.1, 2, .inl t_isKept))] := hD
  refine lv_iconst (v := 0) hx hb dX10_goHours_37 (by decide) ?_
  refine lv_istore_n (lv' := [(1, .int 0), (0, .ref A_t)]) hx hb dX10_goHours_38 rfl hl (by decide) rfl (fun ls hl => ?_)
  exact BX10_goHours_39 C hK  FU _ _ _ _ _ _ _ _ _ _ _ hP hD hS (lv_sub hl [1, 0] rfl) hf
def fX10_goHours (t_there : Int32) (t_awake : Int32) (t_house : Int32) (t_sharp : Int32) (t_signs : Int32) (t_up : Int32) (t_reason : Int32) (t_acts : Int32) (t_breaths : Int32) (t_zeroAt : Int32) (t_noticedAt : Int32) (t_count : Nat → Int32) (t_pace : Nat → Int32) (t_pad : Nat → Int32) (t_now : Nat → Int32) : Option (Int32 × Int32 × Int32 × Int32 × Int32 × Int32 × Int32 × (Nat → Int32)) :=
  (fX10_asNow t_awake t_up t_count t_now).bind fun r1 => (fX10_isZero t_there r1.2).bind fun r16 => if r16 = 0 then bX10_goHours_28 t_there t_house t_sharp t_signs t_pace t_pad (-6) r1.1 t_reason 0 0 t_zeroAt t_noticedAt r1.2 else bX10_goHours_28 t_there t_house t_sharp t_signs t_pace t_pad 0 r1.1 t_reason 0 0 t_zeroAt t_noticedAt r1.2
set_option maxRecDepth 100000 in
set_option maxHeartbeats 4000000 in
theorem CX10_goHours (l : Launch) {D : va_G} {ty : TY} {A_t A_t_count A_t_pace A_t_sight A_t_pad A_t_now A_t_image A_t_isKept : Nat} {t_there : Int32} {t_awake : Int32} {t_house : Int32} {t_sharp : Int32} {t_sights : Int32} {t_signs : Int32} {t_up : Int32} {t_reason : Int32} {t_acts : Int32} {t_breaths : Int32} {t_zeroAt : Int32} {t_noticedAt : Int32} {t_count : Nat → Int32} {t_pace : Nat → Int32} {t_sight : Nat → Int32} {t_pad : Nat → Int32} {t_now : Nat → Int32} {t_image : Nat → Int32} {t_isKept : Nat → Int32} {q0 : Int32 × Int32 × Int32 × Int32 × Int32 × Int32 × Int32 × (Nat → Int32)} (hf : fX10_goHours t_there t_awake t_house t_sharp t_signs t_up t_reason t_acts t_breaths t_zeroAt t_noticedAt t_count t_pace t_pad t_now = some q0) : RWi l yX10_goHours wsX10_goHours rmX10_goHours D ty [.ref A_t] [(A_t, .inr (9, [.int t_there, .int t_awake, .ref A_t_count, .ref A_t_pace, .int t_house, .int t_sharp, .int t_sights, .ref A_t_sight, .int t_signs, .ref A_t_pad, .int t_up, .ref A_t_now, .int t_reason, .int t_acts, .int t_breaths, .int t_zeroAt, .int t_noticedAt, .ref A_t_image, .ref A_t_isKept])), (A_t_count, .inl (ty.1, 8, .inl t_count)), (A_t_pace, .inl (ty.1, 8, .inl t_pace)), (A_t_sight, .inl (ty.1, 24, .inl t_sight)), (A_t_pad, .inl (ty.1, 60, .inl t_pad)), (A_t_now, .inl (ty.1, 8, .inl t_now)), (A_t_image, .inl (ty.1, 120, .inl t_image)), (A_t_isKept, .inl (ty.2.2.1, 2, .inl t_isKept))] q0.1 [(A_t, .inr (9, [.int t_there, .int t_awake, .ref A_t_count, .ref A_t_pace, .int t_house, .int t_sharp, .int t_sights, .ref A_t_sight, .int t_signs, .ref A_t_pad, .int q0.2.1, .ref A_t_now, .int q0.2.2.1, .int q0.2.2.2.1, .int q0.2.2.2.2.1, .int q0.2.2.2.2.2.1, .int q0.2.2.2.2.2.2.1, .ref A_t_image, .ref A_t_isKept])), (A_t_count, .inl (ty.1, 8, .inl t_count)), (A_t_pace, .inl (ty.1, 8, .inl t_pace)), (A_t_sight, .inl (ty.1, 24, .inl t_sight)), (A_t_pad, .inl (ty.1, 60, .inl t_pad)), (A_t_now, .inl (ty.1, 8, .inl q0.2.2.2.2.2.2.2)), (A_t_image, .inl (ty.1, 120, .inl t_image)), (A_t_isKept, .inl (ty.2.2.1, 2, .inl t_isKept))] := by
  refine RWi.start (cc := cX10_goHours) (maxL := 5) (ret := (some .int)) (own := RX10) (by decide) rfl rfl (Nat.le_of_ble_eq_true rfl) ?_
  intro p e s m below meth c ls C hK hP hD hS hl
  obtain ⟨WC, hWC⟩ : ∃ w : va_W, w = [(A_t, .inr (9, [.int t_there, .int t_awake, .ref A_t_count, .ref A_t_pace, .int t_house, .int t_sharp, .int t_sights, .ref A_t_sight, .int t_signs, .ref A_t_pad, .int t_up, .ref A_t_now, .int t_reason, .int t_acts, .int t_breaths, .int t_zeroAt, .int t_noticedAt, .ref A_t_image, .ref A_t_isKept])), (A_t_count, .inl (ty.1, 8, .inl t_count)), (A_t_pace, .inl (ty.1, 8, .inl t_pace)), (A_t_sight, .inl (ty.1, 24, .inl t_sight)), (A_t_pad, .inl (ty.1, 60, .inl t_pad)), (A_t_now, .inl (ty.1, 8, .inl t_now)), (A_t_image, .inl (ty.1, 120, .inl t_image)), (A_t_isKept, .inl (ty.2.2.1, 2, .inl t_isKept))] := ⟨_, rfl⟩
  rw [← hWC] at hD hS ⊢
  have hD : va_D (va_A WC s.heap.size) [(A_t, .inr (9, [.int t_there, .int t_awake, .ref A_t_count, .ref A_t_pace, .int t_house, .int t_sharp, .int t_sights, .ref A_t_sight, .int t_signs, .ref A_t_pad, .int t_up, .ref A_t_now, .int t_reason, .int t_acts, .int t_breaths, .int t_zeroAt, .int t_noticedAt, .ref A_t_image, .ref A_t_isKept])), (A_t_count, .inl (ty.1, 8, .inl t_count)), (A_t_pace, .inl (ty.1, 8, .inl t_pace)), (A_t_sight, .inl (ty.1, 24, .inl t_sight)), (A_t_pad, .inl (ty.1, 60, .inl t_pad)), (A_t_now, .inl (ty.1, 8, .inl t_now)), (A_t_image, .inl (ty.1, 120, .inl t_image)), (A_t_isKept, .inl (ty.2.2.1, 2, .inl t_isKept))] := by rw [← hWC]; exact hD
  obtain ⟨hx, hb, hr, hml, hown, hts, hlocks⟩ := id C
  have hl : lv_has ls 5 [(0, .ref A_t)] := hl
  unfold fX10_goHours at hf
  refine lv_aload_n hx hb dX10_goHours_0 rfl (lv_at hl 0 rfl) ?_
  obtain ⟨r1, hr1, hf⟩ := bnd hf
  refine callV_wv (As := []) (rest := []) ⟨hx, hb, hml, hown, hts⟩ (CX10_asNow l hr1) (cwV 0 hts gX10_goHours_X10_asNow rfl rfl rfl kkX10_asNow ⟨Nat.le_of_ble_eq_true rfl, Nat.le_of_ble_eq_true rfl⟩) hK hP hD hS (fun _ h => Or.inr h) [0, 1, 2, 3, 4, 5, 6, 7] [] [0, 1, 2, 3, 4, 5, 6, 7] rfl (by decide) (by decide) rfl rfl 0 rfl rfl rfl hl.1 rfl (Nat.le_of_ble_eq_true rfl) dX10_goHours_1 ⟨Nat.zero_le _, Nat.zero_le _⟩ (fun H locs hP hD hS => ?_)
  have hP : va_P D vwCl [(A_t, .inr (9, [.int t_there, .int t_awake, .ref A_t_count, .ref A_t_pace, .int t_house, .int t_sharp, .int t_sights, .ref A_t_sight, .int t_signs, .ref A_t_pad, .int r1.1, .ref A_t_now, .int t_reason, .int t_acts, .int t_breaths, .int t_zeroAt, .int t_noticedAt, .ref A_t_image, .ref A_t_isKept])), (A_t_count, .inl (ty.1, 8, .inl t_count)), (A_t_pace, .inl (ty.1, 8, .inl t_pace)), (A_t_sight, .inl (ty.1, 24, .inl t_sight)), (A_t_pad, .inl (ty.1, 60, .inl t_pad)), (A_t_now, .inl (ty.1, 8, .inl r1.2)), (A_t_image, .inl (ty.1, 120, .inl t_image)), (A_t_isKept, .inl (ty.2.2.1, 2, .inl t_isKept))] H := hP
  have hD : va_D (va_A WC s.heap.size) [(A_t, .inr (9, [.int t_there, .int t_awake, .ref A_t_count, .ref A_t_pace, .int t_house, .int t_sharp, .int t_sights, .ref A_t_sight, .int t_signs, .ref A_t_pad, .int r1.1, .ref A_t_now, .int t_reason, .int t_acts, .int t_breaths, .int t_zeroAt, .int t_noticedAt, .ref A_t_image, .ref A_t_isKept])), (A_t_count, .inl (ty.1, 8, .inl t_count)), (A_t_pace, .inl (ty.1, 8, .inl t_pace)), (A_t_sight, .inl (ty.1, 24, .inl t_sight)), (A_t_pad, .inl (ty.1, 60, .inl t_pad)), (A_t_now, .inl (ty.1, 8, .inl r1.2)), (A_t_image, .inl (ty.1, 120, .inl t_image)), (A_t_isKept, .inl (ty.2.2.1, 2, .inl t_isKept))] := hD
  refine lv_aload_n hx hb dX10_goHours_4 rfl (lv_at hl 0 rfl) ?_
  refine lv_iconst (v := 0) hx hb dX10_goHours_5 (by decide) ?_
  refine va_put (D := D) (ci := 9) (v := .int 0) (ty := .int) (C := RX10) (T := TX10) (N := 19) hx hb hts wX10_goHours_X10 tyX10 tyX10_ok nmX10 hown hK.1 hP hD hS 0 rfl rfl 13 (by decide) (hts _ mX10_goHours_f86) (fun _ h9 => h9) rfl (by decide +kernel) rfl rfl (Nat.le_of_ble_eq_true rfl) dX10_goHours_6 (fun H locs hP hD hS => ?_)
  have hP : va_P D vwCl [(A_t, .inr (9, [.int t_there, .int t_awake, .ref A_t_count, .ref A_t_pace, .int t_house, .int t_sharp, .int t_sights, .ref A_t_sight, .int t_signs, .ref A_t_pad, .int r1.1, .ref A_t_now, .int t_reason, .int 0, .int t_breaths, .int t_zeroAt, .int t_noticedAt, .ref A_t_image, .ref A_t_isKept])), (A_t_count, .inl (ty.1, 8, .inl t_count)), (A_t_pace, .inl (ty.1, 8, .inl t_pace)), (A_t_sight, .inl (ty.1, 24, .inl t_sight)), (A_t_pad, .inl (ty.1, 60, .inl t_pad)), (A_t_now, .inl (ty.1, 8, .inl r1.2)), (A_t_image, .inl (ty.1, 120, .inl t_image)), (A_t_isKept, .inl (ty.2.2.1, 2, .inl t_isKept))] H := hP
  have hD : va_D (va_A WC s.heap.size) [(A_t, .inr (9, [.int t_there, .int t_awake, .ref A_t_count, .ref A_t_pace, .int t_house, .int t_sharp, .int t_sights, .ref A_t_sight, .int t_signs, .ref A_t_pad, .int r1.1, .ref A_t_now, .int t_reason, .int 0, .int t_breaths, .int t_zeroAt, .int t_noticedAt, .ref A_t_image, .ref A_t_isKept])), (A_t_count, .inl (ty.1, 8, .inl t_count)), (A_t_pace, .inl (ty.1, 8, .inl t_pace)), (A_t_sight, .inl (ty.1, 24, .inl t_sight)), (A_t_pad, .inl (ty.1, 60, .inl t_pad)), (A_t_now, .inl (ty.1, 8, .inl r1.2)), (A_t_image, .inl (ty.1, 120, .inl t_image)), (A_t_isKept, .inl (ty.2.2.1, 2, .inl t_isKept))] := hD
  refine lv_aload_n hx hb dX10_goHours_9 rfl (lv_at hl 0 rfl) ?_
  refine lv_iconst (v := 0) hx hb dX10_goHours_10 (by decide) ?_
  refine va_put (D := D) (ci := 9) (v := .int 0) (ty := .int) (C := RX10) (T := TX10) (N := 19) hx hb hts wX10_goHours_X10 tyX10 tyX10_ok nmX10 hown hK.1 hP hD hS 0 rfl rfl 14 (by decide) (hts _ mX10_goHours_f89) (fun _ h9 => h9) rfl (by decide +kernel) rfl rfl (Nat.le_of_ble_eq_true rfl) dX10_goHours_11 (fun H locs hP hD hS => ?_)
  have hP : va_P D vwCl [(A_t, .inr (9, [.int t_there, .int t_awake, .ref A_t_count, .ref A_t_pace, .int t_house, .int t_sharp, .int t_sights, .ref A_t_sight, .int t_signs, .ref A_t_pad, .int r1.1, .ref A_t_now, .int t_reason, .int 0, .int 0, .int t_zeroAt, .int t_noticedAt, .ref A_t_image, .ref A_t_isKept])), (A_t_count, .inl (ty.1, 8, .inl t_count)), (A_t_pace, .inl (ty.1, 8, .inl t_pace)), (A_t_sight, .inl (ty.1, 24, .inl t_sight)), (A_t_pad, .inl (ty.1, 60, .inl t_pad)), (A_t_now, .inl (ty.1, 8, .inl r1.2)), (A_t_image, .inl (ty.1, 120, .inl t_image)), (A_t_isKept, .inl (ty.2.2.1, 2, .inl t_isKept))] H := hP
  have hD : va_D (va_A WC s.heap.size) [(A_t, .inr (9, [.int t_there, .int t_awake, .ref A_t_count, .ref A_t_pace, .int t_house, .int t_sharp, .int t_sights, .ref A_t_sight, .int t_signs, .ref A_t_pad, .int r1.1, .ref A_t_now, .int t_reason, .int 0, .int 0, .int t_zeroAt, .int t_noticedAt, .ref A_t_image, .ref A_t_isKept])), (A_t_count, .inl (ty.1, 8, .inl t_count)), (A_t_pace, .inl (ty.1, 8, .inl t_pace)), (A_t_sight, .inl (ty.1, 24, .inl t_sight)), (A_t_pad, .inl (ty.1, 60, .inl t_pad)), (A_t_now, .inl (ty.1, 8, .inl r1.2)), (A_t_image, .inl (ty.1, 120, .inl t_image)), (A_t_isKept, .inl (ty.2.2.1, 2, .inl t_isKept))] := hD
  refine lv_aload_n hx hb dX10_goHours_14 rfl (lv_at hl 0 rfl) ?_
  refine lv_aload_n hx hb dX10_goHours_15 rfl (lv_at hl 0 rfl) ?_
  obtain ⟨r16, hr16, hf⟩ := bnd hf
  refine callV_ri (As := []) (rest := [.ref A_t]) ⟨hx, hb, hml, hown, hts⟩ (CX10_isZero l hr16) (cwV 0 hts gX10_goHours_X10_isZero rfl rfl rfl kkX10_isZero ⟨Nat.le_of_ble_eq_true rfl, Nat.le_of_ble_eq_true rfl⟩) hK hP 0 rfl rfl rfl hl.1 rfl (Nat.le_of_ble_eq_true rfl) dX10_goHours_16 ⟨Nat.zero_le _, Nat.zero_le _⟩ ?_
  refine lv_if_eq (tgt := 26) hx hb dX10_goHours_19 (by decide) (fun hc => ?_) (fun hc => ?_)
  · have hf := ft hf hc
    refine lv_bipush (v := (-6)) hx hb dX10_goHours_26 (by decide) ?_
    exact BX10_goHours_28 C hK  hP hD hS (lv_sub hl [0] rfl) hf
  · have hf := ff hf hc
    refine lv_iconst (v := 0) hx hb dX10_goHours_22 (by decide) ?_
    refine lv_goto (tgt := 28) hx hb dX10_goHours_23 (by decide) ?_
    exact BX10_goHours_28 C hK  hP hD hS (lv_sub hl [0] rfl) hf
