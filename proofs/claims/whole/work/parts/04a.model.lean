/-! ===== SilenceCountModel.more(II)V ===== -/
abbrev rmX10_more : Room := { frames := 0, cells := 0, slots := 0, locals := 0 }
theorem kkX10_more : yX10_more.cls = RX10 ∧ yX10_more.cls ≠ "java/lang/invoke/MethodHandle" ∧ yX10_more.cls ≠ "java/lang/invoke/VarHandle" ∧ (parseMethodDescriptor yX10_more.desc).map (fun d => d.parameters.length) = some 2 := by decide +kernel
theorem mX10_more_f30 : Cond.fieldLink RX10 30 "SilenceCountModel" "now" "[I" ∈ wsX10_more := by decide +kernel
theorem mX10_more_f17 : Cond.fieldLink RX10 17 "SilenceCountModel" "house" "I" ∈ wsX10_more := by decide +kernel
theorem wX10_more_X10 : ∀ w ∈ u_ws RX10 TX10 19, w ∈ wsX10_more := by decide +kernel
def fX10_more (t_house : Int32) (t_now : Nat → Int32) (a1 : Int32) (a2 : Int32) : Option ((Nat → Int32)) :=
  gIn a1 8 (if ((t_now (a1 : Int32).toNatClampNeg) + a2) ≤ t_house then gIn a1 8 (gIn a1 8 (some (upd t_now (a1 : Int32).toNatClampNeg ((t_now (a1 : Int32).toNatClampNeg) + a2)))) else gIn a1 8 (some (upd t_now (a1 : Int32).toNatClampNeg t_house)))
set_option maxRecDepth 100000 in
set_option maxHeartbeats 4000000 in
theorem CX10_more (l : Launch) {D : va_G} {ty : TY} {A_t A_t_count A_t_pace A_t_sight A_t_pad A_t_now A_t_image A_t_isKept : Nat} {t_there : Int32} {t_awake : Int32} {t_house : Int32} {t_sharp : Int32} {t_sights : Int32} {t_signs : Int32} {t_up : Int32} {t_reason : Int32} {t_acts : Int32} {t_breaths : Int32} {t_zeroAt : Int32} {t_noticedAt : Int32} {t_count : Nat → Int32} {t_pace : Nat → Int32} {t_sight : Nat → Int32} {t_pad : Nat → Int32} {t_now : Nat → Int32} {t_image : Nat → Int32} {t_isKept : Nat → Int32} {a1 : Int32} {a2 : Int32} {q0 : (Nat → Int32)} (hf : fX10_more t_house t_now a1 a2 = some q0) : RWv l yX10_more wsX10_more rmX10_more D ty [.ref A_t, .int a1, .int a2] [(A_t, .inr (9, [.int t_there, .int t_awake, .ref A_t_count, .ref A_t_pace, .int t_house, .int t_sharp, .int t_sights, .ref A_t_sight, .int t_signs, .ref A_t_pad, .int t_up, .ref A_t_now, .int t_reason, .int t_acts, .int t_breaths, .int t_zeroAt, .int t_noticedAt, .ref A_t_image, .ref A_t_isKept])), (A_t_count, .inl (ty.1, 8, .inl t_count)), (A_t_pace, .inl (ty.1, 8, .inl t_pace)), (A_t_sight, .inl (ty.1, 24, .inl t_sight)), (A_t_pad, .inl (ty.1, 60, .inl t_pad)), (A_t_now, .inl (ty.1, 8, .inl t_now)), (A_t_image, .inl (ty.1, 120, .inl t_image)), (A_t_isKept, .inl (ty.2.2.1, 2, .inl t_isKept))] [(A_t, .inr (9, [.int t_there, .int t_awake, .ref A_t_count, .ref A_t_pace, .int t_house, .int t_sharp, .int t_sights, .ref A_t_sight, .int t_signs, .ref A_t_pad, .int t_up, .ref A_t_now, .int t_reason, .int t_acts, .int t_breaths, .int t_zeroAt, .int t_noticedAt, .ref A_t_image, .ref A_t_isKept])), (A_t_count, .inl (ty.1, 8, .inl t_count)), (A_t_pace, .inl (ty.1, 8, .inl t_pace)), (A_t_sight, .inl (ty.1, 24, .inl t_sight)), (A_t_pad, .inl (ty.1, 60, .inl t_pad)), (A_t_now, .inl (ty.1, 8, .inl q0)), (A_t_image, .inl (ty.1, 120, .inl t_image)), (A_t_isKept, .inl (ty.2.2.1, 2, .inl t_isKept))] := by
  refine RWv.start (cc := cX10_more) (maxL := 3) (ret := none) (own := RX10) (by decide) rfl rfl (Nat.le_of_ble_eq_true rfl) ?_
  intro p e s m below meth c ls C hK hP hD hS hl
  obtain ⟨WC, hWC⟩ : ∃ w : va_W, w = [(A_t, .inr (9, [.int t_there, .int t_awake, .ref A_t_count, .ref A_t_pace, .int t_house, .int t_sharp, .int t_sights, .ref A_t_sight, .int t_signs, .ref A_t_pad, .int t_up, .ref A_t_now, .int t_reason, .int t_acts, .int t_breaths, .int t_zeroAt, .int t_noticedAt, .ref A_t_image, .ref A_t_isKept])), (A_t_count, .inl (ty.1, 8, .inl t_count)), (A_t_pace, .inl (ty.1, 8, .inl t_pace)), (A_t_sight, .inl (ty.1, 24, .inl t_sight)), (A_t_pad, .inl (ty.1, 60, .inl t_pad)), (A_t_now, .inl (ty.1, 8, .inl t_now)), (A_t_image, .inl (ty.1, 120, .inl t_image)), (A_t_isKept, .inl (ty.2.2.1, 2, .inl t_isKept))] := ⟨_, rfl⟩
  rw [← hWC] at hD hS ⊢
  have hD : va_D (va_A WC s.heap.size) [(A_t, .inr (9, [.int t_there, .int t_awake, .ref A_t_count, .ref A_t_pace, .int t_house, .int t_sharp, .int t_sights, .ref A_t_sight, .int t_signs, .ref A_t_pad, .int t_up, .ref A_t_now, .int t_reason, .int t_acts, .int t_breaths, .int t_zeroAt, .int t_noticedAt, .ref A_t_image, .ref A_t_isKept])), (A_t_count, .inl (ty.1, 8, .inl t_count)), (A_t_pace, .inl (ty.1, 8, .inl t_pace)), (A_t_sight, .inl (ty.1, 24, .inl t_sight)), (A_t_pad, .inl (ty.1, 60, .inl t_pad)), (A_t_now, .inl (ty.1, 8, .inl t_now)), (A_t_image, .inl (ty.1, 120, .inl t_image)), (A_t_isKept, .inl (ty.2.2.1, 2, .inl t_isKept))] := by rw [← hWC]; exact hD
  obtain ⟨hx, hb, hr, hml, hown, hts, hlocks⟩ := id C
  have hl : lv_has ls 3 [(0, .ref A_t), (1, .int a1), (2, .int a2)] := hl
  unfold fX10_more at hf
  refine lv_aload_n hx hb dX10_more_0 rfl (lv_at hl 0 rfl) ?_
  refine va_get (D := D) (ci := 9) (v := .ref A_t_now) (C := RX10) (T := TX10) (N := 19) hx hb hts wX10_more_X10 hown hK.1 hP 0 rfl rfl 11 (by decide) (hts _ mX10_more_f30) (fun _ h9 => h9) rfl dX10_more_1 ?_
  refine lv_iload_n hx hb dX10_more_4 rfl (lv_at hl 1 rfl) ?_
  refine lv_aload_n hx hb dX10_more_5 rfl (lv_at hl 0 rfl) ?_
  refine va_get (D := D) (ci := 9) (v := .ref A_t_now) (C := RX10) (T := TX10) (N := 19) hx hb hts wX10_more_X10 hown hK.1 hP 0 rfl rfl 11 (by decide) (hts _ mX10_more_f30) (fun _ h9 => h9) rfl dX10_more_6 ?_
  refine lv_iload_n hx hb dX10_more_9 rfl (lv_at hl 1 rfl) ?_
  obtain ⟨hin, hf⟩ := gIn_some hf
  refine va_iald hx hb hK.1 hP 5 0 rfl rfl hin dX10_more_10 ?_
  refine lv_iload_n hx hb dX10_more_11 rfl (lv_at hl 2 rfl) ?_
  refine lv_iadd hx hb dX10_more_12 ?_
  refine lv_aload_n hx hb dX10_more_13 rfl (lv_at hl 0 rfl) ?_
  refine va_get (D := D) (ci := 9) (v := .int t_house) (C := RX10) (T := TX10) (N := 19) hx hb hts wX10_more_X10 hown hK.1 hP 0 rfl rfl 4 (by decide) (hts _ mX10_more_f17) (fun _ h9 => h9) rfl dX10_more_14 ?_
  refine lv_icmp_le (tgt := 27) hx hb dX10_more_17 (by decide) (fun hc => ?_) (fun hc => ?_)
  · have hf := ft hf hc
    refine lv_aload_n hx hb dX10_more_27 rfl (lv_at hl 0 rfl) ?_
    refine va_get (D := D) (ci := 9) (v := .ref A_t_now) (C := RX10) (T := TX10) (N := 19) hx hb hts wX10_more_X10 hown hK.1 hP 0 rfl rfl 11 (by decide) (hts _ mX10_more_f30) (fun _ h9 => h9) rfl dX10_more_28 ?_
    refine lv_iload_n hx hb dX10_more_31 rfl (lv_at hl 1 rfl) ?_
    obtain ⟨hin, hf⟩ := gIn_some hf
    refine va_iald hx hb hK.1 hP 5 0 rfl rfl hin dX10_more_32 ?_
    refine lv_iload_n hx hb dX10_more_33 rfl (lv_at hl 2 rfl) ?_
    refine lv_iadd hx hb dX10_more_34 ?_
    obtain ⟨hin, hf⟩ := gIn_some hf
    refine va_iast hx hb hK.1 hP hD hS 5 0 rfl rfl hin dX10_more_35 (fun H locs hP hD hS => ?_)
    have hP : va_P D vwCl [(A_t, .inr (9, [.int t_there, .int t_awake, .ref A_t_count, .ref A_t_pace, .int t_house, .int t_sharp, .int t_sights, .ref A_t_sight, .int t_signs, .ref A_t_pad, .int t_up, .ref A_t_now, .int t_reason, .int t_acts, .int t_breaths, .int t_zeroAt, .int t_noticedAt, .ref A_t_image, .ref A_t_isKept])), (A_t_count, .inl (ty.1, 8, .inl t_count)), (A_t_pace, .inl (ty.1, 8, .inl t_pace)), (A_t_sight, .inl (ty.1, 24, .inl t_sight)), (A_t_pad, .inl (ty.1, 60, .inl t_pad)), (A_t_now, .inl (ty.1, 8, .inl (upd t_now (a1 : Int32).toNatClampNeg ((t_now (a1 : Int32).toNatClampNeg) + a2)))), (A_t_image, .inl (ty.1, 120, .inl t_image)), (A_t_isKept, .inl (ty.2.2.1, 2, .inl t_isKept))] H := hP
    have hD : va_D (va_A WC s.heap.size) [(A_t, .inr (9, [.int t_there, .int t_awake, .ref A_t_count, .ref A_t_pace, .int t_house, .int t_sharp, .int t_sights, .ref A_t_sight, .int t_signs, .ref A_t_pad, .int t_up, .ref A_t_now, .int t_reason, .int t_acts, .int t_breaths, .int t_zeroAt, .int t_noticedAt, .ref A_t_image, .ref A_t_isKept])), (A_t_count, .inl (ty.1, 8, .inl t_count)), (A_t_pace, .inl (ty.1, 8, .inl t_pace)), (A_t_sight, .inl (ty.1, 24, .inl t_sight)), (A_t_pad, .inl (ty.1, 60, .inl t_pad)), (A_t_now, .inl (ty.1, 8, .inl (upd t_now (a1 : Int32).toNatClampNeg ((t_now (a1 : Int32).toNatClampNeg) + a2)))), (A_t_image, .inl (ty.1, 120, .inl t_image)), (A_t_isKept, .inl (ty.2.2.1, 2, .inl t_isKept))] := hD
    cases hf
    exact ret_wv hx hb hr hlocks hP hD hS dX10_more_36
  · have hf := ff hf hc
    refine lv_aload_n hx hb dX10_more_20 rfl (lv_at hl 0 rfl) ?_
    refine va_get (D := D) (ci := 9) (v := .int t_house) (C := RX10) (T := TX10) (N := 19) hx hb hts wX10_more_X10 hown hK.1 hP 0 rfl rfl 4 (by decide) (hts _ mX10_more_f17) (fun _ h9 => h9) rfl dX10_more_21 ?_
    refine lv_goto (tgt := 35) hx hb dX10_more_24 (by decide) ?_
    obtain ⟨hin, hf⟩ := gIn_some hf
    refine va_iast hx hb hK.1 hP hD hS 5 0 rfl rfl hin dX10_more_35 (fun H locs hP hD hS => ?_)
    have hP : va_P D vwCl [(A_t, .inr (9, [.int t_there, .int t_awake, .ref A_t_count, .ref A_t_pace, .int t_house, .int t_sharp, .int t_sights, .ref A_t_sight, .int t_signs, .ref A_t_pad, .int t_up, .ref A_t_now, .int t_reason, .int t_acts, .int t_breaths, .int t_zeroAt, .int t_noticedAt, .ref A_t_image, .ref A_t_isKept])), (A_t_count, .inl (ty.1, 8, .inl t_count)), (A_t_pace, .inl (ty.1, 8, .inl t_pace)), (A_t_sight, .inl (ty.1, 24, .inl t_sight)), (A_t_pad, .inl (ty.1, 60, .inl t_pad)), (A_t_now, .inl (ty.1, 8, .inl (upd t_now (a1 : Int32).toNatClampNeg t_house))), (A_t_image, .inl (ty.1, 120, .inl t_image)), (A_t_isKept, .inl (ty.2.2.1, 2, .inl t_isKept))] H := hP
    have hD : va_D (va_A WC s.heap.size) [(A_t, .inr (9, [.int t_there, .int t_awake, .ref A_t_count, .ref A_t_pace, .int t_house, .int t_sharp, .int t_sights, .ref A_t_sight, .int t_signs, .ref A_t_pad, .int t_up, .ref A_t_now, .int t_reason, .int t_acts, .int t_breaths, .int t_zeroAt, .int t_noticedAt, .ref A_t_image, .ref A_t_isKept])), (A_t_count, .inl (ty.1, 8, .inl t_count)), (A_t_pace, .inl (ty.1, 8, .inl t_pace)), (A_t_sight, .inl (ty.1, 24, .inl t_sight)), (A_t_pad, .inl (ty.1, 60, .inl t_pad)), (A_t_now, .inl (ty.1, 8, .inl (upd t_now (a1 : Int32).toNatClampNeg t_house))), (A_t_image, .inl (ty.1, 120, .inl t_image)), (A_t_isKept, .inl (ty.2.2.1, 2, .inl t_isKept))] := hD
    cases hf
    exact ret_wv hx hb hr hlocks hP hD hS dX10_more_36
/-! ===== SilenceCountModel.has(II)Z ===== -/
abbrev rmX10_has : Room := { frames := 0, cells := 0, slots := 0, locals := 0 }
theorem kkX10_has : yX10_has.cls = RX10 ∧ yX10_has.cls ≠ "java/lang/invoke/MethodHandle" ∧ yX10_has.cls ≠ "java/lang/invoke/VarHandle" ∧ (parseMethodDescriptor yX10_has.desc).map (fun d => d.parameters.length) = some 2 := by decide +kernel
def fX10_has (a0 : Int32) (a1 : Int32) : Option (Int32) :=
  if ((a0 >>> (a1 &&& 31)) &&& 1) = 1 then some 1 else some 0
set_option maxRecDepth 100000 in
set_option maxHeartbeats 4000000 in
theorem CX10_has (l : Launch) {D : va_G} {ty : TY} {a0 : Int32} {a1 : Int32} {q0 : Int32} (hf : fX10_has a0 a1 = some q0) : ROi l yX10_has wsX10_has rmX10_has D ty [.int a0, .int a1] [] q0 := by
  refine ROi.start (cc := cX10_has) (maxL := 2) (ret := (some .boolean)) (own := RX10) (by decide) rfl rfl (Nat.le_of_ble_eq_true rfl) ?_
  intro p e s m below meth c ls C hK hP hl
  obtain ⟨hx, hb, hr, hml, hown, hts, hlocks⟩ := id C
  have hl : lv_has ls 2 [(0, .int a0), (1, .int a1)] := hl
  unfold fX10_has at hf
  refine lv_iload_n hx hb dX10_has_0 rfl (lv_at hl 0 rfl) ?_
  refine lv_iload_n hx hb dX10_has_1 rfl (lv_at hl 1 rfl) ?_
  refine lv_ishr hx hb dX10_has_2 ?_
  refine lv_iconst (v := 1) hx hb dX10_has_3 (by decide) ?_
  refine lv_iand hx hb dX10_has_4 ?_
  refine lv_iconst (v := 1) hx hb dX10_has_5 (by decide) ?_
  refine lv_icmp_ne (tgt := 13) hx hb dX10_has_6 (by decide) (fun hc => ?_) (fun hc => ?_)
  · have hf := ff hf hc
    refine lv_iconst (v := 0) hx hb dX10_has_13 (by decide) ?_
    exact ret_rz hx hb hr hlocks (Or.inl rfl) hf dX10_has_14
  · have hf := ft hf hc
    refine lv_iconst (v := 1) hx hb dX10_has_9 (by decide) ?_
    refine lv_goto (tgt := 14) hx hb dX10_has_10 (by decide) ?_
    exact ret_rz hx hb hr hlocks (Or.inr rfl) hf dX10_has_14
/-! ===== SilenceCountModel.common()I ===== -/
abbrev rmX10_common : Room := { frames := 1, cells := 0, slots := 0, locals := 21 }
theorem kkX10_common : yX10_common.cls = RX10 ∧ yX10_common.cls ≠ "java/lang/invoke/MethodHandle" ∧ yX10_common.cls ≠ "java/lang/invoke/VarHandle" ∧ (parseMethodDescriptor yX10_common.desc).map (fun d => d.parameters.length) = some 0 := by decide +kernel
theorem mX10_common_k75 : Cond.constant RX10 75 (100000000) ∈ wsX10_common := by decide +kernel
theorem mX10_common_f72 : Cond.fieldLink RX10 72 "SilenceCountModel" "up" "I" ∈ wsX10_common := by decide +kernel
theorem mX10_common_f30 : Cond.fieldLink RX10 30 "SilenceCountModel" "now" "[I" ∈ wsX10_common := by decide +kernel
theorem wX10_common_X10 : ∀ w ∈ u_ws RX10 TX10 19, w ∈ wsX10_common := by decide +kernel
def bX10_common_125 (k7 : Int32 × Int32 × Int32 → Option (Int32)) (v2 : Int32) (v3 : Int32) (v4 : Int32) (s0 : Int32) : Option (Int32) :=
  if v4 ≤ v2 then k7 (s0, v2, v3 + 1) else k7 (s0, v4, v3 + 1)
set_option maxRecDepth 100000 in
set_option maxHeartbeats 4000000 in
theorem BX10_common_125 {p : Program} {l : Launch} {e : Env} {s : State} {m : MethodId} {below : List Frame} {meth : Method} {c : Code} {D : va_G} {ty : TY} {A_t A_t_count A_t_pace A_t_sight A_t_pad A_t_now A_t_image A_t_isKept : Nat} {t_there : Int32} {t_awake : Int32} {t_house : Int32} {t_sharp : Int32} {t_sights : Int32} {t_signs : Int32} {t_up : Int32} {t_reason : Int32} {t_acts : Int32} {t_breaths : Int32} {t_zeroAt : Int32} {t_noticedAt : Int32} {t_count : Nat → Int32} {t_pace : Nat → Int32} {t_sight : Nat → Int32} {t_pad : Nat → Int32} {t_now : Nat → Int32} {t_image : Nat → Int32} {t_isKept : Nat → Int32} {q0 : Int32} (C : cx p s m [.ref A_t] meth c cX10_common 6 (some .int) RX10 wsX10_common) (hK : KK D ty s) (hP : va_P D vwCl [(A_t, .inr (9, [.int t_there, .int t_awake, .ref A_t_count, .ref A_t_pace, .int t_house, .int t_sharp, .int t_sights, .ref A_t_sight, .int t_signs, .ref A_t_pad, .int t_up, .ref A_t_now, .int t_reason, .int t_acts, .int t_breaths, .int t_zeroAt, .int t_noticedAt, .ref A_t_image, .ref A_t_isKept])), (A_t_count, .inl (ty.1, 8, .inl t_count)), (A_t_pace, .inl (ty.1, 8, .inl t_pace)), (A_t_sight, .inl (ty.1, 24, .inl t_sight)), (A_t_pad, .inl (ty.1, 60, .inl t_pad)), (A_t_now, .inl (ty.1, 8, .inl t_now)), (A_t_image, .inl (ty.1, 120, .inl t_image)), (A_t_isKept, .inl (ty.2.2.1, 2, .inl t_isKept))] s.heap) {k7 : Int32 × Int32 × Int32 → Option (Int32)} (hk7 : ∀ (v1 : Int32) (v2 : Int32) (v3 : Int32) (ls : Array Slot), lv_has ls 6 [(0, .ref A_t), (1, .int v1), (2, .int v2), (3, .int v3)] → k7 (v1, v2, v3) = some q0 → WRi p l e rmX10_common s m [.ref A_t] below meth c q0 (F0 m 7 ls [])) {v2 : Int32} {v3 : Int32} {v4 : Int32} {s0 : Int32} {ls : Array Slot} (hl : lv_has ls 6 [(0, .ref A_t), (2, .int v2), (3, .int v3), (4, .int v4)]) (hf : bX10_common_125 k7 v2 v3 v4 s0 = some q0) : WRi p l e rmX10_common s m [.ref A_t] below meth c q0 (F0 m 125 ls [.int s0]) := by
  obtain ⟨hx, hb, hr, hml, hown, hts, hlocks⟩ := id C
  unfold bX10_common_125 at hf
  refine lv_istore_n (lv' := [(1, .int s0), (0, .ref A_t), (2, .int v2), (3, .int v3), (4, .int v4)]) hx hb dX10_common_125 rfl hl (by decide) rfl (fun ls hl => ?_)
  refine lv_iload hx hb dX10_common_126 (lv_at hl 4 rfl) ?_
  refine lv_iload_n hx hb dX10_common_128 rfl (lv_at hl 2 rfl) ?_
  refine lv_icmp_le (tgt := 137) hx hb dX10_common_129 (by decide) (fun hc => ?_) (fun hc => ?_)
  · have hf := ft hf hc
    refine lv_iload_n hx hb dX10_common_137 rfl (lv_at hl 2 rfl) ?_
    refine lv_istore_n (lv' := [(2, .int v2), (1, .int s0), (0, .ref A_t), (3, .int v3), (4, .int v4)]) hx hb dX10_common_138 rfl hl (by decide) rfl (fun ls hl => ?_)
    refine lv_iinc (v := v3 + 1) (lv' := [(3, .int (v3 + 1)), (2, .int v2), (1, .int s0), (0, .ref A_t), (4, .int v4)]) hx hb dX10_common_139 hl (k := 3) rfl rfl (by decide) rfl (fun ls hl => ?_)
    refine lv_goto (tgt := 7) hx hb dX10_common_142 (by decide) ?_
    exact hk7 _ _ _ _ (lv_sub hl [3, 2, 1, 0] rfl) hf
  · have hf := ff hf hc
    refine lv_iload hx hb dX10_common_132 (lv_at hl 4 rfl) ?_
    refine lv_goto (tgt := 138) hx hb dX10_common_134 (by decide) ?_
    refine lv_istore_n (lv' := [(2, .int v4), (1, .int s0), (0, .ref A_t), (3, .int v3), (4, .int v4)]) hx hb dX10_common_138 rfl hl (by decide) rfl (fun ls hl => ?_)
    refine lv_iinc (v := v3 + 1) (lv' := [(3, .int (v3 + 1)), (2, .int v4), (1, .int s0), (0, .ref A_t), (4, .int v4)]) hx hb dX10_common_139 hl (k := 3) rfl rfl (by decide) rfl (fun ls hl => ?_)
    refine lv_goto (tgt := 7) hx hb dX10_common_142 (by decide) ?_
    exact hk7 _ _ _ _ (lv_sub hl [3, 2, 1, 0] rfl) hf
def bX10_common_108 (k7 : Int32 × Int32 × Int32 → Option (Int32)) (t_now : Nat → Int32) (v1 : Int32) (v2 : Int32) (v3 : Int32) (v4 : Int32) (s0 : Int32) : Option (Int32) :=
  if s0 = 0 then bX10_common_125 k7 v2 v3 v4 v1 else gIn v3 8 (bX10_common_125 k7 v2 v3 v4 (t_now (v3 : Int32).toNatClampNeg))
set_option maxRecDepth 100000 in
set_option maxHeartbeats 4000000 in
theorem BX10_common_108 {p : Program} {l : Launch} {e : Env} {s : State} {m : MethodId} {below : List Frame} {meth : Method} {c : Code} {D : va_G} {ty : TY} {A_t A_t_count A_t_pace A_t_sight A_t_pad A_t_now A_t_image A_t_isKept : Nat} {t_there : Int32} {t_awake : Int32} {t_house : Int32} {t_sharp : Int32} {t_sights : Int32} {t_signs : Int32} {t_up : Int32} {t_reason : Int32} {t_acts : Int32} {t_breaths : Int32} {t_zeroAt : Int32} {t_noticedAt : Int32} {t_count : Nat → Int32} {t_pace : Nat → Int32} {t_sight : Nat → Int32} {t_pad : Nat → Int32} {t_now : Nat → Int32} {t_image : Nat → Int32} {t_isKept : Nat → Int32} {q0 : Int32} (C : cx p s m [.ref A_t] meth c cX10_common 6 (some .int) RX10 wsX10_common) (hK : KK D ty s) (hP : va_P D vwCl [(A_t, .inr (9, [.int t_there, .int t_awake, .ref A_t_count, .ref A_t_pace, .int t_house, .int t_sharp, .int t_sights, .ref A_t_sight, .int t_signs, .ref A_t_pad, .int t_up, .ref A_t_now, .int t_reason, .int t_acts, .int t_breaths, .int t_zeroAt, .int t_noticedAt, .ref A_t_image, .ref A_t_isKept])), (A_t_count, .inl (ty.1, 8, .inl t_count)), (A_t_pace, .inl (ty.1, 8, .inl t_pace)), (A_t_sight, .inl (ty.1, 24, .inl t_sight)), (A_t_pad, .inl (ty.1, 60, .inl t_pad)), (A_t_now, .inl (ty.1, 8, .inl t_now)), (A_t_image, .inl (ty.1, 120, .inl t_image)), (A_t_isKept, .inl (ty.2.2.1, 2, .inl t_isKept))] s.heap) {k7 : Int32 × Int32 × Int32 → Option (Int32)} (hk7 : ∀ (v1 : Int32) (v2 : Int32) (v3 : Int32) (ls : Array Slot), lv_has ls 6 [(0, .ref A_t), (1, .int v1), (2, .int v2), (3, .int v3)] → k7 (v1, v2, v3) = some q0 → WRi p l e rmX10_common s m [.ref A_t] below meth c q0 (F0 m 7 ls [])) {v1 : Int32} {v2 : Int32} {v3 : Int32} {v4 : Int32} {s0 : Int32} {ls : Array Slot} (hl : lv_has ls 6 [(0, .ref A_t), (1, .int v1), (2, .int v2), (3, .int v3), (4, .int v4)]) (hf : bX10_common_108 k7 t_now v1 v2 v3 v4 s0 = some q0) : WRi p l e rmX10_common s m [.ref A_t] below meth c q0 (F0 m 108 ls [.int s0]) := by
  obtain ⟨hx, hb, hr, hml, hown, hts, hlocks⟩ := id C
  unfold bX10_common_108 at hf
  refine lv_istore (lv' := [(5, .int s0), (0, .ref A_t), (1, .int v1), (2, .int v2), (3, .int v3), (4, .int v4)]) hx hb dX10_common_108 hl (by decide) rfl (fun ls hl => ?_)
  refine lv_iload hx hb dX10_common_110 (lv_at hl 0 rfl) ?_
  refine lv_if_eq (tgt := 124) hx hb dX10_common_112 (by decide) (fun hc => ?_) (fun hc => ?_)
  · have hf := ft hf hc
    refine lv_iload_n hx hb dX10_common_124 rfl (lv_at hl 2 rfl) ?_
    exact BX10_common_125 C hK hP hk7 (lv_sub hl [1, 3, 4, 5] rfl) hf
  · have hf := ff hf hc
    refine lv_aload_n hx hb dX10_common_115 rfl (lv_at hl 1 rfl) ?_
    refine va_get (D := D) (ci := 9) (v := .ref A_t_now) (C := RX10) (T := TX10) (N := 19) hx hb hts wX10_common_X10 hown hK.1 hP 0 rfl rfl 11 (by decide) (hts _ mX10_common_f30) (fun _ h9 => h9) rfl dX10_common_116 ?_
    refine lv_iload_n hx hb dX10_common_119 rfl (lv_at hl 4 rfl) ?_
    obtain ⟨hin, hf⟩ := gIn_some hf
    refine va_iald hx hb hK.1 hP 5 0 rfl rfl hin dX10_common_120 ?_
    refine lv_goto (tgt := 125) hx hb dX10_common_121 (by decide) ?_
    exact BX10_common_125 C hK hP hk7 (lv_sub hl [1, 3, 4, 5] rfl) hf
def bX10_common_72 (k7 : Int32 × Int32 × Int32 → Option (Int32)) (k30 : Int32 × Int32 × Int32 × Int32 × Int32 → Option (Int32)) (v1 : Int32) (v2 : Int32) (v3 : Int32) (v5 : Int32) (s0 : Int32) (s1 : Int32) : Option (Int32) :=
  k30 (v1, v2, v3, s1 + s0, v5 + 1)
set_option maxRecDepth 100000 in
set_option maxHeartbeats 4000000 in
theorem BX10_common_72 {p : Program} {l : Launch} {e : Env} {s : State} {m : MethodId} {below : List Frame} {meth : Method} {c : Code} {D : va_G} {ty : TY} {A_t A_t_count A_t_pace A_t_sight A_t_pad A_t_now A_t_image A_t_isKept : Nat} {t_there : Int32} {t_awake : Int32} {t_house : Int32} {t_sharp : Int32} {t_sights : Int32} {t_signs : Int32} {t_up : Int32} {t_reason : Int32} {t_acts : Int32} {t_breaths : Int32} {t_zeroAt : Int32} {t_noticedAt : Int32} {t_count : Nat → Int32} {t_pace : Nat → Int32} {t_sight : Nat → Int32} {t_pad : Nat → Int32} {t_now : Nat → Int32} {t_image : Nat → Int32} {t_isKept : Nat → Int32} {q0 : Int32} (C : cx p s m [.ref A_t] meth c cX10_common 6 (some .int) RX10 wsX10_common) (hK : KK D ty s) (hP : va_P D vwCl [(A_t, .inr (9, [.int t_there, .int t_awake, .ref A_t_count, .ref A_t_pace, .int t_house, .int t_sharp, .int t_sights, .ref A_t_sight, .int t_signs, .ref A_t_pad, .int t_up, .ref A_t_now, .int t_reason, .int t_acts, .int t_breaths, .int t_zeroAt, .int t_noticedAt, .ref A_t_image, .ref A_t_isKept])), (A_t_count, .inl (ty.1, 8, .inl t_count)), (A_t_pace, .inl (ty.1, 8, .inl t_pace)), (A_t_sight, .inl (ty.1, 24, .inl t_sight)), (A_t_pad, .inl (ty.1, 60, .inl t_pad)), (A_t_now, .inl (ty.1, 8, .inl t_now)), (A_t_image, .inl (ty.1, 120, .inl t_image)), (A_t_isKept, .inl (ty.2.2.1, 2, .inl t_isKept))] s.heap) {k7 : Int32 × Int32 × Int32 → Option (Int32)} {k30 : Int32 × Int32 × Int32 × Int32 × Int32 → Option (Int32)} (hk7 : ∀ (v1 : Int32) (v2 : Int32) (v3 : Int32) (ls : Array Slot), lv_has ls 6 [(0, .ref A_t), (1, .int v1), (2, .int v2), (3, .int v3)] → k7 (v1, v2, v3) = some q0 → WRi p l e rmX10_common s m [.ref A_t] below meth c q0 (F0 m 7 ls [])) (hk30 : ∀ (v1 : Int32) (v2 : Int32) (v3 : Int32) (v4 : Int32) (v5 : Int32) (ls : Array Slot), lv_has ls 6 [(0, .ref A_t), (1, .int v1), (2, .int v2), (3, .int v3), (4, .int v4), (5, .int v5)] → k30 (v1, v2, v3, v4, v5) = some q0 → WRi p l e rmX10_common s m [.ref A_t] below meth c q0 (F0 m 30 ls [])) {v1 : Int32} {v2 : Int32} {v3 : Int32} {v5 : Int32} {s0 : Int32} {s1 : Int32} {ls : Array Slot} (hl : lv_has ls 6 [(0, .ref A_t), (1, .int v1), (2, .int v2), (3, .int v3), (5, .int v5)]) (hf : bX10_common_72 k7 k30 v1 v2 v3 v5 s0 s1 = some q0) : WRi p l e rmX10_common s m [.ref A_t] below meth c q0 (F0 m 72 ls [.int s0, .int s1]) := by
  obtain ⟨hx, hb, hr, hml, hown, hts, hlocks⟩ := id C
  unfold bX10_common_72 at hf
  refine lv_iadd hx hb dX10_common_72 ?_
  refine lv_istore (lv' := [(4, .int (s1 + s0)), (0, .ref A_t), (1, .int v1), (2, .int v2), (3, .int v3), (5, .int v5)]) hx hb dX10_common_73 hl (by decide) rfl (fun ls hl => ?_)
  refine lv_iinc (v := v5 + 1) (lv' := [(5, .int (v5 + 1)), (4, .int (s1 + s0)), (0, .ref A_t), (1, .int v1), (2, .int v2), (3, .int v3)]) hx hb dX10_common_75 hl (k := 5) rfl rfl (by decide) rfl (fun ls hl => ?_)
  refine lv_goto (tgt := 30) hx hb dX10_common_78 (by decide) ?_
  exact hk30 _ _ _ _ _ _ (lv_sub hl [2, 3, 4, 5, 1, 0] rfl) hf
def bX10_common_30 (k7 : Int32 × Int32 × Int32 → Option (Int32)) (k30 : Int32 × Int32 × Int32 × Int32 × Int32 → Option (Int32)) (t_up : Int32) (t_now : Nat → Int32) (v1 : Int32) (v2 : Int32) (v3 : Int32) (v4 : Int32) (v5 : Int32) : Option (Int32) :=
  if 8 ≤ v5 then if v2 < v4 then bX10_common_108 k7 t_now v1 v2 v3 v4 1 else if v4 = v2 then gIn v3 8 (if v1 ≤ (t_now (v3 : Int32).toNatClampNeg) then bX10_common_108 k7 t_now v1 v2 v3 v4 0 else bX10_common_108 k7 t_now v1 v2 v3 v4 1) else bX10_common_108 k7 t_now v1 v2 v3 v4 0 else (fX10_has t_up v5).bind fun r45 => if r45 = 0 then bX10_common_72 k7 k30 v1 v2 v3 v5 0 v4 else gIn v5 8 (gIn v3 8 (if (t_now (v5 : Int32).toNatClampNeg) = (t_now (v3 : Int32).toNatClampNeg) then bX10_common_72 k7 k30 v1 v2 v3 v5 1 v4 else bX10_common_72 k7 k30 v1 v2 v3 v5 0 v4))
set_option maxRecDepth 100000 in
set_option maxHeartbeats 4000000 in
theorem BX10_common_30 {p : Program} {l : Launch} {e : Env} {s : State} {m : MethodId} {below : List Frame} {meth : Method} {c : Code} {D : va_G} {ty : TY} {A_t A_t_count A_t_pace A_t_sight A_t_pad A_t_now A_t_image A_t_isKept : Nat} {t_there : Int32} {t_awake : Int32} {t_house : Int32} {t_sharp : Int32} {t_sights : Int32} {t_signs : Int32} {t_up : Int32} {t_reason : Int32} {t_acts : Int32} {t_breaths : Int32} {t_zeroAt : Int32} {t_noticedAt : Int32} {t_count : Nat → Int32} {t_pace : Nat → Int32} {t_sight : Nat → Int32} {t_pad : Nat → Int32} {t_now : Nat → Int32} {t_image : Nat → Int32} {t_isKept : Nat → Int32} {q0 : Int32} (C : cx p s m [.ref A_t] meth c cX10_common 6 (some .int) RX10 wsX10_common) (hK : KK D ty s) (hP : va_P D vwCl [(A_t, .inr (9, [.int t_there, .int t_awake, .ref A_t_count, .ref A_t_pace, .int t_house, .int t_sharp, .int t_sights, .ref A_t_sight, .int t_signs, .ref A_t_pad, .int t_up, .ref A_t_now, .int t_reason, .int t_acts, .int t_breaths, .int t_zeroAt, .int t_noticedAt, .ref A_t_image, .ref A_t_isKept])), (A_t_count, .inl (ty.1, 8, .inl t_count)), (A_t_pace, .inl (ty.1, 8, .inl t_pace)), (A_t_sight, .inl (ty.1, 24, .inl t_sight)), (A_t_pad, .inl (ty.1, 60, .inl t_pad)), (A_t_now, .inl (ty.1, 8, .inl t_now)), (A_t_image, .inl (ty.1, 120, .inl t_image)), (A_t_isKept, .inl (ty.2.2.1, 2, .inl t_isKept))] s.heap) {k7 : Int32 × Int32 × Int32 → Option (Int32)} (hk7 : ∀ (v1 : Int32) (v2 : Int32) (v3 : Int32) (ls : Array Slot), lv_has ls 6 [(0, .ref A_t), (1, .int v1), (2, .int v2), (3, .int v3)] → k7 (v1, v2, v3) = some q0 → WRi p l e rmX10_common s m [.ref A_t] below meth c q0 (F0 m 7 ls [])) : ∀ (n : Nat) (v1 : Int32) (v2 : Int32) (v3 : Int32) (v4 : Int32) (v5 : Int32) (ls : Array Slot), lv_has ls 6 [(0, .ref A_t), (1, .int v1), (2, .int v2), (3, .int v3), (4, .int v4), (5, .int v5)] → loopF (fun k q => bX10_common_30 k7 k t_up t_now q.1 q.2.1 q.2.2.1 q.2.2.2.1 q.2.2.2.2) n (v1, v2, v3, v4, v5) = some q0 → WRi p l e rmX10_common s m [.ref A_t] below meth c q0 (F0 m 30 ls []) := by
  obtain ⟨hx, hb, hr, hml, hown, hts, hlocks⟩ := id C
  intro n
  induction n with
  | zero =>
    intro v1 v2 v3 v4 v5 ls hl hf
    cases hf
  | succ n ih =>
    intro v1 v2 v3 v4 v5 ls hl hf
    have hf : bX10_common_30 k7 (loopF (fun k q => bX10_common_30 k7 k t_up t_now q.1 q.2.1 q.2.2.1 q.2.2.2.1 q.2.2.2.2) n) t_up t_now v1 v2 v3 v4 v5 = some q0 := hf
    have hk30 := ih
    unfold bX10_common_30 at hf
    refine lv_iload hx hb dX10_common_30 (lv_at hl 5 rfl) ?_
    refine lv_bipush (v := 8) hx hb dX10_common_32 (by decide) ?_
    refine lv_icmp_ge (tgt := 81) hx hb dX10_common_34 (by decide) (fun hc => ?_) (fun hc => ?_)
    · have hf := ft hf hc
      refine lv_iload hx hb dX10_common_81 (lv_at hl 4 rfl) ?_
      refine lv_iload_n hx hb dX10_common_83 rfl (lv_at hl 2 rfl) ?_
      refine lv_icmp_gt (tgt := 103) hx hb dX10_common_84 (by decide) (fun hc => ?_) (fun hc => ?_)
      · have hf := ft hf hc
        refine lv_iconst (v := 1) hx hb dX10_common_103 (by decide) ?_
        refine lv_goto (tgt := 108) hx hb dX10_common_104 (by decide) ?_
        exact BX10_common_108 C hK hP hk7 (lv_sub hl [0, 1, 2, 3, 4] rfl) hf
      · have hf := ff hf hc
        refine lv_iload hx hb dX10_common_87 (lv_at hl 4 rfl) ?_
        refine lv_iload_n hx hb dX10_common_89 rfl (lv_at hl 2 rfl) ?_
        refine lv_icmp_ne (tgt := 107) hx hb dX10_common_90 (by decide) (fun hc => ?_) (fun hc => ?_)
        · have hf := ff hf hc
          refine lv_iconst (v := 0) hx hb dX10_common_107 (by decide) ?_
          exact BX10_common_108 C hK hP hk7 (lv_sub hl [0, 1, 2, 3, 4] rfl) hf
        · have hf := ft hf hc
          refine lv_aload_n hx hb dX10_common_93 rfl (lv_at hl 0 rfl) ?_
          refine va_get (D := D) (ci := 9) (v := .ref A_t_now) (C := RX10) (T := TX10) (N := 19) hx hb hts wX10_common_X10 hown hK.1 hP 0 rfl rfl 11 (by decide) (hts _ mX10_common_f30) (fun _ h9 => h9) rfl dX10_common_94 ?_
          refine lv_iload_n hx hb dX10_common_97 rfl (lv_at hl 3 rfl) ?_
          obtain ⟨hin, hf⟩ := gIn_some hf
          refine va_iald hx hb hK.1 hP 5 0 rfl rfl hin dX10_common_98 ?_
          refine lv_iload_n hx hb dX10_common_99 rfl (lv_at hl 1 rfl) ?_
          refine lv_icmp_ge (tgt := 107) hx hb dX10_common_100 (by decide) (fun hc => ?_) (fun hc => ?_)
          · have hf := ft hf hc
            refine lv_iconst (v := 0) hx hb dX10_common_107 (by decide) ?_
            exact BX10_common_108 C hK hP hk7 (lv_sub hl [0, 1, 2, 3, 4] rfl) hf
          · have hf := ff hf hc
            refine lv_iconst (v := 1) hx hb dX10_common_103 (by decide) ?_
            refine lv_goto (tgt := 108) hx hb dX10_common_104 (by decide) ?_
            exact BX10_common_108 C hK hP hk7 (lv_sub hl [0, 1, 2, 3, 4] rfl) hf
    · have hf := ff hf hc
      refine lv_iload hx hb dX10_common_37 (lv_at hl 4 rfl) ?_
      refine lv_aload_n hx hb dX10_common_39 rfl (lv_at hl 0 rfl) ?_
      refine va_get (D := D) (ci := 9) (v := .int t_up) (C := RX10) (T := TX10) (N := 19) hx hb hts wX10_common_X10 hown hK.1 hP 0 rfl rfl 10 (by decide) (hts _ mX10_common_f72) (fun _ h9 => h9) rfl dX10_common_40 ?_
      refine lv_iload hx hb dX10_common_43 (lv_at hl 5 rfl) ?_
      obtain ⟨r45, hr45, hf⟩ := bnd hf
      have hPc : va_P D vwCl [] _ := hP.sub [] rfl
      refine callS_ri (As := [.int t_up, .int v5]) (rest := [.int v4]) ⟨hx, hb, hml, hown, hts⟩ (CX10_has l hr45) (va_cwS 2 hts gX10_common_X10_has rfl rfl rfl kkX10_has.2 ⟨Nat.le_of_ble_eq_true rfl, Nat.le_of_ble_eq_true rfl⟩) hK hPc hl.1 rfl (Nat.le_of_ble_eq_true rfl) dX10_common_45 ⟨Nat.zero_le _, Nat.zero_le _⟩ ?_
      refine lv_if_eq (tgt := 71) hx hb dX10_common_48 (by decide) (fun hc => ?_) (fun hc => ?_)
      · have hf := ft hf hc
        refine lv_iconst (v := 0) hx hb dX10_common_71 (by decide) ?_
        exact BX10_common_72 C hK hP hk7 hk30 (lv_sub hl [0, 1, 2, 3, 5] rfl) hf
      · have hf := ff hf hc
        refine lv_aload_n hx hb dX10_common_51 rfl (lv_at hl 0 rfl) ?_
        refine va_get (D := D) (ci := 9) (v := .ref A_t_now) (C := RX10) (T := TX10) (N := 19) hx hb hts wX10_common_X10 hown hK.1 hP 0 rfl rfl 11 (by decide) (hts _ mX10_common_f30) (fun _ h9 => h9) rfl dX10_common_52 ?_
        refine lv_iload hx hb dX10_common_55 (lv_at hl 5 rfl) ?_
        obtain ⟨hin, hf⟩ := gIn_some hf
        refine va_iald hx hb hK.1 hP 5 0 rfl rfl hin dX10_common_57 ?_
        refine lv_aload_n hx hb dX10_common_58 rfl (lv_at hl 0 rfl) ?_
        refine va_get (D := D) (ci := 9) (v := .ref A_t_now) (C := RX10) (T := TX10) (N := 19) hx hb hts wX10_common_X10 hown hK.1 hP 0 rfl rfl 11 (by decide) (hts _ mX10_common_f30) (fun _ h9 => h9) rfl dX10_common_59 ?_
        refine lv_iload_n hx hb dX10_common_62 rfl (lv_at hl 3 rfl) ?_
        obtain ⟨hin, hf⟩ := gIn_some hf
        refine va_iald hx hb hK.1 hP 5 0 rfl rfl hin dX10_common_63 ?_
        refine lv_icmp_ne (tgt := 71) hx hb dX10_common_64 (by decide) (fun hc => ?_) (fun hc => ?_)
        · have hf := ff hf hc
          refine lv_iconst (v := 0) hx hb dX10_common_71 (by decide) ?_
          exact BX10_common_72 C hK hP hk7 hk30 (lv_sub hl [0, 1, 2, 3, 5] rfl) hf
        · have hf := ft hf hc
          refine lv_iconst (v := 1) hx hb dX10_common_67 (by decide) ?_
          refine lv_goto (tgt := 72) hx hb dX10_common_68 (by decide) ?_
          exact BX10_common_72 C hK hP hk7 hk30 (lv_sub hl [0, 1, 2, 3, 5] rfl) hf
def bX10_common_7 (k7 : Int32 × Int32 × Int32 → Option (Int32)) (t_up : Int32) (t_now : Nat → Int32) (v1 : Int32) (v2 : Int32) (v3 : Int32) : Option (Int32) :=
  if 8 ≤ v3 then some v1 else (fX10_has t_up v3).bind fun r18 => if r18 = 0 then k7 (v1, v2, v3 + 1) else loopF (fun k q => bX10_common_30 k7 k t_up t_now q.1 q.2.1 q.2.2.1 q.2.2.2.1 q.2.2.2.2) FU (v1, v2, v3, 0, 0)
set_option maxRecDepth 100000 in
set_option maxHeartbeats 4000000 in
theorem BX10_common_7 {p : Program} {l : Launch} {e : Env} {s : State} {m : MethodId} {below : List Frame} {meth : Method} {c : Code} {D : va_G} {ty : TY} {A_t A_t_count A_t_pace A_t_sight A_t_pad A_t_now A_t_image A_t_isKept : Nat} {t_there : Int32} {t_awake : Int32} {t_house : Int32} {t_sharp : Int32} {t_sights : Int32} {t_signs : Int32} {t_up : Int32} {t_reason : Int32} {t_acts : Int32} {t_breaths : Int32} {t_zeroAt : Int32} {t_noticedAt : Int32} {t_count : Nat → Int32} {t_pace : Nat → Int32} {t_sight : Nat → Int32} {t_pad : Nat → Int32} {t_now : Nat → Int32} {t_image : Nat → Int32} {t_isKept : Nat → Int32} {q0 : Int32} (C : cx p s m [.ref A_t] meth c cX10_common 6 (some .int) RX10 wsX10_common) (hK : KK D ty s) (hP : va_P D vwCl [(A_t, .inr (9, [.int t_there, .int t_awake, .ref A_t_count, .ref A_t_pace, .int t_house, .int t_sharp, .int t_sights, .ref A_t_sight, .int t_signs, .ref A_t_pad, .int t_up, .ref A_t_now, .int t_reason, .int t_acts, .int t_breaths, .int t_zeroAt, .int t_noticedAt, .ref A_t_image, .ref A_t_isKept])), (A_t_count, .inl (ty.1, 8, .inl t_count)), (A_t_pace, .inl (ty.1, 8, .inl t_pace)), (A_t_sight, .inl (ty.1, 24, .inl t_sight)), (A_t_pad, .inl (ty.1, 60, .inl t_pad)), (A_t_now, .inl (ty.1, 8, .inl t_now)), (A_t_image, .inl (ty.1, 120, .inl t_image)), (A_t_isKept, .inl (ty.2.2.1, 2, .inl t_isKept))] s.heap)   : ∀ (n : Nat) (v1 : Int32) (v2 : Int32) (v3 : Int32) (ls : Array Slot), lv_has ls 6 [(0, .ref A_t), (1, .int v1), (2, .int v2), (3, .int v3)] → loopF (fun k q => bX10_common_7 k t_up t_now q.1 q.2.1 q.2.2) n (v1, v2, v3) = some q0 → WRi p l e rmX10_common s m [.ref A_t] below meth c q0 (F0 m 7 ls []) := by
  obtain ⟨hx, hb, hr, hml, hown, hts, hlocks⟩ := id C
  intro n
  induction n with
  | zero =>
    intro v1 v2 v3 ls hl hf
    cases hf
  | succ n ih =>
    intro v1 v2 v3 ls hl hf
    have hf : bX10_common_7 (loopF (fun k q => bX10_common_7 k t_up t_now q.1 q.2.1 q.2.2) n) t_up t_now v1 v2 v3 = some q0 := hf
    have hk7 := ih
    unfold bX10_common_7 at hf
    refine lv_iload_n hx hb dX10_common_7 rfl (lv_at hl 3 rfl) ?_
    refine lv_bipush (v := 8) hx hb dX10_common_8 (by decide) ?_
    refine lv_icmp_ge (tgt := 145) hx hb dX10_common_10 (by decide) (fun hc => ?_) (fun hc => ?_)
    · have hf := ft hf hc
      refine lv_iload_n hx hb dX10_common_145 rfl (lv_at hl 1 rfl) ?_
      exact ret_ri hx hb hr hlocks hf dX10_common_146
    · have hf := ff hf hc
      refine lv_aload_n hx hb dX10_common_13 rfl (lv_at hl 0 rfl) ?_
      refine va_get (D := D) (ci := 9) (v := .int t_up) (C := RX10) (T := TX10) (N := 19) hx hb hts wX10_common_X10 hown hK.1 hP 0 rfl rfl 10 (by decide) (hts _ mX10_common_f72) (fun _ h9 => h9) rfl dX10_common_14 ?_
      refine lv_iload_n hx hb dX10_common_17 rfl (lv_at hl 3 rfl) ?_
      obtain ⟨r18, hr18, hf⟩ := bnd hf
      have hPc : va_P D vwCl [] _ := hP.sub [] rfl
      refine callS_ri (As := [.int t_up, .int v3]) (rest := []) ⟨hx, hb, hml, hown, hts⟩ (CX10_has l hr18) (va_cwS 2 hts gX10_common_X10_has rfl rfl rfl kkX10_has.2 ⟨Nat.le_of_ble_eq_true rfl, Nat.le_of_ble_eq_true rfl⟩) hK hPc hl.1 rfl (Nat.le_of_ble_eq_true rfl) dX10_common_18 ⟨Nat.zero_le _, Nat.zero_le _⟩ ?_
      refine lv_if_eq (tgt := 139) hx hb dX10_common_21 (by decide) (fun hc => ?_) (fun hc => ?_)
      · have hf := ft hf hc
        refine lv_iinc (v := v3 + 1) (lv' := [(3, .int (v3 + 1)), (0, .ref A_t), (1, .int v1), (2, .int v2)]) hx hb dX10_common_139 hl (k := 3) rfl rfl (by decide) rfl (fun ls hl => ?_)
        refine lv_goto (tgt := 7) hx hb dX10_common_142 (by decide) ?_
        exact hk7 _ _ _ _ (lv_sub hl [1, 2, 3, 0] rfl) hf
      · have hf := ff hf hc
        refine lv_iconst (v := 0) hx hb dX10_common_24 (by decide) ?_
        refine lv_istore (lv' := [(4, .int 0), (0, .ref A_t), (1, .int v1), (2, .int v2), (3, .int v3)]) hx hb dX10_common_25 hl (by decide) rfl (fun ls hl => ?_)
        refine lv_iconst (v := 0) hx hb dX10_common_27 (by decide) ?_
        refine lv_istore (lv' := [(5, .int 0), (4, .int 0), (0, .ref A_t), (1, .int v1), (2, .int v2), (3, .int v3)]) hx hb dX10_common_28 hl (by decide) rfl (fun ls hl => ?_)
        exact BX10_common_30 C hK hP hk7 FU _ _ _ _ _ _ (lv_sub hl [2, 3, 4, 5, 1, 0] rfl) hf
def fX10_common (t_up : Int32) (t_now : Nat → Int32) : Option (Int32) :=
  loopF (fun k q => bX10_common_7 k t_up t_now q.1 q.2.1 q.2.2) FU (100000000, 0, 0)
set_option maxRecDepth 100000 in
set_option maxHeartbeats 4000000 in
theorem CX10_common (l : Launch) {D : va_G} {ty : TY} {A_t A_t_count A_t_pace A_t_sight A_t_pad A_t_now A_t_image A_t_isKept : Nat} {t_there : Int32} {t_awake : Int32} {t_house : Int32} {t_sharp : Int32} {t_sights : Int32} {t_signs : Int32} {t_up : Int32} {t_reason : Int32} {t_acts : Int32} {t_breaths : Int32} {t_zeroAt : Int32} {t_noticedAt : Int32} {t_count : Nat → Int32} {t_pace : Nat → Int32} {t_sight : Nat → Int32} {t_pad : Nat → Int32} {t_now : Nat → Int32} {t_image : Nat → Int32} {t_isKept : Nat → Int32} {q0 : Int32} (hf : fX10_common t_up t_now = some q0) : ROi l yX10_common wsX10_common rmX10_common D ty [.ref A_t] [(A_t, .inr (9, [.int t_there, .int t_awake, .ref A_t_count, .ref A_t_pace, .int t_house, .int t_sharp, .int t_sights, .ref A_t_sight, .int t_signs, .ref A_t_pad, .int t_up, .ref A_t_now, .int t_reason, .int t_acts, .int t_breaths, .int t_zeroAt, .int t_noticedAt, .ref A_t_image, .ref A_t_isKept])), (A_t_count, .inl (ty.1, 8, .inl t_count)), (A_t_pace, .inl (ty.1, 8, .inl t_pace)), (A_t_sight, .inl (ty.1, 24, .inl t_sight)), (A_t_pad, .inl (ty.1, 60, .inl t_pad)), (A_t_now, .inl (ty.1, 8, .inl t_now)), (A_t_image, .inl (ty.1, 120, .inl t_image)), (A_t_isKept, .inl (ty.2.2.1, 2, .inl t_isKept))] q0 := by
  refine ROi.start (cc := cX10_common) (maxL := 6) (ret := (some .int)) (own := RX10) (by decide) rfl rfl (Nat.le_of_ble_eq_true rfl) ?_
  intro p e s m below meth c ls C hK hP hl
  obtain ⟨hx, hb, hr, hml, hown, hts, hlocks⟩ := id C
  have hl : lv_has ls 6 [(0, .ref A_t)] := hl
  unfold fX10_common at hf
  refine lv_ldc (v := 100000000) hx hb hown (hts _ mX10_common_k75) dX10_common_0 ?_
  refine lv_istore_n (lv' := [(1, .int 100000000), (0, .ref A_t)]) hx hb dX10_common_2 rfl hl (by decide) rfl (fun ls hl => ?_)
  refine lv_iconst (v := 0) hx hb dX10_common_3 (by decide) ?_
  refine lv_istore_n (lv' := [(2, .int 0), (1, .int 100000000), (0, .ref A_t)]) hx hb dX10_common_4 rfl hl (by decide) rfl (fun ls hl => ?_)
  refine lv_iconst (v := 0) hx hb dX10_common_5 (by decide) ?_
  refine lv_istore_n (lv' := [(3, .int 0), (2, .int 0), (1, .int 100000000), (0, .ref A_t)]) hx hb dX10_common_6 rfl hl (by decide) rfl (fun ls hl => ?_)
  exact BX10_common_7 C hK hP  FU _ _ _ _ (lv_sub hl [3, 2, 1, 0] rfl) hf
/-! ===== SilenceCountModel.act(II)V ===== -/
abbrev rmX10_act : Room := { frames := 2, cells := 0, slots := 0, locals := 46 }
theorem kkX10_act : yX10_act.cls = RX10 ∧ yX10_act.cls ≠ "java/lang/invoke/MethodHandle" ∧ yX10_act.cls ≠ "java/lang/invoke/VarHandle" ∧ (parseMethodDescriptor yX10_act.desc).map (fun d => d.parameters.length) = some 2 := by decide +kernel
theorem mX10_act_f30 : Cond.fieldLink RX10 30 "SilenceCountModel" "now" "[I" ∈ wsX10_act := by decide +kernel
theorem mX10_act_f72 : Cond.fieldLink RX10 72 "SilenceCountModel" "up" "I" ∈ wsX10_act := by decide +kernel
theorem wX10_act_X10 : ∀ w ∈ u_ws RX10 TX10 19, w ∈ wsX10_act := by decide +kernel
def fX10_act (t_house : Int32) (t_up : Int32) (t_now : Nat → Int32) (a1 : Int32) (a2 : Int32) : Option (Int32 × (Nat → Int32)) :=
  if a2 = 119 then some (t_up ||| (1 <<< (a1 &&& 31)), t_now) else if a2 = 107 then (fX10_more t_house t_now a1 3).bind fun r30 => some (t_up, r30) else (fX10_common t_up t_now).bind fun r42 => gIn a1 8 (some (t_up, upd t_now (a1 : Int32).toNatClampNeg r42))
set_option maxRecDepth 100000 in
set_option maxHeartbeats 4000000 in
theorem CX10_act (l : Launch) {D : va_G} {ty : TY} {A_t A_t_count A_t_pace A_t_sight A_t_pad A_t_now A_t_image A_t_isKept : Nat} {t_there : Int32} {t_awake : Int32} {t_house : Int32} {t_sharp : Int32} {t_sights : Int32} {t_signs : Int32} {t_up : Int32} {t_reason : Int32} {t_acts : Int32} {t_breaths : Int32} {t_zeroAt : Int32} {t_noticedAt : Int32} {t_count : Nat → Int32} {t_pace : Nat → Int32} {t_sight : Nat → Int32} {t_pad : Nat → Int32} {t_now : Nat → Int32} {t_image : Nat → Int32} {t_isKept : Nat → Int32} {a1 : Int32} {a2 : Int32} {q0 : Int32 × (Nat → Int32)} (hf : fX10_act t_house t_up t_now a1 a2 = some q0) : RWv l yX10_act wsX10_act rmX10_act D ty [.ref A_t, .int a1, .int a2] [(A_t, .inr (9, [.int t_there, .int t_awake, .ref A_t_count, .ref A_t_pace, .int t_house, .int t_sharp, .int t_sights, .ref A_t_sight, .int t_signs, .ref A_t_pad, .int t_up, .ref A_t_now, .int t_reason, .int t_acts, .int t_breaths, .int t_zeroAt, .int t_noticedAt, .ref A_t_image, .ref A_t_isKept])), (A_t_count, .inl (ty.1, 8, .inl t_count)), (A_t_pace, .inl (ty.1, 8, .inl t_pace)), (A_t_sight, .inl (ty.1, 24, .inl t_sight)), (A_t_pad, .inl (ty.1, 60, .inl t_pad)), (A_t_now, .inl (ty.1, 8, .inl t_now)), (A_t_image, .inl (ty.1, 120, .inl t_image)), (A_t_isKept, .inl (ty.2.2.1, 2, .inl t_isKept))] [(A_t, .inr (9, [.int t_there, .int t_awake, .ref A_t_count, .ref A_t_pace, .int t_house, .int t_sharp, .int t_sights, .ref A_t_sight, .int t_signs, .ref A_t_pad, .int q0.1, .ref A_t_now, .int t_reason, .int t_acts, .int t_breaths, .int t_zeroAt, .int t_noticedAt, .ref A_t_image, .ref A_t_isKept])), (A_t_count, .inl (ty.1, 8, .inl t_count)), (A_t_pace, .inl (ty.1, 8, .inl t_pace)), (A_t_sight, .inl (ty.1, 24, .inl t_sight)), (A_t_pad, .inl (ty.1, 60, .inl t_pad)), (A_t_now, .inl (ty.1, 8, .inl q0.2)), (A_t_image, .inl (ty.1, 120, .inl t_image)), (A_t_isKept, .inl (ty.2.2.1, 2, .inl t_isKept))] := by
  refine RWv.start (cc := cX10_act) (maxL := 3) (ret := none) (own := RX10) (by decide) rfl rfl (Nat.le_of_ble_eq_true rfl) ?_
  intro p e s m below meth c ls C hK hP hD hS hl
  obtain ⟨WC, hWC⟩ : ∃ w : va_W, w = [(A_t, .inr (9, [.int t_there, .int t_awake, .ref A_t_count, .ref A_t_pace, .int t_house, .int t_sharp, .int t_sights, .ref A_t_sight, .int t_signs, .ref A_t_pad, .int t_up, .ref A_t_now, .int t_reason, .int t_acts, .int t_breaths, .int t_zeroAt, .int t_noticedAt, .ref A_t_image, .ref A_t_isKept])), (A_t_count, .inl (ty.1, 8, .inl t_count)), (A_t_pace, .inl (ty.1, 8, .inl t_pace)), (A_t_sight, .inl (ty.1, 24, .inl t_sight)), (A_t_pad, .inl (ty.1, 60, .inl t_pad)), (A_t_now, .inl (ty.1, 8, .inl t_now)), (A_t_image, .inl (ty.1, 120, .inl t_image)), (A_t_isKept, .inl (ty.2.2.1, 2, .inl t_isKept))] := ⟨_, rfl⟩
  rw [← hWC] at hD hS ⊢
  have hD : va_D (va_A WC s.heap.size) [(A_t, .inr (9, [.int t_there, .int t_awake, .ref A_t_count, .ref A_t_pace, .int t_house, .int t_sharp, .int t_sights, .ref A_t_sight, .int t_signs, .ref A_t_pad, .int t_up, .ref A_t_now, .int t_reason, .int t_acts, .int t_breaths, .int t_zeroAt, .int t_noticedAt, .ref A_t_image, .ref A_t_isKept])), (A_t_count, .inl (ty.1, 8, .inl t_count)), (A_t_pace, .inl (ty.1, 8, .inl t_pace)), (A_t_sight, .inl (ty.1, 24, .inl t_sight)), (A_t_pad, .inl (ty.1, 60, .inl t_pad)), (A_t_now, .inl (ty.1, 8, .inl t_now)), (A_t_image, .inl (ty.1, 120, .inl t_image)), (A_t_isKept, .inl (ty.2.2.1, 2, .inl t_isKept))] := by rw [← hWC]; exact hD
  obtain ⟨hx, hb, hr, hml, hown, hts, hlocks⟩ := id C
  have hl : lv_has ls 3 [(0, .ref A_t), (1, .int a1), (2, .int a2)] := hl
  unfold fX10_act at hf
  refine lv_iload_n hx hb dX10_act_0 rfl (lv_at hl 2 rfl) ?_
  refine lv_bipush (v := 119) hx hb dX10_act_1 (by decide) ?_
  refine lv_icmp_ne (tgt := 21) hx hb dX10_act_3 (by decide) (fun hc => ?_) (fun hc => ?_)
  · have hf := ff hf hc
    refine lv_iload_n hx hb dX10_act_21 rfl (lv_at hl 2 rfl) ?_
    refine lv_bipush (v := 107) hx hb dX10_act_22 (by decide) ?_
    refine lv_icmp_ne (tgt := 36) hx hb dX10_act_24 (by decide) (fun hc => ?_) (fun hc => ?_)
    · have hf := ff hf hc
      refine lv_aload_n hx hb dX10_act_36 rfl (lv_at hl 0 rfl) ?_
      refine va_get (D := D) (ci := 9) (v := .ref A_t_now) (C := RX10) (T := TX10) (N := 19) hx hb hts wX10_act_X10 hown hK.1 hP 0 rfl rfl 11 (by decide) (hts _ mX10_act_f30) (fun _ h9 => h9) rfl dX10_act_37 ?_
      refine lv_iload_n hx hb dX10_act_40 rfl (lv_at hl 1 rfl) ?_
      refine lv_aload_n hx hb dX10_act_41 rfl (lv_at hl 0 rfl) ?_
      obtain ⟨r42, hr42, hf⟩ := bnd hf
      refine callV_ri (As := []) (rest := [.int a1, .ref A_t_now]) ⟨hx, hb, hml, hown, hts⟩ (CX10_common l hr42) (cwV 0 hts gX10_act_X10_common rfl rfl rfl kkX10_common ⟨Nat.le_of_ble_eq_true rfl, Nat.le_of_ble_eq_true rfl⟩) hK hP 0 rfl rfl rfl hl.1 rfl (Nat.le_of_ble_eq_true rfl) dX10_act_42 ⟨Nat.zero_le _, Nat.zero_le _⟩ ?_
      obtain ⟨hin, hf⟩ := gIn_some hf
      refine va_iast hx hb hK.1 hP hD hS 5 0 rfl rfl hin dX10_act_45 (fun H locs hP hD hS => ?_)
      have hP : va_P D vwCl [(A_t, .inr (9, [.int t_there, .int t_awake, .ref A_t_count, .ref A_t_pace, .int t_house, .int t_sharp, .int t_sights, .ref A_t_sight, .int t_signs, .ref A_t_pad, .int t_up, .ref A_t_now, .int t_reason, .int t_acts, .int t_breaths, .int t_zeroAt, .int t_noticedAt, .ref A_t_image, .ref A_t_isKept])), (A_t_count, .inl (ty.1, 8, .inl t_count)), (A_t_pace, .inl (ty.1, 8, .inl t_pace)), (A_t_sight, .inl (ty.1, 24, .inl t_sight)), (A_t_pad, .inl (ty.1, 60, .inl t_pad)), (A_t_now, .inl (ty.1, 8, .inl (upd t_now (a1 : Int32).toNatClampNeg r42))), (A_t_image, .inl (ty.1, 120, .inl t_image)), (A_t_isKept, .inl (ty.2.2.1, 2, .inl t_isKept))] H := hP
      have hD : va_D (va_A WC s.heap.size) [(A_t, .inr (9, [.int t_there, .int t_awake, .ref A_t_count, .ref A_t_pace, .int t_house, .int t_sharp, .int t_sights, .ref A_t_sight, .int t_signs, .ref A_t_pad, .int t_up, .ref A_t_now, .int t_reason, .int t_acts, .int t_breaths, .int t_zeroAt, .int t_noticedAt, .ref A_t_image, .ref A_t_isKept])), (A_t_count, .inl (ty.1, 8, .inl t_count)), (A_t_pace, .inl (ty.1, 8, .inl t_pace)), (A_t_sight, .inl (ty.1, 24, .inl t_sight)), (A_t_pad, .inl (ty.1, 60, .inl t_pad)), (A_t_now, .inl (ty.1, 8, .inl (upd t_now (a1 : Int32).toNatClampNeg r42))), (A_t_image, .inl (ty.1, 120, .inl t_image)), (A_t_isKept, .inl (ty.2.2.1, 2, .inl t_isKept))] := hD
      cases hf
      exact ret_wv hx hb hr hlocks hP hD hS dX10_act_46
    · have hf := ft hf hc
      refine lv_aload_n hx hb dX10_act_27 rfl (lv_at hl 0 rfl) ?_
      refine lv_iload_n hx hb dX10_act_28 rfl (lv_at hl 1 rfl) ?_
      refine lv_iconst (v := 3) hx hb dX10_act_29 (by decide) ?_
      obtain ⟨r30, hr30, hf⟩ := bnd hf
      refine callV_wv (As := [.int a1, .int 3]) (rest := []) ⟨hx, hb, hml, hown, hts⟩ (CX10_more l hr30) (cwV 2 hts gX10_act_X10_more rfl rfl rfl kkX10_more ⟨Nat.le_of_ble_eq_true rfl, Nat.le_of_ble_eq_true rfl⟩) hK hP hD hS (fun _ h => Or.inr h) [0, 1, 2, 3, 4, 5, 6, 7] [] [0, 1, 2, 3, 4, 5, 6, 7] rfl (by decide) (by decide) rfl rfl 0 rfl rfl rfl hl.1 rfl (Nat.le_of_ble_eq_true rfl) dX10_act_30 ⟨Nat.zero_le _, Nat.zero_le _⟩ (fun H locs hP hD hS => ?_)
      have hP : va_P D vwCl [(A_t, .inr (9, [.int t_there, .int t_awake, .ref A_t_count, .ref A_t_pace, .int t_house, .int t_sharp, .int t_sights, .ref A_t_sight, .int t_signs, .ref A_t_pad, .int t_up, .ref A_t_now, .int t_reason, .int t_acts, .int t_breaths, .int t_zeroAt, .int t_noticedAt, .ref A_t_image, .ref A_t_isKept])), (A_t_count, .inl (ty.1, 8, .inl t_count)), (A_t_pace, .inl (ty.1, 8, .inl t_pace)), (A_t_sight, .inl (ty.1, 24, .inl t_sight)), (A_t_pad, .inl (ty.1, 60, .inl t_pad)), (A_t_now, .inl (ty.1, 8, .inl r30)), (A_t_image, .inl (ty.1, 120, .inl t_image)), (A_t_isKept, .inl (ty.2.2.1, 2, .inl t_isKept))] H := hP
      have hD : va_D (va_A WC s.heap.size) [(A_t, .inr (9, [.int t_there, .int t_awake, .ref A_t_count, .ref A_t_pace, .int t_house, .int t_sharp, .int t_sights, .ref A_t_sight, .int t_signs, .ref A_t_pad, .int t_up, .ref A_t_now, .int t_reason, .int t_acts, .int t_breaths, .int t_zeroAt, .int t_noticedAt, .ref A_t_image, .ref A_t_isKept])), (A_t_count, .inl (ty.1, 8, .inl t_count)), (A_t_pace, .inl (ty.1, 8, .inl t_pace)), (A_t_sight, .inl (ty.1, 24, .inl t_sight)), (A_t_pad, .inl (ty.1, 60, .inl t_pad)), (A_t_now, .inl (ty.1, 8, .inl r30)), (A_t_image, .inl (ty.1, 120, .inl t_image)), (A_t_isKept, .inl (ty.2.2.1, 2, .inl t_isKept))] := hD
      refine lv_goto (tgt := 46) hx hb dX10_act_33 (by decide) ?_
      cases hf
      exact ret_wv hx hb hr hlocks hP hD hS dX10_act_46
  · have hf := ft hf hc
    refine lv_aload_n hx hb dX10_act_6 rfl (lv_at hl 0 rfl) ?_
    refine lv_dup hx hb dX10_act_7 rfl ?_
    refine va_get (D := D) (ci := 9) (v := .int t_up) (C := RX10) (T := TX10) (N := 19) hx hb hts wX10_act_X10 hown hK.1 hP 0 rfl rfl 10 (by decide) (hts _ mX10_act_f72) (fun _ h9 => h9) rfl dX10_act_8 ?_
    refine lv_iconst (v := 1) hx hb dX10_act_11 (by decide) ?_
    refine lv_iload_n hx hb dX10_act_12 rfl (lv_at hl 1 rfl) ?_
    refine lv_ishl hx hb dX10_act_13 ?_
    refine lv_ior hx hb dX10_act_14 ?_
    refine va_put (D := D) (ci := 9) (v := .int (t_up ||| (1 <<< (a1 &&& 31)))) (ty := .int) (C := RX10) (T := TX10) (N := 19) hx hb hts wX10_act_X10 tyX10 tyX10_ok nmX10 hown hK.1 hP hD hS 0 rfl rfl 10 (by decide) (hts _ mX10_act_f72) (fun _ h9 => h9) rfl (by decide +kernel) rfl rfl (Nat.le_of_ble_eq_true rfl) dX10_act_15 (fun H locs hP hD hS => ?_)
    have hP : va_P D vwCl [(A_t, .inr (9, [.int t_there, .int t_awake, .ref A_t_count, .ref A_t_pace, .int t_house, .int t_sharp, .int t_sights, .ref A_t_sight, .int t_signs, .ref A_t_pad, .int (t_up ||| (1 <<< (a1 &&& 31))), .ref A_t_now, .int t_reason, .int t_acts, .int t_breaths, .int t_zeroAt, .int t_noticedAt, .ref A_t_image, .ref A_t_isKept])), (A_t_count, .inl (ty.1, 8, .inl t_count)), (A_t_pace, .inl (ty.1, 8, .inl t_pace)), (A_t_sight, .inl (ty.1, 24, .inl t_sight)), (A_t_pad, .inl (ty.1, 60, .inl t_pad)), (A_t_now, .inl (ty.1, 8, .inl t_now)), (A_t_image, .inl (ty.1, 120, .inl t_image)), (A_t_isKept, .inl (ty.2.2.1, 2, .inl t_isKept))] H := hP
    have hD : va_D (va_A WC s.heap.size) [(A_t, .inr (9, [.int t_there, .int t_awake, .ref A_t_count, .ref A_t_pace, .int t_house, .int t_sharp, .int t_sights, .ref A_t_sight, .int t_signs, .ref A_t_pad, .int (t_up ||| (1 <<< (a1 &&& 31))), .ref A_t_now, .int t_reason, .int t_acts, .int t_breaths, .int t_zeroAt, .int t_noticedAt, .ref A_t_image, .ref A_t_isKept])), (A_t_count, .inl (ty.1, 8, .inl t_count)), (A_t_pace, .inl (ty.1, 8, .inl t_pace)), (A_t_sight, .inl (ty.1, 24, .inl t_sight)), (A_t_pad, .inl (ty.1, 60, .inl t_pad)), (A_t_now, .inl (ty.1, 8, .inl t_now)), (A_t_image, .inl (ty.1, 120, .inl t_image)), (A_t_isKept, .inl (ty.2.2.1, 2, .inl t_isKept))] := hD
    refine lv_goto (tgt := 46) hx hb dX10_act_18 (by decide) ?_
    cases hf
    exact ret_wv hx hb hr hlocks hP hD hS dX10_act_46
/-! ===== SilenceCountModel.asNow()V ===== -/
abbrev rmX10_asNow : Room := { frames := 0, cells := 0, slots := 0, locals := 0 }
theorem kkX10_asNow : yX10_asNow.cls = RX10 ∧ yX10_asNow.cls ≠ "java/lang/invoke/MethodHandle" ∧ yX10_asNow.cls ≠ "java/lang/invoke/VarHandle" ∧ (parseMethodDescriptor yX10_asNow.desc).map (fun d => d.parameters.length) = some 0 := by decide +kernel
theorem mX10_asNow_f55 : Cond.fieldLink RX10 55 "SilenceCountModel" "awake" "I" ∈ wsX10_asNow := by decide +kernel
theorem mX10_asNow_f30 : Cond.fieldLink RX10 30 "SilenceCountModel" "now" "[I" ∈ wsX10_asNow := by decide +kernel
theorem mX10_asNow_f7 : Cond.fieldLink RX10 7 "SilenceCountModel" "count" "[I" ∈ wsX10_asNow := by decide +kernel
theorem mX10_asNow_f72 : Cond.fieldLink RX10 72 "SilenceCountModel" "up" "I" ∈ wsX10_asNow := by decide +kernel
theorem wX10_asNow_X10 : ∀ w ∈ u_ws RX10 TX10 19, w ∈ wsX10_asNow := by decide +kernel
def bX10_asNow_10 (k10 : Int32 × Int32 × (Nat → Int32) → Option (Int32 × (Nat → Int32))) (t_count : Nat → Int32) (v1 : Int32) (t_up : Int32) (t_now : Nat → Int32) : Option (Int32 × (Nat → Int32)) :=
  if 8 ≤ v1 then some (t_up, t_now) else gIn v1 8 (gIn v1 8 (k10 (v1 + 1, t_up, upd t_now (v1 : Int32).toNatClampNeg (t_count (v1 : Int32).toNatClampNeg))))
set_option maxRecDepth 100000 in
set_option maxHeartbeats 4000000 in
theorem BX10_asNow_10 {p : Program} {l : Launch} {e : Env} {s : State} {m : MethodId} {below : List Frame} {meth : Method} {c : Code} {D : va_G} {ty : TY} {A_t A_t_count A_t_pace A_t_sight A_t_pad A_t_now A_t_image A_t_isKept : Nat} {t_there : Int32} {t_awake : Int32} {t_house : Int32} {t_sharp : Int32} {t_sights : Int32} {t_signs : Int32} {t_reason : Int32} {t_acts : Int32} {t_breaths : Int32} {t_zeroAt : Int32} {t_noticedAt : Int32} {t_count : Nat → Int32} {t_pace : Nat → Int32} {t_sight : Nat → Int32} {t_pad : Nat → Int32} {t_image : Nat → Int32} {t_isKept : Nat → Int32} {q0 : Int32 × (Nat → Int32)} {WC : va_W} (C : cx p s m [.ref A_t] meth c cX10_asNow 2 none RX10 wsX10_asNow) (hK : KK D ty s)   : ∀ (n : Nat) (v1 : Int32) (t_up : Int32) (t_now : Nat → Int32) (H : Heap) (locs : List Loc) (ls : Array Slot), va_P D vwCl [(A_t, .inr (9, [.int t_there, .int t_awake, .ref A_t_count, .ref A_t_pace, .int t_house, .int t_sharp, .int t_sights, .ref A_t_sight, .int t_signs, .ref A_t_pad, .int t_up, .ref A_t_now, .int t_reason, .int t_acts, .int t_breaths, .int t_zeroAt, .int t_noticedAt, .ref A_t_image, .ref A_t_isKept])), (A_t_count, .inl (ty.1, 8, .inl t_count)), (A_t_pace, .inl (ty.1, 8, .inl t_pace)), (A_t_sight, .inl (ty.1, 24, .inl t_sight)), (A_t_pad, .inl (ty.1, 60, .inl t_pad)), (A_t_now, .inl (ty.1, 8, .inl t_now)), (A_t_image, .inl (ty.1, 120, .inl t_image)), (A_t_isKept, .inl (ty.2.2.1, 2, .inl t_isKept))] H → va_D (va_A WC s.heap.size) [(A_t, .inr (9, [.int t_there, .int t_awake, .ref A_t_count, .ref A_t_pace, .int t_house, .int t_sharp, .int t_sights, .ref A_t_sight, .int t_signs, .ref A_t_pad, .int t_up, .ref A_t_now, .int t_reason, .int t_acts, .int t_breaths, .int t_zeroAt, .int t_noticedAt, .ref A_t_image, .ref A_t_isKept])), (A_t_count, .inl (ty.1, 8, .inl t_count)), (A_t_pace, .inl (ty.1, 8, .inl t_pace)), (A_t_sight, .inl (ty.1, 24, .inl t_sight)), (A_t_pad, .inl (ty.1, 60, .inl t_pad)), (A_t_now, .inl (ty.1, 8, .inl t_now)), (A_t_image, .inl (ty.1, 120, .inl t_image)), (A_t_isKept, .inl (ty.2.2.1, 2, .inl t_isKept))] → va_S (va_A WC s.heap.size) s.heap H locs → lv_has ls 2 [(0, .ref A_t), (1, .int v1)] → loopF (fun k q => bX10_asNow_10 k t_count q.1 q.2.1 q.2.2) n (v1, t_up, t_now) = some q0 → WWv p l e rmX10_asNow s m [.ref A_t] below meth c D WC [(A_t, .inr (9, [.int t_there, .int t_awake, .ref A_t_count, .ref A_t_pace, .int t_house, .int t_sharp, .int t_sights, .ref A_t_sight, .int t_signs, .ref A_t_pad, .int q0.1, .ref A_t_now, .int t_reason, .int t_acts, .int t_breaths, .int t_zeroAt, .int t_noticedAt, .ref A_t_image, .ref A_t_isKept])), (A_t_count, .inl (ty.1, 8, .inl t_count)), (A_t_pace, .inl (ty.1, 8, .inl t_pace)), (A_t_sight, .inl (ty.1, 24, .inl t_sight)), (A_t_pad, .inl (ty.1, 60, .inl t_pad)), (A_t_now, .inl (ty.1, 8, .inl q0.2)), (A_t_image, .inl (ty.1, 120, .inl t_image)), (A_t_isKept, .inl (ty.2.2.1, 2, .inl t_isKept))] H locs (F0 m 10 ls []) := by
  obtain ⟨hx, hb, hr, hml, hown, hts, hlocks⟩ := id C
  intro n
  induction n with
  | zero =>
    intro v1 t_up t_now H locs ls hP hD hS hl hf
    cases hf
  | succ n ih =>
    intro v1 t_up t_now H locs ls hP hD hS hl hf
    have hf : bX10_asNow_10 (loopF (fun k q => bX10_asNow_10 k t_count q.1 q.2.1 q.2.2) n) t_count v1 t_up t_now = some q0 := hf
    have hk10 := ih
    unfold bX10_asNow_10 at hf
    refine lv_iload_n hx hb dX10_asNow_10 rfl (lv_at hl 1 rfl) ?_
    refine lv_bipush (v := 8) hx hb dX10_asNow_11 (by decide) ?_
    refine lv_icmp_ge (tgt := 34) hx hb dX10_asNow_13 (by decide) (fun hc => ?_) (fun hc => ?_)
    · have hf := ft hf hc
      cases hf
      exact ret_wv hx hb hr hlocks hP hD hS dX10_asNow_34
    · have hf := ff hf hc
      refine lv_aload_n hx hb dX10_asNow_16 rfl (lv_at hl 0 rfl) ?_
      refine va_get (D := D) (ci := 9) (v := .ref A_t_now) (C := RX10) (T := TX10) (N := 19) hx hb hts wX10_asNow_X10 hown hK.1 hP 0 rfl rfl 11 (by decide) (hts _ mX10_asNow_f30) (fun _ h9 => h9) rfl dX10_asNow_17 ?_
      refine lv_iload_n hx hb dX10_asNow_20 rfl (lv_at hl 1 rfl) ?_
      refine lv_aload_n hx hb dX10_asNow_21 rfl (lv_at hl 0 rfl) ?_
      refine va_get (D := D) (ci := 9) (v := .ref A_t_count) (C := RX10) (T := TX10) (N := 19) hx hb hts wX10_asNow_X10 hown hK.1 hP 0 rfl rfl 2 (by decide) (hts _ mX10_asNow_f7) (fun _ h9 => h9) rfl dX10_asNow_22 ?_
      refine lv_iload_n hx hb dX10_asNow_25 rfl (lv_at hl 1 rfl) ?_
      obtain ⟨hin, hf⟩ := gIn_some hf
      refine va_iald hx hb hK.1 hP 1 0 rfl rfl hin dX10_asNow_26 ?_
      obtain ⟨hin, hf⟩ := gIn_some hf
      refine va_iast hx hb hK.1 hP hD hS 5 0 rfl rfl hin dX10_asNow_27 (fun H locs hP hD hS => ?_)
      have hP : va_P D vwCl [(A_t, .inr (9, [.int t_there, .int t_awake, .ref A_t_count, .ref A_t_pace, .int t_house, .int t_sharp, .int t_sights, .ref A_t_sight, .int t_signs, .ref A_t_pad, .int t_up, .ref A_t_now, .int t_reason, .int t_acts, .int t_breaths, .int t_zeroAt, .int t_noticedAt, .ref A_t_image, .ref A_t_isKept])), (A_t_count, .inl (ty.1, 8, .inl t_count)), (A_t_pace, .inl (ty.1, 8, .inl t_pace)), (A_t_sight, .inl (ty.1, 24, .inl t_sight)), (A_t_pad, .inl (ty.1, 60, .inl t_pad)), (A_t_now, .inl (ty.1, 8, .inl (upd t_now (v1 : Int32).toNatClampNeg (t_count (v1 : Int32).toNatClampNeg)))), (A_t_image, .inl (ty.1, 120, .inl t_image)), (A_t_isKept, .inl (ty.2.2.1, 2, .inl t_isKept))] H := hP
      have hD : va_D (va_A WC s.heap.size) [(A_t, .inr (9, [.int t_there, .int t_awake, .ref A_t_count, .ref A_t_pace, .int t_house, .int t_sharp, .int t_sights, .ref A_t_sight, .int t_signs, .ref A_t_pad, .int t_up, .ref A_t_now, .int t_reason, .int t_acts, .int t_breaths, .int t_zeroAt, .int t_noticedAt, .ref A_t_image, .ref A_t_isKept])), (A_t_count, .inl (ty.1, 8, .inl t_count)), (A_t_pace, .inl (ty.1, 8, .inl t_pace)), (A_t_sight, .inl (ty.1, 24, .inl t_sight)), (A_t_pad, .inl (ty.1, 60, .inl t_pad)), (A_t_now, .inl (ty.1, 8, .inl (upd t_now (v1 : Int32).toNatClampNeg (t_count (v1 : Int32).toNatClampNeg)))), (A_t_image, .inl (ty.1, 120, .inl t_image)), (A_t_isKept, .inl (ty.2.2.1, 2, .inl t_isKept))] := hD
      refine lv_iinc (v := v1 + 1) (lv' := [(1, .int (v1 + 1)), (0, .ref A_t)]) hx hb dX10_asNow_28 hl (k := 1) rfl rfl (by decide) rfl (fun ls hl => ?_)
      refine lv_goto (tgt := 10) hx hb dX10_asNow_31 (by decide) ?_
      exact hk10 _ _ _ _ _ _ hP hD hS (lv_sub hl [1, 0] rfl) hf
def fX10_asNow (t_awake : Int32) (t_up : Int32) (t_count : Nat → Int32) (t_now : Nat → Int32) : Option (Int32 × (Nat → Int32)) :=
  loopF (fun k q => bX10_asNow_10 k t_count q.1 q.2.1 q.2.2) FU (0, t_awake, t_now)
set_option maxRecDepth 100000 in
set_option maxHeartbeats 4000000 in
theorem CX10_asNow (l : Launch) {D : va_G} {ty : TY} {A_t A_t_count A_t_pace A_t_sight A_t_pad A_t_now A_t_image A_t_isKept : Nat} {t_there : Int32} {t_awake : Int32} {t_house : Int32} {t_sharp : Int32} {t_sights : Int32} {t_signs : Int32} {t_up : Int32} {t_reason : Int32} {t_acts : Int32} {t_breaths : Int32} {t_zeroAt : Int32} {t_noticedAt : Int32} {t_count : Nat → Int32} {t_pace : Nat → Int32} {t_sight : Nat → Int32} {t_pad : Nat → Int32} {t_now : Nat → Int32} {t_image : Nat → Int32} {t_isKept : Nat → Int32} {q0 : Int32 × (Nat → Int32)} (hf : fX10_asNow t_awake t_up t_count t_now = some q0) : RWv l yX10_asNow wsX10_asNow rmX10_asNow D ty [.ref A_t] [(A_t, .inr (9, [.int t_there, .int t_awake, .ref A_t_count, .ref A_t_pace, .int t_house, .int t_sharp, .int t_sights, .ref A_t_sight, .int t_signs, .ref A_t_pad, .int t_up, .ref A_t_now, .int t_reason, .int t_acts, .int t_breaths, .int t_zeroAt, .int t_noticedAt, .ref A_t_image, .ref A_t_isKept])), (A_t_count, .inl (ty.1, 8, .inl t_count)), (A_t_pace, .inl (ty.1, 8, .inl t_pace)), (A_t_sight, .inl (ty.1, 24, .inl t_sight)), (A_t_pad, .inl (ty.1, 60, .inl t_pad)), (A_t_now, .inl (ty.1, 8, .inl t_now)), (A_t_image, .inl (ty.1, 120, .inl t_image)), (A_t_isKept, .inl (ty.2.2.1, 2, .inl t_isKept))] [(A_t, .inr (9, [.int t_there, .int t_awake, .ref A_t_count, .ref A_t_pace, .int t_house, .int t_sharp, .int t_sights, .ref A_t_sight, .int t_signs, .ref A_t_pad, .int q0.1, .ref A_t_now, .int t_reason, .int t_acts, .int t_breaths, .int t_zeroAt, .int t_noticedAt, .ref A_t_image, .ref A_t_isKept])), (A_t_count, .inl (ty.1, 8, .inl t_count)), (A_t_pace, .inl (ty.1, 8, .inl t_pace)), (A_t_sight, .inl (ty.1, 24, .inl t_sight)), (A_t_pad, .inl (ty.1, 60, .inl t_pad)), (A_t_now, .inl (ty.1, 8, .inl q0.2)), (A_t_image, .inl (ty.1, 120, .inl t_image)), (A_t_isKept, .inl (ty.2.2.1, 2, .inl t_isKept))] := by
  refine RWv.start (cc := cX10_asNow) (maxL := 2) (ret := none) (own := RX10) (by decide) rfl rfl (Nat.le_of_ble_eq_true rfl) ?_
  intro p e s m below meth c ls C hK hP hD hS hl
  obtain ⟨WC, hWC⟩ : ∃ w : va_W, w = [(A_t, .inr (9, [.int t_there, .int t_awake, .ref A_t_count, .ref A_t_pace, .int t_house, .int t_sharp, .int t_sights, .ref A_t_sight, .int t_signs, .ref A_t_pad, .int t_up, .ref A_t_now, .int t_reason, .int t_acts, .int t_breaths, .int t_zeroAt, .int t_noticedAt, .ref A_t_image, .ref A_t_isKept])), (A_t_count, .inl (ty.1, 8, .inl t_count)), (A_t_pace, .inl (ty.1, 8, .inl t_pace)), (A_t_sight, .inl (ty.1, 24, .inl t_sight)), (A_t_pad, .inl (ty.1, 60, .inl t_pad)), (A_t_now, .inl (ty.1, 8, .inl t_now)), (A_t_image, .inl (ty.1, 120, .inl t_image)), (A_t_isKept, .inl (ty.2.2.1, 2, .inl t_isKept))] := ⟨_, rfl⟩
  rw [← hWC] at hD hS ⊢
  have hD : va_D (va_A WC s.heap.size) [(A_t, .inr (9, [.int t_there, .int t_awake, .ref A_t_count, .ref A_t_pace, .int t_house, .int t_sharp, .int t_sights, .ref A_t_sight, .int t_signs, .ref A_t_pad, .int t_up, .ref A_t_now, .int t_reason, .int t_acts, .int t_breaths, .int t_zeroAt, .int t_noticedAt, .ref A_t_image, .ref A_t_isKept])), (A_t_count, .inl (ty.1, 8, .inl t_count)), (A_t_pace, .inl (ty.1, 8, .inl t_pace)), (A_t_sight, .inl (ty.1, 24, .inl t_sight)), (A_t_pad, .inl (ty.1, 60, .inl t_pad)), (A_t_now, .inl (ty.1, 8, .inl t_now)), (A_t_image, .inl (ty.1, 120, .inl t_image)), (A_t_isKept, .inl (ty.2.2.1, 2, .inl t_isKept))] := by rw [← hWC]; exact hD
  obtain ⟨hx, hb, hr, hml, hown, hts, hlocks⟩ := id C
  have hl : lv_has ls 2 [(0, .ref A_t)] := hl
  unfold fX10_asNow at hf
  refine lv_aload_n hx hb dX10_asNow_0 rfl (lv_at hl 0 rfl) ?_
  refine lv_aload_n hx hb dX10_asNow_1 rfl (lv_at hl 0 rfl) ?_
  refine va_get (D := D) (ci := 9) (v := .int t_awake) (C := RX10) (T := TX10) (N := 19) hx hb hts wX10_asNow_X10 hown hK.1 hP 0 rfl rfl 1 (by decide) (hts _ mX10_asNow_f55) (fun _ h9 => h9) rfl dX10_asNow_2 ?_
  refine va_put (D := D) (ci := 9) (v := .int t_awake) (ty := .int) (C := RX10) (T := TX10) (N := 19) hx hb hts wX10_asNow_X10 tyX10 tyX10_ok nmX10 hown hK.1 hP hD hS 0 rfl rfl 10 (by decide) (hts _ mX10_asNow_f72) (fun _ h9 => h9) rfl (by decide +kernel) rfl rfl (Nat.le_of_ble_eq_true rfl) dX10_asNow_5 (fun H locs hP hD hS => ?_)
  have hP : va_P D vwCl [(A_t, .inr (9, [.int t_there, .int t_awake, .ref A_t_count, .ref A_t_pace, .int t_house, .int t_sharp, .int t_sights, .ref A_t_sight, .int t_signs, .ref A_t_pad, .int t_awake, .ref A_t_now, .int t_reason, .int t_acts, .int t_breaths, .int t_zeroAt, .int t_noticedAt, .ref A_t_image, .ref A_t_isKept])), (A_t_count, .inl (ty.1, 8, .inl t_count)), (A_t_pace, .inl (ty.1, 8, .inl t_pace)), (A_t_sight, .inl (ty.1, 24, .inl t_sight)), (A_t_pad, .inl (ty.1, 60, .inl t_pad)), (A_t_now, .inl (ty.1, 8, .inl t_now)), (A_t_image, .inl (ty.1, 120, .inl t_image)), (A_t_isKept, .inl (ty.2.2.1, 2, .inl t_isKept))] H := hP
  have hD : va_D (va_A WC s.heap.size) [(A_t, .inr (9, [.int t_there, .int t_awake, .ref A_t_count, .ref A_t_pace, .int t_house, .int t_sharp, .int t_sights, .ref A_t_sight, .int t_signs, .ref A_t_pad, .int t_awake, .ref A_t_now, .int t_reason, .int t_acts, .int t_breaths, .int t_zeroAt, .int t_noticedAt, .ref A_t_image, .ref A_t_isKept])), (A_t_count, .inl (ty.1, 8, .inl t_count)), (A_t_pace, .inl (ty.1, 8, .inl t_pace)), (A_t_sight, .inl (ty.1, 24, .inl t_sight)), (A_t_pad, .inl (ty.1, 60, .inl t_pad)), (A_t_now, .inl (ty.1, 8, .inl t_now)), (A_t_image, .inl (ty.1, 120, .inl t_image)), (A_t_isKept, .inl (ty.2.2.1, 2, .inl t_isKept))] := hD
  refine lv_iconst (v := 0) hx hb dX10_asNow_8 (by decide) ?_
  refine lv_istore_n (lv' := [(1, .int 0), (0, .ref A_t)]) hx hb dX10_asNow_9 rfl hl (by decide) rfl (fun ls hl => ?_)
  exact BX10_asNow_10 C hK  FU _ _ _ _ _ _ hP hD hS (lv_sub hl [1, 0] rfl) hf
/-! ===== SilenceCountModel.first()I ===== -/
abbrev rmX10_first : Room := { frames := 1, cells := 0, slots := 0, locals := 21 }
theorem kkX10_first : yX10_first.cls = RX10 ∧ yX10_first.cls ≠ "java/lang/invoke/MethodHandle" ∧ yX10_first.cls ≠ "java/lang/invoke/VarHandle" ∧ (parseMethodDescriptor yX10_first.desc).map (fun d => d.parameters.length) = some 0 := by decide +kernel
theorem mX10_first_f72 : Cond.fieldLink RX10 72 "SilenceCountModel" "up" "I" ∈ wsX10_first := by decide +kernel
theorem mX10_first_f30 : Cond.fieldLink RX10 30 "SilenceCountModel" "now" "[I" ∈ wsX10_first := by decide +kernel
theorem wX10_first_X10 : ∀ w ∈ u_ws RX10 TX10 19, w ∈ wsX10_first := by decide +kernel
def bX10_first_45 (k5 : Int32 × Int32 → Option (Int32)) (v1 : Int32) (v2 : Int32) : Option (Int32) :=
  k5 (v1, v2 + 1)
set_option maxRecDepth 100000 in
set_option maxHeartbeats 4000000 in
theorem BX10_first_45 {p : Program} {l : Launch} {e : Env} {s : State} {m : MethodId} {below : List Frame} {meth : Method} {c : Code} {D : va_G} {ty : TY} {A_t A_t_count A_t_pace A_t_sight A_t_pad A_t_now A_t_image A_t_isKept : Nat} {t_there : Int32} {t_awake : Int32} {t_house : Int32} {t_sharp : Int32} {t_sights : Int32} {t_signs : Int32} {t_up : Int32} {t_reason : Int32} {t_acts : Int32} {t_breaths : Int32} {t_zeroAt : Int32} {t_noticedAt : Int32} {t_count : Nat → Int32} {t_pace : Nat → Int32} {t_sight : Nat → Int32} {t_pad : Nat → Int32} {t_now : Nat → Int32} {t_image : Nat → Int32} {t_isKept : Nat → Int32} {q0 : Int32} (C : cx p s m [.ref A_t] meth c cX10_first 3 (some .int) RX10 wsX10_first) (hK : KK D ty s) (hP : va_P D vwCl [(A_t, .inr (9, [.int t_there, .int t_awake, .ref A_t_count, .ref A_t_pace, .int t_house, .int t_sharp, .int t_sights, .ref A_t_sight, .int t_signs, .ref A_t_pad, .int t_up, .ref A_t_now, .int t_reason, .int t_acts, .int t_breaths, .int t_zeroAt, .int t_noticedAt, .ref A_t_image, .ref A_t_isKept])), (A_t_count, .inl (ty.1, 8, .inl t_count)), (A_t_pace, .inl (ty.1, 8, .inl t_pace)), (A_t_sight, .inl (ty.1, 24, .inl t_sight)), (A_t_pad, .inl (ty.1, 60, .inl t_pad)), (A_t_now, .inl (ty.1, 8, .inl t_now)), (A_t_image, .inl (ty.1, 120, .inl t_image)), (A_t_isKept, .inl (ty.2.2.1, 2, .inl t_isKept))] s.heap) {k5 : Int32 × Int32 → Option (Int32)} (hk5 : ∀ (v1 : Int32) (v2 : Int32) (ls : Array Slot), lv_has ls 3 [(0, .ref A_t), (1, .int v1), (2, .int v2)] → k5 (v1, v2) = some q0 → WRi p l e rmX10_first s m [.ref A_t] below meth c q0 (F0 m 5 ls [])) {v1 : Int32} {v2 : Int32} {ls : Array Slot} (hl : lv_has ls 3 [(0, .ref A_t), (1, .int v1), (2, .int v2)]) (hf : bX10_first_45 k5 v1 v2 = some q0) : WRi p l e rmX10_first s m [.ref A_t] below meth c q0 (F0 m 45 ls []) := by
  obtain ⟨hx, hb, hr, hml, hown, hts, hlocks⟩ := id C
  unfold bX10_first_45 at hf
  refine lv_iload_n hx hb dX10_first_45 rfl (lv_at hl 1 rfl) ?_
  refine lv_istore_n (lv' := [(1, .int v1), (0, .ref A_t), (2, .int v2)]) hx hb dX10_first_46 rfl hl (by decide) rfl (fun ls hl => ?_)
  refine lv_iinc (v := v2 + 1) (lv' := [(2, .int (v2 + 1)), (1, .int v1), (0, .ref A_t)]) hx hb dX10_first_47 hl (k := 2) rfl rfl (by decide) rfl (fun ls hl => ?_)
  refine lv_goto (tgt := 5) hx hb dX10_first_50 (by decide) ?_
  exact hk5 _ _ _ (lv_sub hl [2, 1, 0] rfl) hf
def bX10_first_41 (k5 : Int32 × Int32 → Option (Int32)) (v2 : Int32) : Option (Int32) :=
  k5 (v2, v2 + 1)
set_option maxRecDepth 100000 in
set_option maxHeartbeats 4000000 in
theorem BX10_first_41 {p : Program} {l : Launch} {e : Env} {s : State} {m : MethodId} {below : List Frame} {meth : Method} {c : Code} {D : va_G} {ty : TY} {A_t A_t_count A_t_pace A_t_sight A_t_pad A_t_now A_t_image A_t_isKept : Nat} {t_there : Int32} {t_awake : Int32} {t_house : Int32} {t_sharp : Int32} {t_sights : Int32} {t_signs : Int32} {t_up : Int32} {t_reason : Int32} {t_acts : Int32} {t_breaths : Int32} {t_zeroAt : Int32} {t_noticedAt : Int32} {t_count : Nat → Int32} {t_pace : Nat → Int32} {t_sight : Nat → Int32} {t_pad : Nat → Int32} {t_now : Nat → Int32} {t_image : Nat → Int32} {t_isKept : Nat → Int32} {q0 : Int32} (C : cx p s m [.ref A_t] meth c cX10_first 3 (some .int) RX10 wsX10_first) (hK : KK D ty s) (hP : va_P D vwCl [(A_t, .inr (9, [.int t_there, .int t_awake, .ref A_t_count, .ref A_t_pace, .int t_house, .int t_sharp, .int t_sights, .ref A_t_sight, .int t_signs, .ref A_t_pad, .int t_up, .ref A_t_now, .int t_reason, .int t_acts, .int t_breaths, .int t_zeroAt, .int t_noticedAt, .ref A_t_image, .ref A_t_isKept])), (A_t_count, .inl (ty.1, 8, .inl t_count)), (A_t_pace, .inl (ty.1, 8, .inl t_pace)), (A_t_sight, .inl (ty.1, 24, .inl t_sight)), (A_t_pad, .inl (ty.1, 60, .inl t_pad)), (A_t_now, .inl (ty.1, 8, .inl t_now)), (A_t_image, .inl (ty.1, 120, .inl t_image)), (A_t_isKept, .inl (ty.2.2.1, 2, .inl t_isKept))] s.heap) {k5 : Int32 × Int32 → Option (Int32)} (hk5 : ∀ (v1 : Int32) (v2 : Int32) (ls : Array Slot), lv_has ls 3 [(0, .ref A_t), (1, .int v1), (2, .int v2)] → k5 (v1, v2) = some q0 → WRi p l e rmX10_first s m [.ref A_t] below meth c q0 (F0 m 5 ls [])) {v2 : Int32} {ls : Array Slot} (hl : lv_has ls 3 [(0, .ref A_t), (2, .int v2)]) (hf : bX10_first_41 k5 v2 = some q0) : WRi p l e rmX10_first s m [.ref A_t] below meth c q0 (F0 m 41 ls []) := by
  obtain ⟨hx, hb, hr, hml, hown, hts, hlocks⟩ := id C
  unfold bX10_first_41 at hf
  refine lv_iload_n hx hb dX10_first_41 rfl (lv_at hl 1 rfl) ?_
  refine lv_goto (tgt := 46) hx hb dX10_first_42 (by decide) ?_
  refine lv_istore_n (lv' := [(1, .int v2), (0, .ref A_t), (2, .int v2)]) hx hb dX10_first_46 rfl hl (by decide) rfl (fun ls hl => ?_)
  refine lv_iinc (v := v2 + 1) (lv' := [(2, .int (v2 + 1)), (1, .int v2), (0, .ref A_t)]) hx hb dX10_first_47 hl (k := 2) rfl rfl (by decide) rfl (fun ls hl => ?_)
  refine lv_goto (tgt := 5) hx hb dX10_first_50 (by decide) ?_
  exact hk5 _ _ _ (lv_sub hl [2, 1, 0] rfl) hf
def bX10_first_5 (k5 : Int32 × Int32 → Option (Int32)) (t_up : Int32) (t_now : Nat → Int32) (v1 : Int32) (v2 : Int32) : Option (Int32) :=
  if 8 ≤ v2 then some v1 else (fX10_has t_up v2).bind fun r16 => if r16 = 0 then bX10_first_45 k5 v1 v2 else if v1 < 0 then bX10_first_41 k5 v2 else gIn v2 8 (gIn v1 8 (if (t_now (v1 : Int32).toNatClampNeg) ≤ (t_now (v2 : Int32).toNatClampNeg) then bX10_first_45 k5 v1 v2 else bX10_first_41 k5 v2))
set_option maxRecDepth 100000 in
set_option maxHeartbeats 4000000 in
theorem BX10_first_5 {p : Program} {l : Launch} {e : Env} {s : State} {m : MethodId} {below : List Frame} {meth : Method} {c : Code} {D : va_G} {ty : TY} {A_t A_t_count A_t_pace A_t_sight A_t_pad A_t_now A_t_image A_t_isKept : Nat} {t_there : Int32} {t_awake : Int32} {t_house : Int32} {t_sharp : Int32} {t_sights : Int32} {t_signs : Int32} {t_up : Int32} {t_reason : Int32} {t_acts : Int32} {t_breaths : Int32} {t_zeroAt : Int32} {t_noticedAt : Int32} {t_count : Nat → Int32} {t_pace : Nat → Int32} {t_sight : Nat → Int32} {t_pad : Nat → Int32} {t_now : Nat → Int32} {t_image : Nat → Int32} {t_isKept : Nat → Int32} {q0 : Int32} (C : cx p s m [.ref A_t] meth c cX10_first 3 (some .int) RX10 wsX10_first) (hK : KK D ty s) (hP : va_P D vwCl [(A_t, .inr (9, [.int t_there, .int t_awake, .ref A_t_count, .ref A_t_pace, .int t_house, .int t_sharp, .int t_sights, .ref A_t_sight, .int t_signs, .ref A_t_pad, .int t_up, .ref A_t_now, .int t_reason, .int t_acts, .int t_breaths, .int t_zeroAt, .int t_noticedAt, .ref A_t_image, .ref A_t_isKept])), (A_t_count, .inl (ty.1, 8, .inl t_count)), (A_t_pace, .inl (ty.1, 8, .inl t_pace)), (A_t_sight, .inl (ty.1, 24, .inl t_sight)), (A_t_pad, .inl (ty.1, 60, .inl t_pad)), (A_t_now, .inl (ty.1, 8, .inl t_now)), (A_t_image, .inl (ty.1, 120, .inl t_image)), (A_t_isKept, .inl (ty.2.2.1, 2, .inl t_isKept))] s.heap)   : ∀ (n : Nat) (v1 : Int32) (v2 : Int32) (ls : Array Slot), lv_has ls 3 [(0, .ref A_t), (1, .int v1), (2, .int v2)] → loopF (fun k q => bX10_first_5 k t_up t_now q.1 q.2) n (v1, v2) = some q0 → WRi p l e rmX10_first s m [.ref A_t] below meth c q0 (F0 m 5 ls []) := by
  obtain ⟨hx, hb, hr, hml, hown, hts, hlocks⟩ := id C
  intro n
  induction n with
  | zero =>
    intro v1 v2 ls hl hf
    cases hf
  | succ n ih =>
    intro v1 v2 ls hl hf
    have hf : bX10_first_5 (loopF (fun k q => bX10_first_5 k t_up t_now q.1 q.2) n) t_up t_now v1 v2 = some q0 := hf
    have hk5 := ih
    unfold bX10_first_5 at hf
    refine lv_iload_n hx hb dX10_first_5 rfl (lv_at hl 2 rfl) ?_
    refine lv_bipush (v := 8) hx hb dX10_first_6 (by decide) ?_
    refine lv_icmp_ge (tgt := 53) hx hb dX10_first_8 (by decide) (fun hc => ?_) (fun hc => ?_)
    · have hf := ft hf hc
      refine lv_iload_n hx hb dX10_first_53 rfl (lv_at hl 1 rfl) ?_
      exact ret_ri hx hb hr hlocks hf dX10_first_54
    · have hf := ff hf hc
      refine lv_aload_n hx hb dX10_first_11 rfl (lv_at hl 0 rfl) ?_
      refine va_get (D := D) (ci := 9) (v := .int t_up) (C := RX10) (T := TX10) (N := 19) hx hb hts wX10_first_X10 hown hK.1 hP 0 rfl rfl 10 (by decide) (hts _ mX10_first_f72) (fun _ h9 => h9) rfl dX10_first_12 ?_
      refine lv_iload_n hx hb dX10_first_15 rfl (lv_at hl 2 rfl) ?_
      obtain ⟨r16, hr16, hf⟩ := bnd hf
      have hPc : va_P D vwCl [] _ := hP.sub [] rfl
      refine callS_ri (As := [.int t_up, .int v2]) (rest := []) ⟨hx, hb, hml, hown, hts⟩ (CX10_has l hr16) (va_cwS 2 hts gX10_first_X10_has rfl rfl rfl kkX10_has.2 ⟨Nat.le_of_ble_eq_true rfl, Nat.le_of_ble_eq_true rfl⟩) hK hPc hl.1 rfl (Nat.le_of_ble_eq_true rfl) dX10_first_16 ⟨Nat.zero_le _, Nat.zero_le _⟩ ?_
      refine lv_if_eq (tgt := 45) hx hb dX10_first_19 (by decide) (fun hc => ?_) (fun hc => ?_)
      · have hf := ft hf hc
        exact BX10_first_45 C hK hP hk5 (lv_sub hl [0, 1, 2] rfl) hf
      · have hf := ff hf hc
        refine lv_iload_n hx hb dX10_first_22 rfl (lv_at hl 1 rfl) ?_
        refine lv_if_lt (tgt := 41) hx hb dX10_first_23 (by decide) (fun hc => ?_) (fun hc => ?_)
        · have hf := ft hf hc
          exact BX10_first_41 C hK hP hk5 (lv_sub hl [0, 2] rfl) hf
        · have hf := ff hf hc
          refine lv_aload_n hx hb dX10_first_26 rfl (lv_at hl 0 rfl) ?_
          refine va_get (D := D) (ci := 9) (v := .ref A_t_now) (C := RX10) (T := TX10) (N := 19) hx hb hts wX10_first_X10 hown hK.1 hP 0 rfl rfl 11 (by decide) (hts _ mX10_first_f30) (fun _ h9 => h9) rfl dX10_first_27 ?_
          refine lv_iload_n hx hb dX10_first_30 rfl (lv_at hl 2 rfl) ?_
          obtain ⟨hin, hf⟩ := gIn_some hf
          refine va_iald hx hb hK.1 hP 5 0 rfl rfl hin dX10_first_31 ?_
          refine lv_aload_n hx hb dX10_first_32 rfl (lv_at hl 0 rfl) ?_
          refine va_get (D := D) (ci := 9) (v := .ref A_t_now) (C := RX10) (T := TX10) (N := 19) hx hb hts wX10_first_X10 hown hK.1 hP 0 rfl rfl 11 (by decide) (hts _ mX10_first_f30) (fun _ h9 => h9) rfl dX10_first_33 ?_
          refine lv_iload_n hx hb dX10_first_36 rfl (lv_at hl 1 rfl) ?_
          obtain ⟨hin, hf⟩ := gIn_some hf
          refine va_iald hx hb hK.1 hP 5 0 rfl rfl hin dX10_first_37 ?_
          refine lv_icmp_ge (tgt := 45) hx hb dX10_first_38 (by decide) (fun hc => ?_) (fun hc => ?_)
          · have hf := ft hf hc
            exact BX10_first_45 C hK hP hk5 (lv_sub hl [0, 1, 2] rfl) hf
          · have hf := ff hf hc
            exact BX10_first_41 C hK hP hk5 (lv_sub hl [0, 2] rfl) hf
def fX10_first (t_up : Int32) (t_now : Nat → Int32) : Option (Int32) :=
  loopF (fun k q => bX10_first_5 k t_up t_now q.1 q.2) FU ((-6), 0)
set_option maxRecDepth 100000 in
set_option maxHeartbeats 4000000 in
theorem CX10_first (l : Launch) {D : va_G} {ty : TY} {A_t A_t_count A_t_pace A_t_sight A_t_pad A_t_now A_t_image A_t_isKept : Nat} {t_there : Int32} {t_awake : Int32} {t_house : Int32} {t_sharp : Int32} {t_sights : Int32} {t_signs : Int32} {t_up : Int32} {t_reason : Int32} {t_acts : Int32} {t_breaths : Int32} {t_zeroAt : Int32} {t_noticedAt : Int32} {t_count : Nat → Int32} {t_pace : Nat → Int32} {t_sight : Nat → Int32} {t_pad : Nat → Int32} {t_now : Nat → Int32} {t_image : Nat → Int32} {t_isKept : Nat → Int32} {q0 : Int32} (hf : fX10_first t_up t_now = some q0) : ROi l yX10_first wsX10_first rmX10_first D ty [.ref A_t] [(A_t, .inr (9, [.int t_there, .int t_awake, .ref A_t_count, .ref A_t_pace, .int t_house, .int t_sharp, .int t_sights, .ref A_t_sight, .int t_signs, .ref A_t_pad, .int t_up, .ref A_t_now, .int t_reason, .int t_acts, .int t_breaths, .int t_zeroAt, .int t_noticedAt, .ref A_t_image, .ref A_t_isKept])), (A_t_count, .inl (ty.1, 8, .inl t_count)), (A_t_pace, .inl (ty.1, 8, .inl t_pace)), (A_t_sight, .inl (ty.1, 24, .inl t_sight)), (A_t_pad, .inl (ty.1, 60, .inl t_pad)), (A_t_now, .inl (ty.1, 8, .inl t_now)), (A_t_image, .inl (ty.1, 120, .inl t_image)), (A_t_isKept, .inl (ty.2.2.1, 2, .inl t_isKept))] q0 := by
  refine ROi.start (cc := cX10_first) (maxL := 3) (ret := (some .int)) (own := RX10) (by decide) rfl rfl (Nat.le_of_ble_eq_true rfl) ?_
  intro p e s m below meth c ls C hK hP hl
  obtain ⟨hx, hb, hr, hml, hown, hts, hlocks⟩ := id C
  have hl : lv_has ls 3 [(0, .ref A_t)] := hl
  unfold fX10_first at hf
  refine lv_bipush (v := (-6)) hx hb dX10_first_0 (by decide) ?_
  refine lv_istore_n (lv' := [(1, .int (-6)), (0, .ref A_t)]) hx hb dX10_first_2 rfl hl (by decide) rfl (fun ls hl => ?_)
  refine lv_iconst (v := 0) hx hb dX10_first_3 (by decide) ?_
  refine lv_istore_n (lv' := [(2, .int 0), (1, .int (-6)), (0, .ref A_t)]) hx hb dX10_first_4 rfl hl (by decide) rfl (fun ls hl => ?_)
  exact BX10_first_5 C hK hP  FU _ _ _ (lv_sub hl [2, 1, 0] rfl) hf
/-! ===== SilenceCountModel.ahead()I ===== -/
abbrev rmX10_ahead : Room := { frames := 2, cells := 0, slots := 0, locals := 43 }
theorem kkX10_ahead : yX10_ahead.cls = RX10 ∧ yX10_ahead.cls ≠ "java/lang/invoke/MethodHandle" ∧ yX10_ahead.cls ≠ "java/lang/invoke/VarHandle" ∧ (parseMethodDescriptor yX10_ahead.desc).map (fun d => d.parameters.length) = some 0 := by decide +kernel
def fX10_ahead (t_awake : Int32) (t_up : Int32) (t_count : Nat → Int32) (t_now : Nat → Int32) : Option (Int32 × Int32 × (Nat → Int32)) :=
  (fX10_asNow t_awake t_up t_count t_now).bind fun r1 => (fX10_first r1.1 r1.2).bind fun r5 => some (r5, r1.1, r1.2)
set_option maxRecDepth 100000 in
set_option maxHeartbeats 4000000 in
theorem CX10_ahead (l : Launch) {D : va_G} {ty : TY} {A_t A_t_count A_t_pace A_t_sight A_t_pad A_t_now A_t_image A_t_isKept : Nat} {t_there : Int32} {t_awake : Int32} {t_house : Int32} {t_sharp : Int32} {t_sights : Int32} {t_signs : Int32} {t_up : Int32} {t_reason : Int32} {t_acts : Int32} {t_breaths : Int32} {t_zeroAt : Int32} {t_noticedAt : Int32} {t_count : Nat → Int32} {t_pace : Nat → Int32} {t_sight : Nat → Int32} {t_pad : Nat → Int32} {t_now : Nat → Int32} {t_image : Nat → Int32} {t_isKept : Nat → Int32} {q0 : Int32 × Int32 × (Nat → Int32)} (hf : fX10_ahead t_awake t_up t_count t_now = some q0) : RWi l yX10_ahead wsX10_ahead rmX10_ahead D ty [.ref A_t] [(A_t, .inr (9, [.int t_there, .int t_awake, .ref A_t_count, .ref A_t_pace, .int t_house, .int t_sharp, .int t_sights, .ref A_t_sight, .int t_signs, .ref A_t_pad, .int t_up, .ref A_t_now, .int t_reason, .int t_acts, .int t_breaths, .int t_zeroAt, .int t_noticedAt, .ref A_t_image, .ref A_t_isKept])), (A_t_count, .inl (ty.1, 8, .inl t_count)), (A_t_pace, .inl (ty.1, 8, .inl t_pace)), (A_t_sight, .inl (ty.1, 24, .inl t_sight)), (A_t_pad, .inl (ty.1, 60, .inl t_pad)), (A_t_now, .inl (ty.1, 8, .inl t_now)), (A_t_image, .inl (ty.1, 120, .inl t_image)), (A_t_isKept, .inl (ty.2.2.1, 2, .inl t_isKept))] q0.1 [(A_t, .inr (9, [.int t_there, .int t_awake, .ref A_t_count, .ref A_t_pace, .int t_house, .int t_sharp, .int t_sights, .ref A_t_sight, .int t_signs, .ref A_t_pad, .int q0.2.1, .ref A_t_now, .int t_reason, .int t_acts, .int t_breaths, .int t_zeroAt, .int t_noticedAt, .ref A_t_image, .ref A_t_isKept])), (A_t_count, .inl (ty.1, 8, .inl t_count)), (A_t_pace, .inl (ty.1, 8, .inl t_pace)), (A_t_sight, .inl (ty.1, 24, .inl t_sight)), (A_t_pad, .inl (ty.1, 60, .inl t_pad)), (A_t_now, .inl (ty.1, 8, .inl q0.2.2)), (A_t_image, .inl (ty.1, 120, .inl t_image)), (A_t_isKept, .inl (ty.2.2.1, 2, .inl t_isKept))] := by
  refine RWi.start (cc := cX10_ahead) (maxL := 1) (ret := (some .int)) (own := RX10) (by decide) rfl rfl (Nat.le_of_ble_eq_true rfl) ?_
  intro p e s m below meth c ls C hK hP hD hS hl
  obtain ⟨WC, hWC⟩ : ∃ w : va_W, w = [(A_t, .inr (9, [.int t_there, .int t_awake, .ref A_t_count, .ref A_t_pace, .int t_house, .int t_sharp, .int t_sights, .ref A_t_sight, .int t_signs, .ref A_t_pad, .int t_up, .ref A_t_now, .int t_reason, .int t_acts, .int t_breaths, .int t_zeroAt, .int t_noticedAt, .ref A_t_image, .ref A_t_isKept])), (A_t_count, .inl (ty.1, 8, .inl t_count)), (A_t_pace, .inl (ty.1, 8, .inl t_pace)), (A_t_sight, .inl (ty.1, 24, .inl t_sight)), (A_t_pad, .inl (ty.1, 60, .inl t_pad)), (A_t_now, .inl (ty.1, 8, .inl t_now)), (A_t_image, .inl (ty.1, 120, .inl t_image)), (A_t_isKept, .inl (ty.2.2.1, 2, .inl t_isKept))] := ⟨_, rfl⟩
  rw [← hWC] at hD hS ⊢
  have hD : va_D (va_A WC s.heap.size) [(A_t, .inr (9, [.int t_there, .int t_awake, .ref A_t_count, .ref A_t_pace, .int t_house, .int t_sharp, .int t_sights, .ref A_t_sight, .int t_signs, .ref A_t_pad, .int t_up, .ref A_t_now, .int t_reason, .int t_acts, .int t_breaths, .int t_zeroAt, .int t_noticedAt, .ref A_t_image, .ref A_t_isKept])), (A_t_count, .inl (ty.1, 8, .inl t_count)), (A_t_pace, .inl (ty.1, 8, .inl t_pace)), (A_t_sight, .inl (ty.1, 24, .inl t_sight)), (A_t_pad, .inl (ty.1, 60, .inl t_pad)), (A_t_now, .inl (ty.1, 8, .inl t_now)), (A_t_image, .inl (ty.1, 120, .inl t_image)), (A_t_isKept, .inl (ty.2.2.1, 2, .inl t_isKept))] := by rw [← hWC]; exact hD
  obtain ⟨hx, hb, hr, hml, hown, hts, hlocks⟩ := id C
  have hl : lv_has ls 1 [(0, .ref A_t)] := hl
  unfold fX10_ahead at hf
  refine lv_aload_n hx hb dX10_ahead_0 rfl (lv_at hl 0 rfl) ?_
  obtain ⟨r1, hr1, hf⟩ := bnd hf
  refine callV_wv (As := []) (rest := []) ⟨hx, hb, hml, hown, hts⟩ (CX10_asNow l hr1) (cwV 0 hts gX10_ahead_X10_asNow rfl rfl rfl kkX10_asNow ⟨Nat.le_of_ble_eq_true rfl, Nat.le_of_ble_eq_true rfl⟩) hK hP hD hS (fun _ h => Or.inr h) [0, 1, 2, 3, 4, 5, 6, 7] [] [0, 1, 2, 3, 4, 5, 6, 7] rfl (by decide) (by decide) rfl rfl 0 rfl rfl rfl hl.1 rfl (Nat.le_of_ble_eq_true rfl) dX10_ahead_1 ⟨Nat.zero_le _, Nat.zero_le _⟩ (fun H locs hP hD hS => ?_)
  have hP : va_P D vwCl [(A_t, .inr (9, [.int t_there, .int t_awake, .ref A_t_count, .ref A_t_pace, .int t_house, .int t_sharp, .int t_sights, .ref A_t_sight, .int t_signs, .ref A_t_pad, .int r1.1, .ref A_t_now, .int t_reason, .int t_acts, .int t_breaths, .int t_zeroAt, .int t_noticedAt, .ref A_t_image, .ref A_t_isKept])), (A_t_count, .inl (ty.1, 8, .inl t_count)), (A_t_pace, .inl (ty.1, 8, .inl t_pace)), (A_t_sight, .inl (ty.1, 24, .inl t_sight)), (A_t_pad, .inl (ty.1, 60, .inl t_pad)), (A_t_now, .inl (ty.1, 8, .inl r1.2)), (A_t_image, .inl (ty.1, 120, .inl t_image)), (A_t_isKept, .inl (ty.2.2.1, 2, .inl t_isKept))] H := hP
  have hD : va_D (va_A WC s.heap.size) [(A_t, .inr (9, [.int t_there, .int t_awake, .ref A_t_count, .ref A_t_pace, .int t_house, .int t_sharp, .int t_sights, .ref A_t_sight, .int t_signs, .ref A_t_pad, .int r1.1, .ref A_t_now, .int t_reason, .int t_acts, .int t_breaths, .int t_zeroAt, .int t_noticedAt, .ref A_t_image, .ref A_t_isKept])), (A_t_count, .inl (ty.1, 8, .inl t_count)), (A_t_pace, .inl (ty.1, 8, .inl t_pace)), (A_t_sight, .inl (ty.1, 24, .inl t_sight)), (A_t_pad, .inl (ty.1, 60, .inl t_pad)), (A_t_now, .inl (ty.1, 8, .inl r1.2)), (A_t_image, .inl (ty.1, 120, .inl t_image)), (A_t_isKept, .inl (ty.2.2.1, 2, .inl t_isKept))] := hD
  refine lv_aload_n hx hb dX10_ahead_4 rfl (lv_at hl 0 rfl) ?_
  obtain ⟨r5, hr5, hf⟩ := bnd hf
  refine callV_ri (As := []) (rest := []) ⟨hx, hb, hml, hown, hts⟩ (CX10_first l hr5) (cwV 0 hts gX10_ahead_X10_first rfl rfl rfl kkX10_first ⟨Nat.le_of_ble_eq_true rfl, Nat.le_of_ble_eq_true rfl⟩) hK hP 0 rfl rfl rfl hl.1 rfl (Nat.le_of_ble_eq_true rfl) dX10_ahead_5 ⟨Nat.zero_le _, Nat.zero_le _⟩ ?_
  cases hf
  exact ret_wi hx hb hr hlocks hP hD hS dX10_ahead_8
/-! ===== SilenceCountModel.alike(I)I ===== -/
abbrev rmX10_alike : Room := { frames := 1, cells := 0, slots := 0, locals := 21 }
theorem kkX10_alike : yX10_alike.cls = RX10 ∧ yX10_alike.cls ≠ "java/lang/invoke/MethodHandle" ∧ yX10_alike.cls ≠ "java/lang/invoke/VarHandle" ∧ (parseMethodDescriptor yX10_alike.desc).map (fun d => d.parameters.length) = some 1 := by decide +kernel
theorem mX10_alike_f55 : Cond.fieldLink RX10 55 "SilenceCountModel" "awake" "I" ∈ wsX10_alike := by decide +kernel
theorem mX10_alike_f7 : Cond.fieldLink RX10 7 "SilenceCountModel" "count" "[I" ∈ wsX10_alike := by decide +kernel
theorem wX10_alike_X10 : ∀ w ∈ u_ws RX10 TX10 19, w ∈ wsX10_alike := by decide +kernel
def bX10_alike_15 (k4 : Int32 × Int32 → Option (Int32)) (k15 : Int32 × Int32 × Int32 → Option (Int32)) (t_awake : Int32) (t_count : Nat → Int32) (a1 : Int32) (v2 : Int32) (v3 : Int32) (v4 : Int32) : Option (Int32) :=
  if 8 ≤ v4 then k4 (v2, v3 + 1) else (fX10_has t_awake v3).bind fun r27 => if r27 = 0 then k15 (v2, v3, v4 + 1) else (fX10_has t_awake v4).bind fun r39 => if r39 = 0 then k15 (v2, v3, v4 + 1) else gIn v3 8 (gIn v4 8 (if (t_count (v3 : Int32).toNatClampNeg) = (t_count (v4 : Int32).toNatClampNeg) then if v2 = a1 then some ((10 * v3) + v4) else k15 (v2 + 1, v3, v4 + 1) else k15 (v2, v3, v4 + 1)))
set_option maxRecDepth 100000 in
set_option maxHeartbeats 4000000 in
theorem BX10_alike_15 {p : Program} {l : Launch} {e : Env} {s : State} {m : MethodId} {below : List Frame} {meth : Method} {c : Code} {D : va_G} {ty : TY} {A_t A_t_count A_t_pace A_t_sight A_t_pad A_t_now A_t_image A_t_isKept : Nat} {t_there : Int32} {t_awake : Int32} {t_house : Int32} {t_sharp : Int32} {t_sights : Int32} {t_signs : Int32} {t_up : Int32} {t_reason : Int32} {t_acts : Int32} {t_breaths : Int32} {t_zeroAt : Int32} {t_noticedAt : Int32} {t_count : Nat → Int32} {t_pace : Nat → Int32} {t_sight : Nat → Int32} {t_pad : Nat → Int32} {t_now : Nat → Int32} {t_image : Nat → Int32} {t_isKept : Nat → Int32} {a1 : Int32} {q0 : Int32} (C : cx p s m [.ref A_t, .int a1] meth c cX10_alike 5 (some .int) RX10 wsX10_alike) (hK : KK D ty s) (hP : va_P D vwCl [(A_t, .inr (9, [.int t_there, .int t_awake, .ref A_t_count, .ref A_t_pace, .int t_house, .int t_sharp, .int t_sights, .ref A_t_sight, .int t_signs, .ref A_t_pad, .int t_up, .ref A_t_now, .int t_reason, .int t_acts, .int t_breaths, .int t_zeroAt, .int t_noticedAt, .ref A_t_image, .ref A_t_isKept])), (A_t_count, .inl (ty.1, 8, .inl t_count)), (A_t_pace, .inl (ty.1, 8, .inl t_pace)), (A_t_sight, .inl (ty.1, 24, .inl t_sight)), (A_t_pad, .inl (ty.1, 60, .inl t_pad)), (A_t_now, .inl (ty.1, 8, .inl t_now)), (A_t_image, .inl (ty.1, 120, .inl t_image)), (A_t_isKept, .inl (ty.2.2.1, 2, .inl t_isKept))] s.heap) {k4 : Int32 × Int32 → Option (Int32)} (hk4 : ∀ (v2 : Int32) (v3 : Int32) (ls : Array Slot), lv_has ls 5 [(0, .ref A_t), (1, .int a1), (2, .int v2), (3, .int v3)] → k4 (v2, v3) = some q0 → WRi p l e rmX10_alike s m [.ref A_t, .int a1] below meth c q0 (F0 m 4 ls [])) : ∀ (n : Nat) (v2 : Int32) (v3 : Int32) (v4 : Int32) (ls : Array Slot), lv_has ls 5 [(0, .ref A_t), (1, .int a1), (2, .int v2), (3, .int v3), (4, .int v4)] → loopF (fun k q => bX10_alike_15 k4 k t_awake t_count a1 q.1 q.2.1 q.2.2) n (v2, v3, v4) = some q0 → WRi p l e rmX10_alike s m [.ref A_t, .int a1] below meth c q0 (F0 m 15 ls []) := by
  obtain ⟨hx, hb, hr, hml, hown, hts, hlocks⟩ := id C
  intro n
  induction n with
  | zero =>
    intro v2 v3 v4 ls hl hf
    cases hf
  | succ n ih =>
    intro v2 v3 v4 ls hl hf
    have hf : bX10_alike_15 k4 (loopF (fun k q => bX10_alike_15 k4 k t_awake t_count a1 q.1 q.2.1 q.2.2) n) t_awake t_count a1 v2 v3 v4 = some q0 := hf
    have hk15 := ih
    unfold bX10_alike_15 at hf
    refine lv_iload hx hb dX10_alike_15 (lv_at hl 4 rfl) ?_
    refine lv_bipush (v := 8) hx hb dX10_alike_17 (by decide) ?_
    refine lv_icmp_ge (tgt := 83) hx hb dX10_alike_19 (by decide) (fun hc => ?_) (fun hc => ?_)
    · have hf := ft hf hc
      refine lv_iinc (v := v3 + 1) (lv' := [(3, .int (v3 + 1)), (0, .ref A_t), (1, .int a1), (2, .int v2), (4, .int v4)]) hx hb dX10_alike_83 hl (k := 3) rfl rfl (by decide) rfl (fun ls hl => ?_)
      refine lv_goto (tgt := 4) hx hb dX10_alike_86 (by decide) ?_
      exact hk4 _ _ _ (lv_sub hl [1, 2, 3, 0] rfl) hf
    · have hf := ff hf hc
      refine lv_aload_n hx hb dX10_alike_22 rfl (lv_at hl 0 rfl) ?_
      refine va_get (D := D) (ci := 9) (v := .int t_awake) (C := RX10) (T := TX10) (N := 19) hx hb hts wX10_alike_X10 hown hK.1 hP 0 rfl rfl 1 (by decide) (hts _ mX10_alike_f55) (fun _ h9 => h9) rfl dX10_alike_23 ?_
      refine lv_iload_n hx hb dX10_alike_26 rfl (lv_at hl 3 rfl) ?_
      obtain ⟨r27, hr27, hf⟩ := bnd hf
      have hPc : va_P D vwCl [] _ := hP.sub [] rfl
      refine callS_ri (As := [.int t_awake, .int v3]) (rest := []) ⟨hx, hb, hml, hown, hts⟩ (CX10_has l hr27) (va_cwS 2 hts gX10_alike_X10_has rfl rfl rfl kkX10_has.2 ⟨Nat.le_of_ble_eq_true rfl, Nat.le_of_ble_eq_true rfl⟩) hK hPc hl.1 rfl (Nat.le_of_ble_eq_true rfl) dX10_alike_27 ⟨Nat.zero_le _, Nat.zero_le _⟩ ?_
      refine lv_if_eq (tgt := 77) hx hb dX10_alike_30 (by decide) (fun hc => ?_) (fun hc => ?_)
      · have hf := ft hf hc
        refine lv_iinc (v := v4 + 1) (lv' := [(4, .int (v4 + 1)), (0, .ref A_t), (1, .int a1), (2, .int v2), (3, .int v3)]) hx hb dX10_alike_77 hl (k := 4) rfl rfl (by decide) rfl (fun ls hl => ?_)
        refine lv_goto (tgt := 15) hx hb dX10_alike_80 (by decide) ?_
        exact hk15 _ _ _ _ (lv_sub hl [1, 2, 3, 4, 0] rfl) hf
      · have hf := ff hf hc
        refine lv_aload_n hx hb dX10_alike_33 rfl (lv_at hl 0 rfl) ?_
        refine va_get (D := D) (ci := 9) (v := .int t_awake) (C := RX10) (T := TX10) (N := 19) hx hb hts wX10_alike_X10 hown hK.1 hP 0 rfl rfl 1 (by decide) (hts _ mX10_alike_f55) (fun _ h9 => h9) rfl dX10_alike_34 ?_
        refine lv_iload hx hb dX10_alike_37 (lv_at hl 4 rfl) ?_
        obtain ⟨r39, hr39, hf⟩ := bnd hf
        have hPc : va_P D vwCl [] _ := hP.sub [] rfl
        refine callS_ri (As := [.int t_awake, .int v4]) (rest := []) ⟨hx, hb, hml, hown, hts⟩ (CX10_has l hr39) (va_cwS 2 hts gX10_alike_X10_has rfl rfl rfl kkX10_has.2 ⟨Nat.le_of_ble_eq_true rfl, Nat.le_of_ble_eq_true rfl⟩) hK hPc hl.1 rfl (Nat.le_of_ble_eq_true rfl) dX10_alike_39 ⟨Nat.zero_le _, Nat.zero_le _⟩ ?_
        refine lv_if_eq (tgt := 77) hx hb dX10_alike_42 (by decide) (fun hc => ?_) (fun hc => ?_)
        · have hf := ft hf hc
          refine lv_iinc (v := v4 + 1) (lv' := [(4, .int (v4 + 1)), (0, .ref A_t), (1, .int a1), (2, .int v2), (3, .int v3)]) hx hb dX10_alike_77 hl (k := 4) rfl rfl (by decide) rfl (fun ls hl => ?_)
          refine lv_goto (tgt := 15) hx hb dX10_alike_80 (by decide) ?_
          exact hk15 _ _ _ _ (lv_sub hl [1, 2, 3, 4, 0] rfl) hf
        · have hf := ff hf hc
          refine lv_aload_n hx hb dX10_alike_45 rfl (lv_at hl 0 rfl) ?_
          refine va_get (D := D) (ci := 9) (v := .ref A_t_count) (C := RX10) (T := TX10) (N := 19) hx hb hts wX10_alike_X10 hown hK.1 hP 0 rfl rfl 2 (by decide) (hts _ mX10_alike_f7) (fun _ h9 => h9) rfl dX10_alike_46 ?_
          refine lv_iload_n hx hb dX10_alike_49 rfl (lv_at hl 3 rfl) ?_
          obtain ⟨hin, hf⟩ := gIn_some hf
          refine va_iald hx hb hK.1 hP 1 0 rfl rfl hin dX10_alike_50 ?_
          refine lv_aload_n hx hb dX10_alike_51 rfl (lv_at hl 0 rfl) ?_
          refine va_get (D := D) (ci := 9) (v := .ref A_t_count) (C := RX10) (T := TX10) (N := 19) hx hb hts wX10_alike_X10 hown hK.1 hP 0 rfl rfl 2 (by decide) (hts _ mX10_alike_f7) (fun _ h9 => h9) rfl dX10_alike_52 ?_
          refine lv_iload hx hb dX10_alike_55 (lv_at hl 4 rfl) ?_
          obtain ⟨hin, hf⟩ := gIn_some hf
          refine va_iald hx hb hK.1 hP 1 0 rfl rfl hin dX10_alike_57 ?_
          refine lv_icmp_ne (tgt := 77) hx hb dX10_alike_58 (by decide) (fun hc => ?_) (fun hc => ?_)
          · have hf := ff hf hc
            refine lv_iinc (v := v4 + 1) (lv' := [(4, .int (v4 + 1)), (0, .ref A_t), (1, .int a1), (2, .int v2), (3, .int v3)]) hx hb dX10_alike_77 hl (k := 4) rfl rfl (by decide) rfl (fun ls hl => ?_)
            refine lv_goto (tgt := 15) hx hb dX10_alike_80 (by decide) ?_
            exact hk15 _ _ _ _ (lv_sub hl [1, 2, 3, 4, 0] rfl) hf
          · have hf := ft hf hc
            refine lv_iload_n hx hb dX10_alike_61 rfl (lv_at hl 2 rfl) ?_
            refine lv_iload_n hx hb dX10_alike_62 rfl (lv_at hl 1 rfl) ?_
            refine lv_icmp_ne (tgt := 74) hx hb dX10_alike_63 (by decide) (fun hc => ?_) (fun hc => ?_)
            · have hf := ff hf hc
              refine lv_iinc (v := v2 + 1) (lv' := [(2, .int (v2 + 1)), (0, .ref A_t), (1, .int a1), (3, .int v3), (4, .int v4)]) hx hb dX10_alike_74 hl (k := 2) rfl rfl (by decide) rfl (fun ls hl => ?_)
              refine lv_iinc (v := v4 + 1) (lv' := [(4, .int (v4 + 1)), (2, .int (v2 + 1)), (0, .ref A_t), (1, .int a1), (3, .int v3)]) hx hb dX10_alike_77 hl (k := 4) rfl rfl (by decide) rfl (fun ls hl => ?_)
              refine lv_goto (tgt := 15) hx hb dX10_alike_80 (by decide) ?_
              exact hk15 _ _ _ _ (lv_sub hl [2, 3, 1, 4, 0] rfl) hf
            · have hf := ft hf hc
              refine lv_bipush (v := 10) hx hb dX10_alike_66 (by decide) ?_
              refine lv_iload_n hx hb dX10_alike_68 rfl (lv_at hl 3 rfl) ?_
              refine lv_imul hx hb dX10_alike_69 ?_
              refine lv_iload hx hb dX10_alike_70 (lv_at hl 4 rfl) ?_
              refine lv_iadd hx hb dX10_alike_72 ?_
              exact ret_ri hx hb hr hlocks hf dX10_alike_73
def bX10_alike_4 (k4 : Int32 × Int32 → Option (Int32)) (t_awake : Int32) (t_count : Nat → Int32) (a1 : Int32) (v2 : Int32) (v3 : Int32) : Option (Int32) :=
  if 8 ≤ v3 then if a1 = (-1) then some v2 else some (-6) else loopF (fun k q => bX10_alike_15 k4 k t_awake t_count a1 q.1 q.2.1 q.2.2) FU (v2, v3, v3 + 1)
set_option maxRecDepth 100000 in
set_option maxHeartbeats 4000000 in
theorem BX10_alike_4 {p : Program} {l : Launch} {e : Env} {s : State} {m : MethodId} {below : List Frame} {meth : Method} {c : Code} {D : va_G} {ty : TY} {A_t A_t_count A_t_pace A_t_sight A_t_pad A_t_now A_t_image A_t_isKept : Nat} {t_there : Int32} {t_awake : Int32} {t_house : Int32} {t_sharp : Int32} {t_sights : Int32} {t_signs : Int32} {t_up : Int32} {t_reason : Int32} {t_acts : Int32} {t_breaths : Int32} {t_zeroAt : Int32} {t_noticedAt : Int32} {t_count : Nat → Int32} {t_pace : Nat → Int32} {t_sight : Nat → Int32} {t_pad : Nat → Int32} {t_now : Nat → Int32} {t_image : Nat → Int32} {t_isKept : Nat → Int32} {a1 : Int32} {q0 : Int32} (C : cx p s m [.ref A_t, .int a1] meth c cX10_alike 5 (some .int) RX10 wsX10_alike) (hK : KK D ty s) (hP : va_P D vwCl [(A_t, .inr (9, [.int t_there, .int t_awake, .ref A_t_count, .ref A_t_pace, .int t_house, .int t_sharp, .int t_sights, .ref A_t_sight, .int t_signs, .ref A_t_pad, .int t_up, .ref A_t_now, .int t_reason, .int t_acts, .int t_breaths, .int t_zeroAt, .int t_noticedAt, .ref A_t_image, .ref A_t_isKept])), (A_t_count, .inl (ty.1, 8, .inl t_count)), (A_t_pace, .inl (ty.1, 8, .inl t_pace)), (A_t_sight, .inl (ty.1, 24, .inl t_sight)), (A_t_pad, .inl (ty.1, 60, .inl t_pad)), (A_t_now, .inl (ty.1, 8, .inl t_now)), (A_t_image, .inl (ty.1, 120, .inl t_image)), (A_t_isKept, .inl (ty.2.2.1, 2, .inl t_isKept))] s.heap)   : ∀ (n : Nat) (v2 : Int32) (v3 : Int32) (ls : Array Slot), lv_has ls 5 [(0, .ref A_t), (1, .int a1), (2, .int v2), (3, .int v3)] → loopF (fun k q => bX10_alike_4 k t_awake t_count a1 q.1 q.2) n (v2, v3) = some q0 → WRi p l e rmX10_alike s m [.ref A_t, .int a1] below meth c q0 (F0 m 4 ls []) := by
  obtain ⟨hx, hb, hr, hml, hown, hts, hlocks⟩ := id C
  intro n
  induction n with
  | zero =>
    intro v2 v3 ls hl hf
    cases hf
  | succ n ih =>
    intro v2 v3 ls hl hf
    have hf : bX10_alike_4 (loopF (fun k q => bX10_alike_4 k t_awake t_count a1 q.1 q.2) n) t_awake t_count a1 v2 v3 = some q0 := hf
    have hk4 := ih
    unfold bX10_alike_4 at hf
    refine lv_iload_n hx hb dX10_alike_4 rfl (lv_at hl 3 rfl) ?_
    refine lv_bipush (v := 8) hx hb dX10_alike_5 (by decide) ?_
    refine lv_icmp_ge (tgt := 89) hx hb dX10_alike_7 (by decide) (fun hc => ?_) (fun hc => ?_)
    · have hf := ft hf hc
      refine lv_iload_n hx hb dX10_alike_89 rfl (lv_at hl 1 rfl) ?_
      refine lv_iconst (v := (-1)) hx hb dX10_alike_90 (by decide) ?_
      refine lv_icmp_ne (tgt := 98) hx hb dX10_alike_91 (by decide) (fun hc => ?_) (fun hc => ?_)
      · have hf := ff hf hc
        refine lv_bipush (v := (-6)) hx hb dX10_alike_98 (by decide) ?_
        exact ret_ri hx hb hr hlocks hf dX10_alike_100
      · have hf := ft hf hc
        refine lv_iload_n hx hb dX10_alike_94 rfl (lv_at hl 2 rfl) ?_
        refine lv_goto (tgt := 100) hx hb dX10_alike_95 (by decide) ?_
        exact ret_ri hx hb hr hlocks hf dX10_alike_100
    · have hf := ff hf hc
      refine lv_iload_n hx hb dX10_alike_10 rfl (lv_at hl 3 rfl) ?_
      refine lv_iconst (v := 1) hx hb dX10_alike_11 (by decide) ?_
      refine lv_iadd hx hb dX10_alike_12 ?_
      refine lv_istore (lv' := [(4, .int (v3 + 1)), (0, .ref A_t), (1, .int a1), (2, .int v2), (3, .int v3)]) hx hb dX10_alike_13 hl (by decide) rfl (fun ls hl => ?_)
      exact BX10_alike_15 C hK hP hk4 FU _ _ _ _ (lv_sub hl [1, 2, 3, 4, 0] rfl) hf
def fX10_alike (t_awake : Int32) (t_count : Nat → Int32) (a1 : Int32) : Option (Int32) :=
  loopF (fun k q => bX10_alike_4 k t_awake t_count a1 q.1 q.2) FU (0, 0)
set_option maxRecDepth 100000 in
set_option maxHeartbeats 4000000 in
theorem CX10_alike (l : Launch) {D : va_G} {ty : TY} {A_t A_t_count A_t_pace A_t_sight A_t_pad A_t_now A_t_image A_t_isKept : Nat} {t_there : Int32} {t_awake : Int32} {t_house : Int32} {t_sharp : Int32} {t_sights : Int32} {t_signs : Int32} {t_up : Int32} {t_reason : Int32} {t_acts : Int32} {t_breaths : Int32} {t_zeroAt : Int32} {t_noticedAt : Int32} {t_count : Nat → Int32} {t_pace : Nat → Int32} {t_sight : Nat → Int32} {t_pad : Nat → Int32} {t_now : Nat → Int32} {t_image : Nat → Int32} {t_isKept : Nat → Int32} {a1 : Int32} {q0 : Int32} (hf : fX10_alike t_awake t_count a1 = some q0) : ROi l yX10_alike wsX10_alike rmX10_alike D ty [.ref A_t, .int a1] [(A_t, .inr (9, [.int t_there, .int t_awake, .ref A_t_count, .ref A_t_pace, .int t_house, .int t_sharp, .int t_sights, .ref A_t_sight, .int t_signs, .ref A_t_pad, .int t_up, .ref A_t_now, .int t_reason, .int t_acts, .int t_breaths, .int t_zeroAt, .int t_noticedAt, .ref A_t_image, .ref A_t_isKept])), (A_t_count, .inl (ty.1, 8, .inl t_count)), (A_t_pace, .inl (ty.1, 8, .inl t_pace)), (A_t_sight, .inl (ty.1, 24, .inl t_sight)), (A_t_pad, .inl (ty.1, 60, .inl t_pad)), (A_t_now, .inl (ty.1, 8, .inl t_now)), (A_t_image, .inl (ty.1, 120, .inl t_image)), (A_t_isKept, .inl (ty.2.2.1, 2, .inl t_isKept))] q0 := by
  refine ROi.start (cc := cX10_alike) (maxL := 5) (ret := (some .int)) (own := RX10) (by decide) rfl rfl (Nat.le_of_ble_eq_true rfl) ?_
  intro p e s m below meth c ls C hK hP hl
  obtain ⟨hx, hb, hr, hml, hown, hts, hlocks⟩ := id C
  have hl : lv_has ls 5 [(0, .ref A_t), (1, .int a1)] := hl
  unfold fX10_alike at hf
  refine lv_iconst (v := 0) hx hb dX10_alike_0 (by decide) ?_
  refine lv_istore_n (lv' := [(2, .int 0), (0, .ref A_t), (1, .int a1)]) hx hb dX10_alike_1 rfl hl (by decide) rfl (fun ls hl => ?_)
  refine lv_iconst (v := 0) hx hb dX10_alike_2 (by decide) ?_
  refine lv_istore_n (lv' := [(3, .int 0), (2, .int 0), (0, .ref A_t), (1, .int a1)]) hx hb dX10_alike_3 rfl hl (by decide) rfl (fun ls hl => ?_)
  exact BX10_alike_4 C hK hP  FU _ _ _ (lv_sub hl [2, 3, 1, 0] rfl) hf
/-! ===== SilenceCountModel.in(III)Z ===== -/
abbrev rmX10_in : Room := { frames := 0, cells := 0, slots := 0, locals := 0 }
theorem kkX10_in : yX10_in.cls = RX10 ∧ yX10_in.cls ≠ "java/lang/invoke/MethodHandle" ∧ yX10_in.cls ≠ "java/lang/invoke/VarHandle" ∧ (parseMethodDescriptor yX10_in.desc).map (fun d => d.parameters.length) = some 3 := by decide +kernel
def fX10_in (a0 : Int32) (a1 : Int32) (a2 : Int32) : Option (Int32) :=
  if a0 < a1 then some 0 else if a2 < a0 then some 0 else some 1
set_option maxRecDepth 100000 in
set_option maxHeartbeats 4000000 in
theorem CX10_in (l : Launch) {D : va_G} {ty : TY} {a0 : Int32} {a1 : Int32} {a2 : Int32} {q0 : Int32} (hf : fX10_in a0 a1 a2 = some q0) : ROi l yX10_in wsX10_in rmX10_in D ty [.int a0, .int a1, .int a2] [] q0 := by
  refine ROi.start (cc := cX10_in) (maxL := 3) (ret := (some .boolean)) (own := RX10) (by decide) rfl rfl (Nat.le_of_ble_eq_true rfl) ?_
  intro p e s m below meth c ls C hK hP hl
  obtain ⟨hx, hb, hr, hml, hown, hts, hlocks⟩ := id C
  have hl : lv_has ls 3 [(0, .int a0), (1, .int a1), (2, .int a2)] := hl
  unfold fX10_in at hf
  refine lv_iload_n hx hb dX10_in_0 rfl (lv_at hl 0 rfl) ?_
  refine lv_iload_n hx hb dX10_in_1 rfl (lv_at hl 1 rfl) ?_
  refine lv_icmp_lt (tgt := 14) hx hb dX10_in_2 (by decide) (fun hc => ?_) (fun hc => ?_)
  · have hf := ft hf hc
    refine lv_iconst (v := 0) hx hb dX10_in_14 (by decide) ?_
    exact ret_rz hx hb hr hlocks (Or.inl rfl) hf dX10_in_15
  · have hf := ff hf hc
    refine lv_iload_n hx hb dX10_in_5 rfl (lv_at hl 0 rfl) ?_
    refine lv_iload_n hx hb dX10_in_6 rfl (lv_at hl 2 rfl) ?_
    refine lv_icmp_gt (tgt := 14) hx hb dX10_in_7 (by decide) (fun hc => ?_) (fun hc => ?_)
    · have hf := ft hf hc
      refine lv_iconst (v := 0) hx hb dX10_in_14 (by decide) ?_
      exact ret_rz hx hb hr hlocks (Or.inl rfl) hf dX10_in_15
    · have hf := ff hf hc
      refine lv_iconst (v := 1) hx hb dX10_in_10 (by decide) ?_
      refine lv_goto (tgt := 15) hx hb dX10_in_11 (by decide) ?_
      exact ret_rz hx hb hr hlocks (Or.inr rfl) hf dX10_in_15
/-! ===== SilenceCountModel.isThere(I)Z ===== -/
abbrev rmX10_isThere : Room := { frames := 1, cells := 0, slots := 0, locals := 22 }
theorem kkX10_isThere : yX10_isThere.cls = RX10 ∧ yX10_isThere.cls ≠ "java/lang/invoke/MethodHandle" ∧ yX10_isThere.cls ≠ "java/lang/invoke/VarHandle" ∧ (parseMethodDescriptor yX10_isThere.desc).map (fun d => d.parameters.length) = some 1 := by decide +kernel
theorem mX10_isThere_f40 : Cond.fieldLink RX10 40 "SilenceCountModel" "there" "I" ∈ wsX10_isThere := by decide +kernel
theorem wX10_isThere_X10 : ∀ w ∈ u_ws RX10 TX10 19, w ∈ wsX10_isThere := by decide +kernel
def fX10_isThere (t_there : Int32) (a1 : Int32) : Option (Int32) :=
  (fX10_in a1 0 7).bind fun r4 => if r4 = 0 then some 0 else (fX10_has t_there a1).bind fun r15 => if r15 = 0 then some 0 else some 1
set_option maxRecDepth 100000 in
set_option maxHeartbeats 4000000 in
theorem CX10_isThere (l : Launch) {D : va_G} {ty : TY} {A_t A_t_count A_t_pace A_t_sight A_t_pad A_t_now A_t_image A_t_isKept : Nat} {t_there : Int32} {t_awake : Int32} {t_house : Int32} {t_sharp : Int32} {t_sights : Int32} {t_signs : Int32} {t_up : Int32} {t_reason : Int32} {t_acts : Int32} {t_breaths : Int32} {t_zeroAt : Int32} {t_noticedAt : Int32} {t_count : Nat → Int32} {t_pace : Nat → Int32} {t_sight : Nat → Int32} {t_pad : Nat → Int32} {t_now : Nat → Int32} {t_image : Nat → Int32} {t_isKept : Nat → Int32} {a1 : Int32} {q0 : Int32} (hf : fX10_isThere t_there a1 = some q0) : ROi l yX10_isThere wsX10_isThere rmX10_isThere D ty [.ref A_t, .int a1] [(A_t, .inr (9, [.int t_there, .int t_awake, .ref A_t_count, .ref A_t_pace, .int t_house, .int t_sharp, .int t_sights, .ref A_t_sight, .int t_signs, .ref A_t_pad, .int t_up, .ref A_t_now, .int t_reason, .int t_acts, .int t_breaths, .int t_zeroAt, .int t_noticedAt, .ref A_t_image, .ref A_t_isKept])), (A_t_count, .inl (ty.1, 8, .inl t_count)), (A_t_pace, .inl (ty.1, 8, .inl t_pace)), (A_t_sight, .inl (ty.1, 24, .inl t_sight)), (A_t_pad, .inl (ty.1, 60, .inl t_pad)), (A_t_now, .inl (ty.1, 8, .inl t_now)), (A_t_image, .inl (ty.1, 120, .inl t_image)), (A_t_isKept, .inl (ty.2.2.1, 2, .inl t_isKept))] q0 := by
  refine ROi.start (cc := cX10_isThere) (maxL := 2) (ret := (some .boolean)) (own := RX10) (by decide) rfl rfl (Nat.le_of_ble_eq_true rfl) ?_
  intro p e s m below meth c ls C hK hP hl
  obtain ⟨hx, hb, hr, hml, hown, hts, hlocks⟩ := id C
  have hl : lv_has ls 2 [(0, .ref A_t), (1, .int a1)] := hl
  unfold fX10_isThere at hf
  refine lv_iload_n hx hb dX10_isThere_0 rfl (lv_at hl 1 rfl) ?_
  refine lv_iconst (v := 0) hx hb dX10_isThere_1 (by decide) ?_
  refine lv_bipush (v := 7) hx hb dX10_isThere_2 (by decide) ?_
  obtain ⟨r4, hr4, hf⟩ := bnd hf
  have hPc : va_P D vwCl [] _ := hP.sub [] rfl
  refine callS_ri (As := [.int a1, .int 0, .int 7]) (rest := []) ⟨hx, hb, hml, hown, hts⟩ (CX10_in l hr4) (va_cwS 3 hts gX10_isThere_X10_in rfl rfl rfl kkX10_in.2 ⟨Nat.le_of_ble_eq_true rfl, Nat.le_of_ble_eq_true rfl⟩) hK hPc hl.1 rfl (Nat.le_of_ble_eq_true rfl) dX10_isThere_4 ⟨Nat.zero_le _, Nat.zero_le _⟩ ?_
  refine lv_if_eq (tgt := 25) hx hb dX10_isThere_7 (by decide) (fun hc => ?_) (fun hc => ?_)
  · have hf := ft hf hc
    refine lv_iconst (v := 0) hx hb dX10_isThere_25 (by decide) ?_
    exact ret_rz hx hb hr hlocks (Or.inl rfl) hf dX10_isThere_26
  · have hf := ff hf hc
    refine lv_aload_n hx hb dX10_isThere_10 rfl (lv_at hl 0 rfl) ?_
    refine va_get (D := D) (ci := 9) (v := .int t_there) (C := RX10) (T := TX10) (N := 19) hx hb hts wX10_isThere_X10 hown hK.1 hP 0 rfl rfl 0 (by decide) (hts _ mX10_isThere_f40) (fun _ h9 => h9) rfl dX10_isThere_11 ?_
    refine lv_iload_n hx hb dX10_isThere_14 rfl (lv_at hl 1 rfl) ?_
    obtain ⟨r15, hr15, hf⟩ := bnd hf
    have hPc : va_P D vwCl [] _ := hP.sub [] rfl
    refine callS_ri (As := [.int t_there, .int a1]) (rest := []) ⟨hx, hb, hml, hown, hts⟩ (CX10_has l hr15) (va_cwS 2 hts gX10_isThere_X10_has rfl rfl rfl kkX10_has.2 ⟨Nat.le_of_ble_eq_true rfl, Nat.le_of_ble_eq_true rfl⟩) hK hPc hl.1 rfl (Nat.le_of_ble_eq_true rfl) dX10_isThere_15 ⟨Nat.zero_le _, Nat.zero_le _⟩ ?_
    refine lv_if_eq (tgt := 25) hx hb dX10_isThere_18 (by decide) (fun hc => ?_) (fun hc => ?_)
    · have hf := ft hf hc
      refine lv_iconst (v := 0) hx hb dX10_isThere_25 (by decide) ?_
      exact ret_rz hx hb hr hlocks (Or.inl rfl) hf dX10_isThere_26
    · have hf := ff hf hc
      refine lv_iconst (v := 1) hx hb dX10_isThere_21 (by decide) ?_
      refine lv_goto (tgt := 26) hx hb dX10_isThere_22 (by decide) ?_
      exact ret_rz hx hb hr hlocks (Or.inr rfl) hf dX10_isThere_26
/-! ===== SilenceCountModel.isAwake(I)Z ===== -/
abbrev rmX10_isAwake : Room := { frames := 2, cells := 0, slots := 0, locals := 43 }
theorem kkX10_isAwake : yX10_isAwake.cls = RX10 ∧ yX10_isAwake.cls ≠ "java/lang/invoke/MethodHandle" ∧ yX10_isAwake.cls ≠ "java/lang/invoke/VarHandle" ∧ (parseMethodDescriptor yX10_isAwake.desc).map (fun d => d.parameters.length) = some 1 := by decide +kernel
theorem mX10_isAwake_f55 : Cond.fieldLink RX10 55 "SilenceCountModel" "awake" "I" ∈ wsX10_isAwake := by decide +kernel
theorem wX10_isAwake_X10 : ∀ w ∈ u_ws RX10 TX10 19, w ∈ wsX10_isAwake := by decide +kernel
def fX10_isAwake (t_there : Int32) (t_awake : Int32) (a1 : Int32) : Option (Int32) :=
  (fX10_isThere t_there a1).bind fun r2 => if r2 = 0 then some 0 else (fX10_has t_awake a1).bind fun r13 => if r13 = 0 then some 0 else some 1
set_option maxRecDepth 100000 in
set_option maxHeartbeats 4000000 in
theorem CX10_isAwake (l : Launch) {D : va_G} {ty : TY} {A_t A_t_count A_t_pace A_t_sight A_t_pad A_t_now A_t_image A_t_isKept : Nat} {t_there : Int32} {t_awake : Int32} {t_house : Int32} {t_sharp : Int32} {t_sights : Int32} {t_signs : Int32} {t_up : Int32} {t_reason : Int32} {t_acts : Int32} {t_breaths : Int32} {t_zeroAt : Int32} {t_noticedAt : Int32} {t_count : Nat → Int32} {t_pace : Nat → Int32} {t_sight : Nat → Int32} {t_pad : Nat → Int32} {t_now : Nat → Int32} {t_image : Nat → Int32} {t_isKept : Nat → Int32} {a1 : Int32} {q0 : Int32} (hf : fX10_isAwake t_there t_awake a1 = some q0) : ROi l yX10_isAwake wsX10_isAwake rmX10_isAwake D ty [.ref A_t, .int a1] [(A_t, .inr (9, [.int t_there, .int t_awake, .ref A_t_count, .ref A_t_pace, .int t_house, .int t_sharp, .int t_sights, .ref A_t_sight, .int t_signs, .ref A_t_pad, .int t_up, .ref A_t_now, .int t_reason, .int t_acts, .int t_breaths, .int t_zeroAt, .int t_noticedAt, .ref A_t_image, .ref A_t_isKept])), (A_t_count, .inl (ty.1, 8, .inl t_count)), (A_t_pace, .inl (ty.1, 8, .inl t_pace)), (A_t_sight, .inl (ty.1, 24, .inl t_sight)), (A_t_pad, .inl (ty.1, 60, .inl t_pad)), (A_t_now, .inl (ty.1, 8, .inl t_now)), (A_t_image, .inl (ty.1, 120, .inl t_image)), (A_t_isKept, .inl (ty.2.2.1, 2, .inl t_isKept))] q0 := by
  refine ROi.start (cc := cX10_isAwake) (maxL := 2) (ret := (some .boolean)) (own := RX10) (by decide) rfl rfl (Nat.le_of_ble_eq_true rfl) ?_
  intro p e s m below meth c ls C hK hP hl
  obtain ⟨hx, hb, hr, hml, hown, hts, hlocks⟩ := id C
  have hl : lv_has ls 2 [(0, .ref A_t), (1, .int a1)] := hl
  unfold fX10_isAwake at hf
  refine lv_aload_n hx hb dX10_isAwake_0 rfl (lv_at hl 0 rfl) ?_
  refine lv_iload_n hx hb dX10_isAwake_1 rfl (lv_at hl 1 rfl) ?_
  obtain ⟨r2, hr2, hf⟩ := bnd hf
  refine callV_ri (As := [.int a1]) (rest := []) ⟨hx, hb, hml, hown, hts⟩ (CX10_isThere l hr2) (cwV 1 hts gX10_isAwake_X10_isThere rfl rfl rfl kkX10_isThere ⟨Nat.le_of_ble_eq_true rfl, Nat.le_of_ble_eq_true rfl⟩) hK hP 0 rfl rfl rfl hl.1 rfl (Nat.le_of_ble_eq_true rfl) dX10_isAwake_2 ⟨Nat.zero_le _, Nat.zero_le _⟩ ?_
  refine lv_if_eq (tgt := 23) hx hb dX10_isAwake_5 (by decide) (fun hc => ?_) (fun hc => ?_)
  · have hf := ft hf hc
    refine lv_iconst (v := 0) hx hb dX10_isAwake_23 (by decide) ?_
    exact ret_rz hx hb hr hlocks (Or.inl rfl) hf dX10_isAwake_24
  · have hf := ff hf hc
    refine lv_aload_n hx hb dX10_isAwake_8 rfl (lv_at hl 0 rfl) ?_
    refine va_get (D := D) (ci := 9) (v := .int t_awake) (C := RX10) (T := TX10) (N := 19) hx hb hts wX10_isAwake_X10 hown hK.1 hP 0 rfl rfl 1 (by decide) (hts _ mX10_isAwake_f55) (fun _ h9 => h9) rfl dX10_isAwake_9 ?_
    refine lv_iload_n hx hb dX10_isAwake_12 rfl (lv_at hl 1 rfl) ?_
    obtain ⟨r13, hr13, hf⟩ := bnd hf
    have hPc : va_P D vwCl [] _ := hP.sub [] rfl
    refine callS_ri (As := [.int t_awake, .int a1]) (rest := []) ⟨hx, hb, hml, hown, hts⟩ (CX10_has l hr13) (va_cwS 2 hts gX10_isAwake_X10_has rfl rfl rfl kkX10_has.2 ⟨Nat.le_of_ble_eq_true rfl, Nat.le_of_ble_eq_true rfl⟩) hK hPc hl.1 rfl (Nat.le_of_ble_eq_true rfl) dX10_isAwake_13 ⟨Nat.zero_le _, Nat.zero_le _⟩ ?_
    refine lv_if_eq (tgt := 23) hx hb dX10_isAwake_16 (by decide) (fun hc => ?_) (fun hc => ?_)
    · have hf := ft hf hc
      refine lv_iconst (v := 0) hx hb dX10_isAwake_23 (by decide) ?_
      exact ret_rz hx hb hr hlocks (Or.inl rfl) hf dX10_isAwake_24
    · have hf := ff hf hc
      refine lv_iconst (v := 1) hx hb dX10_isAwake_19 (by decide) ?_
      refine lv_goto (tgt := 24) hx hb dX10_isAwake_20 (by decide) ?_
      exact ret_rz hx hb hr hlocks (Or.inr rfl) hf dX10_isAwake_24
/-! ===== SilenceCountModel.isPrime(I)Z ===== -/
abbrev rmX10_isPrime : Room := { frames := 0, cells := 0, slots := 0, locals := 0 }
theorem kkX10_isPrime : yX10_isPrime.cls = RX10 ∧ yX10_isPrime.cls ≠ "java/lang/invoke/MethodHandle" ∧ yX10_isPrime.cls ≠ "java/lang/invoke/VarHandle" ∧ (parseMethodDescriptor yX10_isPrime.desc).map (fun d => d.parameters.length) = some 1 := by decide +kernel
def bX10_isPrime_13 (k13 : Int32 × Int32 → Option (Int32)) (a0 : Int32) (v1 : Int32) (v2 : Int32) : Option (Int32) :=
  if a0 < (v2 * v2) then gB v1 (some v1) else if v1 = 0 then gB v1 (some v1) else gNz v2 (if (a0 - a0 / v2 * v2) = 0 then k13 (0, v2 + 1) else k13 (1, v2 + 1))
set_option maxRecDepth 100000 in
set_option maxHeartbeats 4000000 in
theorem BX10_isPrime_13 {p : Program} {l : Launch} {e : Env} {s : State} {m : MethodId} {below : List Frame} {meth : Method} {c : Code} {D : va_G} {ty : TY} {a0 : Int32} {q0 : Int32} (C : cx p s m [.int a0] meth c cX10_isPrime 3 (some .boolean) RX10 wsX10_isPrime) (hK : KK D ty s) (hP : va_P D vwCl [] s.heap)   : ∀ (n : Nat) (v1 : Int32) (v2 : Int32) (ls : Array Slot), lv_has ls 3 [(0, .int a0), (1, .int v1), (2, .int v2)] → loopF (fun k q => bX10_isPrime_13 k a0 q.1 q.2) n (v1, v2) = some q0 → WRi p l e rmX10_isPrime s m [.int a0] below meth c q0 (F0 m 13 ls []) := by
  obtain ⟨hx, hb, hr, hml, hown, hts, hlocks⟩ := id C
  intro n
  induction n with
  | zero =>
    intro v1 v2 ls hl hf
    cases hf
  | succ n ih =>
    intro v1 v2 ls hl hf
    have hf : bX10_isPrime_13 (loopF (fun k q => bX10_isPrime_13 k a0 q.1 q.2) n) a0 v1 v2 = some q0 := hf
    have hk13 := ih
    unfold bX10_isPrime_13 at hf
    refine lv_iload_n hx hb dX10_isPrime_13 rfl (lv_at hl 2 rfl) ?_
    refine lv_iload_n hx hb dX10_isPrime_14 rfl (lv_at hl 2 rfl) ?_
    refine lv_imul hx hb dX10_isPrime_15 ?_
    refine lv_iload_n hx hb dX10_isPrime_16 rfl (lv_at hl 0 rfl) ?_
    refine lv_icmp_gt (tgt := 42) hx hb dX10_isPrime_17 (by decide) (fun hc => ?_) (fun hc => ?_)
    · have hf := ft hf hc
      refine lv_iload_n hx hb dX10_isPrime_42 rfl (lv_at hl 1 rfl) ?_
      obtain ⟨hbv, hf⟩ := gB_some hf
      exact ret_rz hx hb hr hlocks hbv hf dX10_isPrime_43
    · have hf := ff hf hc
      refine lv_iload_n hx hb dX10_isPrime_20 rfl (lv_at hl 1 rfl) ?_
      refine lv_if_eq (tgt := 42) hx hb dX10_isPrime_21 (by decide) (fun hc => ?_) (fun hc => ?_)
      · have hf := ft hf hc
        refine lv_iload_n hx hb dX10_isPrime_42 rfl (lv_at hl 1 rfl) ?_
        obtain ⟨hbv, hf⟩ := gB_some hf
        exact ret_rz hx hb hr hlocks hbv hf dX10_isPrime_43
      · have hf := ff hf hc
        refine lv_iload_n hx hb dX10_isPrime_24 rfl (lv_at hl 0 rfl) ?_
        refine lv_iload_n hx hb dX10_isPrime_25 rfl (lv_at hl 2 rfl) ?_
        obtain ⟨hnz, hf⟩ := gNz_some hf
        refine lv_irem hx hb dX10_isPrime_26 hnz ?_
        refine lv_if_eq (tgt := 34) hx hb dX10_isPrime_27 (by decide) (fun hc => ?_) (fun hc => ?_)
        · have hf := ft hf hc
          refine lv_iconst (v := 0) hx hb dX10_isPrime_34 (by decide) ?_
          refine lv_istore_n (lv' := [(1, .int 0), (0, .int a0), (2, .int v2)]) hx hb dX10_isPrime_35 rfl hl (by decide) rfl (fun ls hl => ?_)
          refine lv_iinc (v := v2 + 1) (lv' := [(2, .int (v2 + 1)), (1, .int 0), (0, .int a0)]) hx hb dX10_isPrime_36 hl (k := 2) rfl rfl (by decide) rfl (fun ls hl => ?_)
          refine lv_goto (tgt := 13) hx hb dX10_isPrime_39 (by decide) ?_
          exact hk13 _ _ _ (lv_sub hl [2, 1, 0] rfl) hf
        · have hf := ff hf hc
          refine lv_iconst (v := 1) hx hb dX10_isPrime_30 (by decide) ?_
          refine lv_goto (tgt := 35) hx hb dX10_isPrime_31 (by decide) ?_
          refine lv_istore_n (lv' := [(1, .int 1), (0, .int a0), (2, .int v2)]) hx hb dX10_isPrime_35 rfl hl (by decide) rfl (fun ls hl => ?_)
          refine lv_iinc (v := v2 + 1) (lv' := [(2, .int (v2 + 1)), (1, .int 1), (0, .int a0)]) hx hb dX10_isPrime_36 hl (k := 2) rfl rfl (by decide) rfl (fun ls hl => ?_)
          refine lv_goto (tgt := 13) hx hb dX10_isPrime_39 (by decide) ?_
          exact hk13 _ _ _ (lv_sub hl [2, 1, 0] rfl) hf
def fX10_isPrime (a0 : Int32) : Option (Int32) :=
  if a0 ≤ 1 then loopF (fun k q => bX10_isPrime_13 k a0 q.1 q.2) FU (0, 2) else loopF (fun k q => bX10_isPrime_13 k a0 q.1 q.2) FU (1, 2)
set_option maxRecDepth 100000 in
set_option maxHeartbeats 4000000 in
theorem CX10_isPrime (l : Launch) {D : va_G} {ty : TY} {a0 : Int32} {q0 : Int32} (hf : fX10_isPrime a0 = some q0) : ROi l yX10_isPrime wsX10_isPrime rmX10_isPrime D ty [.int a0] [] q0 := by
  refine ROi.start (cc := cX10_isPrime) (maxL := 3) (ret := (some .boolean)) (own := RX10) (by decide) rfl rfl (Nat.le_of_ble_eq_true rfl) ?_
  intro p e s m below meth c ls C hK hP hl
  obtain ⟨hx, hb, hr, hml, hown, hts, hlocks⟩ := id C
  have hl : lv_has ls 3 [(0, .int a0)] := hl
  unfold fX10_isPrime at hf
  refine lv_iload_n hx hb dX10_isPrime_0 rfl (lv_at hl 0 rfl) ?_
  refine lv_iconst (v := 1) hx hb dX10_isPrime_1 (by decide) ?_
  refine lv_icmp_le (tgt := 9) hx hb dX10_isPrime_2 (by decide) (fun hc => ?_) (fun hc => ?_)
  · have hf := ft hf hc
    refine lv_iconst (v := 0) hx hb dX10_isPrime_9 (by decide) ?_
    refine lv_istore_n (lv' := [(1, .int 0), (0, .int a0)]) hx hb dX10_isPrime_10 rfl hl (by decide) rfl (fun ls hl => ?_)
    refine lv_iconst (v := 2) hx hb dX10_isPrime_11 (by decide) ?_
    refine lv_istore_n (lv' := [(2, .int 2), (1, .int 0), (0, .int a0)]) hx hb dX10_isPrime_12 rfl hl (by decide) rfl (fun ls hl => ?_)
    exact BX10_isPrime_13 C hK hP  FU _ _ _ (lv_sub hl [2, 1, 0] rfl) hf
  · have hf := ff hf hc
    refine lv_iconst (v := 1) hx hb dX10_isPrime_5 (by decide) ?_
    refine lv_goto (tgt := 10) hx hb dX10_isPrime_6 (by decide) ?_
    refine lv_istore_n (lv' := [(1, .int 1), (0, .int a0)]) hx hb dX10_isPrime_10 rfl hl (by decide) rfl (fun ls hl => ?_)
    refine lv_iconst (v := 2) hx hb dX10_isPrime_11 (by decide) ?_
    refine lv_istore_n (lv' := [(2, .int 2), (1, .int 1), (0, .int a0)]) hx hb dX10_isPrime_12 rfl hl (by decide) rfl (fun ls hl => ?_)
    exact BX10_isPrime_13 C hK hP  FU _ _ _ (lv_sub hl [2, 1, 0] rfl) hf
/-! ===== SilenceCountModel.isSquare(I)Z ===== -/
abbrev rmX10_isSquare : Room := { frames := 0, cells := 0, slots := 0, locals := 0 }
theorem kkX10_isSquare : yX10_isSquare.cls = RX10 ∧ yX10_isSquare.cls ≠ "java/lang/invoke/MethodHandle" ∧ yX10_isSquare.cls ≠ "java/lang/invoke/VarHandle" ∧ (parseMethodDescriptor yX10_isSquare.desc).map (fun d => d.parameters.length) = some 1 := by decide +kernel
def bX10_isSquare_2 (k2 : Int32 → Option (Int32)) (a0 : Int32) (v1 : Int32) : Option (Int32) :=
  if a0 ≤ (v1 * v1) then if (v1 * v1) = a0 then some 1 else some 0 else k2 (v1 + 1)
set_option maxRecDepth 100000 in
set_option maxHeartbeats 4000000 in
theorem BX10_isSquare_2 {p : Program} {l : Launch} {e : Env} {s : State} {m : MethodId} {below : List Frame} {meth : Method} {c : Code} {D : va_G} {ty : TY} {a0 : Int32} {q0 : Int32} (C : cx p s m [.int a0] meth c cX10_isSquare 2 (some .boolean) RX10 wsX10_isSquare) (hK : KK D ty s) (hP : va_P D vwCl [] s.heap)   : ∀ (n : Nat) (v1 : Int32) (ls : Array Slot), lv_has ls 2 [(0, .int a0), (1, .int v1)] → loopF (fun k q => bX10_isSquare_2 k a0 q) n (v1) = some q0 → WRi p l e rmX10_isSquare s m [.int a0] below meth c q0 (F0 m 2 ls []) := by
  obtain ⟨hx, hb, hr, hml, hown, hts, hlocks⟩ := id C
  intro n
  induction n with
  | zero =>
    intro v1 ls hl hf
    cases hf
  | succ n ih =>
    intro v1 ls hl hf
    have hf : bX10_isSquare_2 (loopF (fun k q => bX10_isSquare_2 k a0 q) n) a0 v1 = some q0 := hf
    have hk2 := ih
    unfold bX10_isSquare_2 at hf
    refine lv_iload_n hx hb dX10_isSquare_2 rfl (lv_at hl 1 rfl) ?_
    refine lv_iload_n hx hb dX10_isSquare_3 rfl (lv_at hl 1 rfl) ?_
    refine lv_imul hx hb dX10_isSquare_4 ?_
    refine lv_iload_n hx hb dX10_isSquare_5 rfl (lv_at hl 0 rfl) ?_
    refine lv_icmp_ge (tgt := 15) hx hb dX10_isSquare_6 (by decide) (fun hc => ?_) (fun hc => ?_)
    · have hf := ft hf hc
      refine lv_iload_n hx hb dX10_isSquare_15 rfl (lv_at hl 1 rfl) ?_
      refine lv_iload_n hx hb dX10_isSquare_16 rfl (lv_at hl 1 rfl) ?_
      refine lv_imul hx hb dX10_isSquare_17 ?_
      refine lv_iload_n hx hb dX10_isSquare_18 rfl (lv_at hl 0 rfl) ?_
      refine lv_icmp_ne (tgt := 26) hx hb dX10_isSquare_19 (by decide) (fun hc => ?_) (fun hc => ?_)
      · have hf := ff hf hc
        refine lv_iconst (v := 0) hx hb dX10_isSquare_26 (by decide) ?_
        exact ret_rz hx hb hr hlocks (Or.inl rfl) hf dX10_isSquare_27
      · have hf := ft hf hc
        refine lv_iconst (v := 1) hx hb dX10_isSquare_22 (by decide) ?_
        refine lv_goto (tgt := 27) hx hb dX10_isSquare_23 (by decide) ?_
        exact ret_rz hx hb hr hlocks (Or.inr rfl) hf dX10_isSquare_27
    · have hf := ff hf hc
      refine lv_iinc (v := v1 + 1) (lv' := [(1, .int (v1 + 1)), (0, .int a0)]) hx hb dX10_isSquare_9 hl (k := 1) rfl rfl (by decide) rfl (fun ls hl => ?_)
      refine lv_goto (tgt := 2) hx hb dX10_isSquare_12 (by decide) ?_
      exact hk2 _ _ (lv_sub hl [1, 0] rfl) hf
def fX10_isSquare (a0 : Int32) : Option (Int32) :=
  loopF (fun k q => bX10_isSquare_2 k a0 q) FU (0)
set_option maxRecDepth 100000 in
set_option maxHeartbeats 4000000 in
theorem CX10_isSquare (l : Launch) {D : va_G} {ty : TY} {a0 : Int32} {q0 : Int32} (hf : fX10_isSquare a0 = some q0) : ROi l yX10_isSquare wsX10_isSquare rmX10_isSquare D ty [.int a0] [] q0 := by
  refine ROi.start (cc := cX10_isSquare) (maxL := 2) (ret := (some .boolean)) (own := RX10) (by decide) rfl rfl (Nat.le_of_ble_eq_true rfl) ?_
  intro p e s m below meth c ls C hK hP hl
  obtain ⟨hx, hb, hr, hml, hown, hts, hlocks⟩ := id C
  have hl : lv_has ls 2 [(0, .int a0)] := hl
  unfold fX10_isSquare at hf
  refine lv_iconst (v := 0) hx hb dX10_isSquare_0 (by decide) ?_
  refine lv_istore_n (lv' := [(1, .int 0), (0, .int a0)]) hx hb dX10_isSquare_1 rfl hl (by decide) rfl (fun ls hl => ?_)
  exact BX10_isSquare_2 C hK hP  FU _ _ (lv_sub hl [1, 0] rfl) hf
/-! ===== SilenceCountModel.isAlikeBehind(I)Z ===== -/
abbrev rmX10_isAlikeBehind : Room := { frames := 0, cells := 0, slots := 0, locals := 0 }
theorem kkX10_isAlikeBehind : yX10_isAlikeBehind.cls = RX10 ∧ yX10_isAlikeBehind.cls ≠ "java/lang/invoke/MethodHandle" ∧ yX10_isAlikeBehind.cls ≠ "java/lang/invoke/VarHandle" ∧ (parseMethodDescriptor yX10_isAlikeBehind.desc).map (fun d => d.parameters.length) = some 1 := by decide +kernel
def bX10_isAlikeBehind_4 (k4 : Int32 × Int32 → Option (Int32)) (a0 : Int32) (v1 : Int32) (v2 : Int32) : Option (Int32) :=
  if v2 ≤ 0 then if v1 = a0 then some 1 else some 0 else k4 ((10 * v1) + (v2 - v2 / 10 * 10), v2 / 10)
set_option maxRecDepth 100000 in
set_option maxHeartbeats 4000000 in
theorem BX10_isAlikeBehind_4 {p : Program} {l : Launch} {e : Env} {s : State} {m : MethodId} {below : List Frame} {meth : Method} {c : Code} {D : va_G} {ty : TY} {a0 : Int32} {q0 : Int32} (C : cx p s m [.int a0] meth c cX10_isAlikeBehind 3 (some .boolean) RX10 wsX10_isAlikeBehind) (hK : KK D ty s) (hP : va_P D vwCl [] s.heap)   : ∀ (n : Nat) (v1 : Int32) (v2 : Int32) (ls : Array Slot), lv_has ls 3 [(0, .int a0), (1, .int v1), (2, .int v2)] → loopF (fun k q => bX10_isAlikeBehind_4 k a0 q.1 q.2) n (v1, v2) = some q0 → WRi p l e rmX10_isAlikeBehind s m [.int a0] below meth c q0 (F0 m 4 ls []) := by
  obtain ⟨hx, hb, hr, hml, hown, hts, hlocks⟩ := id C
  intro n
  induction n with
  | zero =>
    intro v1 v2 ls hl hf
    cases hf
  | succ n ih =>
    intro v1 v2 ls hl hf
    have hf : bX10_isAlikeBehind_4 (loopF (fun k q => bX10_isAlikeBehind_4 k a0 q.1 q.2) n) a0 v1 v2 = some q0 := hf
    have hk4 := ih
    unfold bX10_isAlikeBehind_4 at hf
    refine lv_iload_n hx hb dX10_isAlikeBehind_4 rfl (lv_at hl 2 rfl) ?_
    refine lv_if_le (tgt := 26) hx hb dX10_isAlikeBehind_5 (by decide) (fun hc => ?_) (fun hc => ?_)
    · have hf := ft hf hc
      refine lv_iload_n hx hb dX10_isAlikeBehind_26 rfl (lv_at hl 1 rfl) ?_
      refine lv_iload_n hx hb dX10_isAlikeBehind_27 rfl (lv_at hl 0 rfl) ?_
      refine lv_icmp_ne (tgt := 35) hx hb dX10_isAlikeBehind_28 (by decide) (fun hc => ?_) (fun hc => ?_)
      · have hf := ff hf hc
        refine lv_iconst (v := 0) hx hb dX10_isAlikeBehind_35 (by decide) ?_
        exact ret_rz hx hb hr hlocks (Or.inl rfl) hf dX10_isAlikeBehind_36
      · have hf := ft hf hc
        refine lv_iconst (v := 1) hx hb dX10_isAlikeBehind_31 (by decide) ?_
        refine lv_goto (tgt := 36) hx hb dX10_isAlikeBehind_32 (by decide) ?_
        exact ret_rz hx hb hr hlocks (Or.inr rfl) hf dX10_isAlikeBehind_36
    · have hf := ff hf hc
      refine lv_bipush (v := 10) hx hb dX10_isAlikeBehind_8 (by decide) ?_
      refine lv_iload_n hx hb dX10_isAlikeBehind_10 rfl (lv_at hl 1 rfl) ?_
      refine lv_imul hx hb dX10_isAlikeBehind_11 ?_
      refine lv_iload_n hx hb dX10_isAlikeBehind_12 rfl (lv_at hl 2 rfl) ?_
      refine lv_bipush (v := 10) hx hb dX10_isAlikeBehind_13 (by decide) ?_
      refine lv_irem hx hb dX10_isAlikeBehind_15 (by decide) ?_
      refine lv_iadd hx hb dX10_isAlikeBehind_16 ?_
      refine lv_istore_n (lv' := [(1, .int ((10 * v1) + (v2 - v2 / 10 * 10))), (0, .int a0), (2, .int v2)]) hx hb dX10_isAlikeBehind_17 rfl hl (by decide) rfl (fun ls hl => ?_)
      refine lv_iload_n hx hb dX10_isAlikeBehind_18 rfl (lv_at hl 2 rfl) ?_
      refine lv_bipush (v := 10) hx hb dX10_isAlikeBehind_19 (by decide) ?_
      refine lv_idiv hx hb dX10_isAlikeBehind_21 (by decide) ?_
      refine lv_istore_n (lv' := [(2, .int (v2 / 10)), (1, .int ((10 * v1) + (v2 - v2 / 10 * 10))), (0, .int a0)]) hx hb dX10_isAlikeBehind_22 rfl hl (by decide) rfl (fun ls hl => ?_)
      refine lv_goto (tgt := 4) hx hb dX10_isAlikeBehind_23 (by decide) ?_
      exact hk4 _ _ _ (lv_sub hl [2, 1, 0] rfl) hf
def fX10_isAlikeBehind (a0 : Int32) : Option (Int32) :=
  loopF (fun k q => bX10_isAlikeBehind_4 k a0 q.1 q.2) FU (0, a0)
set_option maxRecDepth 100000 in
set_option maxHeartbeats 4000000 in
theorem CX10_isAlikeBehind (l : Launch) {D : va_G} {ty : TY} {a0 : Int32} {q0 : Int32} (hf : fX10_isAlikeBehind a0 = some q0) : ROi l yX10_isAlikeBehind wsX10_isAlikeBehind rmX10_isAlikeBehind D ty [.int a0] [] q0 := by
  refine ROi.start (cc := cX10_isAlikeBehind) (maxL := 3) (ret := (some .boolean)) (own := RX10) (by decide) rfl rfl (Nat.le_of_ble_eq_true rfl) ?_
  intro p e s m below meth c ls C hK hP hl
  obtain ⟨hx, hb, hr, hml, hown, hts, hlocks⟩ := id C
  have hl : lv_has ls 3 [(0, .int a0)] := hl
  unfold fX10_isAlikeBehind at hf
  refine lv_iconst (v := 0) hx hb dX10_isAlikeBehind_0 (by decide) ?_
  refine lv_istore_n (lv' := [(1, .int 0), (0, .int a0)]) hx hb dX10_isAlikeBehind_1 rfl hl (by decide) rfl (fun ls hl => ?_)
  refine lv_iload_n hx hb dX10_isAlikeBehind_2 rfl (lv_at hl 1 rfl) ?_
  refine lv_istore_n (lv' := [(2, .int a0), (1, .int 0), (0, .int a0)]) hx hb dX10_isAlikeBehind_3 rfl hl (by decide) rfl (fun ls hl => ?_)
  exact BX10_isAlikeBehind_4 C hK hP  FU _ _ _ (lv_sub hl [2, 1, 0] rfl) hf
/-! ===== SilenceCountModel.isBySum(I)Z ===== -/
abbrev rmX10_isBySum : Room := { frames := 0, cells := 0, slots := 0, locals := 0 }
theorem kkX10_isBySum : yX10_isBySum.cls = RX10 ∧ yX10_isBySum.cls ≠ "java/lang/invoke/MethodHandle" ∧ yX10_isBySum.cls ≠ "java/lang/invoke/VarHandle" ∧ (parseMethodDescriptor yX10_isBySum.desc).map (fun d => d.parameters.length) = some 1 := by decide +kernel
def bX10_isBySum_4 (k4 : Int32 × Int32 → Option (Int32)) (a0 : Int32) (v1 : Int32) (v2 : Int32) : Option (Int32) :=
  if v2 ≤ 0 then gNz v1 (if (a0 - a0 / v1 * v1) = 0 then some 1 else some 0) else k4 (v1 + (v2 - v2 / 10 * 10), v2 / 10)
set_option maxRecDepth 100000 in
set_option maxHeartbeats 4000000 in
theorem BX10_isBySum_4 {p : Program} {l : Launch} {e : Env} {s : State} {m : MethodId} {below : List Frame} {meth : Method} {c : Code} {D : va_G} {ty : TY} {a0 : Int32} {q0 : Int32} (C : cx p s m [.int a0] meth c cX10_isBySum 3 (some .boolean) RX10 wsX10_isBySum) (hK : KK D ty s) (hP : va_P D vwCl [] s.heap)   : ∀ (n : Nat) (v1 : Int32) (v2 : Int32) (ls : Array Slot), lv_has ls 3 [(0, .int a0), (1, .int v1), (2, .int v2)] → loopF (fun k q => bX10_isBySum_4 k a0 q.1 q.2) n (v1, v2) = some q0 → WRi p l e rmX10_isBySum s m [.int a0] below meth c q0 (F0 m 4 ls []) := by
  obtain ⟨hx, hb, hr, hml, hown, hts, hlocks⟩ := id C
  intro n
  induction n with
  | zero =>
    intro v1 v2 ls hl hf
    cases hf
  | succ n ih =>
    intro v1 v2 ls hl hf
    have hf : bX10_isBySum_4 (loopF (fun k q => bX10_isBySum_4 k a0 q.1 q.2) n) a0 v1 v2 = some q0 := hf
    have hk4 := ih
    unfold bX10_isBySum_4 at hf
    refine lv_iload_n hx hb dX10_isBySum_4 rfl (lv_at hl 2 rfl) ?_
    refine lv_if_le (tgt := 23) hx hb dX10_isBySum_5 (by decide) (fun hc => ?_) (fun hc => ?_)
    · have hf := ft hf hc
      refine lv_iload_n hx hb dX10_isBySum_23 rfl (lv_at hl 0 rfl) ?_
      refine lv_iload_n hx hb dX10_isBySum_24 rfl (lv_at hl 1 rfl) ?_
      obtain ⟨hnz, hf⟩ := gNz_some hf
      refine lv_irem hx hb dX10_isBySum_25 hnz ?_
      refine lv_if_ne (tgt := 33) hx hb dX10_isBySum_26 (by decide) (fun hc => ?_) (fun hc => ?_)
      · have hf := ff hf hc
        refine lv_iconst (v := 0) hx hb dX10_isBySum_33 (by decide) ?_
        exact ret_rz hx hb hr hlocks (Or.inl rfl) hf dX10_isBySum_34
      · have hf := ft hf hc
        refine lv_iconst (v := 1) hx hb dX10_isBySum_29 (by decide) ?_
        refine lv_goto (tgt := 34) hx hb dX10_isBySum_30 (by decide) ?_
        exact ret_rz hx hb hr hlocks (Or.inr rfl) hf dX10_isBySum_34
    · have hf := ff hf hc
      refine lv_iload_n hx hb dX10_isBySum_8 rfl (lv_at hl 1 rfl) ?_
      refine lv_iload_n hx hb dX10_isBySum_9 rfl (lv_at hl 2 rfl) ?_
      refine lv_bipush (v := 10) hx hb dX10_isBySum_10 (by decide) ?_
      refine lv_irem hx hb dX10_isBySum_12 (by decide) ?_
      refine lv_iadd hx hb dX10_isBySum_13 ?_
      refine lv_istore_n (lv' := [(1, .int (v1 + (v2 - v2 / 10 * 10))), (0, .int a0), (2, .int v2)]) hx hb dX10_isBySum_14 rfl hl (by decide) rfl (fun ls hl => ?_)
      refine lv_iload_n hx hb dX10_isBySum_15 rfl (lv_at hl 2 rfl) ?_
      refine lv_bipush (v := 10) hx hb dX10_isBySum_16 (by decide) ?_
      refine lv_idiv hx hb dX10_isBySum_18 (by decide) ?_
      refine lv_istore_n (lv' := [(2, .int (v2 / 10)), (1, .int (v1 + (v2 - v2 / 10 * 10))), (0, .int a0)]) hx hb dX10_isBySum_19 rfl hl (by decide) rfl (fun ls hl => ?_)
      refine lv_goto (tgt := 4) hx hb dX10_isBySum_20 (by decide) ?_
      exact hk4 _ _ _ (lv_sub hl [2, 1, 0] rfl) hf
def fX10_isBySum (a0 : Int32) : Option (Int32) :=
  loopF (fun k q => bX10_isBySum_4 k a0 q.1 q.2) FU (0, a0)
set_option maxRecDepth 100000 in
set_option maxHeartbeats 4000000 in
theorem CX10_isBySum (l : Launch) {D : va_G} {ty : TY} {a0 : Int32} {q0 : Int32} (hf : fX10_isBySum a0 = some q0) : ROi l yX10_isBySum wsX10_isBySum rmX10_isBySum D ty [.int a0] [] q0 := by
  refine ROi.start (cc := cX10_isBySum) (maxL := 3) (ret := (some .boolean)) (own := RX10) (by decide) rfl rfl (Nat.le_of_ble_eq_true rfl) ?_
  intro p e s m below meth c ls C hK hP hl
  obtain ⟨hx, hb, hr, hml, hown, hts, hlocks⟩ := id C
  have hl : lv_has ls 3 [(0, .int a0)] := hl
  unfold fX10_isBySum at hf
  refine lv_iconst (v := 0) hx hb dX10_isBySum_0 (by decide) ?_
  refine lv_istore_n (lv' := [(1, .int 0), (0, .int a0)]) hx hb dX10_isBySum_1 rfl hl (by decide) rfl (fun ls hl => ?_)
  refine lv_iload_n hx hb dX10_isBySum_2 rfl (lv_at hl 1 rfl) ?_
  refine lv_istore_n (lv' := [(2, .int a0), (1, .int 0), (0, .int a0)]) hx hb dX10_isBySum_3 rfl hl (by decide) rfl (fun ls hl => ?_)
  exact BX10_isBySum_4 C hK hP  FU _ _ _ (lv_sub hl [2, 1, 0] rfl) hf
/-! ===== SilenceCountModel.isLaw(II)Z ===== -/
abbrev rmX10_isLaw : Room := { frames := 1, cells := 0, slots := 0, locals := 22 }
theorem kkX10_isLaw : yX10_isLaw.cls = RX10 ∧ yX10_isLaw.cls ≠ "java/lang/invoke/MethodHandle" ∧ yX10_isLaw.cls ≠ "java/lang/invoke/VarHandle" ∧ (parseMethodDescriptor yX10_isLaw.desc).map (fun d => d.parameters.length) = some 2 := by decide +kernel
def fX10_isLaw (a0 : Int32) (a1 : Int32) : Option (Int32) :=
  if 1 ≤ a1 then if a0 = 0 then (fX10_isPrime a1).bind fun r41 => gB r41 (some r41) else if a0 = 1 then (fX10_isSquare a1).bind fun r46 => gB r46 (some r46) else if a0 = 2 then (fX10_isAlikeBehind a1).bind fun r51 => gB r51 (some r51) else if a0 = 3 then (fX10_isBySum a1).bind fun r56 => gB r56 (some r56) else if (a1 &&& (a1 - 1)) = 0 then some 1 else some 0 else some 0
set_option maxRecDepth 100000 in
set_option maxHeartbeats 4000000 in
theorem CX10_isLaw (l : Launch) {D : va_G} {ty : TY} {a0 : Int32} {a1 : Int32} {q0 : Int32} (hf : fX10_isLaw a0 a1 = some q0) : ROi l yX10_isLaw wsX10_isLaw rmX10_isLaw D ty [.int a0, .int a1] [] q0 := by
  refine ROi.start (cc := cX10_isLaw) (maxL := 2) (ret := (some .boolean)) (own := RX10) (by decide) rfl rfl (Nat.le_of_ble_eq_true rfl) ?_
  intro p e s m below meth c ls C hK hP hl
  obtain ⟨hx, hb, hr, hml, hown, hts, hlocks⟩ := id C
  have hl : lv_has ls 2 [(0, .int a0), (1, .int a1)] := hl
  unfold fX10_isLaw at hf
  refine lv_iload_n hx hb dX10_isLaw_0 rfl (lv_at hl 1 rfl) ?_
  refine lv_iconst (v := 1) hx hb dX10_isLaw_1 (by decide) ?_
  refine lv_icmp_ge (tgt := 7) hx hb dX10_isLaw_2 (by decide) (fun hc => ?_) (fun hc => ?_)
  · have hf := ft hf hc
    refine lv_iload_n hx hb dX10_isLaw_7 rfl (lv_at hl 0 rfl) ?_
    by_cases hc0 : a0 = 0
    · have hf := ft hf hc0
      refine lv_tableIn (tgt := 40) hx hb dX10_isLaw_8 (by rw [hc0]; decide) (by rw [hc0]; decide) (by rw [hc0] <;> rfl) (by decide) ?_
      refine lv_iload_n hx hb dX10_isLaw_40 rfl (lv_at hl 1 rfl) ?_
      obtain ⟨r41, hr41, hf⟩ := bnd hf
      refine callS_ri (As := [.int a1]) (rest := []) ⟨hx, hb, hml, hown, hts⟩ (CX10_isPrime l hr41) (va_cwS 1 hts gX10_isLaw_X10_isPrime rfl rfl rfl kkX10_isPrime.2 ⟨Nat.le_of_ble_eq_true rfl, Nat.le_of_ble_eq_true rfl⟩) hK hP hl.1 rfl (Nat.le_of_ble_eq_true rfl) dX10_isLaw_41 ⟨Nat.zero_le _, Nat.zero_le _⟩ ?_
      obtain ⟨hbv, hf⟩ := gB_some hf
      exact ret_rz hx hb hr hlocks hbv hf dX10_isLaw_44
    · have hf := ff hf hc0
      by_cases hc1 : a0 = 1
      · have hf := ft hf hc1
        refine lv_tableIn (tgt := 45) hx hb dX10_isLaw_8 (by rw [hc1]; decide) (by rw [hc1]; decide) (by rw [hc1] <;> rfl) (by decide) ?_
        refine lv_iload_n hx hb dX10_isLaw_45 rfl (lv_at hl 1 rfl) ?_
        obtain ⟨r46, hr46, hf⟩ := bnd hf
        refine callS_ri (As := [.int a1]) (rest := []) ⟨hx, hb, hml, hown, hts⟩ (CX10_isSquare l hr46) (va_cwS 1 hts gX10_isLaw_X10_isSquare rfl rfl rfl kkX10_isSquare.2 ⟨Nat.le_of_ble_eq_true rfl, Nat.le_of_ble_eq_true rfl⟩) hK hP hl.1 rfl (Nat.le_of_ble_eq_true rfl) dX10_isLaw_46 ⟨Nat.zero_le _, Nat.zero_le _⟩ ?_
        obtain ⟨hbv, hf⟩ := gB_some hf
        exact ret_rz hx hb hr hlocks hbv hf dX10_isLaw_49
      · have hf := ff hf hc1
        by_cases hc2 : a0 = 2
        · have hf := ft hf hc2
          refine lv_tableIn (tgt := 50) hx hb dX10_isLaw_8 (by rw [hc2]; decide) (by rw [hc2]; decide) (by rw [hc2] <;> rfl) (by decide) ?_
          refine lv_iload_n hx hb dX10_isLaw_50 rfl (lv_at hl 1 rfl) ?_
          obtain ⟨r51, hr51, hf⟩ := bnd hf
          refine callS_ri (As := [.int a1]) (rest := []) ⟨hx, hb, hml, hown, hts⟩ (CX10_isAlikeBehind l hr51) (va_cwS 1 hts gX10_isLaw_X10_isAlikeBehind rfl rfl rfl kkX10_isAlikeBehind.2 ⟨Nat.le_of_ble_eq_true rfl, Nat.le_of_ble_eq_true rfl⟩) hK hP hl.1 rfl (Nat.le_of_ble_eq_true rfl) dX10_isLaw_51 ⟨Nat.zero_le _, Nat.zero_le _⟩ ?_
          obtain ⟨hbv, hf⟩ := gB_some hf
          exact ret_rz hx hb hr hlocks hbv hf dX10_isLaw_54
        · have hf := ff hf hc2
          by_cases hc3 : a0 = 3
          · have hf := ft hf hc3
            refine lv_tableIn (tgt := 55) hx hb dX10_isLaw_8 (by rw [hc3]; decide) (by rw [hc3]; decide) (by rw [hc3] <;> rfl) (by decide) ?_
            refine lv_iload_n hx hb dX10_isLaw_55 rfl (lv_at hl 1 rfl) ?_
            obtain ⟨r56, hr56, hf⟩ := bnd hf
            refine callS_ri (As := [.int a1]) (rest := []) ⟨hx, hb, hml, hown, hts⟩ (CX10_isBySum l hr56) (va_cwS 1 hts gX10_isLaw_X10_isBySum rfl rfl rfl kkX10_isBySum.2 ⟨Nat.le_of_ble_eq_true rfl, Nat.le_of_ble_eq_true rfl⟩) hK hP hl.1 rfl (Nat.le_of_ble_eq_true rfl) dX10_isLaw_56 ⟨Nat.zero_le _, Nat.zero_le _⟩ ?_
            obtain ⟨hbv, hf⟩ := gB_some hf
            exact ret_rz hx hb hr hlocks hbv hf dX10_isLaw_59
          · have hf := ff hf hc3
            refine lv_tableOut (tgt := 60) hx hb dX10_isLaw_8 (by have h0 := sw_ne 0 (by decide) hc0; have h1 := sw_ne 1 (by decide) hc1; have h2 := sw_ne 2 (by decide) hc2; have h3 := sw_ne 3 (by decide) hc3; omega) (by decide) ?_
            refine lv_iload_n hx hb dX10_isLaw_60 rfl (lv_at hl 1 rfl) ?_
            refine lv_iload_n hx hb dX10_isLaw_61 rfl (lv_at hl 1 rfl) ?_
            refine lv_iconst (v := 1) hx hb dX10_isLaw_62 (by decide) ?_
            refine lv_isub hx hb dX10_isLaw_63 ?_
            refine lv_iand hx hb dX10_isLaw_64 ?_
            refine lv_if_ne (tgt := 72) hx hb dX10_isLaw_65 (by decide) (fun hc => ?_) (fun hc => ?_)
            · have hf := ff hf hc
              refine lv_iconst (v := 0) hx hb dX10_isLaw_72 (by decide) ?_
              exact ret_rz hx hb hr hlocks (Or.inl rfl) hf dX10_isLaw_73
            · have hf := ft hf hc
              refine lv_iconst (v := 1) hx hb dX10_isLaw_68 (by decide) ?_
              refine lv_goto (tgt := 73) hx hb dX10_isLaw_69 (by decide) ?_
              exact ret_rz hx hb hr hlocks (Or.inr rfl) hf dX10_isLaw_73
  · have hf := ff hf hc
    refine lv_iconst (v := 0) hx hb dX10_isLaw_5 (by decide) ?_
    exact ret_rz hx hb hr hlocks (Or.inl rfl) hf dX10_isLaw_6
/-! ===== SilenceCountModel.doesBow(IIIII)Z ===== -/
abbrev rmX10_doesBow : Room := { frames := 3, cells := 0, slots := 0, locals := 64 }
theorem kkX10_doesBow : yX10_doesBow.cls = RX10 ∧ yX10_doesBow.cls ≠ "java/lang/invoke/MethodHandle" ∧ yX10_doesBow.cls ≠ "java/lang/invoke/VarHandle" ∧ (parseMethodDescriptor yX10_doesBow.desc).map (fun d => d.parameters.length) = some 5 := by decide +kernel
theorem mX10_doesBow_f7 : Cond.fieldLink RX10 7 "SilenceCountModel" "count" "[I" ∈ wsX10_doesBow := by decide +kernel
theorem mX10_doesBow_f13 : Cond.fieldLink RX10 13 "SilenceCountModel" "pace" "[I" ∈ wsX10_doesBow := by decide +kernel
theorem wX10_doesBow_X10 : ∀ w ∈ u_ws RX10 TX10 19, w ∈ wsX10_doesBow := by decide +kernel
def bX10_doesBow_42 (t_pace : Nat → Int32) (a1 : Int32) (a2 : Int32) (a3 : Int32) (s0 : Int32) : Option (Int32) :=
  gIn a2 8 (if (s0 - (a3 * (t_pace (a2 : Int32).toNatClampNeg))) ≤ 0 then some 0 else (fX10_isLaw a1 (s0 - (a3 * (t_pace (a2 : Int32).toNatClampNeg)))).bind fun r61 => if r61 = 0 then some 0 else some 1)
set_option maxRecDepth 100000 in
set_option maxHeartbeats 4000000 in
theorem BX10_doesBow_42 {p : Program} {l : Launch} {e : Env} {s : State} {m : MethodId} {below : List Frame} {meth : Method} {c : Code} {D : va_G} {ty : TY} {A_t A_t_count A_t_pace A_t_sight A_t_pad A_t_now A_t_image A_t_isKept : Nat} {t_there : Int32} {t_awake : Int32} {t_house : Int32} {t_sharp : Int32} {t_sights : Int32} {t_signs : Int32} {t_up : Int32} {t_reason : Int32} {t_acts : Int32} {t_breaths : Int32} {t_zeroAt : Int32} {t_noticedAt : Int32} {t_count : Nat → Int32} {t_pace : Nat → Int32} {t_sight : Nat → Int32} {t_pad : Nat → Int32} {t_now : Nat → Int32} {t_image : Nat → Int32} {t_isKept : Nat → Int32} {a1 : Int32} {a2 : Int32} {a3 : Int32} {a4 : Int32} {a5 : Int32} {q0 : Int32} (C : cx p s m [.ref A_t, .int a1, .int a2, .int a3, .int a4, .int a5] meth c cX10_doesBow 8 (some .boolean) RX10 wsX10_doesBow) (hK : KK D ty s) (hP : va_P D vwCl [(A_t, .inr (9, [.int t_there, .int t_awake, .ref A_t_count, .ref A_t_pace, .int t_house, .int t_sharp, .int t_sights, .ref A_t_sight, .int t_signs, .ref A_t_pad, .int t_up, .ref A_t_now, .int t_reason, .int t_acts, .int t_breaths, .int t_zeroAt, .int t_noticedAt, .ref A_t_image, .ref A_t_isKept])), (A_t_count, .inl (ty.1, 8, .inl t_count)), (A_t_pace, .inl (ty.1, 8, .inl t_pace)), (A_t_sight, .inl (ty.1, 24, .inl t_sight)), (A_t_pad, .inl (ty.1, 60, .inl t_pad)), (A_t_now, .inl (ty.1, 8, .inl t_now)), (A_t_image, .inl (ty.1, 120, .inl t_image)), (A_t_isKept, .inl (ty.2.2.1, 2, .inl t_isKept))] s.heap)   {s0 : Int32} {ls : Array Slot} (hl : lv_has ls 8 [(0, .ref A_t), (1, .int a1), (2, .int a2), (3, .int a3)]) (hf : bX10_doesBow_42 t_pace a1 a2 a3 s0 = some q0) : WRi p l e rmX10_doesBow s m [.ref A_t, .int a1, .int a2, .int a3, .int a4, .int a5] below meth c q0 (F0 m 42 ls [.int s0]) := by
  obtain ⟨hx, hb, hr, hml, hown, hts, hlocks⟩ := id C
  unfold bX10_doesBow_42 at hf
  refine lv_iload_n hx hb dX10_doesBow_42 rfl (lv_at hl 3 rfl) ?_
  refine lv_aload_n hx hb dX10_doesBow_43 rfl (lv_at hl 0 rfl) ?_
  refine va_get (D := D) (ci := 9) (v := .ref A_t_pace) (C := RX10) (T := TX10) (N := 19) hx hb hts wX10_doesBow_X10 hown hK.1 hP 0 rfl rfl 3 (by decide) (hts _ mX10_doesBow_f13) (fun _ h9 => h9) rfl dX10_doesBow_44 ?_
  refine lv_iload_n hx hb dX10_doesBow_47 rfl (lv_at hl 2 rfl) ?_
  obtain ⟨hin, hf⟩ := gIn_some hf
  refine va_iald hx hb hK.1 hP 2 0 rfl rfl hin dX10_doesBow_48 ?_
  refine lv_imul hx hb dX10_doesBow_49 ?_
  refine lv_isub hx hb dX10_doesBow_50 ?_
  refine lv_istore (lv' := [(7, .int (s0 - (a3 * (t_pace (a2 : Int32).toNatClampNeg)))), (0, .ref A_t), (1, .int a1), (2, .int a2), (3, .int a3)]) hx hb dX10_doesBow_51 hl (by decide) rfl (fun ls hl => ?_)
  refine lv_iload hx hb dX10_doesBow_53 (lv_at hl 0 rfl) ?_
  refine lv_if_le (tgt := 71) hx hb dX10_doesBow_55 (by decide) (fun hc => ?_) (fun hc => ?_)
  · have hf := ft hf hc
    refine lv_iconst (v := 0) hx hb dX10_doesBow_71 (by decide) ?_
    exact ret_rz hx hb hr hlocks (Or.inl rfl) hf dX10_doesBow_72
  · have hf := ff hf hc
    refine lv_iload_n hx hb dX10_doesBow_58 rfl (lv_at hl 2 rfl) ?_
    refine lv_iload hx hb dX10_doesBow_59 (lv_at hl 0 rfl) ?_
    obtain ⟨r61, hr61, hf⟩ := bnd hf
    have hPc : va_P D vwCl [] _ := hP.sub [] rfl
    refine callS_ri (As := [.int a1, .int (s0 - (a3 * (t_pace (a2 : Int32).toNatClampNeg)))]) (rest := []) ⟨hx, hb, hml, hown, hts⟩ (CX10_isLaw l hr61) (va_cwS 2 hts gX10_doesBow_X10_isLaw rfl rfl rfl kkX10_isLaw.2 ⟨Nat.le_of_ble_eq_true rfl, Nat.le_of_ble_eq_true rfl⟩) hK hPc hl.1 rfl (Nat.le_of_ble_eq_true rfl) dX10_doesBow_61 ⟨Nat.zero_le _, Nat.zero_le _⟩ ?_
    refine lv_if_eq (tgt := 71) hx hb dX10_doesBow_64 (by decide) (fun hc => ?_) (fun hc => ?_)
    · have hf := ft hf hc
      refine lv_iconst (v := 0) hx hb dX10_doesBow_71 (by decide) ?_
      exact ret_rz hx hb hr hlocks (Or.inl rfl) hf dX10_doesBow_72
    · have hf := ff hf hc
      refine lv_iconst (v := 1) hx hb dX10_doesBow_67 (by decide) ?_
      refine lv_goto (tgt := 72) hx hb dX10_doesBow_68 (by decide) ?_
      exact ret_rz hx hb hr hlocks (Or.inr rfl) hf dX10_doesBow_72
def bX10_doesBow_28 (t_pace : Nat → Int32) (a1 : Int32) (a2 : Int32) (a3 : Int32) (s0 : Int32) (s1 : Int32) : Option (Int32) :=
  if (s1 - s0) ≤ 0 then bX10_doesBow_42 t_pace a1 a2 a3 0 else bX10_doesBow_42 t_pace a1 a2 a3 (s1 - s0)
set_option maxRecDepth 100000 in
set_option maxHeartbeats 4000000 in
theorem BX10_doesBow_28 {p : Program} {l : Launch} {e : Env} {s : State} {m : MethodId} {below : List Frame} {meth : Method} {c : Code} {D : va_G} {ty : TY} {A_t A_t_count A_t_pace A_t_sight A_t_pad A_t_now A_t_image A_t_isKept : Nat} {t_there : Int32} {t_awake : Int32} {t_house : Int32} {t_sharp : Int32} {t_sights : Int32} {t_signs : Int32} {t_up : Int32} {t_reason : Int32} {t_acts : Int32} {t_breaths : Int32} {t_zeroAt : Int32} {t_noticedAt : Int32} {t_count : Nat → Int32} {t_pace : Nat → Int32} {t_sight : Nat → Int32} {t_pad : Nat → Int32} {t_now : Nat → Int32} {t_image : Nat → Int32} {t_isKept : Nat → Int32} {a1 : Int32} {a2 : Int32} {a3 : Int32} {a4 : Int32} {a5 : Int32} {q0 : Int32} (C : cx p s m [.ref A_t, .int a1, .int a2, .int a3, .int a4, .int a5] meth c cX10_doesBow 8 (some .boolean) RX10 wsX10_doesBow) (hK : KK D ty s) (hP : va_P D vwCl [(A_t, .inr (9, [.int t_there, .int t_awake, .ref A_t_count, .ref A_t_pace, .int t_house, .int t_sharp, .int t_sights, .ref A_t_sight, .int t_signs, .ref A_t_pad, .int t_up, .ref A_t_now, .int t_reason, .int t_acts, .int t_breaths, .int t_zeroAt, .int t_noticedAt, .ref A_t_image, .ref A_t_isKept])), (A_t_count, .inl (ty.1, 8, .inl t_count)), (A_t_pace, .inl (ty.1, 8, .inl t_pace)), (A_t_sight, .inl (ty.1, 24, .inl t_sight)), (A_t_pad, .inl (ty.1, 60, .inl t_pad)), (A_t_now, .inl (ty.1, 8, .inl t_now)), (A_t_image, .inl (ty.1, 120, .inl t_image)), (A_t_isKept, .inl (ty.2.2.1, 2, .inl t_isKept))] s.heap)   {s0 : Int32} {s1 : Int32} {ls : Array Slot} (hl : lv_has ls 8 [(0, .ref A_t), (1, .int a1), (2, .int a2), (3, .int a3)]) (hf : bX10_doesBow_28 t_pace a1 a2 a3 s0 s1 = some q0) : WRi p l e rmX10_doesBow s m [.ref A_t, .int a1, .int a2, .int a3, .int a4, .int a5] below meth c q0 (F0 m 28 ls [.int s0, .int s1]) := by
  obtain ⟨hx, hb, hr, hml, hown, hts, hlocks⟩ := id C
  unfold bX10_doesBow_28 at hf
  refine lv_isub hx hb dX10_doesBow_28 ?_
  refine lv_istore (lv' := [(6, .int (s1 - s0)), (0, .ref A_t), (1, .int a1), (2, .int a2), (3, .int a3)]) hx hb dX10_doesBow_29 hl (by decide) rfl (fun ls hl => ?_)
  refine lv_iload hx hb dX10_doesBow_31 (lv_at hl 0 rfl) ?_
  refine lv_if_le (tgt := 41) hx hb dX10_doesBow_33 (by decide) (fun hc => ?_) (fun hc => ?_)
  · have hf := ft hf hc
    refine lv_iconst (v := 0) hx hb dX10_doesBow_41 (by decide) ?_
    exact BX10_doesBow_42 C hK hP  (lv_sub hl [1, 2, 3, 4] rfl) hf
  · have hf := ff hf hc
    refine lv_iload hx hb dX10_doesBow_36 (lv_at hl 0 rfl) ?_
    refine lv_goto (tgt := 42) hx hb dX10_doesBow_38 (by decide) ?_
    exact BX10_doesBow_42 C hK hP  (lv_sub hl [1, 2, 3, 4] rfl) hf
def fX10_doesBow (t_there : Int32) (t_awake : Int32) (t_count : Nat → Int32) (t_pace : Nat → Int32) (a1 : Int32) (a2 : Int32) (a3 : Int32) (a4 : Int32) (a5 : Int32) : Option (Int32) :=
  (fX10_isAwake t_there t_awake a2).bind fun r2 => if r2 = 0 then some 0 else gIn a2 8 (if a2 = a4 then bX10_doesBow_28 t_pace a1 a2 a3 a5 (t_count (a2 : Int32).toNatClampNeg) else bX10_doesBow_28 t_pace a1 a2 a3 0 (t_count (a2 : Int32).toNatClampNeg))
set_option maxRecDepth 100000 in
set_option maxHeartbeats 4000000 in
theorem CX10_doesBow (l : Launch) {D : va_G} {ty : TY} {A_t A_t_count A_t_pace A_t_sight A_t_pad A_t_now A_t_image A_t_isKept : Nat} {t_there : Int32} {t_awake : Int32} {t_house : Int32} {t_sharp : Int32} {t_sights : Int32} {t_signs : Int32} {t_up : Int32} {t_reason : Int32} {t_acts : Int32} {t_breaths : Int32} {t_zeroAt : Int32} {t_noticedAt : Int32} {t_count : Nat → Int32} {t_pace : Nat → Int32} {t_sight : Nat → Int32} {t_pad : Nat → Int32} {t_now : Nat → Int32} {t_image : Nat → Int32} {t_isKept : Nat → Int32} {a1 : Int32} {a2 : Int32} {a3 : Int32} {a4 : Int32} {a5 : Int32} {q0 : Int32} (hf : fX10_doesBow t_there t_awake t_count t_pace a1 a2 a3 a4 a5 = some q0) : ROi l yX10_doesBow wsX10_doesBow rmX10_doesBow D ty [.ref A_t, .int a1, .int a2, .int a3, .int a4, .int a5] [(A_t, .inr (9, [.int t_there, .int t_awake, .ref A_t_count, .ref A_t_pace, .int t_house, .int t_sharp, .int t_sights, .ref A_t_sight, .int t_signs, .ref A_t_pad, .int t_up, .ref A_t_now, .int t_reason, .int t_acts, .int t_breaths, .int t_zeroAt, .int t_noticedAt, .ref A_t_image, .ref A_t_isKept])), (A_t_count, .inl (ty.1, 8, .inl t_count)), (A_t_pace, .inl (ty.1, 8, .inl t_pace)), (A_t_sight, .inl (ty.1, 24, .inl t_sight)), (A_t_pad, .inl (ty.1, 60, .inl t_pad)), (A_t_now, .inl (ty.1, 8, .inl t_now)), (A_t_image, .inl (ty.1, 120, .inl t_image)), (A_t_isKept, .inl (ty.2.2.1, 2, .inl t_isKept))] q0 := by
  refine ROi.start (cc := cX10_doesBow) (maxL := 8) (ret := (some .boolean)) (own := RX10) (by decide) rfl rfl (Nat.le_of_ble_eq_true rfl) ?_
  intro p e s m below meth c ls C hK hP hl
  obtain ⟨hx, hb, hr, hml, hown, hts, hlocks⟩ := id C
  have hl : lv_has ls 8 [(0, .ref A_t), (1, .int a1), (2, .int a2), (3, .int a3), (4, .int a4), (5, .int a5)] := hl
  unfold fX10_doesBow at hf
  refine lv_aload_n hx hb dX10_doesBow_0 rfl (lv_at hl 0 rfl) ?_
  refine lv_iload_n hx hb dX10_doesBow_1 rfl (lv_at hl 2 rfl) ?_
  obtain ⟨r2, hr2, hf⟩ := bnd hf
  refine callV_ri (As := [.int a2]) (rest := []) ⟨hx, hb, hml, hown, hts⟩ (CX10_isAwake l hr2) (cwV 1 hts gX10_doesBow_X10_isAwake rfl rfl rfl kkX10_isAwake ⟨Nat.le_of_ble_eq_true rfl, Nat.le_of_ble_eq_true rfl⟩) hK hP 0 rfl rfl rfl hl.1 rfl (Nat.le_of_ble_eq_true rfl) dX10_doesBow_2 ⟨Nat.zero_le _, Nat.zero_le _⟩ ?_
  refine lv_if_ne (tgt := 10) hx hb dX10_doesBow_5 (by decide) (fun hc => ?_) (fun hc => ?_)
  · have hf := ff hf hc
    refine lv_aload_n hx hb dX10_doesBow_10 rfl (lv_at hl 0 rfl) ?_
    refine va_get (D := D) (ci := 9) (v := .ref A_t_count) (C := RX10) (T := TX10) (N := 19) hx hb hts wX10_doesBow_X10 hown hK.1 hP 0 rfl rfl 2 (by decide) (hts _ mX10_doesBow_f7) (fun _ h9 => h9) rfl dX10_doesBow_11 ?_
    refine lv_iload_n hx hb dX10_doesBow_14 rfl (lv_at hl 2 rfl) ?_
    obtain ⟨hin, hf⟩ := gIn_some hf
    refine va_iald hx hb hK.1 hP 1 0 rfl rfl hin dX10_doesBow_15 ?_
    refine lv_iload_n hx hb dX10_doesBow_16 rfl (lv_at hl 2 rfl) ?_
    refine lv_iload hx hb dX10_doesBow_17 (lv_at hl 4 rfl) ?_
    refine lv_icmp_ne (tgt := 27) hx hb dX10_doesBow_19 (by decide) (fun hc => ?_) (fun hc => ?_)
    · have hf := ff hf hc
      refine lv_iconst (v := 0) hx hb dX10_doesBow_27 (by decide) ?_
      exact BX10_doesBow_28 C hK hP  (lv_sub hl [0, 1, 2, 3] rfl) hf
    · have hf := ft hf hc
      refine lv_iload hx hb dX10_doesBow_22 (lv_at hl 5 rfl) ?_
      refine lv_goto (tgt := 28) hx hb dX10_doesBow_24 (by decide) ?_
      exact BX10_doesBow_28 C hK hP  (lv_sub hl [0, 1, 2, 3] rfl) hf
  · have hf := ft hf hc
    refine lv_iconst (v := 0) hx hb dX10_doesBow_8 (by decide) ?_
    exact ret_rz hx hb hr hlocks (Or.inl rfl) hf dX10_doesBow_9
/-! ===== SilenceCountModel.isWorld(III)Z ===== -/
abbrev rmX10_isWorld : Room := { frames := 4, cells := 0, slots := 0, locals := 91 }
theorem kkX10_isWorld : yX10_isWorld.cls = RX10 ∧ yX10_isWorld.cls ≠ "java/lang/invoke/MethodHandle" ∧ yX10_isWorld.cls ≠ "java/lang/invoke/VarHandle" ∧ (parseMethodDescriptor yX10_isWorld.desc).map (fun d => d.parameters.length) = some 3 := by decide +kernel
theorem mX10_isWorld_f158 : Cond.fieldLink RX10 158 "SilenceCountModel" "sights" "I" ∈ wsX10_isWorld := by decide +kernel
theorem mX10_isWorld_f24 : Cond.fieldLink RX10 24 "SilenceCountModel" "sight" "[I" ∈ wsX10_isWorld := by decide +kernel
theorem wX10_isWorld_X10 : ∀ w ∈ u_ws RX10 TX10 19, w ∈ wsX10_isWorld := by decide +kernel
def bX10_isWorld_67 (k6 : Int32 × Int32 → Option (Int32)) (v5 : Int32) (s0 : Int32) (s1 : Int32) : Option (Int32) :=
  if s1 = s0 then k6 (1, v5 + 1) else k6 (0, v5 + 1)
set_option maxRecDepth 100000 in
set_option maxHeartbeats 4000000 in
theorem BX10_isWorld_67 {p : Program} {l : Launch} {e : Env} {s : State} {m : MethodId} {below : List Frame} {meth : Method} {c : Code} {D : va_G} {ty : TY} {A_t A_t_count A_t_pace A_t_sight A_t_pad A_t_now A_t_image A_t_isKept : Nat} {t_there : Int32} {t_awake : Int32} {t_house : Int32} {t_sharp : Int32} {t_sights : Int32} {t_signs : Int32} {t_up : Int32} {t_reason : Int32} {t_acts : Int32} {t_breaths : Int32} {t_zeroAt : Int32} {t_noticedAt : Int32} {t_count : Nat → Int32} {t_pace : Nat → Int32} {t_sight : Nat → Int32} {t_pad : Nat → Int32} {t_now : Nat → Int32} {t_image : Nat → Int32} {t_isKept : Nat → Int32} {a1 : Int32} {a2 : Int32} {a3 : Int32} {q0 : Int32} (C : cx p s m [.ref A_t, .int a1, .int a2, .int a3] meth c cX10_isWorld 6 (some .boolean) RX10 wsX10_isWorld) (hK : KK D ty s) (hP : va_P D vwCl [(A_t, .inr (9, [.int t_there, .int t_awake, .ref A_t_count, .ref A_t_pace, .int t_house, .int t_sharp, .int t_sights, .ref A_t_sight, .int t_signs, .ref A_t_pad, .int t_up, .ref A_t_now, .int t_reason, .int t_acts, .int t_breaths, .int t_zeroAt, .int t_noticedAt, .ref A_t_image, .ref A_t_isKept])), (A_t_count, .inl (ty.1, 8, .inl t_count)), (A_t_pace, .inl (ty.1, 8, .inl t_pace)), (A_t_sight, .inl (ty.1, 24, .inl t_sight)), (A_t_pad, .inl (ty.1, 60, .inl t_pad)), (A_t_now, .inl (ty.1, 8, .inl t_now)), (A_t_image, .inl (ty.1, 120, .inl t_image)), (A_t_isKept, .inl (ty.2.2.1, 2, .inl t_isKept))] s.heap) {k6 : Int32 × Int32 → Option (Int32)} (hk6 : ∀ (v4 : Int32) (v5 : Int32) (ls : Array Slot), lv_has ls 6 [(0, .ref A_t), (1, .int a1), (2, .int a2), (3, .int a3), (4, .int v4), (5, .int v5)] → k6 (v4, v5) = some q0 → WRi p l e rmX10_isWorld s m [.ref A_t, .int a1, .int a2, .int a3] below meth c q0 (F0 m 6 ls [])) {v5 : Int32} {s0 : Int32} {s1 : Int32} {ls : Array Slot} (hl : lv_has ls 6 [(0, .ref A_t), (1, .int a1), (2, .int a2), (3, .int a3), (5, .int v5)]) (hf : bX10_isWorld_67 k6 v5 s0 s1 = some q0) : WRi p l e rmX10_isWorld s m [.ref A_t, .int a1, .int a2, .int a3] below meth c q0 (F0 m 67 ls [.int s0, .int s1]) := by
  obtain ⟨hx, hb, hr, hml, hown, hts, hlocks⟩ := id C
  unfold bX10_isWorld_67 at hf
  refine lv_icmp_ne (tgt := 74) hx hb dX10_isWorld_67 (by decide) (fun hc => ?_) (fun hc => ?_)
  · have hf := ff hf hc
    refine lv_iconst (v := 0) hx hb dX10_isWorld_74 (by decide) ?_
    refine lv_istore (lv' := [(4, .int 0), (0, .ref A_t), (1, .int a1), (2, .int a2), (3, .int a3), (5, .int v5)]) hx hb dX10_isWorld_75 hl (by decide) rfl (fun ls hl => ?_)
    refine lv_iinc (v := v5 + 1) (lv' := [(5, .int (v5 + 1)), (4, .int 0), (0, .ref A_t), (1, .int a1), (2, .int a2), (3, .int a3)]) hx hb dX10_isWorld_77 hl (k := 5) rfl rfl (by decide) rfl (fun ls hl => ?_)
    refine lv_goto (tgt := 6) hx hb dX10_isWorld_80 (by decide) ?_
    exact hk6 _ _ _ (lv_sub hl [2, 3, 4, 5, 1, 0] rfl) hf
  · have hf := ft hf hc
    refine lv_iconst (v := 1) hx hb dX10_isWorld_70 (by decide) ?_
    refine lv_goto (tgt := 75) hx hb dX10_isWorld_71 (by decide) ?_
    refine lv_istore (lv' := [(4, .int 1), (0, .ref A_t), (1, .int a1), (2, .int a2), (3, .int a3), (5, .int v5)]) hx hb dX10_isWorld_75 hl (by decide) rfl (fun ls hl => ?_)
    refine lv_iinc (v := v5 + 1) (lv' := [(5, .int (v5 + 1)), (4, .int 1), (0, .ref A_t), (1, .int a1), (2, .int a2), (3, .int a3)]) hx hb dX10_isWorld_77 hl (k := 5) rfl rfl (by decide) rfl (fun ls hl => ?_)
    refine lv_goto (tgt := 6) hx hb dX10_isWorld_80 (by decide) ?_
    exact hk6 _ _ _ (lv_sub hl [2, 3, 4, 5, 1, 0] rfl) hf
def bX10_isWorld_6 (k6 : Int32 × Int32 → Option (Int32)) (t_there : Int32) (t_awake : Int32) (t_sights : Int32) (t_count : Nat → Int32) (t_pace : Nat → Int32) (t_sight : Nat → Int32) (a1 : Int32) (a2 : Int32) (a3 : Int32) (v4 : Int32) (v5 : Int32) : Option (Int32) :=
  if t_sights ≤ v5 then gB v4 (some v4) else if v4 = 0 then gB v4 (some v4) else gIn (3 * v5) 24 (gIn ((3 * v5) + 1) 24 ((fX10_doesBow t_there t_awake t_count t_pace a1 (t_sight (3 * v5 : Int32).toNatClampNeg) (t_sight ((3 * v5) + 1 : Int32).toNatClampNeg) a2 a3).bind fun r44 => gIn ((3 * v5) + 2) 24 (if (t_sight ((3 * v5) + 2 : Int32).toNatClampNeg) = 1 then bX10_isWorld_67 k6 v5 1 r44 else bX10_isWorld_67 k6 v5 0 r44)))
set_option maxRecDepth 100000 in
set_option maxHeartbeats 4000000 in
theorem BX10_isWorld_6 {p : Program} {l : Launch} {e : Env} {s : State} {m : MethodId} {below : List Frame} {meth : Method} {c : Code} {D : va_G} {ty : TY} {A_t A_t_count A_t_pace A_t_sight A_t_pad A_t_now A_t_image A_t_isKept : Nat} {t_there : Int32} {t_awake : Int32} {t_house : Int32} {t_sharp : Int32} {t_sights : Int32} {t_signs : Int32} {t_up : Int32} {t_reason : Int32} {t_acts : Int32} {t_breaths : Int32} {t_zeroAt : Int32} {t_noticedAt : Int32} {t_count : Nat → Int32} {t_pace : Nat → Int32} {t_sight : Nat → Int32} {t_pad : Nat → Int32} {t_now : Nat → Int32} {t_image : Nat → Int32} {t_isKept : Nat → Int32} {a1 : Int32} {a2 : Int32} {a3 : Int32} {q0 : Int32} (C : cx p s m [.ref A_t, .int a1, .int a2, .int a3] meth c cX10_isWorld 6 (some .boolean) RX10 wsX10_isWorld) (hK : KK D ty s) (hP : va_P D vwCl [(A_t, .inr (9, [.int t_there, .int t_awake, .ref A_t_count, .ref A_t_pace, .int t_house, .int t_sharp, .int t_sights, .ref A_t_sight, .int t_signs, .ref A_t_pad, .int t_up, .ref A_t_now, .int t_reason, .int t_acts, .int t_breaths, .int t_zeroAt, .int t_noticedAt, .ref A_t_image, .ref A_t_isKept])), (A_t_count, .inl (ty.1, 8, .inl t_count)), (A_t_pace, .inl (ty.1, 8, .inl t_pace)), (A_t_sight, .inl (ty.1, 24, .inl t_sight)), (A_t_pad, .inl (ty.1, 60, .inl t_pad)), (A_t_now, .inl (ty.1, 8, .inl t_now)), (A_t_image, .inl (ty.1, 120, .inl t_image)), (A_t_isKept, .inl (ty.2.2.1, 2, .inl t_isKept))] s.heap)   : ∀ (n : Nat) (v4 : Int32) (v5 : Int32) (ls : Array Slot), lv_has ls 6 [(0, .ref A_t), (1, .int a1), (2, .int a2), (3, .int a3), (4, .int v4), (5, .int v5)] → loopF (fun k q => bX10_isWorld_6 k t_there t_awake t_sights t_count t_pace t_sight a1 a2 a3 q.1 q.2) n (v4, v5) = some q0 → WRi p l e rmX10_isWorld s m [.ref A_t, .int a1, .int a2, .int a3] below meth c q0 (F0 m 6 ls []) := by
  obtain ⟨hx, hb, hr, hml, hown, hts, hlocks⟩ := id C
  intro n
  induction n with
  | zero =>
    intro v4 v5 ls hl hf
    cases hf
  | succ n ih =>
    intro v4 v5 ls hl hf
    have hf : bX10_isWorld_6 (loopF (fun k q => bX10_isWorld_6 k t_there t_awake t_sights t_count t_pace t_sight a1 a2 a3 q.1 q.2) n) t_there t_awake t_sights t_count t_pace t_sight a1 a2 a3 v4 v5 = some q0 := hf
    have hk6 := ih
    unfold bX10_isWorld_6 at hf
    refine lv_iload hx hb dX10_isWorld_6 (lv_at hl 5 rfl) ?_
    refine lv_aload_n hx hb dX10_isWorld_8 rfl (lv_at hl 0 rfl) ?_
    refine va_get (D := D) (ci := 9) (v := .int t_sights) (C := RX10) (T := TX10) (N := 19) hx hb hts wX10_isWorld_X10 hown hK.1 hP 0 rfl rfl 6 (by decide) (hts _ mX10_isWorld_f158) (fun _ h9 => h9) rfl dX10_isWorld_9 ?_
    refine lv_icmp_ge (tgt := 83) hx hb dX10_isWorld_12 (by decide) (fun hc => ?_) (fun hc => ?_)
    · have hf := ft hf hc
      refine lv_iload hx hb dX10_isWorld_83 (lv_at hl 4 rfl) ?_
      obtain ⟨hbv, hf⟩ := gB_some hf
      exact ret_rz hx hb hr hlocks hbv hf dX10_isWorld_85
    · have hf := ff hf hc
      refine lv_iload hx hb dX10_isWorld_15 (lv_at hl 4 rfl) ?_
      refine lv_if_eq (tgt := 83) hx hb dX10_isWorld_17 (by decide) (fun hc => ?_) (fun hc => ?_)
      · have hf := ft hf hc
        refine lv_iload hx hb dX10_isWorld_83 (lv_at hl 4 rfl) ?_
        obtain ⟨hbv, hf⟩ := gB_some hf
        exact ret_rz hx hb hr hlocks hbv hf dX10_isWorld_85
      · have hf := ff hf hc
        refine lv_aload_n hx hb dX10_isWorld_20 rfl (lv_at hl 0 rfl) ?_
        refine lv_iload_n hx hb dX10_isWorld_21 rfl (lv_at hl 1 rfl) ?_
        refine lv_aload_n hx hb dX10_isWorld_22 rfl (lv_at hl 0 rfl) ?_
        refine va_get (D := D) (ci := 9) (v := .ref A_t_sight) (C := RX10) (T := TX10) (N := 19) hx hb hts wX10_isWorld_X10 hown hK.1 hP 0 rfl rfl 7 (by decide) (hts _ mX10_isWorld_f24) (fun _ h9 => h9) rfl dX10_isWorld_23 ?_
        refine lv_iconst (v := 3) hx hb dX10_isWorld_26 (by decide) ?_
        refine lv_iload hx hb dX10_isWorld_27 (lv_at hl 5 rfl) ?_
        refine lv_imul hx hb dX10_isWorld_29 ?_
        obtain ⟨hin, hf⟩ := gIn_some hf
        refine va_iald hx hb hK.1 hP 3 0 rfl rfl hin dX10_isWorld_30 ?_
        refine lv_aload_n hx hb dX10_isWorld_31 rfl (lv_at hl 0 rfl) ?_
        refine va_get (D := D) (ci := 9) (v := .ref A_t_sight) (C := RX10) (T := TX10) (N := 19) hx hb hts wX10_isWorld_X10 hown hK.1 hP 0 rfl rfl 7 (by decide) (hts _ mX10_isWorld_f24) (fun _ h9 => h9) rfl dX10_isWorld_32 ?_
        refine lv_iconst (v := 3) hx hb dX10_isWorld_35 (by decide) ?_
        refine lv_iload hx hb dX10_isWorld_36 (lv_at hl 5 rfl) ?_
        refine lv_imul hx hb dX10_isWorld_38 ?_
        refine lv_iconst (v := 1) hx hb dX10_isWorld_39 (by decide) ?_
        refine lv_iadd hx hb dX10_isWorld_40 ?_
        obtain ⟨hin, hf⟩ := gIn_some hf
        refine va_iald hx hb hK.1 hP 3 0 rfl rfl hin dX10_isWorld_41 ?_
        refine lv_iload_n hx hb dX10_isWorld_42 rfl (lv_at hl 2 rfl) ?_
        refine lv_iload_n hx hb dX10_isWorld_43 rfl (lv_at hl 3 rfl) ?_
        obtain ⟨r44, hr44, hf⟩ := bnd hf
        refine callV_ri (As := [.int a1, .int (t_sight (3 * v5 : Int32).toNatClampNeg), .int (t_sight ((3 * v5) + 1 : Int32).toNatClampNeg), .int a2, .int a3]) (rest := []) ⟨hx, hb, hml, hown, hts⟩ (CX10_doesBow l hr44) (cwV 5 hts gX10_isWorld_X10_doesBow rfl rfl rfl kkX10_doesBow ⟨Nat.le_of_ble_eq_true rfl, Nat.le_of_ble_eq_true rfl⟩) hK hP 0 rfl rfl rfl hl.1 rfl (Nat.le_of_ble_eq_true rfl) dX10_isWorld_44 ⟨Nat.zero_le _, Nat.zero_le _⟩ ?_
        refine lv_aload_n hx hb dX10_isWorld_47 rfl (lv_at hl 0 rfl) ?_
        refine va_get (D := D) (ci := 9) (v := .ref A_t_sight) (C := RX10) (T := TX10) (N := 19) hx hb hts wX10_isWorld_X10 hown hK.1 hP 0 rfl rfl 7 (by decide) (hts _ mX10_isWorld_f24) (fun _ h9 => h9) rfl dX10_isWorld_48 ?_
        refine lv_iconst (v := 3) hx hb dX10_isWorld_51 (by decide) ?_
        refine lv_iload hx hb dX10_isWorld_52 (lv_at hl 5 rfl) ?_
        refine lv_imul hx hb dX10_isWorld_54 ?_
        refine lv_iconst (v := 2) hx hb dX10_isWorld_55 (by decide) ?_
        refine lv_iadd hx hb dX10_isWorld_56 ?_
        obtain ⟨hin, hf⟩ := gIn_some hf
        refine va_iald hx hb hK.1 hP 3 0 rfl rfl hin dX10_isWorld_57 ?_
        refine lv_iconst (v := 1) hx hb dX10_isWorld_58 (by decide) ?_
        refine lv_icmp_ne (tgt := 66) hx hb dX10_isWorld_59 (by decide) (fun hc => ?_) (fun hc => ?_)
        · have hf := ff hf hc
          refine lv_iconst (v := 0) hx hb dX10_isWorld_66 (by decide) ?_
          exact BX10_isWorld_67 C hK hP hk6 (lv_sub hl [0, 1, 2, 3, 5] rfl) hf
        · have hf := ft hf hc
          refine lv_iconst (v := 1) hx hb dX10_isWorld_62 (by decide) ?_
          refine lv_goto (tgt := 67) hx hb dX10_isWorld_63 (by decide) ?_
          exact BX10_isWorld_67 C hK hP hk6 (lv_sub hl [0, 1, 2, 3, 5] rfl) hf
def fX10_isWorld (t_there : Int32) (t_awake : Int32) (t_sights : Int32) (t_count : Nat → Int32) (t_pace : Nat → Int32) (t_sight : Nat → Int32) (a1 : Int32) (a2 : Int32) (a3 : Int32) : Option (Int32) :=
  loopF (fun k q => bX10_isWorld_6 k t_there t_awake t_sights t_count t_pace t_sight a1 a2 a3 q.1 q.2) FU (1, 0)
set_option maxRecDepth 100000 in
set_option maxHeartbeats 4000000 in
theorem CX10_isWorld (l : Launch) {D : va_G} {ty : TY} {A_t A_t_count A_t_pace A_t_sight A_t_pad A_t_now A_t_image A_t_isKept : Nat} {t_there : Int32} {t_awake : Int32} {t_house : Int32} {t_sharp : Int32} {t_sights : Int32} {t_signs : Int32} {t_up : Int32} {t_reason : Int32} {t_acts : Int32} {t_breaths : Int32} {t_zeroAt : Int32} {t_noticedAt : Int32} {t_count : Nat → Int32} {t_pace : Nat → Int32} {t_sight : Nat → Int32} {t_pad : Nat → Int32} {t_now : Nat → Int32} {t_image : Nat → Int32} {t_isKept : Nat → Int32} {a1 : Int32} {a2 : Int32} {a3 : Int32} {q0 : Int32} (hf : fX10_isWorld t_there t_awake t_sights t_count t_pace t_sight a1 a2 a3 = some q0) : ROi l yX10_isWorld wsX10_isWorld rmX10_isWorld D ty [.ref A_t, .int a1, .int a2, .int a3] [(A_t, .inr (9, [.int t_there, .int t_awake, .ref A_t_count, .ref A_t_pace, .int t_house, .int t_sharp, .int t_sights, .ref A_t_sight, .int t_signs, .ref A_t_pad, .int t_up, .ref A_t_now, .int t_reason, .int t_acts, .int t_breaths, .int t_zeroAt, .int t_noticedAt, .ref A_t_image, .ref A_t_isKept])), (A_t_count, .inl (ty.1, 8, .inl t_count)), (A_t_pace, .inl (ty.1, 8, .inl t_pace)), (A_t_sight, .inl (ty.1, 24, .inl t_sight)), (A_t_pad, .inl (ty.1, 60, .inl t_pad)), (A_t_now, .inl (ty.1, 8, .inl t_now)), (A_t_image, .inl (ty.1, 120, .inl t_image)), (A_t_isKept, .inl (ty.2.2.1, 2, .inl t_isKept))] q0 := by
  refine ROi.start (cc := cX10_isWorld) (maxL := 6) (ret := (some .boolean)) (own := RX10) (by decide) rfl rfl (Nat.le_of_ble_eq_true rfl) ?_
  intro p e s m below meth c ls C hK hP hl
  obtain ⟨hx, hb, hr, hml, hown, hts, hlocks⟩ := id C
  have hl : lv_has ls 6 [(0, .ref A_t), (1, .int a1), (2, .int a2), (3, .int a3)] := hl
  unfold fX10_isWorld at hf
  refine lv_iconst (v := 1) hx hb dX10_isWorld_0 (by decide) ?_
  refine lv_istore (lv' := [(4, .int 1), (0, .ref A_t), (1, .int a1), (2, .int a2), (3, .int a3)]) hx hb dX10_isWorld_1 hl (by decide) rfl (fun ls hl => ?_)
  refine lv_iconst (v := 0) hx hb dX10_isWorld_3 (by decide) ?_
  refine lv_istore (lv' := [(5, .int 0), (4, .int 1), (0, .ref A_t), (1, .int a1), (2, .int a2), (3, .int a3)]) hx hb dX10_isWorld_4 hl (by decide) rfl (fun ls hl => ?_)
  exact BX10_isWorld_6 C hK hP  FU _ _ _ (lv_sub hl [2, 3, 4, 5, 1, 0] rfl) hf
/-! ===== SilenceCountModel.ask(III)I ===== -/
abbrev rmX10_ask : Room := { frames := 5, cells := 0, slots := 0, locals := 116 }
theorem kkX10_ask : yX10_ask.cls = RX10 ∧ yX10_ask.cls ≠ "java/lang/invoke/MethodHandle" ∧ yX10_ask.cls ≠ "java/lang/invoke/VarHandle" ∧ (parseMethodDescriptor yX10_ask.desc).map (fun d => d.parameters.length) = some 3 := by decide +kernel
theorem mX10_ask_k75 : Cond.constant RX10 75 (100000000) ∈ wsX10_ask := by decide +kernel
theorem mX10_ask_f55 : Cond.fieldLink RX10 55 "SilenceCountModel" "awake" "I" ∈ wsX10_ask := by decide +kernel
theorem wX10_ask_X10 : ∀ w ∈ u_ws RX10 TX10 19, w ∈ wsX10_ask := by decide +kernel
def bX10_ask_251 (k42 : Int32 × Int32 × Int32 → Option (Int32)) (v5 : Int32) (v6 : Int32) (v9 : Int32) (v10 : Int32) (s0 : Int32) : Option (Int32) :=
  if v10 = 0 then k42 (s0, v5, v6 + 1) else k42 (s0, v9, v6 + 1)
set_option maxRecDepth 100000 in
set_option maxHeartbeats 4000000 in
theorem BX10_ask_251 {p : Program} {l : Launch} {e : Env} {s : State} {m : MethodId} {below : List Frame} {meth : Method} {c : Code} {D : va_G} {ty : TY} {A_t A_t_count A_t_pace A_t_sight A_t_pad A_t_now A_t_image A_t_isKept : Nat} {t_there : Int32} {t_awake : Int32} {t_house : Int32} {t_sharp : Int32} {t_sights : Int32} {t_signs : Int32} {t_up : Int32} {t_reason : Int32} {t_acts : Int32} {t_breaths : Int32} {t_zeroAt : Int32} {t_noticedAt : Int32} {t_count : Nat → Int32} {t_pace : Nat → Int32} {t_sight : Nat → Int32} {t_pad : Nat → Int32} {t_now : Nat → Int32} {t_image : Nat → Int32} {t_isKept : Nat → Int32} {a1 : Int32} {a2 : Int32} {a3 : Int32} {q0 : Int32} (C : cx p s m [.ref A_t, .int a1, .int a2, .int a3] meth c cX10_ask 12 (some .int) RX10 wsX10_ask) (hK : KK D ty s) (hP : va_P D vwCl [(A_t, .inr (9, [.int t_there, .int t_awake, .ref A_t_count, .ref A_t_pace, .int t_house, .int t_sharp, .int t_sights, .ref A_t_sight, .int t_signs, .ref A_t_pad, .int t_up, .ref A_t_now, .int t_reason, .int t_acts, .int t_breaths, .int t_zeroAt, .int t_noticedAt, .ref A_t_image, .ref A_t_isKept])), (A_t_count, .inl (ty.1, 8, .inl t_count)), (A_t_pace, .inl (ty.1, 8, .inl t_pace)), (A_t_sight, .inl (ty.1, 24, .inl t_sight)), (A_t_pad, .inl (ty.1, 60, .inl t_pad)), (A_t_now, .inl (ty.1, 8, .inl t_now)), (A_t_image, .inl (ty.1, 120, .inl t_image)), (A_t_isKept, .inl (ty.2.2.1, 2, .inl t_isKept))] s.heap) {k42 : Int32 × Int32 × Int32 → Option (Int32)} (hk42 : ∀ (v4 : Int32) (v5 : Int32) (v6 : Int32) (ls : Array Slot), lv_has ls 12 [(0, .ref A_t), (1, .int a1), (2, .int a2), (3, .int a3), (4, .int v4), (5, .int v5), (6, .int v6)] → k42 (v4, v5, v6) = some q0 → WRi p l e rmX10_ask s m [.ref A_t, .int a1, .int a2, .int a3] below meth c q0 (F0 m 42 ls [])) {v5 : Int32} {v6 : Int32} {v9 : Int32} {v10 : Int32} {s0 : Int32} {ls : Array Slot} (hl : lv_has ls 12 [(0, .ref A_t), (1, .int a1), (2, .int a2), (3, .int a3), (5, .int v5), (6, .int v6), (9, .int v9), (10, .int v10)]) (hf : bX10_ask_251 k42 v5 v6 v9 v10 s0 = some q0) : WRi p l e rmX10_ask s m [.ref A_t, .int a1, .int a2, .int a3] below meth c q0 (F0 m 251 ls [.int s0]) := by
  obtain ⟨hx, hb, hr, hml, hown, hts, hlocks⟩ := id C
  unfold bX10_ask_251 at hf
  refine lv_istore (lv' := [(4, .int s0), (0, .ref A_t), (1, .int a1), (2, .int a2), (3, .int a3), (5, .int v5), (6, .int v6), (9, .int v9), (10, .int v10)]) hx hb dX10_ask_251 hl (by decide) rfl (fun ls hl => ?_)
  refine lv_iload hx hb dX10_ask_253 (lv_at hl 8 rfl) ?_
  refine lv_if_eq (tgt := 263) hx hb dX10_ask_255 (by decide) (fun hc => ?_) (fun hc => ?_)
  · have hf := ft hf hc
    refine lv_iload hx hb dX10_ask_263 (lv_at hl 5 rfl) ?_
    refine lv_istore (lv' := [(5, .int v5), (4, .int s0), (0, .ref A_t), (1, .int a1), (2, .int a2), (3, .int a3), (6, .int v6), (9, .int v9), (10, .int v10)]) hx hb dX10_ask_265 hl (by decide) rfl (fun ls hl => ?_)
    refine lv_iinc (v := v6 + 1) (lv' := [(6, .int (v6 + 1)), (5, .int v5), (4, .int s0), (0, .ref A_t), (1, .int a1), (2, .int a2), (3, .int a3), (9, .int v9), (10, .int v10)]) hx hb dX10_ask_267 hl (k := 6) rfl rfl (by decide) rfl (fun ls hl => ?_)
    refine lv_goto (tgt := 42) hx hb dX10_ask_270 (by decide) ?_
    exact hk42 _ _ _ _ (lv_sub hl [3, 4, 5, 6, 2, 1, 0] rfl) hf
  · have hf := ff hf hc
    refine lv_iload hx hb dX10_ask_258 (lv_at hl 7 rfl) ?_
    refine lv_goto (tgt := 265) hx hb dX10_ask_260 (by decide) ?_
    refine lv_istore (lv' := [(5, .int v9), (4, .int s0), (0, .ref A_t), (1, .int a1), (2, .int a2), (3, .int a3), (6, .int v6), (9, .int v9), (10, .int v10)]) hx hb dX10_ask_265 hl (by decide) rfl (fun ls hl => ?_)
    refine lv_iinc (v := v6 + 1) (lv' := [(6, .int (v6 + 1)), (5, .int v9), (4, .int s0), (0, .ref A_t), (1, .int a1), (2, .int a2), (3, .int a3), (9, .int v9), (10, .int v10)]) hx hb dX10_ask_267 hl (k := 6) rfl rfl (by decide) rfl (fun ls hl => ?_)
    refine lv_goto (tgt := 42) hx hb dX10_ask_270 (by decide) ?_
    exact hk42 _ _ _ _ (lv_sub hl [3, 4, 5, 6, 2, 1, 0] rfl) hf
def bX10_ask_237 (k42 : Int32 × Int32 × Int32 → Option (Int32)) (v4 : Int32) (v5 : Int32) (v6 : Int32) (v9 : Int32) (s0 : Int32) : Option (Int32) :=
  if s0 = 0 then bX10_ask_251 k42 v5 v6 v9 s0 v4 else bX10_ask_251 k42 v5 v6 v9 s0 v6
set_option maxRecDepth 100000 in
set_option maxHeartbeats 4000000 in
theorem BX10_ask_237 {p : Program} {l : Launch} {e : Env} {s : State} {m : MethodId} {below : List Frame} {meth : Method} {c : Code} {D : va_G} {ty : TY} {A_t A_t_count A_t_pace A_t_sight A_t_pad A_t_now A_t_image A_t_isKept : Nat} {t_there : Int32} {t_awake : Int32} {t_house : Int32} {t_sharp : Int32} {t_sights : Int32} {t_signs : Int32} {t_up : Int32} {t_reason : Int32} {t_acts : Int32} {t_breaths : Int32} {t_zeroAt : Int32} {t_noticedAt : Int32} {t_count : Nat → Int32} {t_pace : Nat → Int32} {t_sight : Nat → Int32} {t_pad : Nat → Int32} {t_now : Nat → Int32} {t_image : Nat → Int32} {t_isKept : Nat → Int32} {a1 : Int32} {a2 : Int32} {a3 : Int32} {q0 : Int32} (C : cx p s m [.ref A_t, .int a1, .int a2, .int a3] meth c cX10_ask 12 (some .int) RX10 wsX10_ask) (hK : KK D ty s) (hP : va_P D vwCl [(A_t, .inr (9, [.int t_there, .int t_awake, .ref A_t_count, .ref A_t_pace, .int t_house, .int t_sharp, .int t_sights, .ref A_t_sight, .int t_signs, .ref A_t_pad, .int t_up, .ref A_t_now, .int t_reason, .int t_acts, .int t_breaths, .int t_zeroAt, .int t_noticedAt, .ref A_t_image, .ref A_t_isKept])), (A_t_count, .inl (ty.1, 8, .inl t_count)), (A_t_pace, .inl (ty.1, 8, .inl t_pace)), (A_t_sight, .inl (ty.1, 24, .inl t_sight)), (A_t_pad, .inl (ty.1, 60, .inl t_pad)), (A_t_now, .inl (ty.1, 8, .inl t_now)), (A_t_image, .inl (ty.1, 120, .inl t_image)), (A_t_isKept, .inl (ty.2.2.1, 2, .inl t_isKept))] s.heap) {k42 : Int32 × Int32 × Int32 → Option (Int32)} (hk42 : ∀ (v4 : Int32) (v5 : Int32) (v6 : Int32) (ls : Array Slot), lv_has ls 12 [(0, .ref A_t), (1, .int a1), (2, .int a2), (3, .int a3), (4, .int v4), (5, .int v5), (6, .int v6)] → k42 (v4, v5, v6) = some q0 → WRi p l e rmX10_ask s m [.ref A_t, .int a1, .int a2, .int a3] below meth c q0 (F0 m 42 ls [])) {v4 : Int32} {v5 : Int32} {v6 : Int32} {v9 : Int32} {s0 : Int32} {ls : Array Slot} (hl : lv_has ls 12 [(0, .ref A_t), (1, .int a1), (2, .int a2), (3, .int a3), (4, .int v4), (5, .int v5), (6, .int v6), (9, .int v9)]) (hf : bX10_ask_237 k42 v4 v5 v6 v9 s0 = some q0) : WRi p l e rmX10_ask s m [.ref A_t, .int a1, .int a2, .int a3] below meth c q0 (F0 m 237 ls [.int s0]) := by
  obtain ⟨hx, hb, hr, hml, hown, hts, hlocks⟩ := id C
  unfold bX10_ask_237 at hf
  refine lv_istore (lv' := [(10, .int s0), (0, .ref A_t), (1, .int a1), (2, .int a2), (3, .int a3), (4, .int v4), (5, .int v5), (6, .int v6), (9, .int v9)]) hx hb dX10_ask_237 hl (by decide) rfl (fun ls hl => ?_)
  refine lv_iload hx hb dX10_ask_239 (lv_at hl 0 rfl) ?_
  refine lv_if_eq (tgt := 249) hx hb dX10_ask_241 (by decide) (fun hc => ?_) (fun hc => ?_)
  · have hf := ft hf hc
    refine lv_iload hx hb dX10_ask_249 (lv_at hl 5 rfl) ?_
    exact BX10_ask_251 C hK hP hk42 (lv_sub hl [1, 2, 3, 4, 6, 7, 8, 0] rfl) hf
  · have hf := ff hf hc
    refine lv_iload hx hb dX10_ask_244 (lv_at hl 7 rfl) ?_
    refine lv_goto (tgt := 251) hx hb dX10_ask_246 (by decide) ?_
    exact BX10_ask_251 C hK hP hk42 (lv_sub hl [1, 2, 3, 4, 6, 7, 8, 0] rfl) hf
def bX10_ask_206 (k42 : Int32 × Int32 × Int32 → Option (Int32)) (t_awake : Int32) (v4 : Int32) (v5 : Int32) (v6 : Int32) (v8 : Int32) (s0 : Int32) : Option (Int32) :=
  (fX10_has t_awake v6).bind fun r214 => if r214 = 0 then bX10_ask_237 k42 v4 v5 v6 s0 0 else if v8 ≤ 0 then bX10_ask_237 k42 v4 v5 v6 s0 0 else if v5 ≤ s0 then bX10_ask_237 k42 v4 v5 v6 s0 0 else bX10_ask_237 k42 v4 v5 v6 s0 1
set_option maxRecDepth 100000 in
set_option maxHeartbeats 4000000 in
theorem BX10_ask_206 {p : Program} {l : Launch} {e : Env} {s : State} {m : MethodId} {below : List Frame} {meth : Method} {c : Code} {D : va_G} {ty : TY} {A_t A_t_count A_t_pace A_t_sight A_t_pad A_t_now A_t_image A_t_isKept : Nat} {t_there : Int32} {t_awake : Int32} {t_house : Int32} {t_sharp : Int32} {t_sights : Int32} {t_signs : Int32} {t_up : Int32} {t_reason : Int32} {t_acts : Int32} {t_breaths : Int32} {t_zeroAt : Int32} {t_noticedAt : Int32} {t_count : Nat → Int32} {t_pace : Nat → Int32} {t_sight : Nat → Int32} {t_pad : Nat → Int32} {t_now : Nat → Int32} {t_image : Nat → Int32} {t_isKept : Nat → Int32} {a1 : Int32} {a2 : Int32} {a3 : Int32} {q0 : Int32} (C : cx p s m [.ref A_t, .int a1, .int a2, .int a3] meth c cX10_ask 12 (some .int) RX10 wsX10_ask) (hK : KK D ty s) (hP : va_P D vwCl [(A_t, .inr (9, [.int t_there, .int t_awake, .ref A_t_count, .ref A_t_pace, .int t_house, .int t_sharp, .int t_sights, .ref A_t_sight, .int t_signs, .ref A_t_pad, .int t_up, .ref A_t_now, .int t_reason, .int t_acts, .int t_breaths, .int t_zeroAt, .int t_noticedAt, .ref A_t_image, .ref A_t_isKept])), (A_t_count, .inl (ty.1, 8, .inl t_count)), (A_t_pace, .inl (ty.1, 8, .inl t_pace)), (A_t_sight, .inl (ty.1, 24, .inl t_sight)), (A_t_pad, .inl (ty.1, 60, .inl t_pad)), (A_t_now, .inl (ty.1, 8, .inl t_now)), (A_t_image, .inl (ty.1, 120, .inl t_image)), (A_t_isKept, .inl (ty.2.2.1, 2, .inl t_isKept))] s.heap) {k42 : Int32 × Int32 × Int32 → Option (Int32)} (hk42 : ∀ (v4 : Int32) (v5 : Int32) (v6 : Int32) (ls : Array Slot), lv_has ls 12 [(0, .ref A_t), (1, .int a1), (2, .int a2), (3, .int a3), (4, .int v4), (5, .int v5), (6, .int v6)] → k42 (v4, v5, v6) = some q0 → WRi p l e rmX10_ask s m [.ref A_t, .int a1, .int a2, .int a3] below meth c q0 (F0 m 42 ls [])) {v4 : Int32} {v5 : Int32} {v6 : Int32} {v8 : Int32} {s0 : Int32} {ls : Array Slot} (hl : lv_has ls 12 [(0, .ref A_t), (1, .int a1), (2, .int a2), (3, .int a3), (4, .int v4), (5, .int v5), (6, .int v6), (8, .int v8)]) (hf : bX10_ask_206 k42 t_awake v4 v5 v6 v8 s0 = some q0) : WRi p l e rmX10_ask s m [.ref A_t, .int a1, .int a2, .int a3] below meth c q0 (F0 m 206 ls [.int s0]) := by
  obtain ⟨hx, hb, hr, hml, hown, hts, hlocks⟩ := id C
  unfold bX10_ask_206 at hf
  refine lv_istore (lv' := [(9, .int s0), (0, .ref A_t), (1, .int a1), (2, .int a2), (3, .int a3), (4, .int v4), (5, .int v5), (6, .int v6), (8, .int v8)]) hx hb dX10_ask_206 hl (by decide) rfl (fun ls hl => ?_)
  refine lv_aload_n hx hb dX10_ask_208 rfl (lv_at hl 1 rfl) ?_
  refine va_get (D := D) (ci := 9) (v := .int t_awake) (C := RX10) (T := TX10) (N := 19) hx hb hts wX10_ask_X10 hown hK.1 hP 0 rfl rfl 1 (by decide) (hts _ mX10_ask_f55) (fun _ h9 => h9) rfl dX10_ask_209 ?_
  refine lv_iload hx hb dX10_ask_212 (lv_at hl 7 rfl) ?_
  obtain ⟨r214, hr214, hf⟩ := bnd hf
  have hPc : va_P D vwCl [] _ := hP.sub [] rfl
  refine callS_ri (As := [.int t_awake, .int v6]) (rest := []) ⟨hx, hb, hml, hown, hts⟩ (CX10_has l hr214) (va_cwS 2 hts gX10_ask_X10_has rfl rfl rfl kkX10_has.2 ⟨Nat.le_of_ble_eq_true rfl, Nat.le_of_ble_eq_true rfl⟩) hK hPc hl.1 rfl (Nat.le_of_ble_eq_true rfl) dX10_ask_214 ⟨Nat.zero_le _, Nat.zero_le _⟩ ?_
  refine lv_if_eq (tgt := 236) hx hb dX10_ask_217 (by decide) (fun hc => ?_) (fun hc => ?_)
  · have hf := ft hf hc
    refine lv_iconst (v := 0) hx hb dX10_ask_236 (by decide) ?_
    exact BX10_ask_237 C hK hP hk42 (lv_sub hl [1, 2, 3, 4, 5, 6, 7, 0] rfl) hf
  · have hf := ff hf hc
    refine lv_iload hx hb dX10_ask_220 (lv_at hl 8 rfl) ?_
    refine lv_if_le (tgt := 236) hx hb dX10_ask_222 (by decide) (fun hc => ?_) (fun hc => ?_)
    · have hf := ft hf hc
      refine lv_iconst (v := 0) hx hb dX10_ask_236 (by decide) ?_
      exact BX10_ask_237 C hK hP hk42 (lv_sub hl [1, 2, 3, 4, 5, 6, 7, 0] rfl) hf
    · have hf := ff hf hc
      refine lv_iload hx hb dX10_ask_225 (lv_at hl 0 rfl) ?_
      refine lv_iload hx hb dX10_ask_227 (lv_at hl 6 rfl) ?_
      refine lv_icmp_ge (tgt := 236) hx hb dX10_ask_229 (by decide) (fun hc => ?_) (fun hc => ?_)
      · have hf := ft hf hc
        refine lv_iconst (v := 0) hx hb dX10_ask_236 (by decide) ?_
        exact BX10_ask_237 C hK hP hk42 (lv_sub hl [1, 2, 3, 4, 5, 6, 7, 0] rfl) hf
      · have hf := ff hf hc
        refine lv_iconst (v := 1) hx hb dX10_ask_232 (by decide) ?_
        refine lv_goto (tgt := 237) hx hb dX10_ask_233 (by decide) ?_
        exact BX10_ask_237 C hK hP hk42 (lv_sub hl [1, 2, 3, 4, 5, 6, 7, 0] rfl) hf
def bX10_ask_171 (k42 : Int32 × Int32 × Int32 → Option (Int32)) (k58 : Int32 × Int32 × Int32 × Int32 × Int32 × Int32 → Option (Int32)) (k77 : Int32 × Int32 × Int32 × Int32 × Int32 × Int32 × Int32 → Option (Int32)) (v4 : Int32) (v5 : Int32) (v6 : Int32) (v8 : Int32) (v9 : Int32) (v10 : Int32) (s0 : Int32) (s1 : Int32) : Option (Int32) :=
  k77 (v4, v5, v6, s1 + s0, v8, v9, v10 + 1)
set_option maxRecDepth 100000 in
set_option maxHeartbeats 4000000 in
theorem BX10_ask_171 {p : Program} {l : Launch} {e : Env} {s : State} {m : MethodId} {below : List Frame} {meth : Method} {c : Code} {D : va_G} {ty : TY} {A_t A_t_count A_t_pace A_t_sight A_t_pad A_t_now A_t_image A_t_isKept : Nat} {t_there : Int32} {t_awake : Int32} {t_house : Int32} {t_sharp : Int32} {t_sights : Int32} {t_signs : Int32} {t_up : Int32} {t_reason : Int32} {t_acts : Int32} {t_breaths : Int32} {t_zeroAt : Int32} {t_noticedAt : Int32} {t_count : Nat → Int32} {t_pace : Nat → Int32} {t_sight : Nat → Int32} {t_pad : Nat → Int32} {t_now : Nat → Int32} {t_image : Nat → Int32} {t_isKept : Nat → Int32} {a1 : Int32} {a2 : Int32} {a3 : Int32} {q0 : Int32} (C : cx p s m [.ref A_t, .int a1, .int a2, .int a3] meth c cX10_ask 12 (some .int) RX10 wsX10_ask) (hK : KK D ty s) (hP : va_P D vwCl [(A_t, .inr (9, [.int t_there, .int t_awake, .ref A_t_count, .ref A_t_pace, .int t_house, .int t_sharp, .int t_sights, .ref A_t_sight, .int t_signs, .ref A_t_pad, .int t_up, .ref A_t_now, .int t_reason, .int t_acts, .int t_breaths, .int t_zeroAt, .int t_noticedAt, .ref A_t_image, .ref A_t_isKept])), (A_t_count, .inl (ty.1, 8, .inl t_count)), (A_t_pace, .inl (ty.1, 8, .inl t_pace)), (A_t_sight, .inl (ty.1, 24, .inl t_sight)), (A_t_pad, .inl (ty.1, 60, .inl t_pad)), (A_t_now, .inl (ty.1, 8, .inl t_now)), (A_t_image, .inl (ty.1, 120, .inl t_image)), (A_t_isKept, .inl (ty.2.2.1, 2, .inl t_isKept))] s.heap) {k42 : Int32 × Int32 × Int32 → Option (Int32)} {k58 : Int32 × Int32 × Int32 × Int32 × Int32 × Int32 → Option (Int32)} {k77 : Int32 × Int32 × Int32 × Int32 × Int32 × Int32 × Int32 → Option (Int32)} (hk42 : ∀ (v4 : Int32) (v5 : Int32) (v6 : Int32) (ls : Array Slot), lv_has ls 12 [(0, .ref A_t), (1, .int a1), (2, .int a2), (3, .int a3), (4, .int v4), (5, .int v5), (6, .int v6)] → k42 (v4, v5, v6) = some q0 → WRi p l e rmX10_ask s m [.ref A_t, .int a1, .int a2, .int a3] below meth c q0 (F0 m 42 ls [])) (hk58 : ∀ (v4 : Int32) (v5 : Int32) (v6 : Int32) (v7 : Int32) (v8 : Int32) (v9 : Int32) (ls : Array Slot), lv_has ls 12 [(0, .ref A_t), (1, .int a1), (2, .int a2), (3, .int a3), (4, .int v4), (5, .int v5), (6, .int v6), (7, .int v7), (8, .int v8), (9, .int v9)] → k58 (v4, v5, v6, v7, v8, v9) = some q0 → WRi p l e rmX10_ask s m [.ref A_t, .int a1, .int a2, .int a3] below meth c q0 (F0 m 58 ls [])) (hk77 : ∀ (v4 : Int32) (v5 : Int32) (v6 : Int32) (v7 : Int32) (v8 : Int32) (v9 : Int32) (v10 : Int32) (ls : Array Slot), lv_has ls 12 [(0, .ref A_t), (1, .int a1), (2, .int a2), (3, .int a3), (4, .int v4), (5, .int v5), (6, .int v6), (7, .int v7), (8, .int v8), (9, .int v9), (10, .int v10)] → k77 (v4, v5, v6, v7, v8, v9, v10) = some q0 → WRi p l e rmX10_ask s m [.ref A_t, .int a1, .int a2, .int a3] below meth c q0 (F0 m 77 ls [])) {v4 : Int32} {v5 : Int32} {v6 : Int32} {v8 : Int32} {v9 : Int32} {v10 : Int32} {s0 : Int32} {s1 : Int32} {ls : Array Slot} (hl : lv_has ls 12 [(0, .ref A_t), (1, .int a1), (2, .int a2), (3, .int a3), (4, .int v4), (5, .int v5), (6, .int v6), (8, .int v8), (9, .int v9), (10, .int v10)]) (hf : bX10_ask_171 k42 k58 k77 v4 v5 v6 v8 v9 v10 s0 s1 = some q0) : WRi p l e rmX10_ask s m [.ref A_t, .int a1, .int a2, .int a3] below meth c q0 (F0 m 171 ls [.int s0, .int s1]) := by
  obtain ⟨hx, hb, hr, hml, hown, hts, hlocks⟩ := id C
  unfold bX10_ask_171 at hf
  refine lv_iadd hx hb dX10_ask_171 ?_
  refine lv_istore (lv' := [(7, .int (s1 + s0)), (0, .ref A_t), (1, .int a1), (2, .int a2), (3, .int a3), (4, .int v4), (5, .int v5), (6, .int v6), (8, .int v8), (9, .int v9), (10, .int v10)]) hx hb dX10_ask_172 hl (by decide) rfl (fun ls hl => ?_)
  refine lv_iinc (v := v10 + 1) (lv' := [(10, .int (v10 + 1)), (7, .int (s1 + s0)), (0, .ref A_t), (1, .int a1), (2, .int a2), (3, .int a3), (4, .int v4), (5, .int v5), (6, .int v6), (8, .int v8), (9, .int v9)]) hx hb dX10_ask_174 hl (k := 10) rfl rfl (by decide) rfl (fun ls hl => ?_)
  refine lv_goto (tgt := 77) hx hb dX10_ask_177 (by decide) ?_
  exact hk77 _ _ _ _ _ _ _ _ (lv_sub hl [2, 3, 4, 5, 6, 7, 8, 1, 9, 10, 0] rfl) hf
def bX10_ask_141 (k42 : Int32 × Int32 × Int32 → Option (Int32)) (k58 : Int32 × Int32 × Int32 × Int32 × Int32 × Int32 → Option (Int32)) (k77 : Int32 × Int32 × Int32 × Int32 × Int32 × Int32 × Int32 → Option (Int32)) (t_there : Int32) (t_awake : Int32) (t_count : Nat → Int32) (t_pace : Nat → Int32) (a1 : Int32) (a2 : Int32) (v4 : Int32) (v5 : Int32) (v6 : Int32) (v7 : Int32) (v9 : Int32) (v10 : Int32) (v11 : Int32) (s0 : Int32) (s1 : Int32) : Option (Int32) :=
  if v11 = 0 then bX10_ask_171 k42 k58 k77 v4 v5 v6 (s1 + s0) v9 v10 0 v7 else (fX10_doesBow t_there t_awake t_count t_pace a1 v6 a2 v9 v10).bind fun r160 => if r160 = 0 then bX10_ask_171 k42 k58 k77 v4 v5 v6 (s1 + s0) v9 v10 0 v7 else bX10_ask_171 k42 k58 k77 v4 v5 v6 (s1 + s0) v9 v10 1 v7
set_option maxRecDepth 100000 in
set_option maxHeartbeats 4000000 in
theorem BX10_ask_141 {p : Program} {l : Launch} {e : Env} {s : State} {m : MethodId} {below : List Frame} {meth : Method} {c : Code} {D : va_G} {ty : TY} {A_t A_t_count A_t_pace A_t_sight A_t_pad A_t_now A_t_image A_t_isKept : Nat} {t_there : Int32} {t_awake : Int32} {t_house : Int32} {t_sharp : Int32} {t_sights : Int32} {t_signs : Int32} {t_up : Int32} {t_reason : Int32} {t_acts : Int32} {t_breaths : Int32} {t_zeroAt : Int32} {t_noticedAt : Int32} {t_count : Nat → Int32} {t_pace : Nat → Int32} {t_sight : Nat → Int32} {t_pad : Nat → Int32} {t_now : Nat → Int32} {t_image : Nat → Int32} {t_isKept : Nat → Int32} {a1 : Int32} {a2 : Int32} {a3 : Int32} {q0 : Int32} (C : cx p s m [.ref A_t, .int a1, .int a2, .int a3] meth c cX10_ask 12 (some .int) RX10 wsX10_ask) (hK : KK D ty s) (hP : va_P D vwCl [(A_t, .inr (9, [.int t_there, .int t_awake, .ref A_t_count, .ref A_t_pace, .int t_house, .int t_sharp, .int t_sights, .ref A_t_sight, .int t_signs, .ref A_t_pad, .int t_up, .ref A_t_now, .int t_reason, .int t_acts, .int t_breaths, .int t_zeroAt, .int t_noticedAt, .ref A_t_image, .ref A_t_isKept])), (A_t_count, .inl (ty.1, 8, .inl t_count)), (A_t_pace, .inl (ty.1, 8, .inl t_pace)), (A_t_sight, .inl (ty.1, 24, .inl t_sight)), (A_t_pad, .inl (ty.1, 60, .inl t_pad)), (A_t_now, .inl (ty.1, 8, .inl t_now)), (A_t_image, .inl (ty.1, 120, .inl t_image)), (A_t_isKept, .inl (ty.2.2.1, 2, .inl t_isKept))] s.heap) {k42 : Int32 × Int32 × Int32 → Option (Int32)} {k58 : Int32 × Int32 × Int32 × Int32 × Int32 × Int32 → Option (Int32)} {k77 : Int32 × Int32 × Int32 × Int32 × Int32 × Int32 × Int32 → Option (Int32)} (hk42 : ∀ (v4 : Int32) (v5 : Int32) (v6 : Int32) (ls : Array Slot), lv_has ls 12 [(0, .ref A_t), (1, .int a1), (2, .int a2), (3, .int a3), (4, .int v4), (5, .int v5), (6, .int v6)] → k42 (v4, v5, v6) = some q0 → WRi p l e rmX10_ask s m [.ref A_t, .int a1, .int a2, .int a3] below meth c q0 (F0 m 42 ls [])) (hk58 : ∀ (v4 : Int32) (v5 : Int32) (v6 : Int32) (v7 : Int32) (v8 : Int32) (v9 : Int32) (ls : Array Slot), lv_has ls 12 [(0, .ref A_t), (1, .int a1), (2, .int a2), (3, .int a3), (4, .int v4), (5, .int v5), (6, .int v6), (7, .int v7), (8, .int v8), (9, .int v9)] → k58 (v4, v5, v6, v7, v8, v9) = some q0 → WRi p l e rmX10_ask s m [.ref A_t, .int a1, .int a2, .int a3] below meth c q0 (F0 m 58 ls [])) (hk77 : ∀ (v4 : Int32) (v5 : Int32) (v6 : Int32) (v7 : Int32) (v8 : Int32) (v9 : Int32) (v10 : Int32) (ls : Array Slot), lv_has ls 12 [(0, .ref A_t), (1, .int a1), (2, .int a2), (3, .int a3), (4, .int v4), (5, .int v5), (6, .int v6), (7, .int v7), (8, .int v8), (9, .int v9), (10, .int v10)] → k77 (v4, v5, v6, v7, v8, v9, v10) = some q0 → WRi p l e rmX10_ask s m [.ref A_t, .int a1, .int a2, .int a3] below meth c q0 (F0 m 77 ls [])) {v4 : Int32} {v5 : Int32} {v6 : Int32} {v7 : Int32} {v9 : Int32} {v10 : Int32} {v11 : Int32} {s0 : Int32} {s1 : Int32} {ls : Array Slot} (hl : lv_has ls 12 [(0, .ref A_t), (1, .int a1), (2, .int a2), (3, .int a3), (4, .int v4), (5, .int v5), (6, .int v6), (7, .int v7), (9, .int v9), (10, .int v10), (11, .int v11)]) (hf : bX10_ask_141 k42 k58 k77 t_there t_awake t_count t_pace a1 a2 v4 v5 v6 v7 v9 v10 v11 s0 s1 = some q0) : WRi p l e rmX10_ask s m [.ref A_t, .int a1, .int a2, .int a3] below meth c q0 (F0 m 141 ls [.int s0, .int s1]) := by
  obtain ⟨hx, hb, hr, hml, hown, hts, hlocks⟩ := id C
  unfold bX10_ask_141 at hf
  refine lv_iadd hx hb dX10_ask_141 ?_
  refine lv_istore (lv' := [(8, .int (s1 + s0)), (0, .ref A_t), (1, .int a1), (2, .int a2), (3, .int a3), (4, .int v4), (5, .int v5), (6, .int v6), (7, .int v7), (9, .int v9), (10, .int v10), (11, .int v11)]) hx hb dX10_ask_142 hl (by decide) rfl (fun ls hl => ?_)
  refine lv_iload hx hb dX10_ask_144 (lv_at hl 8 rfl) ?_
  refine lv_iload hx hb dX10_ask_146 (lv_at hl 11 rfl) ?_
  refine lv_if_eq (tgt := 170) hx hb dX10_ask_148 (by decide) (fun hc => ?_) (fun hc => ?_)
  · have hf := ft hf hc
    refine lv_iconst (v := 0) hx hb dX10_ask_170 (by decide) ?_
    exact BX10_ask_171 C hK hP hk42 hk58 hk77 (lv_sub hl [1, 2, 3, 4, 5, 6, 7, 0, 9, 10] rfl) hf
  · have hf := ff hf hc
    refine lv_aload_n hx hb dX10_ask_151 rfl (lv_at hl 1 rfl) ?_
    refine lv_iload_n hx hb dX10_ask_152 rfl (lv_at hl 2 rfl) ?_
    refine lv_iload hx hb dX10_ask_153 (lv_at hl 7 rfl) ?_
    refine lv_iload_n hx hb dX10_ask_155 rfl (lv_at hl 3 rfl) ?_
    refine lv_iload hx hb dX10_ask_156 (lv_at hl 9 rfl) ?_
    refine lv_iload hx hb dX10_ask_158 (lv_at hl 10 rfl) ?_
    obtain ⟨r160, hr160, hf⟩ := bnd hf
    refine callV_ri (As := [.int a1, .int v6, .int a2, .int v9, .int v10]) (rest := [.int v7]) ⟨hx, hb, hml, hown, hts⟩ (CX10_doesBow l hr160) (cwV 5 hts gX10_ask_X10_doesBow rfl rfl rfl kkX10_doesBow ⟨Nat.le_of_ble_eq_true rfl, Nat.le_of_ble_eq_true rfl⟩) hK hP 0 rfl rfl rfl hl.1 rfl (Nat.le_of_ble_eq_true rfl) dX10_ask_160 ⟨Nat.zero_le _, Nat.zero_le _⟩ ?_
    refine lv_if_eq (tgt := 170) hx hb dX10_ask_163 (by decide) (fun hc => ?_) (fun hc => ?_)
    · have hf := ft hf hc
      refine lv_iconst (v := 0) hx hb dX10_ask_170 (by decide) ?_
      exact BX10_ask_171 C hK hP hk42 hk58 hk77 (lv_sub hl [1, 2, 3, 4, 5, 6, 7, 0, 9, 10] rfl) hf
    · have hf := ff hf hc
      refine lv_iconst (v := 1) hx hb dX10_ask_166 (by decide) ?_
      refine lv_goto (tgt := 171) hx hb dX10_ask_167 (by decide) ?_
      exact BX10_ask_171 C hK hP hk42 hk58 hk77 (lv_sub hl [1, 2, 3, 4, 5, 6, 7, 0, 9, 10] rfl) hf
def bX10_ask_127 (k42 : Int32 × Int32 × Int32 → Option (Int32)) (k58 : Int32 × Int32 × Int32 × Int32 × Int32 × Int32 → Option (Int32)) (k77 : Int32 × Int32 × Int32 × Int32 × Int32 × Int32 × Int32 → Option (Int32)) (t_there : Int32) (t_awake : Int32) (t_count : Nat → Int32) (t_pace : Nat → Int32) (a1 : Int32) (a2 : Int32) (v4 : Int32) (v5 : Int32) (v6 : Int32) (v7 : Int32) (v8 : Int32) (v9 : Int32) (v10 : Int32) (s0 : Int32) : Option (Int32) :=
  if s0 = 0 then bX10_ask_141 k42 k58 k77 t_there t_awake t_count t_pace a1 a2 v4 v5 v6 v7 v9 v10 s0 0 v8 else bX10_ask_141 k42 k58 k77 t_there t_awake t_count t_pace a1 a2 v4 v5 v6 v7 v9 v10 s0 1 v8
set_option maxRecDepth 100000 in
set_option maxHeartbeats 4000000 in
theorem BX10_ask_127 {p : Program} {l : Launch} {e : Env} {s : State} {m : MethodId} {below : List Frame} {meth : Method} {c : Code} {D : va_G} {ty : TY} {A_t A_t_count A_t_pace A_t_sight A_t_pad A_t_now A_t_image A_t_isKept : Nat} {t_there : Int32} {t_awake : Int32} {t_house : Int32} {t_sharp : Int32} {t_sights : Int32} {t_signs : Int32} {t_up : Int32} {t_reason : Int32} {t_acts : Int32} {t_breaths : Int32} {t_zeroAt : Int32} {t_noticedAt : Int32} {t_count : Nat → Int32} {t_pace : Nat → Int32} {t_sight : Nat → Int32} {t_pad : Nat → Int32} {t_now : Nat → Int32} {t_image : Nat → Int32} {t_isKept : Nat → Int32} {a1 : Int32} {a2 : Int32} {a3 : Int32} {q0 : Int32} (C : cx p s m [.ref A_t, .int a1, .int a2, .int a3] meth c cX10_ask 12 (some .int) RX10 wsX10_ask) (hK : KK D ty s) (hP : va_P D vwCl [(A_t, .inr (9, [.int t_there, .int t_awake, .ref A_t_count, .ref A_t_pace, .int t_house, .int t_sharp, .int t_sights, .ref A_t_sight, .int t_signs, .ref A_t_pad, .int t_up, .ref A_t_now, .int t_reason, .int t_acts, .int t_breaths, .int t_zeroAt, .int t_noticedAt, .ref A_t_image, .ref A_t_isKept])), (A_t_count, .inl (ty.1, 8, .inl t_count)), (A_t_pace, .inl (ty.1, 8, .inl t_pace)), (A_t_sight, .inl (ty.1, 24, .inl t_sight)), (A_t_pad, .inl (ty.1, 60, .inl t_pad)), (A_t_now, .inl (ty.1, 8, .inl t_now)), (A_t_image, .inl (ty.1, 120, .inl t_image)), (A_t_isKept, .inl (ty.2.2.1, 2, .inl t_isKept))] s.heap) {k42 : Int32 × Int32 × Int32 → Option (Int32)} {k58 : Int32 × Int32 × Int32 × Int32 × Int32 × Int32 → Option (Int32)} {k77 : Int32 × Int32 × Int32 × Int32 × Int32 × Int32 × Int32 → Option (Int32)} (hk42 : ∀ (v4 : Int32) (v5 : Int32) (v6 : Int32) (ls : Array Slot), lv_has ls 12 [(0, .ref A_t), (1, .int a1), (2, .int a2), (3, .int a3), (4, .int v4), (5, .int v5), (6, .int v6)] → k42 (v4, v5, v6) = some q0 → WRi p l e rmX10_ask s m [.ref A_t, .int a1, .int a2, .int a3] below meth c q0 (F0 m 42 ls [])) (hk58 : ∀ (v4 : Int32) (v5 : Int32) (v6 : Int32) (v7 : Int32) (v8 : Int32) (v9 : Int32) (ls : Array Slot), lv_has ls 12 [(0, .ref A_t), (1, .int a1), (2, .int a2), (3, .int a3), (4, .int v4), (5, .int v5), (6, .int v6), (7, .int v7), (8, .int v8), (9, .int v9)] → k58 (v4, v5, v6, v7, v8, v9) = some q0 → WRi p l e rmX10_ask s m [.ref A_t, .int a1, .int a2, .int a3] below meth c q0 (F0 m 58 ls [])) (hk77 : ∀ (v4 : Int32) (v5 : Int32) (v6 : Int32) (v7 : Int32) (v8 : Int32) (v9 : Int32) (v10 : Int32) (ls : Array Slot), lv_has ls 12 [(0, .ref A_t), (1, .int a1), (2, .int a2), (3, .int a3), (4, .int v4), (5, .int v5), (6, .int v6), (7, .int v7), (8, .int v8), (9, .int v9), (10, .int v10)] → k77 (v4, v5, v6, v7, v8, v9, v10) = some q0 → WRi p l e rmX10_ask s m [.ref A_t, .int a1, .int a2, .int a3] below meth c q0 (F0 m 77 ls [])) {v4 : Int32} {v5 : Int32} {v6 : Int32} {v7 : Int32} {v8 : Int32} {v9 : Int32} {v10 : Int32} {s0 : Int32} {ls : Array Slot} (hl : lv_has ls 12 [(0, .ref A_t), (1, .int a1), (2, .int a2), (3, .int a3), (4, .int v4), (5, .int v5), (6, .int v6), (7, .int v7), (8, .int v8), (9, .int v9), (10, .int v10)]) (hf : bX10_ask_127 k42 k58 k77 t_there t_awake t_count t_pace a1 a2 v4 v5 v6 v7 v8 v9 v10 s0 = some q0) : WRi p l e rmX10_ask s m [.ref A_t, .int a1, .int a2, .int a3] below meth c q0 (F0 m 127 ls [.int s0]) := by
  obtain ⟨hx, hb, hr, hml, hown, hts, hlocks⟩ := id C
  unfold bX10_ask_127 at hf
  refine lv_istore (lv' := [(11, .int s0), (0, .ref A_t), (1, .int a1), (2, .int a2), (3, .int a3), (4, .int v4), (5, .int v5), (6, .int v6), (7, .int v7), (8, .int v8), (9, .int v9), (10, .int v10)]) hx hb dX10_ask_127 hl (by decide) rfl (fun ls hl => ?_)
  refine lv_iload hx hb dX10_ask_129 (lv_at hl 9 rfl) ?_
  refine lv_iload hx hb dX10_ask_131 (lv_at hl 0 rfl) ?_
  refine lv_if_eq (tgt := 140) hx hb dX10_ask_133 (by decide) (fun hc => ?_) (fun hc => ?_)
  · have hf := ft hf hc
    refine lv_iconst (v := 0) hx hb dX10_ask_140 (by decide) ?_
    exact BX10_ask_141 C hK hP hk42 hk58 hk77 (lv_sub hl [1, 2, 3, 4, 5, 6, 7, 8, 10, 11, 0] rfl) hf
  · have hf := ff hf hc
    refine lv_iconst (v := 1) hx hb dX10_ask_136 (by decide) ?_
    refine lv_goto (tgt := 141) hx hb dX10_ask_137 (by decide) ?_
    exact BX10_ask_141 C hK hP hk42 hk58 hk77 (lv_sub hl [1, 2, 3, 4, 5, 6, 7, 8, 10, 11, 0] rfl) hf
def bX10_ask_110 (k42 : Int32 × Int32 × Int32 → Option (Int32)) (k58 : Int32 × Int32 × Int32 × Int32 × Int32 × Int32 → Option (Int32)) (k77 : Int32 × Int32 × Int32 × Int32 × Int32 × Int32 × Int32 → Option (Int32)) (t_there : Int32) (t_awake : Int32) (t_sights : Int32) (t_count : Nat → Int32) (t_pace : Nat → Int32) (t_sight : Nat → Int32) (a1 : Int32) (a2 : Int32) (v4 : Int32) (v5 : Int32) (v6 : Int32) (v7 : Int32) (v8 : Int32) (v9 : Int32) (v10 : Int32) : Option (Int32) :=
  (fX10_isWorld t_there t_awake t_sights t_count t_pace t_sight a1 v9 v10).bind fun r116 => if r116 = 0 then bX10_ask_127 k42 k58 k77 t_there t_awake t_count t_pace a1 a2 v4 v5 v6 v7 v8 v9 v10 0 else bX10_ask_127 k42 k58 k77 t_there t_awake t_count t_pace a1 a2 v4 v5 v6 v7 v8 v9 v10 1
set_option maxRecDepth 100000 in
set_option maxHeartbeats 4000000 in
theorem BX10_ask_110 {p : Program} {l : Launch} {e : Env} {s : State} {m : MethodId} {below : List Frame} {meth : Method} {c : Code} {D : va_G} {ty : TY} {A_t A_t_count A_t_pace A_t_sight A_t_pad A_t_now A_t_image A_t_isKept : Nat} {t_there : Int32} {t_awake : Int32} {t_house : Int32} {t_sharp : Int32} {t_sights : Int32} {t_signs : Int32} {t_up : Int32} {t_reason : Int32} {t_acts : Int32} {t_breaths : Int32} {t_zeroAt : Int32} {t_noticedAt : Int32} {t_count : Nat → Int32} {t_pace : Nat → Int32} {t_sight : Nat → Int32} {t_pad : Nat → Int32} {t_now : Nat → Int32} {t_image : Nat → Int32} {t_isKept : Nat → Int32} {a1 : Int32} {a2 : Int32} {a3 : Int32} {q0 : Int32} (C : cx p s m [.ref A_t, .int a1, .int a2, .int a3] meth c cX10_ask 12 (some .int) RX10 wsX10_ask) (hK : KK D ty s) (hP : va_P D vwCl [(A_t, .inr (9, [.int t_there, .int t_awake, .ref A_t_count, .ref A_t_pace, .int t_house, .int t_sharp, .int t_sights, .ref A_t_sight, .int t_signs, .ref A_t_pad, .int t_up, .ref A_t_now, .int t_reason, .int t_acts, .int t_breaths, .int t_zeroAt, .int t_noticedAt, .ref A_t_image, .ref A_t_isKept])), (A_t_count, .inl (ty.1, 8, .inl t_count)), (A_t_pace, .inl (ty.1, 8, .inl t_pace)), (A_t_sight, .inl (ty.1, 24, .inl t_sight)), (A_t_pad, .inl (ty.1, 60, .inl t_pad)), (A_t_now, .inl (ty.1, 8, .inl t_now)), (A_t_image, .inl (ty.1, 120, .inl t_image)), (A_t_isKept, .inl (ty.2.2.1, 2, .inl t_isKept))] s.heap) {k42 : Int32 × Int32 × Int32 → Option (Int32)} {k58 : Int32 × Int32 × Int32 × Int32 × Int32 × Int32 → Option (Int32)} {k77 : Int32 × Int32 × Int32 × Int32 × Int32 × Int32 × Int32 → Option (Int32)} (hk42 : ∀ (v4 : Int32) (v5 : Int32) (v6 : Int32) (ls : Array Slot), lv_has ls 12 [(0, .ref A_t), (1, .int a1), (2, .int a2), (3, .int a3), (4, .int v4), (5, .int v5), (6, .int v6)] → k42 (v4, v5, v6) = some q0 → WRi p l e rmX10_ask s m [.ref A_t, .int a1, .int a2, .int a3] below meth c q0 (F0 m 42 ls [])) (hk58 : ∀ (v4 : Int32) (v5 : Int32) (v6 : Int32) (v7 : Int32) (v8 : Int32) (v9 : Int32) (ls : Array Slot), lv_has ls 12 [(0, .ref A_t), (1, .int a1), (2, .int a2), (3, .int a3), (4, .int v4), (5, .int v5), (6, .int v6), (7, .int v7), (8, .int v8), (9, .int v9)] → k58 (v4, v5, v6, v7, v8, v9) = some q0 → WRi p l e rmX10_ask s m [.ref A_t, .int a1, .int a2, .int a3] below meth c q0 (F0 m 58 ls [])) (hk77 : ∀ (v4 : Int32) (v5 : Int32) (v6 : Int32) (v7 : Int32) (v8 : Int32) (v9 : Int32) (v10 : Int32) (ls : Array Slot), lv_has ls 12 [(0, .ref A_t), (1, .int a1), (2, .int a2), (3, .int a3), (4, .int v4), (5, .int v5), (6, .int v6), (7, .int v7), (8, .int v8), (9, .int v9), (10, .int v10)] → k77 (v4, v5, v6, v7, v8, v9, v10) = some q0 → WRi p l e rmX10_ask s m [.ref A_t, .int a1, .int a2, .int a3] below meth c q0 (F0 m 77 ls [])) {v4 : Int32} {v5 : Int32} {v6 : Int32} {v7 : Int32} {v8 : Int32} {v9 : Int32} {v10 : Int32} {ls : Array Slot} (hl : lv_has ls 12 [(0, .ref A_t), (1, .int a1), (2, .int a2), (3, .int a3), (4, .int v4), (5, .int v5), (6, .int v6), (7, .int v7), (8, .int v8), (9, .int v9), (10, .int v10)]) (hf : bX10_ask_110 k42 k58 k77 t_there t_awake t_sights t_count t_pace t_sight a1 a2 v4 v5 v6 v7 v8 v9 v10 = some q0) : WRi p l e rmX10_ask s m [.ref A_t, .int a1, .int a2, .int a3] below meth c q0 (F0 m 110 ls []) := by
  obtain ⟨hx, hb, hr, hml, hown, hts, hlocks⟩ := id C
  unfold bX10_ask_110 at hf
  refine lv_aload_n hx hb dX10_ask_110 rfl (lv_at hl 0 rfl) ?_
  refine lv_iload_n hx hb dX10_ask_111 rfl (lv_at hl 1 rfl) ?_
  refine lv_iload hx hb dX10_ask_112 (lv_at hl 9 rfl) ?_
  refine lv_iload hx hb dX10_ask_114 (lv_at hl 10 rfl) ?_
  obtain ⟨r116, hr116, hf⟩ := bnd hf
  refine callV_ri (As := [.int a1, .int v9, .int v10]) (rest := []) ⟨hx, hb, hml, hown, hts⟩ (CX10_isWorld l hr116) (cwV 3 hts gX10_ask_X10_isWorld rfl rfl rfl kkX10_isWorld ⟨Nat.le_of_ble_eq_true rfl, Nat.le_of_ble_eq_true rfl⟩) hK hP 0 rfl rfl rfl hl.1 rfl (Nat.le_of_ble_eq_true rfl) dX10_ask_116 ⟨Nat.zero_le _, Nat.zero_le _⟩ ?_
  refine lv_if_eq (tgt := 126) hx hb dX10_ask_119 (by decide) (fun hc => ?_) (fun hc => ?_)
  · have hf := ft hf hc
    refine lv_iconst (v := 0) hx hb dX10_ask_126 (by decide) ?_
    exact BX10_ask_127 C hK hP hk42 hk58 hk77 (lv_sub hl [0, 1, 2, 3, 4, 5, 6, 7, 8, 9, 10] rfl) hf
  · have hf := ff hf hc
    refine lv_iconst (v := 1) hx hb dX10_ask_122 (by decide) ?_
    refine lv_goto (tgt := 127) hx hb dX10_ask_123 (by decide) ?_
    exact BX10_ask_127 C hK hP hk42 hk58 hk77 (lv_sub hl [0, 1, 2, 3, 4, 5, 6, 7, 8, 9, 10] rfl) hf
def bX10_ask_90 (k42 : Int32 × Int32 × Int32 → Option (Int32)) (k58 : Int32 × Int32 × Int32 × Int32 × Int32 × Int32 → Option (Int32)) (k77 : Int32 × Int32 × Int32 × Int32 × Int32 × Int32 × Int32 → Option (Int32)) (t_there : Int32) (t_awake : Int32) (t_sights : Int32) (t_count : Nat → Int32) (t_pace : Nat → Int32) (t_sight : Nat → Int32) (a1 : Int32) (a2 : Int32) (v4 : Int32) (v5 : Int32) (v6 : Int32) (v7 : Int32) (v8 : Int32) (v9 : Int32) (v10 : Int32) (s0 : Int32) (s1 : Int32) : Option (Int32) :=
  if s0 ≤ s1 then k58 (v4, v5, v6, v7, v8, v9 + 1) else if v9 < 0 then bX10_ask_110 k42 k58 k77 t_there t_awake t_sights t_count t_pace t_sight a1 a2 v4 v5 v6 v7 v8 v9 v10 else (fX10_has t_awake v9).bind fun r104 => if r104 = 0 then bX10_ask_127 k42 k58 k77 t_there t_awake t_count t_pace a1 a2 v4 v5 v6 v7 v8 v9 v10 0 else bX10_ask_110 k42 k58 k77 t_there t_awake t_sights t_count t_pace t_sight a1 a2 v4 v5 v6 v7 v8 v9 v10
set_option maxRecDepth 100000 in
set_option maxHeartbeats 4000000 in
theorem BX10_ask_90 {p : Program} {l : Launch} {e : Env} {s : State} {m : MethodId} {below : List Frame} {meth : Method} {c : Code} {D : va_G} {ty : TY} {A_t A_t_count A_t_pace A_t_sight A_t_pad A_t_now A_t_image A_t_isKept : Nat} {t_there : Int32} {t_awake : Int32} {t_house : Int32} {t_sharp : Int32} {t_sights : Int32} {t_signs : Int32} {t_up : Int32} {t_reason : Int32} {t_acts : Int32} {t_breaths : Int32} {t_zeroAt : Int32} {t_noticedAt : Int32} {t_count : Nat → Int32} {t_pace : Nat → Int32} {t_sight : Nat → Int32} {t_pad : Nat → Int32} {t_now : Nat → Int32} {t_image : Nat → Int32} {t_isKept : Nat → Int32} {a1 : Int32} {a2 : Int32} {a3 : Int32} {q0 : Int32} (C : cx p s m [.ref A_t, .int a1, .int a2, .int a3] meth c cX10_ask 12 (some .int) RX10 wsX10_ask) (hK : KK D ty s) (hP : va_P D vwCl [(A_t, .inr (9, [.int t_there, .int t_awake, .ref A_t_count, .ref A_t_pace, .int t_house, .int t_sharp, .int t_sights, .ref A_t_sight, .int t_signs, .ref A_t_pad, .int t_up, .ref A_t_now, .int t_reason, .int t_acts, .int t_breaths, .int t_zeroAt, .int t_noticedAt, .ref A_t_image, .ref A_t_isKept])), (A_t_count, .inl (ty.1, 8, .inl t_count)), (A_t_pace, .inl (ty.1, 8, .inl t_pace)), (A_t_sight, .inl (ty.1, 24, .inl t_sight)), (A_t_pad, .inl (ty.1, 60, .inl t_pad)), (A_t_now, .inl (ty.1, 8, .inl t_now)), (A_t_image, .inl (ty.1, 120, .inl t_image)), (A_t_isKept, .inl (ty.2.2.1, 2, .inl t_isKept))] s.heap) {k42 : Int32 × Int32 × Int32 → Option (Int32)} {k58 : Int32 × Int32 × Int32 × Int32 × Int32 × Int32 → Option (Int32)} {k77 : Int32 × Int32 × Int32 × Int32 × Int32 × Int32 × Int32 → Option (Int32)} (hk42 : ∀ (v4 : Int32) (v5 : Int32) (v6 : Int32) (ls : Array Slot), lv_has ls 12 [(0, .ref A_t), (1, .int a1), (2, .int a2), (3, .int a3), (4, .int v4), (5, .int v5), (6, .int v6)] → k42 (v4, v5, v6) = some q0 → WRi p l e rmX10_ask s m [.ref A_t, .int a1, .int a2, .int a3] below meth c q0 (F0 m 42 ls [])) (hk58 : ∀ (v4 : Int32) (v5 : Int32) (v6 : Int32) (v7 : Int32) (v8 : Int32) (v9 : Int32) (ls : Array Slot), lv_has ls 12 [(0, .ref A_t), (1, .int a1), (2, .int a2), (3, .int a3), (4, .int v4), (5, .int v5), (6, .int v6), (7, .int v7), (8, .int v8), (9, .int v9)] → k58 (v4, v5, v6, v7, v8, v9) = some q0 → WRi p l e rmX10_ask s m [.ref A_t, .int a1, .int a2, .int a3] below meth c q0 (F0 m 58 ls [])) (hk77 : ∀ (v4 : Int32) (v5 : Int32) (v6 : Int32) (v7 : Int32) (v8 : Int32) (v9 : Int32) (v10 : Int32) (ls : Array Slot), lv_has ls 12 [(0, .ref A_t), (1, .int a1), (2, .int a2), (3, .int a3), (4, .int v4), (5, .int v5), (6, .int v6), (7, .int v7), (8, .int v8), (9, .int v9), (10, .int v10)] → k77 (v4, v5, v6, v7, v8, v9, v10) = some q0 → WRi p l e rmX10_ask s m [.ref A_t, .int a1, .int a2, .int a3] below meth c q0 (F0 m 77 ls [])) {v4 : Int32} {v5 : Int32} {v6 : Int32} {v7 : Int32} {v8 : Int32} {v9 : Int32} {v10 : Int32} {s0 : Int32} {s1 : Int32} {ls : Array Slot} (hl : lv_has ls 12 [(0, .ref A_t), (1, .int a1), (2, .int a2), (3, .int a3), (4, .int v4), (5, .int v5), (6, .int v6), (7, .int v7), (8, .int v8), (9, .int v9), (10, .int v10)]) (hf : bX10_ask_90 k42 k58 k77 t_there t_awake t_sights t_count t_pace t_sight a1 a2 v4 v5 v6 v7 v8 v9 v10 s0 s1 = some q0) : WRi p l e rmX10_ask s m [.ref A_t, .int a1, .int a2, .int a3] below meth c q0 (F0 m 90 ls [.int s0, .int s1]) := by
  obtain ⟨hx, hb, hr, hml, hown, hts, hlocks⟩ := id C
  unfold bX10_ask_90 at hf
  refine lv_icmp_ge (tgt := 180) hx hb dX10_ask_90 (by decide) (fun hc => ?_) (fun hc => ?_)
  · have hf := ft hf hc
    refine lv_iinc (v := v9 + 1) (lv' := [(9, .int (v9 + 1)), (0, .ref A_t), (1, .int a1), (2, .int a2), (3, .int a3), (4, .int v4), (5, .int v5), (6, .int v6), (7, .int v7), (8, .int v8), (10, .int v10)]) hx hb dX10_ask_180 hl (k := 9) rfl rfl (by decide) rfl (fun ls hl => ?_)
    refine lv_goto (tgt := 58) hx hb dX10_ask_183 (by decide) ?_
    exact hk58 _ _ _ _ _ _ _ (lv_sub hl [1, 2, 3, 4, 5, 6, 7, 8, 9, 0] rfl) hf
  · have hf := ff hf hc
    refine lv_iload hx hb dX10_ask_93 (lv_at hl 9 rfl) ?_
    refine lv_if_lt (tgt := 110) hx hb dX10_ask_95 (by decide) (fun hc => ?_) (fun hc => ?_)
    · have hf := ft hf hc
      exact BX10_ask_110 C hK hP hk42 hk58 hk77 (lv_sub hl [0, 1, 2, 3, 4, 5, 6, 7, 8, 9, 10] rfl) hf
    · have hf := ff hf hc
      refine lv_aload_n hx hb dX10_ask_98 rfl (lv_at hl 0 rfl) ?_
      refine va_get (D := D) (ci := 9) (v := .int t_awake) (C := RX10) (T := TX10) (N := 19) hx hb hts wX10_ask_X10 hown hK.1 hP 0 rfl rfl 1 (by decide) (hts _ mX10_ask_f55) (fun _ h9 => h9) rfl dX10_ask_99 ?_
      refine lv_iload hx hb dX10_ask_102 (lv_at hl 9 rfl) ?_
      obtain ⟨r104, hr104, hf⟩ := bnd hf
      have hPc : va_P D vwCl [] _ := hP.sub [] rfl
      refine callS_ri (As := [.int t_awake, .int v9]) (rest := []) ⟨hx, hb, hml, hown, hts⟩ (CX10_has l hr104) (va_cwS 2 hts gX10_ask_X10_has rfl rfl rfl kkX10_has.2 ⟨Nat.le_of_ble_eq_true rfl, Nat.le_of_ble_eq_true rfl⟩) hK hPc hl.1 rfl (Nat.le_of_ble_eq_true rfl) dX10_ask_104 ⟨Nat.zero_le _, Nat.zero_le _⟩ ?_
      refine lv_if_eq (tgt := 126) hx hb dX10_ask_107 (by decide) (fun hc => ?_) (fun hc => ?_)
      · have hf := ft hf hc
        refine lv_iconst (v := 0) hx hb dX10_ask_126 (by decide) ?_
        exact BX10_ask_127 C hK hP hk42 hk58 hk77 (lv_sub hl [0, 1, 2, 3, 4, 5, 6, 7, 8, 9, 10] rfl) hf
      · have hf := ff hf hc
        exact BX10_ask_110 C hK hP hk42 hk58 hk77 (lv_sub hl [0, 1, 2, 3, 4, 5, 6, 7, 8, 9, 10] rfl) hf
def bX10_ask_77 (k42 : Int32 × Int32 × Int32 → Option (Int32)) (k58 : Int32 × Int32 × Int32 × Int32 × Int32 × Int32 → Option (Int32)) (k77 : Int32 × Int32 × Int32 × Int32 × Int32 × Int32 × Int32 → Option (Int32)) (t_there : Int32) (t_awake : Int32) (t_sights : Int32) (t_count : Nat → Int32) (t_pace : Nat → Int32) (t_sight : Nat → Int32) (a1 : Int32) (a2 : Int32) (v4 : Int32) (v5 : Int32) (v6 : Int32) (v7 : Int32) (v8 : Int32) (v9 : Int32) (v10 : Int32) : Option (Int32) :=
  if 0 ≤ v9 then bX10_ask_90 k42 k58 k77 t_there t_awake t_sights t_count t_pace t_sight a1 a2 v4 v5 v6 v7 v8 v9 v10 10 v10 else bX10_ask_90 k42 k58 k77 t_there t_awake t_sights t_count t_pace t_sight a1 a2 v4 v5 v6 v7 v8 v9 v10 1 v10
set_option maxRecDepth 100000 in
set_option maxHeartbeats 4000000 in
theorem BX10_ask_77 {p : Program} {l : Launch} {e : Env} {s : State} {m : MethodId} {below : List Frame} {meth : Method} {c : Code} {D : va_G} {ty : TY} {A_t A_t_count A_t_pace A_t_sight A_t_pad A_t_now A_t_image A_t_isKept : Nat} {t_there : Int32} {t_awake : Int32} {t_house : Int32} {t_sharp : Int32} {t_sights : Int32} {t_signs : Int32} {t_up : Int32} {t_reason : Int32} {t_acts : Int32} {t_breaths : Int32} {t_zeroAt : Int32} {t_noticedAt : Int32} {t_count : Nat → Int32} {t_pace : Nat → Int32} {t_sight : Nat → Int32} {t_pad : Nat → Int32} {t_now : Nat → Int32} {t_image : Nat → Int32} {t_isKept : Nat → Int32} {a1 : Int32} {a2 : Int32} {a3 : Int32} {q0 : Int32} (C : cx p s m [.ref A_t, .int a1, .int a2, .int a3] meth c cX10_ask 12 (some .int) RX10 wsX10_ask) (hK : KK D ty s) (hP : va_P D vwCl [(A_t, .inr (9, [.int t_there, .int t_awake, .ref A_t_count, .ref A_t_pace, .int t_house, .int t_sharp, .int t_sights, .ref A_t_sight, .int t_signs, .ref A_t_pad, .int t_up, .ref A_t_now, .int t_reason, .int t_acts, .int t_breaths, .int t_zeroAt, .int t_noticedAt, .ref A_t_image, .ref A_t_isKept])), (A_t_count, .inl (ty.1, 8, .inl t_count)), (A_t_pace, .inl (ty.1, 8, .inl t_pace)), (A_t_sight, .inl (ty.1, 24, .inl t_sight)), (A_t_pad, .inl (ty.1, 60, .inl t_pad)), (A_t_now, .inl (ty.1, 8, .inl t_now)), (A_t_image, .inl (ty.1, 120, .inl t_image)), (A_t_isKept, .inl (ty.2.2.1, 2, .inl t_isKept))] s.heap) {k42 : Int32 × Int32 × Int32 → Option (Int32)} {k58 : Int32 × Int32 × Int32 × Int32 × Int32 × Int32 → Option (Int32)} (hk42 : ∀ (v4 : Int32) (v5 : Int32) (v6 : Int32) (ls : Array Slot), lv_has ls 12 [(0, .ref A_t), (1, .int a1), (2, .int a2), (3, .int a3), (4, .int v4), (5, .int v5), (6, .int v6)] → k42 (v4, v5, v6) = some q0 → WRi p l e rmX10_ask s m [.ref A_t, .int a1, .int a2, .int a3] below meth c q0 (F0 m 42 ls [])) (hk58 : ∀ (v4 : Int32) (v5 : Int32) (v6 : Int32) (v7 : Int32) (v8 : Int32) (v9 : Int32) (ls : Array Slot), lv_has ls 12 [(0, .ref A_t), (1, .int a1), (2, .int a2), (3, .int a3), (4, .int v4), (5, .int v5), (6, .int v6), (7, .int v7), (8, .int v8), (9, .int v9)] → k58 (v4, v5, v6, v7, v8, v9) = some q0 → WRi p l e rmX10_ask s m [.ref A_t, .int a1, .int a2, .int a3] below meth c q0 (F0 m 58 ls [])) : ∀ (n : Nat) (v4 : Int32) (v5 : Int32) (v6 : Int32) (v7 : Int32) (v8 : Int32) (v9 : Int32) (v10 : Int32) (ls : Array Slot), lv_has ls 12 [(0, .ref A_t), (1, .int a1), (2, .int a2), (3, .int a3), (4, .int v4), (5, .int v5), (6, .int v6), (7, .int v7), (8, .int v8), (9, .int v9), (10, .int v10)] → loopF (fun k q => bX10_ask_77 k42 k58 k t_there t_awake t_sights t_count t_pace t_sight a1 a2 q.1 q.2.1 q.2.2.1 q.2.2.2.1 q.2.2.2.2.1 q.2.2.2.2.2.1 q.2.2.2.2.2.2) n (v4, v5, v6, v7, v8, v9, v10) = some q0 → WRi p l e rmX10_ask s m [.ref A_t, .int a1, .int a2, .int a3] below meth c q0 (F0 m 77 ls []) := by
  obtain ⟨hx, hb, hr, hml, hown, hts, hlocks⟩ := id C
  intro n
  induction n with
  | zero =>
    intro v4 v5 v6 v7 v8 v9 v10 ls hl hf
    cases hf
  | succ n ih =>
    intro v4 v5 v6 v7 v8 v9 v10 ls hl hf
    have hf : bX10_ask_77 k42 k58 (loopF (fun k q => bX10_ask_77 k42 k58 k t_there t_awake t_sights t_count t_pace t_sight a1 a2 q.1 q.2.1 q.2.2.1 q.2.2.2.1 q.2.2.2.2.1 q.2.2.2.2.2.1 q.2.2.2.2.2.2) n) t_there t_awake t_sights t_count t_pace t_sight a1 a2 v4 v5 v6 v7 v8 v9 v10 = some q0 := hf
    have hk77 := ih
    unfold bX10_ask_77 at hf
    refine lv_iload hx hb dX10_ask_77 (lv_at hl 10 rfl) ?_
    refine lv_iload hx hb dX10_ask_79 (lv_at hl 9 rfl) ?_
    refine lv_if_ge (tgt := 88) hx hb dX10_ask_81 (by decide) (fun hc => ?_) (fun hc => ?_)
    · have hf := ft hf hc
      refine lv_bipush (v := 10) hx hb dX10_ask_88 (by decide) ?_
      exact BX10_ask_90 C hK hP hk42 hk58 hk77 (lv_sub hl [0, 1, 2, 3, 4, 5, 6, 7, 8, 9, 10] rfl) hf
    · have hf := ff hf hc
      refine lv_iconst (v := 1) hx hb dX10_ask_84 (by decide) ?_
      refine lv_goto (tgt := 90) hx hb dX10_ask_85 (by decide) ?_
      exact BX10_ask_90 C hK hP hk42 hk58 hk77 (lv_sub hl [0, 1, 2, 3, 4, 5, 6, 7, 8, 9, 10] rfl) hf
def bX10_ask_58 (k42 : Int32 × Int32 × Int32 → Option (Int32)) (k58 : Int32 × Int32 × Int32 × Int32 × Int32 × Int32 → Option (Int32)) (t_there : Int32) (t_awake : Int32) (t_sights : Int32) (t_count : Nat → Int32) (t_pace : Nat → Int32) (t_sight : Nat → Int32) (a1 : Int32) (a2 : Int32) (v4 : Int32) (v5 : Int32) (v6 : Int32) (v7 : Int32) (v8 : Int32) (v9 : Int32) : Option (Int32) :=
  if 8 ≤ v9 then if v7 ≤ (v8 - v7) then bX10_ask_206 k42 t_awake v4 v5 v6 v8 (v8 - v7) else bX10_ask_206 k42 t_awake v4 v5 v6 v8 v7 else if 0 ≤ v9 then loopF (fun k q => bX10_ask_77 k42 k58 k t_there t_awake t_sights t_count t_pace t_sight a1 a2 q.1 q.2.1 q.2.2.1 q.2.2.2.1 q.2.2.2.2.1 q.2.2.2.2.2.1 q.2.2.2.2.2.2) FU (v4, v5, v6, v7, v8, v9, 1) else loopF (fun k q => bX10_ask_77 k42 k58 k t_there t_awake t_sights t_count t_pace t_sight a1 a2 q.1 q.2.1 q.2.2.1 q.2.2.2.1 q.2.2.2.2.1 q.2.2.2.2.2.1 q.2.2.2.2.2.2) FU (v4, v5, v6, v7, v8, v9, 0)
set_option maxRecDepth 100000 in
set_option maxHeartbeats 4000000 in
theorem BX10_ask_58 {p : Program} {l : Launch} {e : Env} {s : State} {m : MethodId} {below : List Frame} {meth : Method} {c : Code} {D : va_G} {ty : TY} {A_t A_t_count A_t_pace A_t_sight A_t_pad A_t_now A_t_image A_t_isKept : Nat} {t_there : Int32} {t_awake : Int32} {t_house : Int32} {t_sharp : Int32} {t_sights : Int32} {t_signs : Int32} {t_up : Int32} {t_reason : Int32} {t_acts : Int32} {t_breaths : Int32} {t_zeroAt : Int32} {t_noticedAt : Int32} {t_count : Nat → Int32} {t_pace : Nat → Int32} {t_sight : Nat → Int32} {t_pad : Nat → Int32} {t_now : Nat → Int32} {t_image : Nat → Int32} {t_isKept : Nat → Int32} {a1 : Int32} {a2 : Int32} {a3 : Int32} {q0 : Int32} (C : cx p s m [.ref A_t, .int a1, .int a2, .int a3] meth c cX10_ask 12 (some .int) RX10 wsX10_ask) (hK : KK D ty s) (hP : va_P D vwCl [(A_t, .inr (9, [.int t_there, .int t_awake, .ref A_t_count, .ref A_t_pace, .int t_house, .int t_sharp, .int t_sights, .ref A_t_sight, .int t_signs, .ref A_t_pad, .int t_up, .ref A_t_now, .int t_reason, .int t_acts, .int t_breaths, .int t_zeroAt, .int t_noticedAt, .ref A_t_image, .ref A_t_isKept])), (A_t_count, .inl (ty.1, 8, .inl t_count)), (A_t_pace, .inl (ty.1, 8, .inl t_pace)), (A_t_sight, .inl (ty.1, 24, .inl t_sight)), (A_t_pad, .inl (ty.1, 60, .inl t_pad)), (A_t_now, .inl (ty.1, 8, .inl t_now)), (A_t_image, .inl (ty.1, 120, .inl t_image)), (A_t_isKept, .inl (ty.2.2.1, 2, .inl t_isKept))] s.heap) {k42 : Int32 × Int32 × Int32 → Option (Int32)} (hk42 : ∀ (v4 : Int32) (v5 : Int32) (v6 : Int32) (ls : Array Slot), lv_has ls 12 [(0, .ref A_t), (1, .int a1), (2, .int a2), (3, .int a3), (4, .int v4), (5, .int v5), (6, .int v6)] → k42 (v4, v5, v6) = some q0 → WRi p l e rmX10_ask s m [.ref A_t, .int a1, .int a2, .int a3] below meth c q0 (F0 m 42 ls [])) : ∀ (n : Nat) (v4 : Int32) (v5 : Int32) (v6 : Int32) (v7 : Int32) (v8 : Int32) (v9 : Int32) (ls : Array Slot), lv_has ls 12 [(0, .ref A_t), (1, .int a1), (2, .int a2), (3, .int a3), (4, .int v4), (5, .int v5), (6, .int v6), (7, .int v7), (8, .int v8), (9, .int v9)] → loopF (fun k q => bX10_ask_58 k42 k t_there t_awake t_sights t_count t_pace t_sight a1 a2 q.1 q.2.1 q.2.2.1 q.2.2.2.1 q.2.2.2.2.1 q.2.2.2.2.2) n (v4, v5, v6, v7, v8, v9) = some q0 → WRi p l e rmX10_ask s m [.ref A_t, .int a1, .int a2, .int a3] below meth c q0 (F0 m 58 ls []) := by
  obtain ⟨hx, hb, hr, hml, hown, hts, hlocks⟩ := id C
  intro n
  induction n with
  | zero =>
    intro v4 v5 v6 v7 v8 v9 ls hl hf
    cases hf
  | succ n ih =>
    intro v4 v5 v6 v7 v8 v9 ls hl hf
    have hf : bX10_ask_58 k42 (loopF (fun k q => bX10_ask_58 k42 k t_there t_awake t_sights t_count t_pace t_sight a1 a2 q.1 q.2.1 q.2.2.1 q.2.2.2.1 q.2.2.2.2.1 q.2.2.2.2.2) n) t_there t_awake t_sights t_count t_pace t_sight a1 a2 v4 v5 v6 v7 v8 v9 = some q0 := hf
    have hk58 := ih
    unfold bX10_ask_58 at hf
    refine lv_iload hx hb dX10_ask_58 (lv_at hl 9 rfl) ?_
    refine lv_bipush (v := 8) hx hb dX10_ask_60 (by decide) ?_
    refine lv_icmp_ge (tgt := 186) hx hb dX10_ask_62 (by decide) (fun hc => ?_) (fun hc => ?_)
    · have hf := ft hf hc
      refine lv_iload hx hb dX10_ask_186 (lv_at hl 7 rfl) ?_
      refine lv_iload hx hb dX10_ask_188 (lv_at hl 8 rfl) ?_
      refine lv_iload hx hb dX10_ask_190 (lv_at hl 7 rfl) ?_
      refine lv_isub hx hb dX10_ask_192 ?_
      refine lv_icmp_le (tgt := 201) hx hb dX10_ask_193 (by decide) (fun hc => ?_) (fun hc => ?_)
      · have hf := ft hf hc
        refine lv_iload hx hb dX10_ask_201 (lv_at hl 8 rfl) ?_
        refine lv_iload hx hb dX10_ask_203 (lv_at hl 7 rfl) ?_
        refine lv_isub hx hb dX10_ask_205 ?_
        exact BX10_ask_206 C hK hP hk42 (lv_sub hl [0, 1, 2, 3, 4, 5, 6, 8] rfl) hf
      · have hf := ff hf hc
        refine lv_iload hx hb dX10_ask_196 (lv_at hl 7 rfl) ?_
        refine lv_goto (tgt := 206) hx hb dX10_ask_198 (by decide) ?_
        exact BX10_ask_206 C hK hP hk42 (lv_sub hl [0, 1, 2, 3, 4, 5, 6, 8] rfl) hf
    · have hf := ff hf hc
      refine lv_iload hx hb dX10_ask_65 (lv_at hl 9 rfl) ?_
      refine lv_if_ge (tgt := 74) hx hb dX10_ask_67 (by decide) (fun hc => ?_) (fun hc => ?_)
      · have hf := ft hf hc
        refine lv_iconst (v := 1) hx hb dX10_ask_74 (by decide) ?_
        refine lv_istore (lv' := [(10, .int 1), (0, .ref A_t), (1, .int a1), (2, .int a2), (3, .int a3), (4, .int v4), (5, .int v5), (6, .int v6), (7, .int v7), (8, .int v8), (9, .int v9)]) hx hb dX10_ask_75 hl (by decide) rfl (fun ls hl => ?_)
        exact BX10_ask_77 C hK hP hk42 hk58 FU _ _ _ _ _ _ _ _ (lv_sub hl [1, 2, 3, 4, 5, 6, 7, 8, 9, 10, 0] rfl) hf
      · have hf := ff hf hc
        refine lv_iconst (v := 0) hx hb dX10_ask_70 (by decide) ?_
        refine lv_goto (tgt := 75) hx hb dX10_ask_71 (by decide) ?_
        refine lv_istore (lv' := [(10, .int 0), (0, .ref A_t), (1, .int a1), (2, .int a2), (3, .int a3), (4, .int v4), (5, .int v5), (6, .int v6), (7, .int v7), (8, .int v8), (9, .int v9)]) hx hb dX10_ask_75 hl (by decide) rfl (fun ls hl => ?_)
        exact BX10_ask_77 C hK hP hk42 hk58 FU _ _ _ _ _ _ _ _ (lv_sub hl [1, 2, 3, 4, 5, 6, 7, 8, 9, 10, 0] rfl) hf
def bX10_ask_42 (k42 : Int32 × Int32 × Int32 → Option (Int32)) (t_there : Int32) (t_awake : Int32) (t_sights : Int32) (t_count : Nat → Int32) (t_pace : Nat → Int32) (t_sight : Nat → Int32) (a1 : Int32) (a2 : Int32) (a3 : Int32) (v4 : Int32) (v5 : Int32) (v6 : Int32) : Option (Int32) :=
  if 8 ≤ v6 then if v4 < 0 then some v4 else if a3 = 0 then some v4 else some v5 else loopF (fun k q => bX10_ask_58 k42 k t_there t_awake t_sights t_count t_pace t_sight a1 a2 q.1 q.2.1 q.2.2.1 q.2.2.2.1 q.2.2.2.2.1 q.2.2.2.2.2) FU (v4, v5, v6, 0, 0, (-1))
set_option maxRecDepth 100000 in
set_option maxHeartbeats 4000000 in
theorem BX10_ask_42 {p : Program} {l : Launch} {e : Env} {s : State} {m : MethodId} {below : List Frame} {meth : Method} {c : Code} {D : va_G} {ty : TY} {A_t A_t_count A_t_pace A_t_sight A_t_pad A_t_now A_t_image A_t_isKept : Nat} {t_there : Int32} {t_awake : Int32} {t_house : Int32} {t_sharp : Int32} {t_sights : Int32} {t_signs : Int32} {t_up : Int32} {t_reason : Int32} {t_acts : Int32} {t_breaths : Int32} {t_zeroAt : Int32} {t_noticedAt : Int32} {t_count : Nat → Int32} {t_pace : Nat → Int32} {t_sight : Nat → Int32} {t_pad : Nat → Int32} {t_now : Nat → Int32} {t_image : Nat → Int32} {t_isKept : Nat → Int32} {a1 : Int32} {a2 : Int32} {a3 : Int32} {q0 : Int32} (C : cx p s m [.ref A_t, .int a1, .int a2, .int a3] meth c cX10_ask 12 (some .int) RX10 wsX10_ask) (hK : KK D ty s) (hP : va_P D vwCl [(A_t, .inr (9, [.int t_there, .int t_awake, .ref A_t_count, .ref A_t_pace, .int t_house, .int t_sharp, .int t_sights, .ref A_t_sight, .int t_signs, .ref A_t_pad, .int t_up, .ref A_t_now, .int t_reason, .int t_acts, .int t_breaths, .int t_zeroAt, .int t_noticedAt, .ref A_t_image, .ref A_t_isKept])), (A_t_count, .inl (ty.1, 8, .inl t_count)), (A_t_pace, .inl (ty.1, 8, .inl t_pace)), (A_t_sight, .inl (ty.1, 24, .inl t_sight)), (A_t_pad, .inl (ty.1, 60, .inl t_pad)), (A_t_now, .inl (ty.1, 8, .inl t_now)), (A_t_image, .inl (ty.1, 120, .inl t_image)), (A_t_isKept, .inl (ty.2.2.1, 2, .inl t_isKept))] s.heap)   : ∀ (n : Nat) (v4 : Int32) (v5 : Int32) (v6 : Int32) (ls : Array Slot), lv_has ls 12 [(0, .ref A_t), (1, .int a1), (2, .int a2), (3, .int a3), (4, .int v4), (5, .int v5), (6, .int v6)] → loopF (fun k q => bX10_ask_42 k t_there t_awake t_sights t_count t_pace t_sight a1 a2 a3 q.1 q.2.1 q.2.2) n (v4, v5, v6) = some q0 → WRi p l e rmX10_ask s m [.ref A_t, .int a1, .int a2, .int a3] below meth c q0 (F0 m 42 ls []) := by
  obtain ⟨hx, hb, hr, hml, hown, hts, hlocks⟩ := id C
  intro n
  induction n with
  | zero =>
    intro v4 v5 v6 ls hl hf
    cases hf
  | succ n ih =>
    intro v4 v5 v6 ls hl hf
    have hf : bX10_ask_42 (loopF (fun k q => bX10_ask_42 k t_there t_awake t_sights t_count t_pace t_sight a1 a2 a3 q.1 q.2.1 q.2.2) n) t_there t_awake t_sights t_count t_pace t_sight a1 a2 a3 v4 v5 v6 = some q0 := hf
    have hk42 := ih
    unfold bX10_ask_42 at hf
    refine lv_iload hx hb dX10_ask_42 (lv_at hl 6 rfl) ?_
    refine lv_bipush (v := 8) hx hb dX10_ask_44 (by decide) ?_
    refine lv_icmp_ge (tgt := 273) hx hb dX10_ask_46 (by decide) (fun hc => ?_) (fun hc => ?_)
    · have hf := ft hf hc
      refine lv_iload hx hb dX10_ask_273 (lv_at hl 4 rfl) ?_
      refine lv_if_lt (tgt := 282) hx hb dX10_ask_275 (by decide) (fun hc => ?_) (fun hc => ?_)
      · have hf := ft hf hc
        refine lv_iload hx hb dX10_ask_282 (lv_at hl 4 rfl) ?_
        refine lv_goto (tgt := 289) hx hb dX10_ask_284 (by decide) ?_
        exact ret_ri hx hb hr hlocks hf dX10_ask_289
      · have hf := ff hf hc
        refine lv_iload_n hx hb dX10_ask_278 rfl (lv_at hl 3 rfl) ?_
        refine lv_if_ne (tgt := 287) hx hb dX10_ask_279 (by decide) (fun hc => ?_) (fun hc => ?_)
        · have hf := ff hf hc
          refine lv_iload hx hb dX10_ask_287 (lv_at hl 5 rfl) ?_
          exact ret_ri hx hb hr hlocks hf dX10_ask_289
        · have hf := ft hf hc
          refine lv_iload hx hb dX10_ask_282 (lv_at hl 4 rfl) ?_
          refine lv_goto (tgt := 289) hx hb dX10_ask_284 (by decide) ?_
          exact ret_ri hx hb hr hlocks hf dX10_ask_289
    · have hf := ff hf hc
      refine lv_iconst (v := 0) hx hb dX10_ask_49 (by decide) ?_
      refine lv_istore (lv' := [(7, .int 0), (0, .ref A_t), (1, .int a1), (2, .int a2), (3, .int a3), (4, .int v4), (5, .int v5), (6, .int v6)]) hx hb dX10_ask_50 hl (by decide) rfl (fun ls hl => ?_)
      refine lv_iconst (v := 0) hx hb dX10_ask_52 (by decide) ?_
      refine lv_istore (lv' := [(8, .int 0), (7, .int 0), (0, .ref A_t), (1, .int a1), (2, .int a2), (3, .int a3), (4, .int v4), (5, .int v5), (6, .int v6)]) hx hb dX10_ask_53 hl (by decide) rfl (fun ls hl => ?_)
      refine lv_iconst (v := (-1)) hx hb dX10_ask_55 (by decide) ?_
      refine lv_istore (lv' := [(9, .int (-1)), (8, .int 0), (7, .int 0), (0, .ref A_t), (1, .int a1), (2, .int a2), (3, .int a3), (4, .int v4), (5, .int v5), (6, .int v6)]) hx hb dX10_ask_56 hl (by decide) rfl (fun ls hl => ?_)
      exact BX10_ask_58 C hK hP hk42 FU _ _ _ _ _ _ _ (lv_sub hl [3, 4, 5, 6, 7, 8, 9, 2, 1, 0] rfl) hf
def fX10_ask (t_there : Int32) (t_awake : Int32) (t_sights : Int32) (t_count : Nat → Int32) (t_pace : Nat → Int32) (t_sight : Nat → Int32) (a1 : Int32) (a2 : Int32) (a3 : Int32) : Option (Int32) :=
  (fX10_in a1 0 4).bind fun r3 => if r3 = 0 then some (-2) else (fX10_in a2 0 99).bind fun r13 => if r13 = 0 then some (-2) else (fX10_in a3 0 1).bind fun r22 => if r22 = 0 then some (-2) else loopF (fun k q => bX10_ask_42 k t_there t_awake t_sights t_count t_pace t_sight a1 a2 a3 q.1 q.2.1 q.2.2) FU ((-6), 100000000, 0)
set_option maxRecDepth 100000 in
set_option maxHeartbeats 4000000 in
theorem CX10_ask (l : Launch) {D : va_G} {ty : TY} {A_t A_t_count A_t_pace A_t_sight A_t_pad A_t_now A_t_image A_t_isKept : Nat} {t_there : Int32} {t_awake : Int32} {t_house : Int32} {t_sharp : Int32} {t_sights : Int32} {t_signs : Int32} {t_up : Int32} {t_reason : Int32} {t_acts : Int32} {t_breaths : Int32} {t_zeroAt : Int32} {t_noticedAt : Int32} {t_count : Nat → Int32} {t_pace : Nat → Int32} {t_sight : Nat → Int32} {t_pad : Nat → Int32} {t_now : Nat → Int32} {t_image : Nat → Int32} {t_isKept : Nat → Int32} {a1 : Int32} {a2 : Int32} {a3 : Int32} {q0 : Int32} (hf : fX10_ask t_there t_awake t_sights t_count t_pace t_sight a1 a2 a3 = some q0) : ROi l yX10_ask wsX10_ask rmX10_ask D ty [.ref A_t, .int a1, .int a2, .int a3] [(A_t, .inr (9, [.int t_there, .int t_awake, .ref A_t_count, .ref A_t_pace, .int t_house, .int t_sharp, .int t_sights, .ref A_t_sight, .int t_signs, .ref A_t_pad, .int t_up, .ref A_t_now, .int t_reason, .int t_acts, .int t_breaths, .int t_zeroAt, .int t_noticedAt, .ref A_t_image, .ref A_t_isKept])), (A_t_count, .inl (ty.1, 8, .inl t_count)), (A_t_pace, .inl (ty.1, 8, .inl t_pace)), (A_t_sight, .inl (ty.1, 24, .inl t_sight)), (A_t_pad, .inl (ty.1, 60, .inl t_pad)), (A_t_now, .inl (ty.1, 8, .inl t_now)), (A_t_image, .inl (ty.1, 120, .inl t_image)), (A_t_isKept, .inl (ty.2.2.1, 2, .inl t_isKept))] q0 := by
  refine ROi.start (cc := cX10_ask) (maxL := 12) (ret := (some .int)) (own := RX10) (by decide) rfl rfl (Nat.le_of_ble_eq_true rfl) ?_
  intro p e s m below meth c ls C hK hP hl
  obtain ⟨hx, hb, hr, hml, hown, hts, hlocks⟩ := id C
  have hl : lv_has ls 12 [(0, .ref A_t), (1, .int a1), (2, .int a2), (3, .int a3)] := hl
  unfold fX10_ask at hf
  refine lv_iload_n hx hb dX10_ask_0 rfl (lv_at hl 1 rfl) ?_
  refine lv_iconst (v := 0) hx hb dX10_ask_1 (by decide) ?_
  refine lv_iconst (v := 4) hx hb dX10_ask_2 (by decide) ?_
  obtain ⟨r3, hr3, hf⟩ := bnd hf
  have hPc : va_P D vwCl [] _ := hP.sub [] rfl
  refine callS_ri (As := [.int a1, .int 0, .int 4]) (rest := []) ⟨hx, hb, hml, hown, hts⟩ (CX10_in l hr3) (va_cwS 3 hts gX10_ask_X10_in rfl rfl rfl kkX10_in.2 ⟨Nat.le_of_ble_eq_true rfl, Nat.le_of_ble_eq_true rfl⟩) hK hPc hl.1 rfl (Nat.le_of_ble_eq_true rfl) dX10_ask_3 ⟨Nat.zero_le _, Nat.zero_le _⟩ ?_
  refine lv_if_eq (tgt := 28) hx hb dX10_ask_6 (by decide) (fun hc => ?_) (fun hc => ?_)
  · have hf := ft hf hc
    refine lv_bipush (v := (-2)) hx hb dX10_ask_28 (by decide) ?_
    exact ret_ri hx hb hr hlocks hf dX10_ask_30
  · have hf := ff hf hc
    refine lv_iload_n hx hb dX10_ask_9 rfl (lv_at hl 2 rfl) ?_
    refine lv_iconst (v := 0) hx hb dX10_ask_10 (by decide) ?_
    refine lv_bipush (v := 99) hx hb dX10_ask_11 (by decide) ?_
    obtain ⟨r13, hr13, hf⟩ := bnd hf
    have hPc : va_P D vwCl [] _ := hP.sub [] rfl
    refine callS_ri (As := [.int a2, .int 0, .int 99]) (rest := []) ⟨hx, hb, hml, hown, hts⟩ (CX10_in l hr13) (va_cwS 3 hts gX10_ask_X10_in rfl rfl rfl kkX10_in.2 ⟨Nat.le_of_ble_eq_true rfl, Nat.le_of_ble_eq_true rfl⟩) hK hPc hl.1 rfl (Nat.le_of_ble_eq_true rfl) dX10_ask_13 ⟨Nat.zero_le _, Nat.zero_le _⟩ ?_
    refine lv_if_eq (tgt := 28) hx hb dX10_ask_16 (by decide) (fun hc => ?_) (fun hc => ?_)
    · have hf := ft hf hc
      refine lv_bipush (v := (-2)) hx hb dX10_ask_28 (by decide) ?_
      exact ret_ri hx hb hr hlocks hf dX10_ask_30
    · have hf := ff hf hc
      refine lv_iload_n hx hb dX10_ask_19 rfl (lv_at hl 3 rfl) ?_
      refine lv_iconst (v := 0) hx hb dX10_ask_20 (by decide) ?_
      refine lv_iconst (v := 1) hx hb dX10_ask_21 (by decide) ?_
      obtain ⟨r22, hr22, hf⟩ := bnd hf
      have hPc : va_P D vwCl [] _ := hP.sub [] rfl
      refine callS_ri (As := [.int a3, .int 0, .int 1]) (rest := []) ⟨hx, hb, hml, hown, hts⟩ (CX10_in l hr22) (va_cwS 3 hts gX10_ask_X10_in rfl rfl rfl kkX10_in.2 ⟨Nat.le_of_ble_eq_true rfl, Nat.le_of_ble_eq_true rfl⟩) hK hPc hl.1 rfl (Nat.le_of_ble_eq_true rfl) dX10_ask_22 ⟨Nat.zero_le _, Nat.zero_le _⟩ ?_
      refine lv_if_ne (tgt := 31) hx hb dX10_ask_25 (by decide) (fun hc => ?_) (fun hc => ?_)
      · have hf := ff hf hc
        refine lv_bipush (v := (-6)) hx hb dX10_ask_31 (by decide) ?_
        refine lv_istore (lv' := [(4, .int (-6)), (0, .ref A_t), (1, .int a1), (2, .int a2), (3, .int a3)]) hx hb dX10_ask_33 hl (by decide) rfl (fun ls hl => ?_)
        refine lv_ldc (v := 100000000) hx hb hown (hts _ mX10_ask_k75) dX10_ask_35 ?_
        refine lv_istore (lv' := [(5, .int 100000000), (4, .int (-6)), (0, .ref A_t), (1, .int a1), (2, .int a2), (3, .int a3)]) hx hb dX10_ask_37 hl (by decide) rfl (fun ls hl => ?_)
        refine lv_iconst (v := 0) hx hb dX10_ask_39 (by decide) ?_
        refine lv_istore (lv' := [(6, .int 0), (5, .int 100000000), (4, .int (-6)), (0, .ref A_t), (1, .int a1), (2, .int a2), (3, .int a3)]) hx hb dX10_ask_40 hl (by decide) rfl (fun ls hl => ?_)
        exact BX10_ask_42 C hK hP  FU _ _ _ _ (lv_sub hl [3, 4, 5, 6, 2, 1, 0] rfl) hf
      · have hf := ft hf hc
        refine lv_bipush (v := (-2)) hx hb dX10_ask_28 (by decide) ?_
        exact ret_ri hx hb hr hlocks hf dX10_ask_30
