/-! ===== SilenceCountModel.judge(I)I ===== -/
abbrev rmX10_judge : Room := { frames := 4, cells := 0, slots := 0, locals := 92 }
theorem kkX10_judge : yX10_judge.cls = RX10 ∧ yX10_judge.cls ≠ "java/lang/invoke/MethodHandle" ∧ yX10_judge.cls ≠ "java/lang/invoke/VarHandle" ∧ (parseMethodDescriptor yX10_judge.desc).map (fun d => d.parameters.length) = some 1 := by decide +kernel
theorem mX10_judge_f102 : Cond.fieldLink RX10 102 "SilenceCountModel" "reason" "I" ∈ wsX10_judge := by decide +kernel
theorem wX10_judge_X10 : ∀ w ∈ u_ws RX10 TX10 19, w ∈ wsX10_judge := by decide +kernel
def fX10_judge (t_there : Int32) (t_awake : Int32) (t_house : Int32) (t_sharp : Int32) (t_signs : Int32) (t_up : Int32) (t_reason : Int32) (t_acts : Int32) (t_breaths : Int32) (t_zeroAt : Int32) (t_noticedAt : Int32) (t_count : Nat → Int32) (t_pace : Nat → Int32) (t_pad : Nat → Int32) (t_now : Nat → Int32) (a1 : Int32) : Option (Int32 × Int32 × Int32 × Int32 × Int32 × Int32 × Int32 × (Nat → Int32)) :=
  (fX10_in a1 0 1).bind fun r3 => if r3 = 0 then some ((-2), t_up, t_reason, t_acts, t_breaths, t_zeroAt, t_noticedAt, t_now) else (fX10_faultOf t_signs t_pad).bind fun r13 => if r13 < 0 then (fX10_goHours t_there t_awake t_house t_sharp t_signs t_up t_reason t_acts t_breaths t_zeroAt t_noticedAt t_count t_pace t_pad t_now).bind fun r23 => if r23.1 < 0 then some (r23.1, r23.2.1, r23.2.2.1, r23.2.2.2.1, r23.2.2.2.2.1, r23.2.2.2.2.2.1, r23.2.2.2.2.2.2.1, r23.2.2.2.2.2.2.2) else if a1 = 0 then some (r23.1, r23.2.1, r23.2.2.1, r23.2.2.2.1, r23.2.2.2.2.1, r23.2.2.2.2.2.1, r23.2.2.2.2.2.2.1, r23.2.2.2.2.2.2.2) else some (r23.2.2.1, r23.2.1, r23.2.2.1, r23.2.2.2.1, r23.2.2.2.2.1, r23.2.2.2.2.2.1, r23.2.2.2.2.2.2.1, r23.2.2.2.2.2.2.2) else some ((-5), t_up, t_reason, t_acts, t_breaths, t_zeroAt, t_noticedAt, t_now)
set_option maxRecDepth 100000 in
set_option maxHeartbeats 4000000 in
theorem CX10_judge (l : Launch) {D : va_G} {ty : TY} {A_t A_t_count A_t_pace A_t_sight A_t_pad A_t_now A_t_image A_t_isKept : Nat} {t_there : Int32} {t_awake : Int32} {t_house : Int32} {t_sharp : Int32} {t_sights : Int32} {t_signs : Int32} {t_up : Int32} {t_reason : Int32} {t_acts : Int32} {t_breaths : Int32} {t_zeroAt : Int32} {t_noticedAt : Int32} {t_count : Nat → Int32} {t_pace : Nat → Int32} {t_sight : Nat → Int32} {t_pad : Nat → Int32} {t_now : Nat → Int32} {t_image : Nat → Int32} {t_isKept : Nat → Int32} {a1 : Int32} {q0 : Int32 × Int32 × Int32 × Int32 × Int32 × Int32 × Int32 × (Nat → Int32)} (hf : fX10_judge t_there t_awake t_house t_sharp t_signs t_up t_reason t_acts t_breaths t_zeroAt t_noticedAt t_count t_pace t_pad t_now a1 = some q0) : RWi l yX10_judge wsX10_judge rmX10_judge D ty [.ref A_t, .int a1] [(A_t, .inr (9, [.int t_there, .int t_awake, .ref A_t_count, .ref A_t_pace, .int t_house, .int t_sharp, .int t_sights, .ref A_t_sight, .int t_signs, .ref A_t_pad, .int t_up, .ref A_t_now, .int t_reason, .int t_acts, .int t_breaths, .int t_zeroAt, .int t_noticedAt, .ref A_t_image, .ref A_t_isKept])), (A_t_count, .inl (ty.1, 8, .inl t_count)), (A_t_pace, .inl (ty.1, 8, .inl t_pace)), (A_t_sight, .inl (ty.1, 24, .inl t_sight)), (A_t_pad, .inl (ty.1, 60, .inl t_pad)), (A_t_now, .inl (ty.1, 8, .inl t_now)), (A_t_image, .inl (ty.1, 120, .inl t_image)), (A_t_isKept, .inl (ty.2.2.1, 2, .inl t_isKept))] q0.1 [(A_t, .inr (9, [.int t_there, .int t_awake, .ref A_t_count, .ref A_t_pace, .int t_house, .int t_sharp, .int t_sights, .ref A_t_sight, .int t_signs, .ref A_t_pad, .int q0.2.1, .ref A_t_now, .int q0.2.2.1, .int q0.2.2.2.1, .int q0.2.2.2.2.1, .int q0.2.2.2.2.2.1, .int q0.2.2.2.2.2.2.1, .ref A_t_image, .ref A_t_isKept])), (A_t_count, .inl (ty.1, 8, .inl t_count)), (A_t_pace, .inl (ty.1, 8, .inl t_pace)), (A_t_sight, .inl (ty.1, 24, .inl t_sight)), (A_t_pad, .inl (ty.1, 60, .inl t_pad)), (A_t_now, .inl (ty.1, 8, .inl q0.2.2.2.2.2.2.2)), (A_t_image, .inl (ty.1, 120, .inl t_image)), (A_t_isKept, .inl (ty.2.2.1, 2, .inl t_isKept))] := by
  refine RWi.start (cc := cX10_judge) (maxL := 3) (ret := (some .int)) (own := RX10) (by decide) rfl rfl (Nat.le_of_ble_eq_true rfl) ?_
  intro p e s m below meth c ls C hK hP hD hS hl
  obtain ⟨WC, hWC⟩ : ∃ w : va_W, w = [(A_t, .inr (9, [.int t_there, .int t_awake, .ref A_t_count, .ref A_t_pace, .int t_house, .int t_sharp, .int t_sights, .ref A_t_sight, .int t_signs, .ref A_t_pad, .int t_up, .ref A_t_now, .int t_reason, .int t_acts, .int t_breaths, .int t_zeroAt, .int t_noticedAt, .ref A_t_image, .ref A_t_isKept])), (A_t_count, .inl (ty.1, 8, .inl t_count)), (A_t_pace, .inl (ty.1, 8, .inl t_pace)), (A_t_sight, .inl (ty.1, 24, .inl t_sight)), (A_t_pad, .inl (ty.1, 60, .inl t_pad)), (A_t_now, .inl (ty.1, 8, .inl t_now)), (A_t_image, .inl (ty.1, 120, .inl t_image)), (A_t_isKept, .inl (ty.2.2.1, 2, .inl t_isKept))] := ⟨_, rfl⟩
  rw [← hWC] at hD hS ⊢
  have hD : va_D (va_A WC s.heap.size) [(A_t, .inr (9, [.int t_there, .int t_awake, .ref A_t_count, .ref A_t_pace, .int t_house, .int t_sharp, .int t_sights, .ref A_t_sight, .int t_signs, .ref A_t_pad, .int t_up, .ref A_t_now, .int t_reason, .int t_acts, .int t_breaths, .int t_zeroAt, .int t_noticedAt, .ref A_t_image, .ref A_t_isKept])), (A_t_count, .inl (ty.1, 8, .inl t_count)), (A_t_pace, .inl (ty.1, 8, .inl t_pace)), (A_t_sight, .inl (ty.1, 24, .inl t_sight)), (A_t_pad, .inl (ty.1, 60, .inl t_pad)), (A_t_now, .inl (ty.1, 8, .inl t_now)), (A_t_image, .inl (ty.1, 120, .inl t_image)), (A_t_isKept, .inl (ty.2.2.1, 2, .inl t_isKept))] := by rw [← hWC]; exact hD
  obtain ⟨hx, hb, hr, hml, hown, hts, hlocks⟩ := id C
  have hl : lv_has ls 3 [(0, .ref A_t), (1, .int a1)] := hl
  unfold fX10_judge at hf
  refine lv_iload_n hx hb dX10_judge_0 rfl (lv_at hl 1 rfl) ?_
  refine lv_iconst (v := 0) hx hb dX10_judge_1 (by decide) ?_
  refine lv_iconst (v := 1) hx hb dX10_judge_2 (by decide) ?_
  obtain ⟨r3, hr3, hf⟩ := bnd hf
  have hPc : va_P D vwCl [] _ := hP.sub [] rfl
  refine callS_ri (As := [.int a1, .int 0, .int 1]) (rest := []) ⟨hx, hb, hml, hown, hts⟩ (CX10_in l hr3) (va_cwS 3 hts gX10_judge_X10_in rfl rfl rfl kkX10_in.2 ⟨Nat.le_of_ble_eq_true rfl, Nat.le_of_ble_eq_true rfl⟩) hK hPc hl.1 rfl (Nat.le_of_ble_eq_true rfl) dX10_judge_3 ⟨Nat.zero_le _, Nat.zero_le _⟩ ?_
  refine lv_if_ne (tgt := 12) hx hb dX10_judge_6 (by decide) (fun hc => ?_) (fun hc => ?_)
  · have hf := ff hf hc
    refine lv_aload_n hx hb dX10_judge_12 rfl (lv_at hl 0 rfl) ?_
    obtain ⟨r13, hr13, hf⟩ := bnd hf
    refine callV_ri (As := []) (rest := []) ⟨hx, hb, hml, hown, hts⟩ (CX10_faultOf l hr13) (cwV 0 hts gX10_judge_X10_faultOf rfl rfl rfl kkX10_faultOf ⟨Nat.le_of_ble_eq_true rfl, Nat.le_of_ble_eq_true rfl⟩) hK hP 0 rfl rfl rfl hl.1 rfl (Nat.le_of_ble_eq_true rfl) dX10_judge_13 ⟨Nat.zero_le _, Nat.zero_le _⟩ ?_
    refine lv_if_lt (tgt := 22) hx hb dX10_judge_16 (by decide) (fun hc => ?_) (fun hc => ?_)
    · have hf := ft hf hc
      refine lv_aload_n hx hb dX10_judge_22 rfl (lv_at hl 0 rfl) ?_
      obtain ⟨r23, hr23, hf⟩ := bnd hf
      refine callV_wi (As := []) (rest := []) ⟨hx, hb, hml, hown, hts⟩ (CX10_goHours l hr23) (cwV 0 hts gX10_judge_X10_goHours rfl rfl rfl kkX10_goHours ⟨Nat.le_of_ble_eq_true rfl, Nat.le_of_ble_eq_true rfl⟩) hK hP hD hS (fun _ h => Or.inr h) [0, 1, 2, 3, 4, 5, 6, 7] [] [0, 1, 2, 3, 4, 5, 6, 7] rfl (by decide) (by decide) rfl rfl 0 rfl rfl rfl hl.1 rfl (Nat.le_of_ble_eq_true rfl) dX10_judge_23 ⟨Nat.zero_le _, Nat.zero_le _⟩ (fun H locs hP hD hS => ?_)
      have hP : va_P D vwCl [(A_t, .inr (9, [.int t_there, .int t_awake, .ref A_t_count, .ref A_t_pace, .int t_house, .int t_sharp, .int t_sights, .ref A_t_sight, .int t_signs, .ref A_t_pad, .int r23.2.1, .ref A_t_now, .int r23.2.2.1, .int r23.2.2.2.1, .int r23.2.2.2.2.1, .int r23.2.2.2.2.2.1, .int r23.2.2.2.2.2.2.1, .ref A_t_image, .ref A_t_isKept])), (A_t_count, .inl (ty.1, 8, .inl t_count)), (A_t_pace, .inl (ty.1, 8, .inl t_pace)), (A_t_sight, .inl (ty.1, 24, .inl t_sight)), (A_t_pad, .inl (ty.1, 60, .inl t_pad)), (A_t_now, .inl (ty.1, 8, .inl r23.2.2.2.2.2.2.2)), (A_t_image, .inl (ty.1, 120, .inl t_image)), (A_t_isKept, .inl (ty.2.2.1, 2, .inl t_isKept))] H := hP
      have hD : va_D (va_A WC s.heap.size) [(A_t, .inr (9, [.int t_there, .int t_awake, .ref A_t_count, .ref A_t_pace, .int t_house, .int t_sharp, .int t_sights, .ref A_t_sight, .int t_signs, .ref A_t_pad, .int r23.2.1, .ref A_t_now, .int r23.2.2.1, .int r23.2.2.2.1, .int r23.2.2.2.2.1, .int r23.2.2.2.2.2.1, .int r23.2.2.2.2.2.2.1, .ref A_t_image, .ref A_t_isKept])), (A_t_count, .inl (ty.1, 8, .inl t_count)), (A_t_pace, .inl (ty.1, 8, .inl t_pace)), (A_t_sight, .inl (ty.1, 24, .inl t_sight)), (A_t_pad, .inl (ty.1, 60, .inl t_pad)), (A_t_now, .inl (ty.1, 8, .inl r23.2.2.2.2.2.2.2)), (A_t_image, .inl (ty.1, 120, .inl t_image)), (A_t_isKept, .inl (ty.2.2.1, 2, .inl t_isKept))] := hD
      refine lv_istore_n (lv' := [(2, .int r23.1), (0, .ref A_t), (1, .int a1)]) hx hb dX10_judge_26 rfl hl (by decide) rfl (fun ls hl => ?_)
      refine lv_iload_n hx hb dX10_judge_27 rfl (lv_at hl 0 rfl) ?_
      refine lv_if_lt (tgt := 35) hx hb dX10_judge_28 (by decide) (fun hc => ?_) (fun hc => ?_)
      · have hf := ft hf hc
        refine lv_iload_n hx hb dX10_judge_35 rfl (lv_at hl 0 rfl) ?_
        refine lv_goto (tgt := 43) hx hb dX10_judge_36 (by decide) ?_
        cases hf
        exact ret_wi hx hb hr hlocks hP hD hS dX10_judge_43
      · have hf := ff hf hc
        refine lv_iload_n hx hb dX10_judge_31 rfl (lv_at hl 2 rfl) ?_
        refine lv_if_ne (tgt := 39) hx hb dX10_judge_32 (by decide) (fun hc => ?_) (fun hc => ?_)
        · have hf := ff hf hc
          refine lv_aload_n hx hb dX10_judge_39 rfl (lv_at hl 1 rfl) ?_
          refine va_get (D := D) (ci := 9) (v := .int r23.2.2.1) (C := RX10) (T := TX10) (N := 19) hx hb hts wX10_judge_X10 hown hK.1 hP 0 rfl rfl 12 (by decide) (hts _ mX10_judge_f102) (fun _ h9 => h9) rfl dX10_judge_40 ?_
          cases hf
          exact ret_wi hx hb hr hlocks hP hD hS dX10_judge_43
        · have hf := ft hf hc
          refine lv_iload_n hx hb dX10_judge_35 rfl (lv_at hl 0 rfl) ?_
          refine lv_goto (tgt := 43) hx hb dX10_judge_36 (by decide) ?_
          cases hf
          exact ret_wi hx hb hr hlocks hP hD hS dX10_judge_43
    · have hf := ff hf hc
      refine lv_bipush (v := (-5)) hx hb dX10_judge_19 (by decide) ?_
      cases hf
      exact ret_wi hx hb hr hlocks hP hD hS dX10_judge_21
  · have hf := ft hf hc
    refine lv_bipush (v := (-2)) hx hb dX10_judge_9 (by decide) ?_
    cases hf
    exact ret_wi hx hb hr hlocks hP hD hS dX10_judge_11
/-! ===== SilenceCountModel.leave(I)I ===== -/
abbrev rmX10_leave : Room := { frames := 2, cells := 0, slots := 0, locals := 43 }
theorem kkX10_leave : yX10_leave.cls = RX10 ∧ yX10_leave.cls ≠ "java/lang/invoke/MethodHandle" ∧ yX10_leave.cls ≠ "java/lang/invoke/VarHandle" ∧ (parseMethodDescriptor yX10_leave.desc).map (fun d => d.parameters.length) = some 1 := by decide +kernel
theorem mX10_leave_f40 : Cond.fieldLink RX10 40 "SilenceCountModel" "there" "I" ∈ wsX10_leave := by decide +kernel
theorem mX10_leave_f55 : Cond.fieldLink RX10 55 "SilenceCountModel" "awake" "I" ∈ wsX10_leave := by decide +kernel
theorem wX10_leave_X10 : ∀ w ∈ u_ws RX10 TX10 19, w ∈ wsX10_leave := by decide +kernel
def fX10_leave (t_there : Int32) (t_awake : Int32) (a1 : Int32) : Option (Int32 × Int32 × Int32) :=
  (fX10_isThere t_there a1).bind fun r2 => if r2 = 0 then some ((-1), t_there, t_awake) else (fX10_bits (t_there &&& ((1 <<< (a1 &&& 31)) ^^^ (-1)))).bind fun r42 => some (r42, t_there &&& ((1 <<< (a1 &&& 31)) ^^^ (-1)), t_awake &&& ((1 <<< (a1 &&& 31)) ^^^ (-1)))
set_option maxRecDepth 100000 in
set_option maxHeartbeats 4000000 in
theorem CX10_leave (l : Launch) {D : va_G} {ty : TY} {A_t A_t_count A_t_pace A_t_sight A_t_pad A_t_now A_t_image A_t_isKept : Nat} {t_there : Int32} {t_awake : Int32} {t_house : Int32} {t_sharp : Int32} {t_sights : Int32} {t_signs : Int32} {t_up : Int32} {t_reason : Int32} {t_acts : Int32} {t_breaths : Int32} {t_zeroAt : Int32} {t_noticedAt : Int32} {t_count : Nat → Int32} {t_pace : Nat → Int32} {t_sight : Nat → Int32} {t_pad : Nat → Int32} {t_now : Nat → Int32} {t_image : Nat → Int32} {t_isKept : Nat → Int32} {a1 : Int32} {q0 : Int32 × Int32 × Int32} (hf : fX10_leave t_there t_awake a1 = some q0) : RWi l yX10_leave wsX10_leave rmX10_leave D ty [.ref A_t, .int a1] [(A_t, .inr (9, [.int t_there, .int t_awake, .ref A_t_count, .ref A_t_pace, .int t_house, .int t_sharp, .int t_sights, .ref A_t_sight, .int t_signs, .ref A_t_pad, .int t_up, .ref A_t_now, .int t_reason, .int t_acts, .int t_breaths, .int t_zeroAt, .int t_noticedAt, .ref A_t_image, .ref A_t_isKept])), (A_t_count, .inl (ty.1, 8, .inl t_count)), (A_t_pace, .inl (ty.1, 8, .inl t_pace)), (A_t_sight, .inl (ty.1, 24, .inl t_sight)), (A_t_pad, .inl (ty.1, 60, .inl t_pad)), (A_t_now, .inl (ty.1, 8, .inl t_now)), (A_t_image, .inl (ty.1, 120, .inl t_image)), (A_t_isKept, .inl (ty.2.2.1, 2, .inl t_isKept))] q0.1 [(A_t, .inr (9, [.int q0.2.1, .int q0.2.2, .ref A_t_count, .ref A_t_pace, .int t_house, .int t_sharp, .int t_sights, .ref A_t_sight, .int t_signs, .ref A_t_pad, .int t_up, .ref A_t_now, .int t_reason, .int t_acts, .int t_breaths, .int t_zeroAt, .int t_noticedAt, .ref A_t_image, .ref A_t_isKept])), (A_t_count, .inl (ty.1, 8, .inl t_count)), (A_t_pace, .inl (ty.1, 8, .inl t_pace)), (A_t_sight, .inl (ty.1, 24, .inl t_sight)), (A_t_pad, .inl (ty.1, 60, .inl t_pad)), (A_t_now, .inl (ty.1, 8, .inl t_now)), (A_t_image, .inl (ty.1, 120, .inl t_image)), (A_t_isKept, .inl (ty.2.2.1, 2, .inl t_isKept))] := by
  refine RWi.start (cc := cX10_leave) (maxL := 2) (ret := (some .int)) (own := RX10) (by decide) rfl rfl (Nat.le_of_ble_eq_true rfl) ?_
  intro p e s m below meth c ls C hK hP hD hS hl
  obtain ⟨WC, hWC⟩ : ∃ w : va_W, w = [(A_t, .inr (9, [.int t_there, .int t_awake, .ref A_t_count, .ref A_t_pace, .int t_house, .int t_sharp, .int t_sights, .ref A_t_sight, .int t_signs, .ref A_t_pad, .int t_up, .ref A_t_now, .int t_reason, .int t_acts, .int t_breaths, .int t_zeroAt, .int t_noticedAt, .ref A_t_image, .ref A_t_isKept])), (A_t_count, .inl (ty.1, 8, .inl t_count)), (A_t_pace, .inl (ty.1, 8, .inl t_pace)), (A_t_sight, .inl (ty.1, 24, .inl t_sight)), (A_t_pad, .inl (ty.1, 60, .inl t_pad)), (A_t_now, .inl (ty.1, 8, .inl t_now)), (A_t_image, .inl (ty.1, 120, .inl t_image)), (A_t_isKept, .inl (ty.2.2.1, 2, .inl t_isKept))] := ⟨_, rfl⟩
  rw [← hWC] at hD hS ⊢
  have hD : va_D (va_A WC s.heap.size) [(A_t, .inr (9, [.int t_there, .int t_awake, .ref A_t_count, .ref A_t_pace, .int t_house, .int t_sharp, .int t_sights, .ref A_t_sight, .int t_signs, .ref A_t_pad, .int t_up, .ref A_t_now, .int t_reason, .int t_acts, .int t_breaths, .int t_zeroAt, .int t_noticedAt, .ref A_t_image, .ref A_t_isKept])), (A_t_count, .inl (ty.1, 8, .inl t_count)), (A_t_pace, .inl (ty.1, 8, .inl t_pace)), (A_t_sight, .inl (ty.1, 24, .inl t_sight)), (A_t_pad, .inl (ty.1, 60, .inl t_pad)), (A_t_now, .inl (ty.1, 8, .inl t_now)), (A_t_image, .inl (ty.1, 120, .inl t_image)), (A_t_isKept, .inl (ty.2.2.1, 2, .inl t_isKept))] := by rw [← hWC]; exact hD
  obtain ⟨hx, hb, hr, hml, hown, hts, hlocks⟩ := id C
  have hl : lv_has ls 2 [(0, .ref A_t), (1, .int a1)] := hl
  unfold fX10_leave at hf
  refine lv_aload_n hx hb dX10_leave_0 rfl (lv_at hl 0 rfl) ?_
  refine lv_iload_n hx hb dX10_leave_1 rfl (lv_at hl 1 rfl) ?_
  obtain ⟨r2, hr2, hf⟩ := bnd hf
  refine callV_ri (As := [.int a1]) (rest := []) ⟨hx, hb, hml, hown, hts⟩ (CX10_isThere l hr2) (cwV 1 hts gX10_leave_X10_isThere rfl rfl rfl kkX10_isThere ⟨Nat.le_of_ble_eq_true rfl, Nat.le_of_ble_eq_true rfl⟩) hK hP 0 rfl rfl rfl hl.1 rfl (Nat.le_of_ble_eq_true rfl) dX10_leave_2 ⟨Nat.zero_le _, Nat.zero_le _⟩ ?_
  refine lv_if_ne (tgt := 10) hx hb dX10_leave_5 (by decide) (fun hc => ?_) (fun hc => ?_)
  · have hf := ff hf hc
    refine lv_aload_n hx hb dX10_leave_10 rfl (lv_at hl 0 rfl) ?_
    refine lv_dup hx hb dX10_leave_11 rfl ?_
    refine va_get (D := D) (ci := 9) (v := .int t_there) (C := RX10) (T := TX10) (N := 19) hx hb hts wX10_leave_X10 hown hK.1 hP 0 rfl rfl 0 (by decide) (hts _ mX10_leave_f40) (fun _ h9 => h9) rfl dX10_leave_12 ?_
    refine lv_iconst (v := 1) hx hb dX10_leave_15 (by decide) ?_
    refine lv_iload_n hx hb dX10_leave_16 rfl (lv_at hl 1 rfl) ?_
    refine lv_ishl hx hb dX10_leave_17 ?_
    refine lv_iconst (v := (-1)) hx hb dX10_leave_18 (by decide) ?_
    refine lv_ixor hx hb dX10_leave_19 ?_
    refine lv_iand hx hb dX10_leave_20 ?_
    refine va_put (D := D) (ci := 9) (v := .int (t_there &&& ((1 <<< (a1 &&& 31)) ^^^ (-1)))) (ty := .int) (C := RX10) (T := TX10) (N := 19) hx hb hts wX10_leave_X10 tyX10 tyX10_ok nmX10 hown hK.1 hP hD hS 0 rfl rfl 0 (by decide) (hts _ mX10_leave_f40) (fun _ h9 => h9) rfl (by decide +kernel) rfl rfl (Nat.le_of_ble_eq_true rfl) dX10_leave_21 (fun H locs hP hD hS => ?_)
    have hP : va_P D vwCl [(A_t, .inr (9, [.int (t_there &&& ((1 <<< (a1 &&& 31)) ^^^ (-1))), .int t_awake, .ref A_t_count, .ref A_t_pace, .int t_house, .int t_sharp, .int t_sights, .ref A_t_sight, .int t_signs, .ref A_t_pad, .int t_up, .ref A_t_now, .int t_reason, .int t_acts, .int t_breaths, .int t_zeroAt, .int t_noticedAt, .ref A_t_image, .ref A_t_isKept])), (A_t_count, .inl (ty.1, 8, .inl t_count)), (A_t_pace, .inl (ty.1, 8, .inl t_pace)), (A_t_sight, .inl (ty.1, 24, .inl t_sight)), (A_t_pad, .inl (ty.1, 60, .inl t_pad)), (A_t_now, .inl (ty.1, 8, .inl t_now)), (A_t_image, .inl (ty.1, 120, .inl t_image)), (A_t_isKept, .inl (ty.2.2.1, 2, .inl t_isKept))] H := hP
    have hD : va_D (va_A WC s.heap.size) [(A_t, .inr (9, [.int (t_there &&& ((1 <<< (a1 &&& 31)) ^^^ (-1))), .int t_awake, .ref A_t_count, .ref A_t_pace, .int t_house, .int t_sharp, .int t_sights, .ref A_t_sight, .int t_signs, .ref A_t_pad, .int t_up, .ref A_t_now, .int t_reason, .int t_acts, .int t_breaths, .int t_zeroAt, .int t_noticedAt, .ref A_t_image, .ref A_t_isKept])), (A_t_count, .inl (ty.1, 8, .inl t_count)), (A_t_pace, .inl (ty.1, 8, .inl t_pace)), (A_t_sight, .inl (ty.1, 24, .inl t_sight)), (A_t_pad, .inl (ty.1, 60, .inl t_pad)), (A_t_now, .inl (ty.1, 8, .inl t_now)), (A_t_image, .inl (ty.1, 120, .inl t_image)), (A_t_isKept, .inl (ty.2.2.1, 2, .inl t_isKept))] := hD
    refine lv_aload_n hx hb dX10_leave_24 rfl (lv_at hl 0 rfl) ?_
    refine lv_dup hx hb dX10_leave_25 rfl ?_
    refine va_get (D := D) (ci := 9) (v := .int t_awake) (C := RX10) (T := TX10) (N := 19) hx hb hts wX10_leave_X10 hown hK.1 hP 0 rfl rfl 1 (by decide) (hts _ mX10_leave_f55) (fun _ h9 => h9) rfl dX10_leave_26 ?_
    refine lv_iconst (v := 1) hx hb dX10_leave_29 (by decide) ?_
    refine lv_iload_n hx hb dX10_leave_30 rfl (lv_at hl 1 rfl) ?_
    refine lv_ishl hx hb dX10_leave_31 ?_
    refine lv_iconst (v := (-1)) hx hb dX10_leave_32 (by decide) ?_
    refine lv_ixor hx hb dX10_leave_33 ?_
    refine lv_iand hx hb dX10_leave_34 ?_
    refine va_put (D := D) (ci := 9) (v := .int (t_awake &&& ((1 <<< (a1 &&& 31)) ^^^ (-1)))) (ty := .int) (C := RX10) (T := TX10) (N := 19) hx hb hts wX10_leave_X10 tyX10 tyX10_ok nmX10 hown hK.1 hP hD hS 0 rfl rfl 1 (by decide) (hts _ mX10_leave_f55) (fun _ h9 => h9) rfl (by decide +kernel) rfl rfl (Nat.le_of_ble_eq_true rfl) dX10_leave_35 (fun H locs hP hD hS => ?_)
    have hP : va_P D vwCl [(A_t, .inr (9, [.int (t_there &&& ((1 <<< (a1 &&& 31)) ^^^ (-1))), .int (t_awake &&& ((1 <<< (a1 &&& 31)) ^^^ (-1))), .ref A_t_count, .ref A_t_pace, .int t_house, .int t_sharp, .int t_sights, .ref A_t_sight, .int t_signs, .ref A_t_pad, .int t_up, .ref A_t_now, .int t_reason, .int t_acts, .int t_breaths, .int t_zeroAt, .int t_noticedAt, .ref A_t_image, .ref A_t_isKept])), (A_t_count, .inl (ty.1, 8, .inl t_count)), (A_t_pace, .inl (ty.1, 8, .inl t_pace)), (A_t_sight, .inl (ty.1, 24, .inl t_sight)), (A_t_pad, .inl (ty.1, 60, .inl t_pad)), (A_t_now, .inl (ty.1, 8, .inl t_now)), (A_t_image, .inl (ty.1, 120, .inl t_image)), (A_t_isKept, .inl (ty.2.2.1, 2, .inl t_isKept))] H := hP
    have hD : va_D (va_A WC s.heap.size) [(A_t, .inr (9, [.int (t_there &&& ((1 <<< (a1 &&& 31)) ^^^ (-1))), .int (t_awake &&& ((1 <<< (a1 &&& 31)) ^^^ (-1))), .ref A_t_count, .ref A_t_pace, .int t_house, .int t_sharp, .int t_sights, .ref A_t_sight, .int t_signs, .ref A_t_pad, .int t_up, .ref A_t_now, .int t_reason, .int t_acts, .int t_breaths, .int t_zeroAt, .int t_noticedAt, .ref A_t_image, .ref A_t_isKept])), (A_t_count, .inl (ty.1, 8, .inl t_count)), (A_t_pace, .inl (ty.1, 8, .inl t_pace)), (A_t_sight, .inl (ty.1, 24, .inl t_sight)), (A_t_pad, .inl (ty.1, 60, .inl t_pad)), (A_t_now, .inl (ty.1, 8, .inl t_now)), (A_t_image, .inl (ty.1, 120, .inl t_image)), (A_t_isKept, .inl (ty.2.2.1, 2, .inl t_isKept))] := hD
    refine lv_aload_n hx hb dX10_leave_38 rfl (lv_at hl 0 rfl) ?_
    refine va_get (D := D) (ci := 9) (v := .int (t_there &&& ((1 <<< (a1 &&& 31)) ^^^ (-1)))) (C := RX10) (T := TX10) (N := 19) hx hb hts wX10_leave_X10 hown hK.1 hP 0 rfl rfl 0 (by decide) (hts _ mX10_leave_f40) (fun _ h9 => h9) rfl dX10_leave_39 ?_
    obtain ⟨r42, hr42, hf⟩ := bnd hf
    have hPc : va_P D vwCl [] _ := hP.sub [] rfl
    refine callS_ri (As := [.int (t_there &&& ((1 <<< (a1 &&& 31)) ^^^ (-1)))]) (rest := []) ⟨hx, hb, hml, hown, hts⟩ (CX10_bits l hr42) (va_cwS 1 hts gX10_leave_X10_bits rfl rfl rfl kkX10_bits.2 ⟨Nat.le_of_ble_eq_true rfl, Nat.le_of_ble_eq_true rfl⟩) hK hPc hl.1 rfl (Nat.le_of_ble_eq_true rfl) dX10_leave_42 ⟨Nat.zero_le _, Nat.zero_le _⟩ ?_
    cases hf
    exact ret_wi hx hb hr hlocks hP hD hS dX10_leave_45
  · have hf := ft hf hc
    refine lv_iconst (v := (-1)) hx hb dX10_leave_8 (by decide) ?_
    cases hf
    exact ret_wi hx hb hr hlocks hP hD hS dX10_leave_9
/-! ===== SilenceCountModel.meet(II)I ===== -/
abbrev rmX10_meet : Room := { frames := 3, cells := 0, slots := 0, locals := 64 }
theorem kkX10_meet : yX10_meet.cls = RX10 ∧ yX10_meet.cls ≠ "java/lang/invoke/MethodHandle" ∧ yX10_meet.cls ≠ "java/lang/invoke/VarHandle" ∧ (parseMethodDescriptor yX10_meet.desc).map (fun d => d.parameters.length) = some 2 := by decide +kernel
theorem mX10_meet_f7 : Cond.fieldLink RX10 7 "SilenceCountModel" "count" "[I" ∈ wsX10_meet := by decide +kernel
theorem mX10_meet_f13 : Cond.fieldLink RX10 13 "SilenceCountModel" "pace" "[I" ∈ wsX10_meet := by decide +kernel
theorem wX10_meet_X10 : ∀ w ∈ u_ws RX10 TX10 19, w ∈ wsX10_meet := by decide +kernel
def bX10_meet_86 (t_count : Nat → Int32) (t_pace : Nat → Int32) (a1 : Int32) (s0 : Int32) : Option (Int32) :=
  if s0 < 0 then some (-6) else gIn a1 8 (gIn a1 8 (if (lg_cmp (((t_count (a1 : Int32).toNatClampNeg : Int32).toInt64) - (((s0 : Int32).toInt64) * ((t_pace (a1 : Int32).toNatClampNeg : Int32).toInt64))) 0) ≤ 0 then some (-6) else some s0))
set_option maxRecDepth 100000 in
set_option maxHeartbeats 4000000 in
theorem BX10_meet_86 {p : Program} {l : Launch} {e : Env} {s : State} {m : MethodId} {below : List Frame} {meth : Method} {c : Code} {D : va_G} {ty : TY} {A_t A_t_count A_t_pace A_t_sight A_t_pad A_t_now A_t_image A_t_isKept : Nat} {t_there : Int32} {t_awake : Int32} {t_house : Int32} {t_sharp : Int32} {t_sights : Int32} {t_signs : Int32} {t_up : Int32} {t_reason : Int32} {t_acts : Int32} {t_breaths : Int32} {t_zeroAt : Int32} {t_noticedAt : Int32} {t_count : Nat → Int32} {t_pace : Nat → Int32} {t_sight : Nat → Int32} {t_pad : Nat → Int32} {t_now : Nat → Int32} {t_image : Nat → Int32} {t_isKept : Nat → Int32} {a1 : Int32} {a2 : Int32} {q0 : Int32} (C : cx p s m [.ref A_t, .int a1, .int a2] meth c cX10_meet 6 (some .int) RX10 wsX10_meet) (hK : KK D ty s) (hP : va_P D vwCl [(A_t, .inr (9, [.int t_there, .int t_awake, .ref A_t_count, .ref A_t_pace, .int t_house, .int t_sharp, .int t_sights, .ref A_t_sight, .int t_signs, .ref A_t_pad, .int t_up, .ref A_t_now, .int t_reason, .int t_acts, .int t_breaths, .int t_zeroAt, .int t_noticedAt, .ref A_t_image, .ref A_t_isKept])), (A_t_count, .inl (ty.1, 8, .inl t_count)), (A_t_pace, .inl (ty.1, 8, .inl t_pace)), (A_t_sight, .inl (ty.1, 24, .inl t_sight)), (A_t_pad, .inl (ty.1, 60, .inl t_pad)), (A_t_now, .inl (ty.1, 8, .inl t_now)), (A_t_image, .inl (ty.1, 120, .inl t_image)), (A_t_isKept, .inl (ty.2.2.1, 2, .inl t_isKept))] s.heap)   {s0 : Int32} {ls : Array Slot} (hl : lv_has ls 6 [(0, .ref A_t), (1, .int a1)]) (hf : bX10_meet_86 t_count t_pace a1 s0 = some q0) : WRi p l e rmX10_meet s m [.ref A_t, .int a1, .int a2] below meth c q0 (F0 m 86 ls [.int s0]) := by
  obtain ⟨hx, hb, hr, hml, hown, hts, hlocks⟩ := id C
  unfold bX10_meet_86 at hf
  refine lv_istore (lv' := [(5, .int s0), (0, .ref A_t), (1, .int a1)]) hx hb dX10_meet_86 hl (by decide) rfl (fun ls hl => ?_)
  refine lv_iload hx hb dX10_meet_88 (lv_at hl 0 rfl) ?_
  refine lv_if_lt (tgt := 122) hx hb dX10_meet_90 (by decide) (fun hc => ?_) (fun hc => ?_)
  · have hf := ft hf hc
    refine lv_bipush (v := (-6)) hx hb dX10_meet_122 (by decide) ?_
    exact ret_ri hx hb hr hlocks hf dX10_meet_124
  · have hf := ff hf hc
    refine lv_aload_n hx hb dX10_meet_93 rfl (lv_at hl 1 rfl) ?_
    refine va_get (D := D) (ci := 9) (v := .ref A_t_count) (C := RX10) (T := TX10) (N := 19) hx hb hts wX10_meet_X10 hown hK.1 hP 0 rfl rfl 2 (by decide) (hts _ mX10_meet_f7) (fun _ h9 => h9) rfl dX10_meet_94 ?_
    refine lv_iload_n hx hb dX10_meet_97 rfl (lv_at hl 2 rfl) ?_
    obtain ⟨hin, hf⟩ := gIn_some hf
    refine va_iald hx hb hK.1 hP 1 0 rfl rfl hin dX10_meet_98 ?_
    refine lv_i2l hx hb dX10_meet_99 rfl ?_
    refine lv_iload hx hb dX10_meet_100 (lv_at hl 0 rfl) ?_
    refine lv_i2l hx hb dX10_meet_102 rfl ?_
    refine lv_aload_n hx hb dX10_meet_103 rfl (lv_at hl 1 rfl) ?_
    refine va_get (D := D) (ci := 9) (v := .ref A_t_pace) (C := RX10) (T := TX10) (N := 19) hx hb hts wX10_meet_X10 hown hK.1 hP 0 rfl rfl 3 (by decide) (hts _ mX10_meet_f13) (fun _ h9 => h9) rfl dX10_meet_104 ?_
    refine lv_iload_n hx hb dX10_meet_107 rfl (lv_at hl 2 rfl) ?_
    obtain ⟨hin, hf⟩ := gIn_some hf
    refine va_iald hx hb hK.1 hP 2 0 rfl rfl hin dX10_meet_108 ?_
    refine lv_i2l hx hb dX10_meet_109 rfl ?_
    refine lv_lmul hx hb dX10_meet_110 ?_
    refine lv_lsub hx hb dX10_meet_111 ?_
    refine lv_lconst (v := 0) hx hb dX10_meet_112 (by decide) ?_
    refine W.lcmp hx hb dX10_meet_113 ?_
    refine lv_if_le (tgt := 122) hx hb dX10_meet_114 (by decide) (fun hc => ?_) (fun hc => ?_)
    · have hf := ft hf hc
      refine lv_bipush (v := (-6)) hx hb dX10_meet_122 (by decide) ?_
      exact ret_ri hx hb hr hlocks hf dX10_meet_124
    · have hf := ff hf hc
      refine lv_iload hx hb dX10_meet_117 (lv_at hl 0 rfl) ?_
      refine lv_goto (tgt := 124) hx hb dX10_meet_119 (by decide) ?_
      exact ret_ri hx hb hr hlocks hf dX10_meet_124
def fX10_meet (t_there : Int32) (t_awake : Int32) (t_count : Nat → Int32) (t_pace : Nat → Int32) (a1 : Int32) (a2 : Int32) : Option (Int32) :=
  (fX10_isAwake t_there t_awake a1).bind fun r2 => if r2 = 0 then some (-1) else (fX10_isAwake t_there t_awake a2).bind fun r10 => if r10 = 0 then some (-1) else if a1 = a2 then some (-1) else gIn a1 8 (gIn a2 8 (gIn a1 8 (gIn a2 8 (if ((t_pace (a1 : Int32).toNatClampNeg) - (t_pace (a2 : Int32).toNatClampNeg)) = 0 then if ((t_count (a1 : Int32).toNatClampNeg) - (t_count (a2 : Int32).toNatClampNeg)) = 0 then bX10_meet_86 t_count t_pace a1 0 else bX10_meet_86 t_count t_pace a1 (-6) else gNz ((t_pace (a1 : Int32).toNatClampNeg) - (t_pace (a2 : Int32).toNatClampNeg)) (if (((t_count (a1 : Int32).toNatClampNeg) - (t_count (a2 : Int32).toNatClampNeg)) - ((t_count (a1 : Int32).toNatClampNeg) - (t_count (a2 : Int32).toNatClampNeg)) / ((t_pace (a1 : Int32).toNatClampNeg) - (t_pace (a2 : Int32).toNatClampNeg)) * ((t_pace (a1 : Int32).toNatClampNeg) - (t_pace (a2 : Int32).toNatClampNeg))) = 0 then gNz ((t_pace (a1 : Int32).toNatClampNeg) - (t_pace (a2 : Int32).toNatClampNeg)) (bX10_meet_86 t_count t_pace a1 (((t_count (a1 : Int32).toNatClampNeg) - (t_count (a2 : Int32).toNatClampNeg)) / ((t_pace (a1 : Int32).toNatClampNeg) - (t_pace (a2 : Int32).toNatClampNeg)))) else bX10_meet_86 t_count t_pace a1 (-6))))))
set_option maxRecDepth 100000 in
set_option maxHeartbeats 4000000 in
theorem CX10_meet (l : Launch) {D : va_G} {ty : TY} {A_t A_t_count A_t_pace A_t_sight A_t_pad A_t_now A_t_image A_t_isKept : Nat} {t_there : Int32} {t_awake : Int32} {t_house : Int32} {t_sharp : Int32} {t_sights : Int32} {t_signs : Int32} {t_up : Int32} {t_reason : Int32} {t_acts : Int32} {t_breaths : Int32} {t_zeroAt : Int32} {t_noticedAt : Int32} {t_count : Nat → Int32} {t_pace : Nat → Int32} {t_sight : Nat → Int32} {t_pad : Nat → Int32} {t_now : Nat → Int32} {t_image : Nat → Int32} {t_isKept : Nat → Int32} {a1 : Int32} {a2 : Int32} {q0 : Int32} (hf : fX10_meet t_there t_awake t_count t_pace a1 a2 = some q0) : ROi l yX10_meet wsX10_meet rmX10_meet D ty [.ref A_t, .int a1, .int a2] [(A_t, .inr (9, [.int t_there, .int t_awake, .ref A_t_count, .ref A_t_pace, .int t_house, .int t_sharp, .int t_sights, .ref A_t_sight, .int t_signs, .ref A_t_pad, .int t_up, .ref A_t_now, .int t_reason, .int t_acts, .int t_breaths, .int t_zeroAt, .int t_noticedAt, .ref A_t_image, .ref A_t_isKept])), (A_t_count, .inl (ty.1, 8, .inl t_count)), (A_t_pace, .inl (ty.1, 8, .inl t_pace)), (A_t_sight, .inl (ty.1, 24, .inl t_sight)), (A_t_pad, .inl (ty.1, 60, .inl t_pad)), (A_t_now, .inl (ty.1, 8, .inl t_now)), (A_t_image, .inl (ty.1, 120, .inl t_image)), (A_t_isKept, .inl (ty.2.2.1, 2, .inl t_isKept))] q0 := by
  refine ROi.start (cc := cX10_meet) (maxL := 6) (ret := (some .int)) (own := RX10) (by decide) rfl rfl (Nat.le_of_ble_eq_true rfl) ?_
  intro p e s m below meth c ls C hK hP hl
  obtain ⟨hx, hb, hr, hml, hown, hts, hlocks⟩ := id C
  have hl : lv_has ls 6 [(0, .ref A_t), (1, .int a1), (2, .int a2)] := hl
  unfold fX10_meet at hf
  refine lv_aload_n hx hb dX10_meet_0 rfl (lv_at hl 0 rfl) ?_
  refine lv_iload_n hx hb dX10_meet_1 rfl (lv_at hl 1 rfl) ?_
  obtain ⟨r2, hr2, hf⟩ := bnd hf
  refine callV_ri (As := [.int a1]) (rest := []) ⟨hx, hb, hml, hown, hts⟩ (CX10_isAwake l hr2) (cwV 1 hts gX10_meet_X10_isAwake rfl rfl rfl kkX10_isAwake ⟨Nat.le_of_ble_eq_true rfl, Nat.le_of_ble_eq_true rfl⟩) hK hP 0 rfl rfl rfl hl.1 rfl (Nat.le_of_ble_eq_true rfl) dX10_meet_2 ⟨Nat.zero_le _, Nat.zero_le _⟩ ?_
  refine lv_if_eq (tgt := 21) hx hb dX10_meet_5 (by decide) (fun hc => ?_) (fun hc => ?_)
  · have hf := ft hf hc
    refine lv_iconst (v := (-1)) hx hb dX10_meet_21 (by decide) ?_
    exact ret_ri hx hb hr hlocks hf dX10_meet_22
  · have hf := ff hf hc
    refine lv_aload_n hx hb dX10_meet_8 rfl (lv_at hl 0 rfl) ?_
    refine lv_iload_n hx hb dX10_meet_9 rfl (lv_at hl 2 rfl) ?_
    obtain ⟨r10, hr10, hf⟩ := bnd hf
    refine callV_ri (As := [.int a2]) (rest := []) ⟨hx, hb, hml, hown, hts⟩ (CX10_isAwake l hr10) (cwV 1 hts gX10_meet_X10_isAwake rfl rfl rfl kkX10_isAwake ⟨Nat.le_of_ble_eq_true rfl, Nat.le_of_ble_eq_true rfl⟩) hK hP 0 rfl rfl rfl hl.1 rfl (Nat.le_of_ble_eq_true rfl) dX10_meet_10 ⟨Nat.zero_le _, Nat.zero_le _⟩ ?_
    refine lv_if_eq (tgt := 21) hx hb dX10_meet_13 (by decide) (fun hc => ?_) (fun hc => ?_)
    · have hf := ft hf hc
      refine lv_iconst (v := (-1)) hx hb dX10_meet_21 (by decide) ?_
      exact ret_ri hx hb hr hlocks hf dX10_meet_22
    · have hf := ff hf hc
      refine lv_iload_n hx hb dX10_meet_16 rfl (lv_at hl 1 rfl) ?_
      refine lv_iload_n hx hb dX10_meet_17 rfl (lv_at hl 2 rfl) ?_
      refine lv_icmp_ne (tgt := 23) hx hb dX10_meet_18 (by decide) (fun hc => ?_) (fun hc => ?_)
      · have hf := ff hf hc
        refine lv_aload_n hx hb dX10_meet_23 rfl (lv_at hl 0 rfl) ?_
        refine va_get (D := D) (ci := 9) (v := .ref A_t_count) (C := RX10) (T := TX10) (N := 19) hx hb hts wX10_meet_X10 hown hK.1 hP 0 rfl rfl 2 (by decide) (hts _ mX10_meet_f7) (fun _ h9 => h9) rfl dX10_meet_24 ?_
        refine lv_iload_n hx hb dX10_meet_27 rfl (lv_at hl 1 rfl) ?_
        obtain ⟨hin, hf⟩ := gIn_some hf
        refine va_iald hx hb hK.1 hP 1 0 rfl rfl hin dX10_meet_28 ?_
        refine lv_aload_n hx hb dX10_meet_29 rfl (lv_at hl 0 rfl) ?_
        refine va_get (D := D) (ci := 9) (v := .ref A_t_count) (C := RX10) (T := TX10) (N := 19) hx hb hts wX10_meet_X10 hown hK.1 hP 0 rfl rfl 2 (by decide) (hts _ mX10_meet_f7) (fun _ h9 => h9) rfl dX10_meet_30 ?_
        refine lv_iload_n hx hb dX10_meet_33 rfl (lv_at hl 2 rfl) ?_
        obtain ⟨hin, hf⟩ := gIn_some hf
        refine va_iald hx hb hK.1 hP 1 0 rfl rfl hin dX10_meet_34 ?_
        refine lv_isub hx hb dX10_meet_35 ?_
        refine lv_istore_n (lv' := [(3, .int ((t_count (a1 : Int32).toNatClampNeg) - (t_count (a2 : Int32).toNatClampNeg))), (0, .ref A_t), (1, .int a1), (2, .int a2)]) hx hb dX10_meet_36 rfl hl (by decide) rfl (fun ls hl => ?_)
        refine lv_aload_n hx hb dX10_meet_37 rfl (lv_at hl 1 rfl) ?_
        refine va_get (D := D) (ci := 9) (v := .ref A_t_pace) (C := RX10) (T := TX10) (N := 19) hx hb hts wX10_meet_X10 hown hK.1 hP 0 rfl rfl 3 (by decide) (hts _ mX10_meet_f13) (fun _ h9 => h9) rfl dX10_meet_38 ?_
        refine lv_iload_n hx hb dX10_meet_41 rfl (lv_at hl 2 rfl) ?_
        obtain ⟨hin, hf⟩ := gIn_some hf
        refine va_iald hx hb hK.1 hP 2 0 rfl rfl hin dX10_meet_42 ?_
        refine lv_aload_n hx hb dX10_meet_43 rfl (lv_at hl 1 rfl) ?_
        refine va_get (D := D) (ci := 9) (v := .ref A_t_pace) (C := RX10) (T := TX10) (N := 19) hx hb hts wX10_meet_X10 hown hK.1 hP 0 rfl rfl 3 (by decide) (hts _ mX10_meet_f13) (fun _ h9 => h9) rfl dX10_meet_44 ?_
        refine lv_iload_n hx hb dX10_meet_47 rfl (lv_at hl 3 rfl) ?_
        obtain ⟨hin, hf⟩ := gIn_some hf
        refine va_iald hx hb hK.1 hP 2 0 rfl rfl hin dX10_meet_48 ?_
        refine lv_isub hx hb dX10_meet_49 ?_
        refine lv_istore (lv' := [(4, .int ((t_pace (a1 : Int32).toNatClampNeg) - (t_pace (a2 : Int32).toNatClampNeg))), (3, .int ((t_count (a1 : Int32).toNatClampNeg) - (t_count (a2 : Int32).toNatClampNeg))), (0, .ref A_t), (1, .int a1), (2, .int a2)]) hx hb dX10_meet_50 hl (by decide) rfl (fun ls hl => ?_)
        refine lv_iload hx hb dX10_meet_52 (lv_at hl 0 rfl) ?_
        refine lv_if_ne (tgt := 70) hx hb dX10_meet_54 (by decide) (fun hc => ?_) (fun hc => ?_)
        · have hf := ff hf hc
          refine lv_iload_n hx hb dX10_meet_70 rfl (lv_at hl 1 rfl) ?_
          refine lv_iload hx hb dX10_meet_71 (lv_at hl 0 rfl) ?_
          obtain ⟨hnz, hf⟩ := gNz_some hf
          refine lv_irem hx hb dX10_meet_73 hnz ?_
          refine lv_if_ne (tgt := 84) hx hb dX10_meet_74 (by decide) (fun hc => ?_) (fun hc => ?_)
          · have hf := ff hf hc
            refine lv_bipush (v := (-6)) hx hb dX10_meet_84 (by decide) ?_
            exact BX10_meet_86 C hK hP  (lv_sub hl [2, 3] rfl) hf
          · have hf := ft hf hc
            refine lv_iload_n hx hb dX10_meet_77 rfl (lv_at hl 1 rfl) ?_
            refine lv_iload hx hb dX10_meet_78 (lv_at hl 0 rfl) ?_
            obtain ⟨hnz, hf⟩ := gNz_some hf
            refine lv_idiv hx hb dX10_meet_80 hnz ?_
            refine lv_goto (tgt := 86) hx hb dX10_meet_81 (by decide) ?_
            exact BX10_meet_86 C hK hP  (lv_sub hl [2, 3] rfl) hf
        · have hf := ft hf hc
          refine lv_iload_n hx hb dX10_meet_57 rfl (lv_at hl 1 rfl) ?_
          refine lv_if_ne (tgt := 65) hx hb dX10_meet_58 (by decide) (fun hc => ?_) (fun hc => ?_)
          · have hf := ff hf hc
            refine lv_bipush (v := (-6)) hx hb dX10_meet_65 (by decide) ?_
            refine lv_goto (tgt := 86) hx hb dX10_meet_67 (by decide) ?_
            exact BX10_meet_86 C hK hP  (lv_sub hl [2, 3] rfl) hf
          · have hf := ft hf hc
            refine lv_iconst (v := 0) hx hb dX10_meet_61 (by decide) ?_
            refine lv_goto (tgt := 86) hx hb dX10_meet_62 (by decide) ?_
            exact BX10_meet_86 C hK hP  (lv_sub hl [2, 3] rfl) hf
      · have hf := ft hf hc
        refine lv_iconst (v := (-1)) hx hb dX10_meet_21 (by decide) ?_
        exact ret_ri hx hb hr hlocks hf dX10_meet_22
/-! ===== SilenceCountModel.monk(III)I ===== -/
abbrev rmX10_monk : Room := { frames := 1, cells := 0, slots := 0, locals := 22 }
theorem kkX10_monk : yX10_monk.cls = RX10 ∧ yX10_monk.cls ≠ "java/lang/invoke/MethodHandle" ∧ yX10_monk.cls ≠ "java/lang/invoke/VarHandle" ∧ (parseMethodDescriptor yX10_monk.desc).map (fun d => d.parameters.length) = some 3 := by decide +kernel
theorem mX10_monk_f17 : Cond.fieldLink RX10 17 "SilenceCountModel" "house" "I" ∈ wsX10_monk := by decide +kernel
theorem mX10_monk_f40 : Cond.fieldLink RX10 40 "SilenceCountModel" "there" "I" ∈ wsX10_monk := by decide +kernel
theorem mX10_monk_f55 : Cond.fieldLink RX10 55 "SilenceCountModel" "awake" "I" ∈ wsX10_monk := by decide +kernel
theorem mX10_monk_f7 : Cond.fieldLink RX10 7 "SilenceCountModel" "count" "[I" ∈ wsX10_monk := by decide +kernel
theorem mX10_monk_f13 : Cond.fieldLink RX10 13 "SilenceCountModel" "pace" "[I" ∈ wsX10_monk := by decide +kernel
theorem wX10_monk_X10 : ∀ w ∈ u_ws RX10 TX10 19, w ∈ wsX10_monk := by decide +kernel
def fX10_monk (t_there : Int32) (t_awake : Int32) (t_house : Int32) (t_count : Nat → Int32) (t_pace : Nat → Int32) (a1 : Int32) (a2 : Int32) (a3 : Int32) : Option (Int32 × Int32 × Int32 × (Nat → Int32) × (Nat → Int32)) :=
  (fX10_in a1 0 7).bind fun r4 => if r4 = 0 then some ((-1), t_there, t_awake, t_count, t_pace) else (fX10_in a2 0 t_house).bind fun r18 => if r18 = 0 then some ((-2), t_there, t_awake, t_count, t_pace) else (fX10_in a3 1 9).bind fun r28 => if r28 = 0 then some ((-2), t_there, t_awake, t_count, t_pace) else gIn a1 8 (gIn a1 8 ((fX10_bits (t_there ||| (1 <<< (a1 &&& 31)))).bind fun r79 => some (r79, t_there ||| (1 <<< (a1 &&& 31)), t_awake ||| (1 <<< (a1 &&& 31)), upd t_count (a1 : Int32).toNatClampNeg a2, upd t_pace (a1 : Int32).toNatClampNeg a3)))
set_option maxRecDepth 100000 in
set_option maxHeartbeats 4000000 in
theorem CX10_monk (l : Launch) {D : va_G} {ty : TY} {A_t A_t_count A_t_pace A_t_sight A_t_pad A_t_now A_t_image A_t_isKept : Nat} {t_there : Int32} {t_awake : Int32} {t_house : Int32} {t_sharp : Int32} {t_sights : Int32} {t_signs : Int32} {t_up : Int32} {t_reason : Int32} {t_acts : Int32} {t_breaths : Int32} {t_zeroAt : Int32} {t_noticedAt : Int32} {t_count : Nat → Int32} {t_pace : Nat → Int32} {t_sight : Nat → Int32} {t_pad : Nat → Int32} {t_now : Nat → Int32} {t_image : Nat → Int32} {t_isKept : Nat → Int32} {a1 : Int32} {a2 : Int32} {a3 : Int32} {q0 : Int32 × Int32 × Int32 × (Nat → Int32) × (Nat → Int32)} (hf : fX10_monk t_there t_awake t_house t_count t_pace a1 a2 a3 = some q0) : RWi l yX10_monk wsX10_monk rmX10_monk D ty [.ref A_t, .int a1, .int a2, .int a3] [(A_t, .inr (9, [.int t_there, .int t_awake, .ref A_t_count, .ref A_t_pace, .int t_house, .int t_sharp, .int t_sights, .ref A_t_sight, .int t_signs, .ref A_t_pad, .int t_up, .ref A_t_now, .int t_reason, .int t_acts, .int t_breaths, .int t_zeroAt, .int t_noticedAt, .ref A_t_image, .ref A_t_isKept])), (A_t_count, .inl (ty.1, 8, .inl t_count)), (A_t_pace, .inl (ty.1, 8, .inl t_pace)), (A_t_sight, .inl (ty.1, 24, .inl t_sight)), (A_t_pad, .inl (ty.1, 60, .inl t_pad)), (A_t_now, .inl (ty.1, 8, .inl t_now)), (A_t_image, .inl (ty.1, 120, .inl t_image)), (A_t_isKept, .inl (ty.2.2.1, 2, .inl t_isKept))] q0.1 [(A_t, .inr (9, [.int q0.2.1, .int q0.2.2.1, .ref A_t_count, .ref A_t_pace, .int t_house, .int t_sharp, .int t_sights, .ref A_t_sight, .int t_signs, .ref A_t_pad, .int t_up, .ref A_t_now, .int t_reason, .int t_acts, .int t_breaths, .int t_zeroAt, .int t_noticedAt, .ref A_t_image, .ref A_t_isKept])), (A_t_count, .inl (ty.1, 8, .inl q0.2.2.2.1)), (A_t_pace, .inl (ty.1, 8, .inl q0.2.2.2.2)), (A_t_sight, .inl (ty.1, 24, .inl t_sight)), (A_t_pad, .inl (ty.1, 60, .inl t_pad)), (A_t_now, .inl (ty.1, 8, .inl t_now)), (A_t_image, .inl (ty.1, 120, .inl t_image)), (A_t_isKept, .inl (ty.2.2.1, 2, .inl t_isKept))] := by
  refine RWi.start (cc := cX10_monk) (maxL := 4) (ret := (some .int)) (own := RX10) (by decide) rfl rfl (Nat.le_of_ble_eq_true rfl) ?_
  intro p e s m below meth c ls C hK hP hD hS hl
  obtain ⟨WC, hWC⟩ : ∃ w : va_W, w = [(A_t, .inr (9, [.int t_there, .int t_awake, .ref A_t_count, .ref A_t_pace, .int t_house, .int t_sharp, .int t_sights, .ref A_t_sight, .int t_signs, .ref A_t_pad, .int t_up, .ref A_t_now, .int t_reason, .int t_acts, .int t_breaths, .int t_zeroAt, .int t_noticedAt, .ref A_t_image, .ref A_t_isKept])), (A_t_count, .inl (ty.1, 8, .inl t_count)), (A_t_pace, .inl (ty.1, 8, .inl t_pace)), (A_t_sight, .inl (ty.1, 24, .inl t_sight)), (A_t_pad, .inl (ty.1, 60, .inl t_pad)), (A_t_now, .inl (ty.1, 8, .inl t_now)), (A_t_image, .inl (ty.1, 120, .inl t_image)), (A_t_isKept, .inl (ty.2.2.1, 2, .inl t_isKept))] := ⟨_, rfl⟩
  rw [← hWC] at hD hS ⊢
  have hD : va_D (va_A WC s.heap.size) [(A_t, .inr (9, [.int t_there, .int t_awake, .ref A_t_count, .ref A_t_pace, .int t_house, .int t_sharp, .int t_sights, .ref A_t_sight, .int t_signs, .ref A_t_pad, .int t_up, .ref A_t_now, .int t_reason, .int t_acts, .int t_breaths, .int t_zeroAt, .int t_noticedAt, .ref A_t_image, .ref A_t_isKept])), (A_t_count, .inl (ty.1, 8, .inl t_count)), (A_t_pace, .inl (ty.1, 8, .inl t_pace)), (A_t_sight, .inl (ty.1, 24, .inl t_sight)), (A_t_pad, .inl (ty.1, 60, .inl t_pad)), (A_t_now, .inl (ty.1, 8, .inl t_now)), (A_t_image, .inl (ty.1, 120, .inl t_image)), (A_t_isKept, .inl (ty.2.2.1, 2, .inl t_isKept))] := by rw [← hWC]; exact hD
  obtain ⟨hx, hb, hr, hml, hown, hts, hlocks⟩ := id C
  have hl : lv_has ls 4 [(0, .ref A_t), (1, .int a1), (2, .int a2), (3, .int a3)] := hl
  unfold fX10_monk at hf
  refine lv_iload_n hx hb dX10_monk_0 rfl (lv_at hl 1 rfl) ?_
  refine lv_iconst (v := 0) hx hb dX10_monk_1 (by decide) ?_
  refine lv_bipush (v := 7) hx hb dX10_monk_2 (by decide) ?_
  obtain ⟨r4, hr4, hf⟩ := bnd hf
  have hPc : va_P D vwCl [] _ := hP.sub [] rfl
  refine callS_ri (As := [.int a1, .int 0, .int 7]) (rest := []) ⟨hx, hb, hml, hown, hts⟩ (CX10_in l hr4) (va_cwS 3 hts gX10_monk_X10_in rfl rfl rfl kkX10_in.2 ⟨Nat.le_of_ble_eq_true rfl, Nat.le_of_ble_eq_true rfl⟩) hK hPc hl.1 rfl (Nat.le_of_ble_eq_true rfl) dX10_monk_4 ⟨Nat.zero_le _, Nat.zero_le _⟩ ?_
  refine lv_if_ne (tgt := 12) hx hb dX10_monk_7 (by decide) (fun hc => ?_) (fun hc => ?_)
  · have hf := ff hf hc
    refine lv_iload_n hx hb dX10_monk_12 rfl (lv_at hl 2 rfl) ?_
    refine lv_iconst (v := 0) hx hb dX10_monk_13 (by decide) ?_
    refine lv_aload_n hx hb dX10_monk_14 rfl (lv_at hl 0 rfl) ?_
    refine va_get (D := D) (ci := 9) (v := .int t_house) (C := RX10) (T := TX10) (N := 19) hx hb hts wX10_monk_X10 hown hK.1 hP 0 rfl rfl 4 (by decide) (hts _ mX10_monk_f17) (fun _ h9 => h9) rfl dX10_monk_15 ?_
    obtain ⟨r18, hr18, hf⟩ := bnd hf
    have hPc : va_P D vwCl [] _ := hP.sub [] rfl
    refine callS_ri (As := [.int a2, .int 0, .int t_house]) (rest := []) ⟨hx, hb, hml, hown, hts⟩ (CX10_in l hr18) (va_cwS 3 hts gX10_monk_X10_in rfl rfl rfl kkX10_in.2 ⟨Nat.le_of_ble_eq_true rfl, Nat.le_of_ble_eq_true rfl⟩) hK hPc hl.1 rfl (Nat.le_of_ble_eq_true rfl) dX10_monk_18 ⟨Nat.zero_le _, Nat.zero_le _⟩ ?_
    refine lv_if_eq (tgt := 34) hx hb dX10_monk_21 (by decide) (fun hc => ?_) (fun hc => ?_)
    · have hf := ft hf hc
      refine lv_bipush (v := (-2)) hx hb dX10_monk_34 (by decide) ?_
      cases hf
      exact ret_wi hx hb hr hlocks hP hD hS dX10_monk_36
    · have hf := ff hf hc
      refine lv_iload_n hx hb dX10_monk_24 rfl (lv_at hl 3 rfl) ?_
      refine lv_iconst (v := 1) hx hb dX10_monk_25 (by decide) ?_
      refine lv_bipush (v := 9) hx hb dX10_monk_26 (by decide) ?_
      obtain ⟨r28, hr28, hf⟩ := bnd hf
      have hPc : va_P D vwCl [] _ := hP.sub [] rfl
      refine callS_ri (As := [.int a3, .int 1, .int 9]) (rest := []) ⟨hx, hb, hml, hown, hts⟩ (CX10_in l hr28) (va_cwS 3 hts gX10_monk_X10_in rfl rfl rfl kkX10_in.2 ⟨Nat.le_of_ble_eq_true rfl, Nat.le_of_ble_eq_true rfl⟩) hK hPc hl.1 rfl (Nat.le_of_ble_eq_true rfl) dX10_monk_28 ⟨Nat.zero_le _, Nat.zero_le _⟩ ?_
      refine lv_if_ne (tgt := 37) hx hb dX10_monk_31 (by decide) (fun hc => ?_) (fun hc => ?_)
      · have hf := ff hf hc
        refine lv_aload_n hx hb dX10_monk_37 rfl (lv_at hl 0 rfl) ?_
        refine lv_dup hx hb dX10_monk_38 rfl ?_
        refine va_get (D := D) (ci := 9) (v := .int t_there) (C := RX10) (T := TX10) (N := 19) hx hb hts wX10_monk_X10 hown hK.1 hP 0 rfl rfl 0 (by decide) (hts _ mX10_monk_f40) (fun _ h9 => h9) rfl dX10_monk_39 ?_
        refine lv_iconst (v := 1) hx hb dX10_monk_42 (by decide) ?_
        refine lv_iload_n hx hb dX10_monk_43 rfl (lv_at hl 1 rfl) ?_
        refine lv_ishl hx hb dX10_monk_44 ?_
        refine lv_ior hx hb dX10_monk_45 ?_
        refine va_put (D := D) (ci := 9) (v := .int (t_there ||| (1 <<< (a1 &&& 31)))) (ty := .int) (C := RX10) (T := TX10) (N := 19) hx hb hts wX10_monk_X10 tyX10 tyX10_ok nmX10 hown hK.1 hP hD hS 0 rfl rfl 0 (by decide) (hts _ mX10_monk_f40) (fun _ h9 => h9) rfl (by decide +kernel) rfl rfl (Nat.le_of_ble_eq_true rfl) dX10_monk_46 (fun H locs hP hD hS => ?_)
        have hP : va_P D vwCl [(A_t, .inr (9, [.int (t_there ||| (1 <<< (a1 &&& 31))), .int t_awake, .ref A_t_count, .ref A_t_pace, .int t_house, .int t_sharp, .int t_sights, .ref A_t_sight, .int t_signs, .ref A_t_pad, .int t_up, .ref A_t_now, .int t_reason, .int t_acts, .int t_breaths, .int t_zeroAt, .int t_noticedAt, .ref A_t_image, .ref A_t_isKept])), (A_t_count, .inl (ty.1, 8, .inl t_count)), (A_t_pace, .inl (ty.1, 8, .inl t_pace)), (A_t_sight, .inl (ty.1, 24, .inl t_sight)), (A_t_pad, .inl (ty.1, 60, .inl t_pad)), (A_t_now, .inl (ty.1, 8, .inl t_now)), (A_t_image, .inl (ty.1, 120, .inl t_image)), (A_t_isKept, .inl (ty.2.2.1, 2, .inl t_isKept))] H := hP
        have hD : va_D (va_A WC s.heap.size) [(A_t, .inr (9, [.int (t_there ||| (1 <<< (a1 &&& 31))), .int t_awake, .ref A_t_count, .ref A_t_pace, .int t_house, .int t_sharp, .int t_sights, .ref A_t_sight, .int t_signs, .ref A_t_pad, .int t_up, .ref A_t_now, .int t_reason, .int t_acts, .int t_breaths, .int t_zeroAt, .int t_noticedAt, .ref A_t_image, .ref A_t_isKept])), (A_t_count, .inl (ty.1, 8, .inl t_count)), (A_t_pace, .inl (ty.1, 8, .inl t_pace)), (A_t_sight, .inl (ty.1, 24, .inl t_sight)), (A_t_pad, .inl (ty.1, 60, .inl t_pad)), (A_t_now, .inl (ty.1, 8, .inl t_now)), (A_t_image, .inl (ty.1, 120, .inl t_image)), (A_t_isKept, .inl (ty.2.2.1, 2, .inl t_isKept))] := hD
        refine lv_aload_n hx hb dX10_monk_49 rfl (lv_at hl 0 rfl) ?_
        refine lv_dup hx hb dX10_monk_50 rfl ?_
        refine va_get (D := D) (ci := 9) (v := .int t_awake) (C := RX10) (T := TX10) (N := 19) hx hb hts wX10_monk_X10 hown hK.1 hP 0 rfl rfl 1 (by decide) (hts _ mX10_monk_f55) (fun _ h9 => h9) rfl dX10_monk_51 ?_
        refine lv_iconst (v := 1) hx hb dX10_monk_54 (by decide) ?_
        refine lv_iload_n hx hb dX10_monk_55 rfl (lv_at hl 1 rfl) ?_
        refine lv_ishl hx hb dX10_monk_56 ?_
        refine lv_ior hx hb dX10_monk_57 ?_
        refine va_put (D := D) (ci := 9) (v := .int (t_awake ||| (1 <<< (a1 &&& 31)))) (ty := .int) (C := RX10) (T := TX10) (N := 19) hx hb hts wX10_monk_X10 tyX10 tyX10_ok nmX10 hown hK.1 hP hD hS 0 rfl rfl 1 (by decide) (hts _ mX10_monk_f55) (fun _ h9 => h9) rfl (by decide +kernel) rfl rfl (Nat.le_of_ble_eq_true rfl) dX10_monk_58 (fun H locs hP hD hS => ?_)
        have hP : va_P D vwCl [(A_t, .inr (9, [.int (t_there ||| (1 <<< (a1 &&& 31))), .int (t_awake ||| (1 <<< (a1 &&& 31))), .ref A_t_count, .ref A_t_pace, .int t_house, .int t_sharp, .int t_sights, .ref A_t_sight, .int t_signs, .ref A_t_pad, .int t_up, .ref A_t_now, .int t_reason, .int t_acts, .int t_breaths, .int t_zeroAt, .int t_noticedAt, .ref A_t_image, .ref A_t_isKept])), (A_t_count, .inl (ty.1, 8, .inl t_count)), (A_t_pace, .inl (ty.1, 8, .inl t_pace)), (A_t_sight, .inl (ty.1, 24, .inl t_sight)), (A_t_pad, .inl (ty.1, 60, .inl t_pad)), (A_t_now, .inl (ty.1, 8, .inl t_now)), (A_t_image, .inl (ty.1, 120, .inl t_image)), (A_t_isKept, .inl (ty.2.2.1, 2, .inl t_isKept))] H := hP
        have hD : va_D (va_A WC s.heap.size) [(A_t, .inr (9, [.int (t_there ||| (1 <<< (a1 &&& 31))), .int (t_awake ||| (1 <<< (a1 &&& 31))), .ref A_t_count, .ref A_t_pace, .int t_house, .int t_sharp, .int t_sights, .ref A_t_sight, .int t_signs, .ref A_t_pad, .int t_up, .ref A_t_now, .int t_reason, .int t_acts, .int t_breaths, .int t_zeroAt, .int t_noticedAt, .ref A_t_image, .ref A_t_isKept])), (A_t_count, .inl (ty.1, 8, .inl t_count)), (A_t_pace, .inl (ty.1, 8, .inl t_pace)), (A_t_sight, .inl (ty.1, 24, .inl t_sight)), (A_t_pad, .inl (ty.1, 60, .inl t_pad)), (A_t_now, .inl (ty.1, 8, .inl t_now)), (A_t_image, .inl (ty.1, 120, .inl t_image)), (A_t_isKept, .inl (ty.2.2.1, 2, .inl t_isKept))] := hD
        refine lv_aload_n hx hb dX10_monk_61 rfl (lv_at hl 0 rfl) ?_
        refine va_get (D := D) (ci := 9) (v := .ref A_t_count) (C := RX10) (T := TX10) (N := 19) hx hb hts wX10_monk_X10 hown hK.1 hP 0 rfl rfl 2 (by decide) (hts _ mX10_monk_f7) (fun _ h9 => h9) rfl dX10_monk_62 ?_
        refine lv_iload_n hx hb dX10_monk_65 rfl (lv_at hl 1 rfl) ?_
        refine lv_iload_n hx hb dX10_monk_66 rfl (lv_at hl 2 rfl) ?_
        obtain ⟨hin, hf⟩ := gIn_some hf
        refine va_iast hx hb hK.1 hP hD hS 1 0 rfl rfl hin dX10_monk_67 (fun H locs hP hD hS => ?_)
        have hP : va_P D vwCl [(A_t, .inr (9, [.int (t_there ||| (1 <<< (a1 &&& 31))), .int (t_awake ||| (1 <<< (a1 &&& 31))), .ref A_t_count, .ref A_t_pace, .int t_house, .int t_sharp, .int t_sights, .ref A_t_sight, .int t_signs, .ref A_t_pad, .int t_up, .ref A_t_now, .int t_reason, .int t_acts, .int t_breaths, .int t_zeroAt, .int t_noticedAt, .ref A_t_image, .ref A_t_isKept])), (A_t_count, .inl (ty.1, 8, .inl (upd t_count (a1 : Int32).toNatClampNeg a2))), (A_t_pace, .inl (ty.1, 8, .inl t_pace)), (A_t_sight, .inl (ty.1, 24, .inl t_sight)), (A_t_pad, .inl (ty.1, 60, .inl t_pad)), (A_t_now, .inl (ty.1, 8, .inl t_now)), (A_t_image, .inl (ty.1, 120, .inl t_image)), (A_t_isKept, .inl (ty.2.2.1, 2, .inl t_isKept))] H := hP
        have hD : va_D (va_A WC s.heap.size) [(A_t, .inr (9, [.int (t_there ||| (1 <<< (a1 &&& 31))), .int (t_awake ||| (1 <<< (a1 &&& 31))), .ref A_t_count, .ref A_t_pace, .int t_house, .int t_sharp, .int t_sights, .ref A_t_sight, .int t_signs, .ref A_t_pad, .int t_up, .ref A_t_now, .int t_reason, .int t_acts, .int t_breaths, .int t_zeroAt, .int t_noticedAt, .ref A_t_image, .ref A_t_isKept])), (A_t_count, .inl (ty.1, 8, .inl (upd t_count (a1 : Int32).toNatClampNeg a2))), (A_t_pace, .inl (ty.1, 8, .inl t_pace)), (A_t_sight, .inl (ty.1, 24, .inl t_sight)), (A_t_pad, .inl (ty.1, 60, .inl t_pad)), (A_t_now, .inl (ty.1, 8, .inl t_now)), (A_t_image, .inl (ty.1, 120, .inl t_image)), (A_t_isKept, .inl (ty.2.2.1, 2, .inl t_isKept))] := hD
        refine lv_aload_n hx hb dX10_monk_68 rfl (lv_at hl 0 rfl) ?_
        refine va_get (D := D) (ci := 9) (v := .ref A_t_pace) (C := RX10) (T := TX10) (N := 19) hx hb hts wX10_monk_X10 hown hK.1 hP 0 rfl rfl 3 (by decide) (hts _ mX10_monk_f13) (fun _ h9 => h9) rfl dX10_monk_69 ?_
        refine lv_iload_n hx hb dX10_monk_72 rfl (lv_at hl 1 rfl) ?_
        refine lv_iload_n hx hb dX10_monk_73 rfl (lv_at hl 3 rfl) ?_
        obtain ⟨hin, hf⟩ := gIn_some hf
        refine va_iast hx hb hK.1 hP hD hS 2 0 rfl rfl hin dX10_monk_74 (fun H locs hP hD hS => ?_)
        have hP : va_P D vwCl [(A_t, .inr (9, [.int (t_there ||| (1 <<< (a1 &&& 31))), .int (t_awake ||| (1 <<< (a1 &&& 31))), .ref A_t_count, .ref A_t_pace, .int t_house, .int t_sharp, .int t_sights, .ref A_t_sight, .int t_signs, .ref A_t_pad, .int t_up, .ref A_t_now, .int t_reason, .int t_acts, .int t_breaths, .int t_zeroAt, .int t_noticedAt, .ref A_t_image, .ref A_t_isKept])), (A_t_count, .inl (ty.1, 8, .inl (upd t_count (a1 : Int32).toNatClampNeg a2))), (A_t_pace, .inl (ty.1, 8, .inl (upd t_pace (a1 : Int32).toNatClampNeg a3))), (A_t_sight, .inl (ty.1, 24, .inl t_sight)), (A_t_pad, .inl (ty.1, 60, .inl t_pad)), (A_t_now, .inl (ty.1, 8, .inl t_now)), (A_t_image, .inl (ty.1, 120, .inl t_image)), (A_t_isKept, .inl (ty.2.2.1, 2, .inl t_isKept))] H := hP
        have hD : va_D (va_A WC s.heap.size) [(A_t, .inr (9, [.int (t_there ||| (1 <<< (a1 &&& 31))), .int (t_awake ||| (1 <<< (a1 &&& 31))), .ref A_t_count, .ref A_t_pace, .int t_house, .int t_sharp, .int t_sights, .ref A_t_sight, .int t_signs, .ref A_t_pad, .int t_up, .ref A_t_now, .int t_reason, .int t_acts, .int t_breaths, .int t_zeroAt, .int t_noticedAt, .ref A_t_image, .ref A_t_isKept])), (A_t_count, .inl (ty.1, 8, .inl (upd t_count (a1 : Int32).toNatClampNeg a2))), (A_t_pace, .inl (ty.1, 8, .inl (upd t_pace (a1 : Int32).toNatClampNeg a3))), (A_t_sight, .inl (ty.1, 24, .inl t_sight)), (A_t_pad, .inl (ty.1, 60, .inl t_pad)), (A_t_now, .inl (ty.1, 8, .inl t_now)), (A_t_image, .inl (ty.1, 120, .inl t_image)), (A_t_isKept, .inl (ty.2.2.1, 2, .inl t_isKept))] := hD
        refine lv_aload_n hx hb dX10_monk_75 rfl (lv_at hl 0 rfl) ?_
        refine va_get (D := D) (ci := 9) (v := .int (t_there ||| (1 <<< (a1 &&& 31)))) (C := RX10) (T := TX10) (N := 19) hx hb hts wX10_monk_X10 hown hK.1 hP 0 rfl rfl 0 (by decide) (hts _ mX10_monk_f40) (fun _ h9 => h9) rfl dX10_monk_76 ?_
        obtain ⟨r79, hr79, hf⟩ := bnd hf
        have hPc : va_P D vwCl [] _ := hP.sub [] rfl
        refine callS_ri (As := [.int (t_there ||| (1 <<< (a1 &&& 31)))]) (rest := []) ⟨hx, hb, hml, hown, hts⟩ (CX10_bits l hr79) (va_cwS 1 hts gX10_monk_X10_bits rfl rfl rfl kkX10_bits.2 ⟨Nat.le_of_ble_eq_true rfl, Nat.le_of_ble_eq_true rfl⟩) hK hPc hl.1 rfl (Nat.le_of_ble_eq_true rfl) dX10_monk_79 ⟨Nat.zero_le _, Nat.zero_le _⟩ ?_
        cases hf
        exact ret_wi hx hb hr hlocks hP hD hS dX10_monk_82
      · have hf := ft hf hc
        refine lv_bipush (v := (-2)) hx hb dX10_monk_34 (by decide) ?_
        cases hf
        exact ret_wi hx hb hr hlocks hP hD hS dX10_monk_36
  · have hf := ft hf hc
    refine lv_iconst (v := (-1)) hx hb dX10_monk_10 (by decide) ?_
    cases hf
    exact ret_wi hx hb hr hlocks hP hD hS dX10_monk_11
/-! ===== SilenceCountModel.next(II)I ===== -/
abbrev rmX10_next : Room := { frames := 2, cells := 0, slots := 0, locals := 43 }
theorem kkX10_next : yX10_next.cls = RX10 ∧ yX10_next.cls ≠ "java/lang/invoke/MethodHandle" ∧ yX10_next.cls ≠ "java/lang/invoke/VarHandle" ∧ (parseMethodDescriptor yX10_next.desc).map (fun d => d.parameters.length) = some 2 := by decide +kernel
theorem mX10_next_k16 : Cond.constant RX10 16 (1000000) ∈ wsX10_next := by decide +kernel
def bX10_next_24 (k24 : Int32 → Option (Int32)) (a1 : Int32) (v3 : Int32) : Option (Int32) :=
  if v3 ≤ 0 then some (-6) else (fX10_isLaw a1 v3).bind fun r30 => if r30 = 0 then k24 (v3 + (-1)) else some v3
set_option maxRecDepth 100000 in
set_option maxHeartbeats 4000000 in
theorem BX10_next_24 {p : Program} {l : Launch} {e : Env} {s : State} {m : MethodId} {below : List Frame} {meth : Method} {c : Code} {D : va_G} {ty : TY} {A_t A_t_count A_t_pace A_t_sight A_t_pad A_t_now A_t_image A_t_isKept : Nat} {t_there : Int32} {t_awake : Int32} {t_house : Int32} {t_sharp : Int32} {t_sights : Int32} {t_signs : Int32} {t_up : Int32} {t_reason : Int32} {t_acts : Int32} {t_breaths : Int32} {t_zeroAt : Int32} {t_noticedAt : Int32} {t_count : Nat → Int32} {t_pace : Nat → Int32} {t_sight : Nat → Int32} {t_pad : Nat → Int32} {t_now : Nat → Int32} {t_image : Nat → Int32} {t_isKept : Nat → Int32} {a1 : Int32} {a2 : Int32} {q0 : Int32} (C : cx p s m [.ref A_t, .int a1, .int a2] meth c cX10_next 4 (some .int) RX10 wsX10_next) (hK : KK D ty s) (hP : va_P D vwCl [(A_t, .inr (9, [.int t_there, .int t_awake, .ref A_t_count, .ref A_t_pace, .int t_house, .int t_sharp, .int t_sights, .ref A_t_sight, .int t_signs, .ref A_t_pad, .int t_up, .ref A_t_now, .int t_reason, .int t_acts, .int t_breaths, .int t_zeroAt, .int t_noticedAt, .ref A_t_image, .ref A_t_isKept])), (A_t_count, .inl (ty.1, 8, .inl t_count)), (A_t_pace, .inl (ty.1, 8, .inl t_pace)), (A_t_sight, .inl (ty.1, 24, .inl t_sight)), (A_t_pad, .inl (ty.1, 60, .inl t_pad)), (A_t_now, .inl (ty.1, 8, .inl t_now)), (A_t_image, .inl (ty.1, 120, .inl t_image)), (A_t_isKept, .inl (ty.2.2.1, 2, .inl t_isKept))] s.heap)   : ∀ (n : Nat) (v3 : Int32) (ls : Array Slot), lv_has ls 4 [(1, .int a1), (3, .int v3)] → loopF (fun k q => bX10_next_24 k a1 q) n (v3) = some q0 → WRi p l e rmX10_next s m [.ref A_t, .int a1, .int a2] below meth c q0 (F0 m 24 ls []) := by
  obtain ⟨hx, hb, hr, hml, hown, hts, hlocks⟩ := id C
  intro n
  induction n with
  | zero =>
    intro v3 ls hl hf
    cases hf
  | succ n ih =>
    intro v3 ls hl hf
    have hf : bX10_next_24 (loopF (fun k q => bX10_next_24 k a1 q) n) a1 v3 = some q0 := hf
    have hk24 := ih
    unfold bX10_next_24 at hf
    refine lv_iload_n hx hb dX10_next_24 rfl (lv_at hl 1 rfl) ?_
    refine lv_if_le (tgt := 44) hx hb dX10_next_25 (by decide) (fun hc => ?_) (fun hc => ?_)
    · have hf := ft hf hc
      refine lv_bipush (v := (-6)) hx hb dX10_next_44 (by decide) ?_
      exact ret_ri hx hb hr hlocks hf dX10_next_46
    · have hf := ff hf hc
      refine lv_iload_n hx hb dX10_next_28 rfl (lv_at hl 0 rfl) ?_
      refine lv_iload_n hx hb dX10_next_29 rfl (lv_at hl 1 rfl) ?_
      obtain ⟨r30, hr30, hf⟩ := bnd hf
      have hPc : va_P D vwCl [] _ := hP.sub [] rfl
      refine callS_ri (As := [.int a1, .int v3]) (rest := []) ⟨hx, hb, hml, hown, hts⟩ (CX10_isLaw l hr30) (va_cwS 2 hts gX10_next_X10_isLaw rfl rfl rfl kkX10_isLaw.2 ⟨Nat.le_of_ble_eq_true rfl, Nat.le_of_ble_eq_true rfl⟩) hK hPc hl.1 rfl (Nat.le_of_ble_eq_true rfl) dX10_next_30 ⟨Nat.zero_le _, Nat.zero_le _⟩ ?_
      refine lv_if_eq (tgt := 38) hx hb dX10_next_33 (by decide) (fun hc => ?_) (fun hc => ?_)
      · have hf := ft hf hc
        refine lv_iinc (v := v3 + (-1)) (lv' := [(3, .int (v3 + (-1))), (1, .int a1)]) hx hb dX10_next_38 hl (k := 1) rfl rfl (by decide) rfl (fun ls hl => ?_)
        refine lv_goto (tgt := 24) hx hb dX10_next_41 (by decide) ?_
        exact hk24 _ _ (lv_sub hl [1, 0] rfl) hf
      · have hf := ff hf hc
        refine lv_iload_n hx hb dX10_next_36 rfl (lv_at hl 1 rfl) ?_
        exact ret_ri hx hb hr hlocks hf dX10_next_37
def fX10_next (a1 : Int32) (a2 : Int32) : Option (Int32) :=
  (fX10_in a1 0 4).bind fun r3 => if r3 = 0 then some (-2) else (fX10_in a2 0 1000000).bind fun r13 => if r13 = 0 then some (-2) else loopF (fun k q => bX10_next_24 k a1 q) FU (a2)
set_option maxRecDepth 100000 in
set_option maxHeartbeats 4000000 in
theorem CX10_next (l : Launch) {D : va_G} {ty : TY} {A_t A_t_count A_t_pace A_t_sight A_t_pad A_t_now A_t_image A_t_isKept : Nat} {t_there : Int32} {t_awake : Int32} {t_house : Int32} {t_sharp : Int32} {t_sights : Int32} {t_signs : Int32} {t_up : Int32} {t_reason : Int32} {t_acts : Int32} {t_breaths : Int32} {t_zeroAt : Int32} {t_noticedAt : Int32} {t_count : Nat → Int32} {t_pace : Nat → Int32} {t_sight : Nat → Int32} {t_pad : Nat → Int32} {t_now : Nat → Int32} {t_image : Nat → Int32} {t_isKept : Nat → Int32} {a1 : Int32} {a2 : Int32} {q0 : Int32} (hf : fX10_next a1 a2 = some q0) : ROi l yX10_next wsX10_next rmX10_next D ty [.ref A_t, .int a1, .int a2] [(A_t, .inr (9, [.int t_there, .int t_awake, .ref A_t_count, .ref A_t_pace, .int t_house, .int t_sharp, .int t_sights, .ref A_t_sight, .int t_signs, .ref A_t_pad, .int t_up, .ref A_t_now, .int t_reason, .int t_acts, .int t_breaths, .int t_zeroAt, .int t_noticedAt, .ref A_t_image, .ref A_t_isKept])), (A_t_count, .inl (ty.1, 8, .inl t_count)), (A_t_pace, .inl (ty.1, 8, .inl t_pace)), (A_t_sight, .inl (ty.1, 24, .inl t_sight)), (A_t_pad, .inl (ty.1, 60, .inl t_pad)), (A_t_now, .inl (ty.1, 8, .inl t_now)), (A_t_image, .inl (ty.1, 120, .inl t_image)), (A_t_isKept, .inl (ty.2.2.1, 2, .inl t_isKept))] q0 := by
  refine ROi.start (cc := cX10_next) (maxL := 4) (ret := (some .int)) (own := RX10) (by decide) rfl rfl (Nat.le_of_ble_eq_true rfl) ?_
  intro p e s m below meth c ls C hK hP hl
  obtain ⟨hx, hb, hr, hml, hown, hts, hlocks⟩ := id C
  have hl : lv_has ls 4 [(0, .ref A_t), (1, .int a1), (2, .int a2)] := hl
  unfold fX10_next at hf
  refine lv_iload_n hx hb dX10_next_0 rfl (lv_at hl 1 rfl) ?_
  refine lv_iconst (v := 0) hx hb dX10_next_1 (by decide) ?_
  refine lv_iconst (v := 4) hx hb dX10_next_2 (by decide) ?_
  obtain ⟨r3, hr3, hf⟩ := bnd hf
  have hPc : va_P D vwCl [] _ := hP.sub [] rfl
  refine callS_ri (As := [.int a1, .int 0, .int 4]) (rest := []) ⟨hx, hb, hml, hown, hts⟩ (CX10_in l hr3) (va_cwS 3 hts gX10_next_X10_in rfl rfl rfl kkX10_in.2 ⟨Nat.le_of_ble_eq_true rfl, Nat.le_of_ble_eq_true rfl⟩) hK hPc hl.1 rfl (Nat.le_of_ble_eq_true rfl) dX10_next_3 ⟨Nat.zero_le _, Nat.zero_le _⟩ ?_
  refine lv_if_eq (tgt := 19) hx hb dX10_next_6 (by decide) (fun hc => ?_) (fun hc => ?_)
  · have hf := ft hf hc
    refine lv_bipush (v := (-2)) hx hb dX10_next_19 (by decide) ?_
    exact ret_ri hx hb hr hlocks hf dX10_next_21
  · have hf := ff hf hc
    refine lv_iload_n hx hb dX10_next_9 rfl (lv_at hl 2 rfl) ?_
    refine lv_iconst (v := 0) hx hb dX10_next_10 (by decide) ?_
    refine lv_ldc (v := 1000000) hx hb hown (hts _ mX10_next_k16) dX10_next_11 ?_
    obtain ⟨r13, hr13, hf⟩ := bnd hf
    have hPc : va_P D vwCl [] _ := hP.sub [] rfl
    refine callS_ri (As := [.int a2, .int 0, .int 1000000]) (rest := []) ⟨hx, hb, hml, hown, hts⟩ (CX10_in l hr13) (va_cwS 3 hts gX10_next_X10_in rfl rfl rfl kkX10_in.2 ⟨Nat.le_of_ble_eq_true rfl, Nat.le_of_ble_eq_true rfl⟩) hK hPc hl.1 rfl (Nat.le_of_ble_eq_true rfl) dX10_next_13 ⟨Nat.zero_le _, Nat.zero_le _⟩ ?_
    refine lv_if_ne (tgt := 22) hx hb dX10_next_16 (by decide) (fun hc => ?_) (fun hc => ?_)
    · have hf := ff hf hc
      refine lv_iload_n hx hb dX10_next_22 rfl (lv_at hl 2 rfl) ?_
      refine lv_istore_n (lv' := [(3, .int a2), (0, .ref A_t), (1, .int a1), (2, .int a2)]) hx hb dX10_next_23 rfl hl (by decide) rfl (fun ls hl => ?_)
      exact BX10_next_24 C hK hP  FU _ _ (lv_sub hl [2, 0] rfl) hf
    · have hf := ft hf hc
      refine lv_bipush (v := (-2)) hx hb dX10_next_19 (by decide) ?_
      exact ret_ri hx hb hr hlocks hf dX10_next_21
/-! ===== SilenceCountModel.noticed()I ===== -/
abbrev rmX10_noticed : Room := { frames := 5, cells := 0, slots := 0, locals := 112 }
theorem kkX10_noticed : yX10_noticed.cls = RX10 ∧ yX10_noticed.cls ≠ "java/lang/invoke/MethodHandle" ∧ yX10_noticed.cls ≠ "java/lang/invoke/VarHandle" ∧ (parseMethodDescriptor yX10_noticed.desc).map (fun d => d.parameters.length) = some 0 := by decide +kernel
theorem mX10_noticed_f99 : Cond.fieldLink RX10 99 "SilenceCountModel" "noticedAt" "I" ∈ wsX10_noticed := by decide +kernel
theorem wX10_noticed_X10 : ∀ w ∈ u_ws RX10 TX10 19, w ∈ wsX10_noticed := by decide +kernel
def fX10_noticed (t_there : Int32) (t_awake : Int32) (t_house : Int32) (t_sharp : Int32) (t_signs : Int32) (t_up : Int32) (t_reason : Int32) (t_acts : Int32) (t_breaths : Int32) (t_zeroAt : Int32) (t_noticedAt : Int32) (t_count : Nat → Int32) (t_pace : Nat → Int32) (t_pad : Nat → Int32) (t_now : Nat → Int32) : Option (Int32 × Int32 × Int32 × Int32 × Int32 × Int32 × Int32 × (Nat → Int32)) :=
  (fX10_barOfHours t_there t_awake t_house t_sharp t_signs t_up t_reason t_acts t_breaths t_zeroAt t_noticedAt t_count t_pace t_pad t_now).bind fun r1 => if 0 ≤ r1.1 then some (r1.2.2.2.2.2.2.1, r1.2.1, r1.2.2.1, r1.2.2.2.1, r1.2.2.2.2.1, r1.2.2.2.2.2.1, r1.2.2.2.2.2.2.1, r1.2.2.2.2.2.2.2) else some ((-5), r1.2.1, r1.2.2.1, r1.2.2.2.1, r1.2.2.2.2.1, r1.2.2.2.2.2.1, r1.2.2.2.2.2.2.1, r1.2.2.2.2.2.2.2)
set_option maxRecDepth 100000 in
set_option maxHeartbeats 4000000 in
theorem CX10_noticed (l : Launch) {D : va_G} {ty : TY} {A_t A_t_count A_t_pace A_t_sight A_t_pad A_t_now A_t_image A_t_isKept : Nat} {t_there : Int32} {t_awake : Int32} {t_house : Int32} {t_sharp : Int32} {t_sights : Int32} {t_signs : Int32} {t_up : Int32} {t_reason : Int32} {t_acts : Int32} {t_breaths : Int32} {t_zeroAt : Int32} {t_noticedAt : Int32} {t_count : Nat → Int32} {t_pace : Nat → Int32} {t_sight : Nat → Int32} {t_pad : Nat → Int32} {t_now : Nat → Int32} {t_image : Nat → Int32} {t_isKept : Nat → Int32} {q0 : Int32 × Int32 × Int32 × Int32 × Int32 × Int32 × Int32 × (Nat → Int32)} (hf : fX10_noticed t_there t_awake t_house t_sharp t_signs t_up t_reason t_acts t_breaths t_zeroAt t_noticedAt t_count t_pace t_pad t_now = some q0) : RWi l yX10_noticed wsX10_noticed rmX10_noticed D ty [.ref A_t] [(A_t, .inr (9, [.int t_there, .int t_awake, .ref A_t_count, .ref A_t_pace, .int t_house, .int t_sharp, .int t_sights, .ref A_t_sight, .int t_signs, .ref A_t_pad, .int t_up, .ref A_t_now, .int t_reason, .int t_acts, .int t_breaths, .int t_zeroAt, .int t_noticedAt, .ref A_t_image, .ref A_t_isKept])), (A_t_count, .inl (ty.1, 8, .inl t_count)), (A_t_pace, .inl (ty.1, 8, .inl t_pace)), (A_t_sight, .inl (ty.1, 24, .inl t_sight)), (A_t_pad, .inl (ty.1, 60, .inl t_pad)), (A_t_now, .inl (ty.1, 8, .inl t_now)), (A_t_image, .inl (ty.1, 120, .inl t_image)), (A_t_isKept, .inl (ty.2.2.1, 2, .inl t_isKept))] q0.1 [(A_t, .inr (9, [.int t_there, .int t_awake, .ref A_t_count, .ref A_t_pace, .int t_house, .int t_sharp, .int t_sights, .ref A_t_sight, .int t_signs, .ref A_t_pad, .int q0.2.1, .ref A_t_now, .int q0.2.2.1, .int q0.2.2.2.1, .int q0.2.2.2.2.1, .int q0.2.2.2.2.2.1, .int q0.2.2.2.2.2.2.1, .ref A_t_image, .ref A_t_isKept])), (A_t_count, .inl (ty.1, 8, .inl t_count)), (A_t_pace, .inl (ty.1, 8, .inl t_pace)), (A_t_sight, .inl (ty.1, 24, .inl t_sight)), (A_t_pad, .inl (ty.1, 60, .inl t_pad)), (A_t_now, .inl (ty.1, 8, .inl q0.2.2.2.2.2.2.2)), (A_t_image, .inl (ty.1, 120, .inl t_image)), (A_t_isKept, .inl (ty.2.2.1, 2, .inl t_isKept))] := by
  refine RWi.start (cc := cX10_noticed) (maxL := 1) (ret := (some .int)) (own := RX10) (by decide) rfl rfl (Nat.le_of_ble_eq_true rfl) ?_
  intro p e s m below meth c ls C hK hP hD hS hl
  obtain ⟨WC, hWC⟩ : ∃ w : va_W, w = [(A_t, .inr (9, [.int t_there, .int t_awake, .ref A_t_count, .ref A_t_pace, .int t_house, .int t_sharp, .int t_sights, .ref A_t_sight, .int t_signs, .ref A_t_pad, .int t_up, .ref A_t_now, .int t_reason, .int t_acts, .int t_breaths, .int t_zeroAt, .int t_noticedAt, .ref A_t_image, .ref A_t_isKept])), (A_t_count, .inl (ty.1, 8, .inl t_count)), (A_t_pace, .inl (ty.1, 8, .inl t_pace)), (A_t_sight, .inl (ty.1, 24, .inl t_sight)), (A_t_pad, .inl (ty.1, 60, .inl t_pad)), (A_t_now, .inl (ty.1, 8, .inl t_now)), (A_t_image, .inl (ty.1, 120, .inl t_image)), (A_t_isKept, .inl (ty.2.2.1, 2, .inl t_isKept))] := ⟨_, rfl⟩
  rw [← hWC] at hD hS ⊢
  have hD : va_D (va_A WC s.heap.size) [(A_t, .inr (9, [.int t_there, .int t_awake, .ref A_t_count, .ref A_t_pace, .int t_house, .int t_sharp, .int t_sights, .ref A_t_sight, .int t_signs, .ref A_t_pad, .int t_up, .ref A_t_now, .int t_reason, .int t_acts, .int t_breaths, .int t_zeroAt, .int t_noticedAt, .ref A_t_image, .ref A_t_isKept])), (A_t_count, .inl (ty.1, 8, .inl t_count)), (A_t_pace, .inl (ty.1, 8, .inl t_pace)), (A_t_sight, .inl (ty.1, 24, .inl t_sight)), (A_t_pad, .inl (ty.1, 60, .inl t_pad)), (A_t_now, .inl (ty.1, 8, .inl t_now)), (A_t_image, .inl (ty.1, 120, .inl t_image)), (A_t_isKept, .inl (ty.2.2.1, 2, .inl t_isKept))] := by rw [← hWC]; exact hD
  obtain ⟨hx, hb, hr, hml, hown, hts, hlocks⟩ := id C
  have hl : lv_has ls 1 [(0, .ref A_t)] := hl
  unfold fX10_noticed at hf
  refine lv_aload_n hx hb dX10_noticed_0 rfl (lv_at hl 0 rfl) ?_
  obtain ⟨r1, hr1, hf⟩ := bnd hf
  refine callV_wi (As := []) (rest := []) ⟨hx, hb, hml, hown, hts⟩ (CX10_barOfHours l hr1) (cwV 0 hts gX10_noticed_X10_barOfHours rfl rfl rfl kkX10_barOfHours ⟨Nat.le_of_ble_eq_true rfl, Nat.le_of_ble_eq_true rfl⟩) hK hP hD hS (fun _ h => Or.inr h) [0, 1, 2, 3, 4, 5, 6, 7] [] [0, 1, 2, 3, 4, 5, 6, 7] rfl (by decide) (by decide) rfl rfl 0 rfl rfl rfl hl.1 rfl (Nat.le_of_ble_eq_true rfl) dX10_noticed_1 ⟨Nat.zero_le _, Nat.zero_le _⟩ (fun H locs hP hD hS => ?_)
  have hP : va_P D vwCl [(A_t, .inr (9, [.int t_there, .int t_awake, .ref A_t_count, .ref A_t_pace, .int t_house, .int t_sharp, .int t_sights, .ref A_t_sight, .int t_signs, .ref A_t_pad, .int r1.2.1, .ref A_t_now, .int r1.2.2.1, .int r1.2.2.2.1, .int r1.2.2.2.2.1, .int r1.2.2.2.2.2.1, .int r1.2.2.2.2.2.2.1, .ref A_t_image, .ref A_t_isKept])), (A_t_count, .inl (ty.1, 8, .inl t_count)), (A_t_pace, .inl (ty.1, 8, .inl t_pace)), (A_t_sight, .inl (ty.1, 24, .inl t_sight)), (A_t_pad, .inl (ty.1, 60, .inl t_pad)), (A_t_now, .inl (ty.1, 8, .inl r1.2.2.2.2.2.2.2)), (A_t_image, .inl (ty.1, 120, .inl t_image)), (A_t_isKept, .inl (ty.2.2.1, 2, .inl t_isKept))] H := hP
  have hD : va_D (va_A WC s.heap.size) [(A_t, .inr (9, [.int t_there, .int t_awake, .ref A_t_count, .ref A_t_pace, .int t_house, .int t_sharp, .int t_sights, .ref A_t_sight, .int t_signs, .ref A_t_pad, .int r1.2.1, .ref A_t_now, .int r1.2.2.1, .int r1.2.2.2.1, .int r1.2.2.2.2.1, .int r1.2.2.2.2.2.1, .int r1.2.2.2.2.2.2.1, .ref A_t_image, .ref A_t_isKept])), (A_t_count, .inl (ty.1, 8, .inl t_count)), (A_t_pace, .inl (ty.1, 8, .inl t_pace)), (A_t_sight, .inl (ty.1, 24, .inl t_sight)), (A_t_pad, .inl (ty.1, 60, .inl t_pad)), (A_t_now, .inl (ty.1, 8, .inl r1.2.2.2.2.2.2.2)), (A_t_image, .inl (ty.1, 120, .inl t_image)), (A_t_isKept, .inl (ty.2.2.1, 2, .inl t_isKept))] := hD
  refine lv_if_ge (tgt := 12) hx hb dX10_noticed_4 (by decide) (fun hc => ?_) (fun hc => ?_)
  · have hf := ft hf hc
    refine lv_aload_n hx hb dX10_noticed_12 rfl (lv_at hl 0 rfl) ?_
    refine va_get (D := D) (ci := 9) (v := .int r1.2.2.2.2.2.2.1) (C := RX10) (T := TX10) (N := 19) hx hb hts wX10_noticed_X10 hown hK.1 hP 0 rfl rfl 16 (by decide) (hts _ mX10_noticed_f99) (fun _ h9 => h9) rfl dX10_noticed_13 ?_
    cases hf
    exact ret_wi hx hb hr hlocks hP hD hS dX10_noticed_16
  · have hf := ff hf hc
    refine lv_bipush (v := (-5)) hx hb dX10_noticed_7 (by decide) ?_
    refine lv_goto (tgt := 16) hx hb dX10_noticed_9 (by decide) ?_
    cases hf
    exact ret_wi hx hb hr hlocks hP hD hS dX10_noticed_16
/-! ===== SilenceCountModel.relays(IIII)I ===== -/
abbrev rmX10_relays : Room := { frames := 1, cells := 0, slots := 0, locals := 22 }
theorem kkX10_relays : yX10_relays.cls = RX10 ∧ yX10_relays.cls ≠ "java/lang/invoke/MethodHandle" ∧ yX10_relays.cls ≠ "java/lang/invoke/VarHandle" ∧ (parseMethodDescriptor yX10_relays.desc).map (fun d => d.parameters.length) = some 4 := by decide +kernel
theorem mX10_relays_f40 : Cond.fieldLink RX10 40 "SilenceCountModel" "there" "I" ∈ wsX10_relays := by decide +kernel
theorem wX10_relays_X10 : ∀ w ∈ u_ws RX10 TX10 19, w ∈ wsX10_relays := by decide +kernel
def bX10_relays_57 (k57 : Int32 → Option (Int32)) (t_there : Int32) (a1 : Int32) (a2 : Int32) (a3 : Int32) (a4 : Int32) (v5 : Int32) : Option (Int32) :=
  if (a1 * a2) ≤ (v5 * a3) then if a4 = 1 then if v5 ≤ 8 then some v5 else some (-6) else (fX10_bits t_there).bind fun r100 => if r100 < v5 then some 0 else some 1 else k57 (v5 + 1)
set_option maxRecDepth 100000 in
set_option maxHeartbeats 4000000 in
theorem BX10_relays_57 {p : Program} {l : Launch} {e : Env} {s : State} {m : MethodId} {below : List Frame} {meth : Method} {c : Code} {D : va_G} {ty : TY} {A_t A_t_count A_t_pace A_t_sight A_t_pad A_t_now A_t_image A_t_isKept : Nat} {t_there : Int32} {t_awake : Int32} {t_house : Int32} {t_sharp : Int32} {t_sights : Int32} {t_signs : Int32} {t_up : Int32} {t_reason : Int32} {t_acts : Int32} {t_breaths : Int32} {t_zeroAt : Int32} {t_noticedAt : Int32} {t_count : Nat → Int32} {t_pace : Nat → Int32} {t_sight : Nat → Int32} {t_pad : Nat → Int32} {t_now : Nat → Int32} {t_image : Nat → Int32} {t_isKept : Nat → Int32} {a1 : Int32} {a2 : Int32} {a3 : Int32} {a4 : Int32} {q0 : Int32} (C : cx p s m [.ref A_t, .int a1, .int a2, .int a3, .int a4] meth c cX10_relays 6 (some .int) RX10 wsX10_relays) (hK : KK D ty s) (hP : va_P D vwCl [(A_t, .inr (9, [.int t_there, .int t_awake, .ref A_t_count, .ref A_t_pace, .int t_house, .int t_sharp, .int t_sights, .ref A_t_sight, .int t_signs, .ref A_t_pad, .int t_up, .ref A_t_now, .int t_reason, .int t_acts, .int t_breaths, .int t_zeroAt, .int t_noticedAt, .ref A_t_image, .ref A_t_isKept])), (A_t_count, .inl (ty.1, 8, .inl t_count)), (A_t_pace, .inl (ty.1, 8, .inl t_pace)), (A_t_sight, .inl (ty.1, 24, .inl t_sight)), (A_t_pad, .inl (ty.1, 60, .inl t_pad)), (A_t_now, .inl (ty.1, 8, .inl t_now)), (A_t_image, .inl (ty.1, 120, .inl t_image)), (A_t_isKept, .inl (ty.2.2.1, 2, .inl t_isKept))] s.heap)   : ∀ (n : Nat) (v5 : Int32) (ls : Array Slot), lv_has ls 6 [(0, .ref A_t), (1, .int a1), (2, .int a2), (3, .int a3), (4, .int a4), (5, .int v5)] → loopF (fun k q => bX10_relays_57 k t_there a1 a2 a3 a4 q) n (v5) = some q0 → WRi p l e rmX10_relays s m [.ref A_t, .int a1, .int a2, .int a3, .int a4] below meth c q0 (F0 m 57 ls []) := by
  obtain ⟨hx, hb, hr, hml, hown, hts, hlocks⟩ := id C
  intro n
  induction n with
  | zero =>
    intro v5 ls hl hf
    cases hf
  | succ n ih =>
    intro v5 ls hl hf
    have hf : bX10_relays_57 (loopF (fun k q => bX10_relays_57 k t_there a1 a2 a3 a4 q) n) t_there a1 a2 a3 a4 v5 = some q0 := hf
    have hk57 := ih
    unfold bX10_relays_57 at hf
    refine lv_iload hx hb dX10_relays_57 (lv_at hl 5 rfl) ?_
    refine lv_iload_n hx hb dX10_relays_59 rfl (lv_at hl 3 rfl) ?_
    refine lv_imul hx hb dX10_relays_60 ?_
    refine lv_iload_n hx hb dX10_relays_61 rfl (lv_at hl 1 rfl) ?_
    refine lv_iload_n hx hb dX10_relays_62 rfl (lv_at hl 2 rfl) ?_
    refine lv_imul hx hb dX10_relays_63 ?_
    refine lv_icmp_ge (tgt := 73) hx hb dX10_relays_64 (by decide) (fun hc => ?_) (fun hc => ?_)
    · have hf := ft hf hc
      refine lv_iload hx hb dX10_relays_73 (lv_at hl 4 rfl) ?_
      refine lv_iconst (v := 1) hx hb dX10_relays_75 (by decide) ?_
      refine lv_icmp_ne (tgt := 96) hx hb dX10_relays_76 (by decide) (fun hc => ?_) (fun hc => ?_)
      · have hf := ff hf hc
        refine lv_aload_n hx hb dX10_relays_96 rfl (lv_at hl 0 rfl) ?_
        refine va_get (D := D) (ci := 9) (v := .int t_there) (C := RX10) (T := TX10) (N := 19) hx hb hts wX10_relays_X10 hown hK.1 hP 0 rfl rfl 0 (by decide) (hts _ mX10_relays_f40) (fun _ h9 => h9) rfl dX10_relays_97 ?_
        obtain ⟨r100, hr100, hf⟩ := bnd hf
        have hPc : va_P D vwCl [] _ := hP.sub [] rfl
        refine callS_ri (As := [.int t_there]) (rest := []) ⟨hx, hb, hml, hown, hts⟩ (CX10_bits l hr100) (va_cwS 1 hts gX10_relays_X10_bits rfl rfl rfl kkX10_bits.2 ⟨Nat.le_of_ble_eq_true rfl, Nat.le_of_ble_eq_true rfl⟩) hK hPc hl.1 rfl (Nat.le_of_ble_eq_true rfl) dX10_relays_100 ⟨Nat.zero_le _, Nat.zero_le _⟩ ?_
        refine lv_iload hx hb dX10_relays_103 (lv_at hl 5 rfl) ?_
        refine lv_icmp_lt (tgt := 112) hx hb dX10_relays_105 (by decide) (fun hc => ?_) (fun hc => ?_)
        · have hf := ft hf hc
          refine lv_iconst (v := 0) hx hb dX10_relays_112 (by decide) ?_
          exact ret_ri hx hb hr hlocks hf dX10_relays_113
        · have hf := ff hf hc
          refine lv_iconst (v := 1) hx hb dX10_relays_108 (by decide) ?_
          refine lv_goto (tgt := 113) hx hb dX10_relays_109 (by decide) ?_
          exact ret_ri hx hb hr hlocks hf dX10_relays_113
      · have hf := ft hf hc
        refine lv_iload hx hb dX10_relays_79 (lv_at hl 5 rfl) ?_
        refine lv_bipush (v := 8) hx hb dX10_relays_81 (by decide) ?_
        refine lv_icmp_le (tgt := 91) hx hb dX10_relays_83 (by decide) (fun hc => ?_) (fun hc => ?_)
        · have hf := ft hf hc
          refine lv_iload hx hb dX10_relays_91 (lv_at hl 5 rfl) ?_
          refine lv_goto (tgt := 113) hx hb dX10_relays_93 (by decide) ?_
          exact ret_ri hx hb hr hlocks hf dX10_relays_113
        · have hf := ff hf hc
          refine lv_bipush (v := (-6)) hx hb dX10_relays_86 (by decide) ?_
          refine lv_goto (tgt := 113) hx hb dX10_relays_88 (by decide) ?_
          exact ret_ri hx hb hr hlocks hf dX10_relays_113
    · have hf := ff hf hc
      refine lv_iinc (v := v5 + 1) (lv' := [(5, .int (v5 + 1)), (0, .ref A_t), (1, .int a1), (2, .int a2), (3, .int a3), (4, .int a4)]) hx hb dX10_relays_67 hl (k := 5) rfl rfl (by decide) rfl (fun ls hl => ?_)
      refine lv_goto (tgt := 57) hx hb dX10_relays_70 (by decide) ?_
      exact hk57 _ _ (lv_sub hl [1, 2, 3, 4, 5, 0] rfl) hf
def fX10_relays (t_there : Int32) (a1 : Int32) (a2 : Int32) (a3 : Int32) (a4 : Int32) : Option (Int32) :=
  (fX10_in a1 1 8).bind fun r4 => if r4 = 0 then some (-2) else (fX10_in a2 1 24).bind fun r14 => if r14 = 0 then some (-2) else (fX10_in a3 1 24).bind fun r24 => if r24 = 0 then some (-2) else (fX10_in a4 0 1).bind fun r34 => if r34 = 0 then some (-2) else if a2 = 1 then loopF (fun k q => bX10_relays_57 k t_there a1 a2 a3 a4 q) FU (a1) else loopF (fun k q => bX10_relays_57 k t_there a1 a2 a3 a4 q) FU (2 * a1)
set_option maxRecDepth 100000 in
set_option maxHeartbeats 4000000 in
theorem CX10_relays (l : Launch) {D : va_G} {ty : TY} {A_t A_t_count A_t_pace A_t_sight A_t_pad A_t_now A_t_image A_t_isKept : Nat} {t_there : Int32} {t_awake : Int32} {t_house : Int32} {t_sharp : Int32} {t_sights : Int32} {t_signs : Int32} {t_up : Int32} {t_reason : Int32} {t_acts : Int32} {t_breaths : Int32} {t_zeroAt : Int32} {t_noticedAt : Int32} {t_count : Nat → Int32} {t_pace : Nat → Int32} {t_sight : Nat → Int32} {t_pad : Nat → Int32} {t_now : Nat → Int32} {t_image : Nat → Int32} {t_isKept : Nat → Int32} {a1 : Int32} {a2 : Int32} {a3 : Int32} {a4 : Int32} {q0 : Int32} (hf : fX10_relays t_there a1 a2 a3 a4 = some q0) : ROi l yX10_relays wsX10_relays rmX10_relays D ty [.ref A_t, .int a1, .int a2, .int a3, .int a4] [(A_t, .inr (9, [.int t_there, .int t_awake, .ref A_t_count, .ref A_t_pace, .int t_house, .int t_sharp, .int t_sights, .ref A_t_sight, .int t_signs, .ref A_t_pad, .int t_up, .ref A_t_now, .int t_reason, .int t_acts, .int t_breaths, .int t_zeroAt, .int t_noticedAt, .ref A_t_image, .ref A_t_isKept])), (A_t_count, .inl (ty.1, 8, .inl t_count)), (A_t_pace, .inl (ty.1, 8, .inl t_pace)), (A_t_sight, .inl (ty.1, 24, .inl t_sight)), (A_t_pad, .inl (ty.1, 60, .inl t_pad)), (A_t_now, .inl (ty.1, 8, .inl t_now)), (A_t_image, .inl (ty.1, 120, .inl t_image)), (A_t_isKept, .inl (ty.2.2.1, 2, .inl t_isKept))] q0 := by
  refine ROi.start (cc := cX10_relays) (maxL := 6) (ret := (some .int)) (own := RX10) (by decide) rfl rfl (Nat.le_of_ble_eq_true rfl) ?_
  intro p e s m below meth c ls C hK hP hl
  obtain ⟨hx, hb, hr, hml, hown, hts, hlocks⟩ := id C
  have hl : lv_has ls 6 [(0, .ref A_t), (1, .int a1), (2, .int a2), (3, .int a3), (4, .int a4)] := hl
  unfold fX10_relays at hf
  refine lv_iload_n hx hb dX10_relays_0 rfl (lv_at hl 1 rfl) ?_
  refine lv_iconst (v := 1) hx hb dX10_relays_1 (by decide) ?_
  refine lv_bipush (v := 8) hx hb dX10_relays_2 (by decide) ?_
  obtain ⟨r4, hr4, hf⟩ := bnd hf
  have hPc : va_P D vwCl [] _ := hP.sub [] rfl
  refine callS_ri (As := [.int a1, .int 1, .int 8]) (rest := []) ⟨hx, hb, hml, hown, hts⟩ (CX10_in l hr4) (va_cwS 3 hts gX10_relays_X10_in rfl rfl rfl kkX10_in.2 ⟨Nat.le_of_ble_eq_true rfl, Nat.le_of_ble_eq_true rfl⟩) hK hPc hl.1 rfl (Nat.le_of_ble_eq_true rfl) dX10_relays_4 ⟨Nat.zero_le _, Nat.zero_le _⟩ ?_
  refine lv_if_eq (tgt := 40) hx hb dX10_relays_7 (by decide) (fun hc => ?_) (fun hc => ?_)
  · have hf := ft hf hc
    refine lv_bipush (v := (-2)) hx hb dX10_relays_40 (by decide) ?_
    exact ret_ri hx hb hr hlocks hf dX10_relays_42
  · have hf := ff hf hc
    refine lv_iload_n hx hb dX10_relays_10 rfl (lv_at hl 2 rfl) ?_
    refine lv_iconst (v := 1) hx hb dX10_relays_11 (by decide) ?_
    refine lv_bipush (v := 24) hx hb dX10_relays_12 (by decide) ?_
    obtain ⟨r14, hr14, hf⟩ := bnd hf
    have hPc : va_P D vwCl [] _ := hP.sub [] rfl
    refine callS_ri (As := [.int a2, .int 1, .int 24]) (rest := []) ⟨hx, hb, hml, hown, hts⟩ (CX10_in l hr14) (va_cwS 3 hts gX10_relays_X10_in rfl rfl rfl kkX10_in.2 ⟨Nat.le_of_ble_eq_true rfl, Nat.le_of_ble_eq_true rfl⟩) hK hPc hl.1 rfl (Nat.le_of_ble_eq_true rfl) dX10_relays_14 ⟨Nat.zero_le _, Nat.zero_le _⟩ ?_
    refine lv_if_eq (tgt := 40) hx hb dX10_relays_17 (by decide) (fun hc => ?_) (fun hc => ?_)
    · have hf := ft hf hc
      refine lv_bipush (v := (-2)) hx hb dX10_relays_40 (by decide) ?_
      exact ret_ri hx hb hr hlocks hf dX10_relays_42
    · have hf := ff hf hc
      refine lv_iload_n hx hb dX10_relays_20 rfl (lv_at hl 3 rfl) ?_
      refine lv_iconst (v := 1) hx hb dX10_relays_21 (by decide) ?_
      refine lv_bipush (v := 24) hx hb dX10_relays_22 (by decide) ?_
      obtain ⟨r24, hr24, hf⟩ := bnd hf
      have hPc : va_P D vwCl [] _ := hP.sub [] rfl
      refine callS_ri (As := [.int a3, .int 1, .int 24]) (rest := []) ⟨hx, hb, hml, hown, hts⟩ (CX10_in l hr24) (va_cwS 3 hts gX10_relays_X10_in rfl rfl rfl kkX10_in.2 ⟨Nat.le_of_ble_eq_true rfl, Nat.le_of_ble_eq_true rfl⟩) hK hPc hl.1 rfl (Nat.le_of_ble_eq_true rfl) dX10_relays_24 ⟨Nat.zero_le _, Nat.zero_le _⟩ ?_
      refine lv_if_eq (tgt := 40) hx hb dX10_relays_27 (by decide) (fun hc => ?_) (fun hc => ?_)
      · have hf := ft hf hc
        refine lv_bipush (v := (-2)) hx hb dX10_relays_40 (by decide) ?_
        exact ret_ri hx hb hr hlocks hf dX10_relays_42
      · have hf := ff hf hc
        refine lv_iload hx hb dX10_relays_30 (lv_at hl 4 rfl) ?_
        refine lv_iconst (v := 0) hx hb dX10_relays_32 (by decide) ?_
        refine lv_iconst (v := 1) hx hb dX10_relays_33 (by decide) ?_
        obtain ⟨r34, hr34, hf⟩ := bnd hf
        have hPc : va_P D vwCl [] _ := hP.sub [] rfl
        refine callS_ri (As := [.int a4, .int 0, .int 1]) (rest := []) ⟨hx, hb, hml, hown, hts⟩ (CX10_in l hr34) (va_cwS 3 hts gX10_relays_X10_in rfl rfl rfl kkX10_in.2 ⟨Nat.le_of_ble_eq_true rfl, Nat.le_of_ble_eq_true rfl⟩) hK hPc hl.1 rfl (Nat.le_of_ble_eq_true rfl) dX10_relays_34 ⟨Nat.zero_le _, Nat.zero_le _⟩ ?_
        refine lv_if_ne (tgt := 43) hx hb dX10_relays_37 (by decide) (fun hc => ?_) (fun hc => ?_)
        · have hf := ff hf hc
          refine lv_iload_n hx hb dX10_relays_43 rfl (lv_at hl 2 rfl) ?_
          refine lv_iconst (v := 1) hx hb dX10_relays_44 (by decide) ?_
          refine lv_icmp_ne (tgt := 52) hx hb dX10_relays_45 (by decide) (fun hc => ?_) (fun hc => ?_)
          · have hf := ff hf hc
            refine lv_iconst (v := 2) hx hb dX10_relays_52 (by decide) ?_
            refine lv_iload_n hx hb dX10_relays_53 rfl (lv_at hl 1 rfl) ?_
            refine lv_imul hx hb dX10_relays_54 ?_
            refine lv_istore (lv' := [(5, .int (2 * a1)), (0, .ref A_t), (1, .int a1), (2, .int a2), (3, .int a3), (4, .int a4)]) hx hb dX10_relays_55 hl (by decide) rfl (fun ls hl => ?_)
            exact BX10_relays_57 C hK hP  FU _ _ (lv_sub hl [1, 2, 3, 4, 5, 0] rfl) hf
          · have hf := ft hf hc
            refine lv_iload_n hx hb dX10_relays_48 rfl (lv_at hl 1 rfl) ?_
            refine lv_goto (tgt := 55) hx hb dX10_relays_49 (by decide) ?_
            refine lv_istore (lv' := [(5, .int a1), (0, .ref A_t), (1, .int a1), (2, .int a2), (3, .int a3), (4, .int a4)]) hx hb dX10_relays_55 hl (by decide) rfl (fun ls hl => ?_)
            exact BX10_relays_57 C hK hP  FU _ _ (lv_sub hl [1, 2, 3, 4, 5, 0] rfl) hf
        · have hf := ft hf hc
          refine lv_bipush (v := (-2)) hx hb dX10_relays_40 (by decide) ?_
          exact ret_ri hx hb hr hlocks hf dX10_relays_42
/-! ===== SilenceCountModel.restore(I)I ===== -/
abbrev rmX10_restore : Room := { frames := 1, cells := 0, slots := 0, locals := 22 }
theorem kkX10_restore : yX10_restore.cls = RX10 ∧ yX10_restore.cls ≠ "java/lang/invoke/MethodHandle" ∧ yX10_restore.cls ≠ "java/lang/invoke/VarHandle" ∧ (parseMethodDescriptor yX10_restore.desc).map (fun d => d.parameters.length) = some 1 := by decide +kernel
theorem mX10_restore_f36 : Cond.fieldLink RX10 36 "SilenceCountModel" "isKept" "[Z" ∈ wsX10_restore := by decide +kernel
theorem mX10_restore_f33 : Cond.fieldLink RX10 33 "SilenceCountModel" "image" "[I" ∈ wsX10_restore := by decide +kernel
theorem mX10_restore_f158 : Cond.fieldLink RX10 158 "SilenceCountModel" "sights" "I" ∈ wsX10_restore := by decide +kernel
theorem mX10_restore_f21 : Cond.fieldLink RX10 21 "SilenceCountModel" "sharp" "I" ∈ wsX10_restore := by decide +kernel
theorem mX10_restore_f17 : Cond.fieldLink RX10 17 "SilenceCountModel" "house" "I" ∈ wsX10_restore := by decide +kernel
theorem mX10_restore_f55 : Cond.fieldLink RX10 55 "SilenceCountModel" "awake" "I" ∈ wsX10_restore := by decide +kernel
theorem mX10_restore_f40 : Cond.fieldLink RX10 40 "SilenceCountModel" "there" "I" ∈ wsX10_restore := by decide +kernel
theorem mX10_restore_f24 : Cond.fieldLink RX10 24 "SilenceCountModel" "sight" "[I" ∈ wsX10_restore := by decide +kernel
theorem mX10_restore_f7 : Cond.fieldLink RX10 7 "SilenceCountModel" "count" "[I" ∈ wsX10_restore := by decide +kernel
theorem mX10_restore_f13 : Cond.fieldLink RX10 13 "SilenceCountModel" "pace" "[I" ∈ wsX10_restore := by decide +kernel
theorem wX10_restore_X10 : ∀ w ∈ u_ws RX10 TX10 19, w ∈ wsX10_restore := by decide +kernel
def bX10_restore_76 (k76 : Int32 × Int32 × Int32 × Int32 × Int32 × Int32 × Int32 × (Nat → Int32) × (Nat → Int32) × (Nat → Int32) → Option (Int32 × Int32 × Int32 × Int32 × Int32 × Int32 × (Nat → Int32) × (Nat → Int32) × (Nat → Int32))) (t_image : Nat → Int32) (v2 : Int32) (v3 : Int32) (t_there : Int32) (t_awake : Int32) (t_house : Int32) (t_sharp : Int32) (t_sights : Int32) (t_count : Nat → Int32) (t_pace : Nat → Int32) (t_sight : Nat → Int32) : Option (Int32 × Int32 × Int32 × Int32 × Int32 × Int32 × (Nat → Int32) × (Nat → Int32) × (Nat → Int32)) :=
  if 24 ≤ v3 then gIn (v2 + 50) 120 (gIn (v2 + 51) 120 (gIn (v2 + 52) 120 (gIn (v2 + 53) 120 (gIn (v2 + 54) 120 (some (1, t_image (v2 + 50 : Int32).toNatClampNeg, t_image (v2 + 51 : Int32).toNatClampNeg, t_image (v2 + 52 : Int32).toNatClampNeg, t_image (v2 + 53 : Int32).toNatClampNeg, t_image (v2 + 54 : Int32).toNatClampNeg, t_count, t_pace, t_sight)))))) else gIn ((v2 + 16) + v3) 120 (gIn v3 24 (k76 (v2, v3 + 1, t_there, t_awake, t_house, t_sharp, t_sights, t_count, t_pace, upd t_sight (v3 : Int32).toNatClampNeg (t_image ((v2 + 16) + v3 : Int32).toNatClampNeg))))
set_option maxRecDepth 100000 in
set_option maxHeartbeats 4000000 in
theorem BX10_restore_76 {p : Program} {l : Launch} {e : Env} {s : State} {m : MethodId} {below : List Frame} {meth : Method} {c : Code} {D : va_G} {ty : TY} {A_t A_t_count A_t_pace A_t_sight A_t_pad A_t_now A_t_image A_t_isKept : Nat} {t_signs : Int32} {t_up : Int32} {t_reason : Int32} {t_acts : Int32} {t_breaths : Int32} {t_zeroAt : Int32} {t_noticedAt : Int32} {t_pad : Nat → Int32} {t_now : Nat → Int32} {t_image : Nat → Int32} {t_isKept : Nat → Int32} {a1 : Int32} {q0 : Int32 × Int32 × Int32 × Int32 × Int32 × Int32 × (Nat → Int32) × (Nat → Int32) × (Nat → Int32)} {WC : va_W} (C : cx p s m [.ref A_t, .int a1] meth c cX10_restore 4 (some .int) RX10 wsX10_restore) (hK : KK D ty s)   : ∀ (n : Nat) (v2 : Int32) (v3 : Int32) (t_there : Int32) (t_awake : Int32) (t_house : Int32) (t_sharp : Int32) (t_sights : Int32) (t_count : Nat → Int32) (t_pace : Nat → Int32) (t_sight : Nat → Int32) (H : Heap) (locs : List Loc) (ls : Array Slot), va_P D vwCl [(A_t, .inr (9, [.int t_there, .int t_awake, .ref A_t_count, .ref A_t_pace, .int t_house, .int t_sharp, .int t_sights, .ref A_t_sight, .int t_signs, .ref A_t_pad, .int t_up, .ref A_t_now, .int t_reason, .int t_acts, .int t_breaths, .int t_zeroAt, .int t_noticedAt, .ref A_t_image, .ref A_t_isKept])), (A_t_count, .inl (ty.1, 8, .inl t_count)), (A_t_pace, .inl (ty.1, 8, .inl t_pace)), (A_t_sight, .inl (ty.1, 24, .inl t_sight)), (A_t_pad, .inl (ty.1, 60, .inl t_pad)), (A_t_now, .inl (ty.1, 8, .inl t_now)), (A_t_image, .inl (ty.1, 120, .inl t_image)), (A_t_isKept, .inl (ty.2.2.1, 2, .inl t_isKept))] H → va_D (va_A WC s.heap.size) [(A_t, .inr (9, [.int t_there, .int t_awake, .ref A_t_count, .ref A_t_pace, .int t_house, .int t_sharp, .int t_sights, .ref A_t_sight, .int t_signs, .ref A_t_pad, .int t_up, .ref A_t_now, .int t_reason, .int t_acts, .int t_breaths, .int t_zeroAt, .int t_noticedAt, .ref A_t_image, .ref A_t_isKept])), (A_t_count, .inl (ty.1, 8, .inl t_count)), (A_t_pace, .inl (ty.1, 8, .inl t_pace)), (A_t_sight, .inl (ty.1, 24, .inl t_sight)), (A_t_pad, .inl (ty.1, 60, .inl t_pad)), (A_t_now, .inl (ty.1, 8, .inl t_now)), (A_t_image, .inl (ty.1, 120, .inl t_image)), (A_t_isKept, .inl (ty.2.2.1, 2, .inl t_isKept))] → va_S (va_A WC s.heap.size) s.heap H locs → lv_has ls 4 [(0, .ref A_t), (2, .int v2), (3, .int v3)] → loopF (fun k q => bX10_restore_76 k t_image q.1 q.2.1 q.2.2.1 q.2.2.2.1 q.2.2.2.2.1 q.2.2.2.2.2.1 q.2.2.2.2.2.2.1 q.2.2.2.2.2.2.2.1 q.2.2.2.2.2.2.2.2.1 q.2.2.2.2.2.2.2.2.2) n (v2, v3, t_there, t_awake, t_house, t_sharp, t_sights, t_count, t_pace, t_sight) = some q0 → WWi p l e rmX10_restore s m [.ref A_t, .int a1] below meth c D WC [(A_t, .inr (9, [.int q0.2.1, .int q0.2.2.1, .ref A_t_count, .ref A_t_pace, .int q0.2.2.2.1, .int q0.2.2.2.2.1, .int q0.2.2.2.2.2.1, .ref A_t_sight, .int t_signs, .ref A_t_pad, .int t_up, .ref A_t_now, .int t_reason, .int t_acts, .int t_breaths, .int t_zeroAt, .int t_noticedAt, .ref A_t_image, .ref A_t_isKept])), (A_t_count, .inl (ty.1, 8, .inl q0.2.2.2.2.2.2.1)), (A_t_pace, .inl (ty.1, 8, .inl q0.2.2.2.2.2.2.2.1)), (A_t_sight, .inl (ty.1, 24, .inl q0.2.2.2.2.2.2.2.2)), (A_t_pad, .inl (ty.1, 60, .inl t_pad)), (A_t_now, .inl (ty.1, 8, .inl t_now)), (A_t_image, .inl (ty.1, 120, .inl t_image)), (A_t_isKept, .inl (ty.2.2.1, 2, .inl t_isKept))] q0.1 H locs (F0 m 76 ls []) := by
  obtain ⟨hx, hb, hr, hml, hown, hts, hlocks⟩ := id C
  intro n
  induction n with
  | zero =>
    intro v2 v3 t_there t_awake t_house t_sharp t_sights t_count t_pace t_sight H locs ls hP hD hS hl hf
    cases hf
  | succ n ih =>
    intro v2 v3 t_there t_awake t_house t_sharp t_sights t_count t_pace t_sight H locs ls hP hD hS hl hf
    have hf : bX10_restore_76 (loopF (fun k q => bX10_restore_76 k t_image q.1 q.2.1 q.2.2.1 q.2.2.2.1 q.2.2.2.2.1 q.2.2.2.2.2.1 q.2.2.2.2.2.2.1 q.2.2.2.2.2.2.2.1 q.2.2.2.2.2.2.2.2.1 q.2.2.2.2.2.2.2.2.2) n) t_image v2 v3 t_there t_awake t_house t_sharp t_sights t_count t_pace t_sight = some q0 := hf
    have hk76 := ih
    unfold bX10_restore_76 at hf
    refine lv_iload_n hx hb dX10_restore_76 rfl (lv_at hl 2 rfl) ?_
    refine lv_bipush (v := 24) hx hb dX10_restore_77 (by decide) ?_
    refine lv_icmp_ge (tgt := 105) hx hb dX10_restore_79 (by decide) (fun hc => ?_) (fun hc => ?_)
    · have hf := ft hf hc
      refine lv_aload_n hx hb dX10_restore_105 rfl (lv_at hl 0 rfl) ?_
      refine lv_aload_n hx hb dX10_restore_106 rfl (lv_at hl 0 rfl) ?_
      refine va_get (D := D) (ci := 9) (v := .ref A_t_image) (C := RX10) (T := TX10) (N := 19) hx hb hts wX10_restore_X10 hown hK.1 hP 0 rfl rfl 17 (by decide) (hts _ mX10_restore_f33) (fun _ h9 => h9) rfl dX10_restore_107 ?_
      refine lv_iload_n hx hb dX10_restore_110 rfl (lv_at hl 1 rfl) ?_
      refine lv_bipush (v := 50) hx hb dX10_restore_111 (by decide) ?_
      refine lv_iadd hx hb dX10_restore_113 ?_
      obtain ⟨hin, hf⟩ := gIn_some hf
      refine va_iald hx hb hK.1 hP 6 0 rfl rfl hin dX10_restore_114 ?_
      refine va_put (D := D) (ci := 9) (v := .int (t_image (v2 + 50 : Int32).toNatClampNeg)) (ty := .int) (C := RX10) (T := TX10) (N := 19) hx hb hts wX10_restore_X10 tyX10 tyX10_ok nmX10 hown hK.1 hP hD hS 0 rfl rfl 0 (by decide) (hts _ mX10_restore_f40) (fun _ h9 => h9) rfl (by decide +kernel) rfl rfl (Nat.le_of_ble_eq_true rfl) dX10_restore_115 (fun H locs hP hD hS => ?_)
      have hP : va_P D vwCl [(A_t, .inr (9, [.int (t_image (v2 + 50 : Int32).toNatClampNeg), .int t_awake, .ref A_t_count, .ref A_t_pace, .int t_house, .int t_sharp, .int t_sights, .ref A_t_sight, .int t_signs, .ref A_t_pad, .int t_up, .ref A_t_now, .int t_reason, .int t_acts, .int t_breaths, .int t_zeroAt, .int t_noticedAt, .ref A_t_image, .ref A_t_isKept])), (A_t_count, .inl (ty.1, 8, .inl t_count)), (A_t_pace, .inl (ty.1, 8, .inl t_pace)), (A_t_sight, .inl (ty.1, 24, .inl t_sight)), (A_t_pad, .inl (ty.1, 60, .inl t_pad)), (A_t_now, .inl (ty.1, 8, .inl t_now)), (A_t_image, .inl (ty.1, 120, .inl t_image)), (A_t_isKept, .inl (ty.2.2.1, 2, .inl t_isKept))] H := hP
      have hD : va_D (va_A WC s.heap.size) [(A_t, .inr (9, [.int (t_image (v2 + 50 : Int32).toNatClampNeg), .int t_awake, .ref A_t_count, .ref A_t_pace, .int t_house, .int t_sharp, .int t_sights, .ref A_t_sight, .int t_signs, .ref A_t_pad, .int t_up, .ref A_t_now, .int t_reason, .int t_acts, .int t_breaths, .int t_zeroAt, .int t_noticedAt, .ref A_t_image, .ref A_t_isKept])), (A_t_count, .inl (ty.1, 8, .inl t_count)), (A_t_pace, .inl (ty.1, 8, .inl t_pace)), (A_t_sight, .inl (ty.1, 24, .inl t_sight)), (A_t_pad, .inl (ty.1, 60, .inl t_pad)), (A_t_now, .inl (ty.1, 8, .inl t_now)), (A_t_image, .inl (ty.1, 120, .inl t_image)), (A_t_isKept, .inl (ty.2.2.1, 2, .inl t_isKept))] := hD
      refine lv_aload_n hx hb dX10_restore_118 rfl (lv_at hl 0 rfl) ?_
      refine lv_aload_n hx hb dX10_restore_119 rfl (lv_at hl 0 rfl) ?_
      refine va_get (D := D) (ci := 9) (v := .ref A_t_image) (C := RX10) (T := TX10) (N := 19) hx hb hts wX10_restore_X10 hown hK.1 hP 0 rfl rfl 17 (by decide) (hts _ mX10_restore_f33) (fun _ h9 => h9) rfl dX10_restore_120 ?_
      refine lv_iload_n hx hb dX10_restore_123 rfl (lv_at hl 1 rfl) ?_
      refine lv_bipush (v := 51) hx hb dX10_restore_124 (by decide) ?_
      refine lv_iadd hx hb dX10_restore_126 ?_
      obtain ⟨hin, hf⟩ := gIn_some hf
      refine va_iald hx hb hK.1 hP 6 0 rfl rfl hin dX10_restore_127 ?_
      refine va_put (D := D) (ci := 9) (v := .int (t_image (v2 + 51 : Int32).toNatClampNeg)) (ty := .int) (C := RX10) (T := TX10) (N := 19) hx hb hts wX10_restore_X10 tyX10 tyX10_ok nmX10 hown hK.1 hP hD hS 0 rfl rfl 1 (by decide) (hts _ mX10_restore_f55) (fun _ h9 => h9) rfl (by decide +kernel) rfl rfl (Nat.le_of_ble_eq_true rfl) dX10_restore_128 (fun H locs hP hD hS => ?_)
      have hP : va_P D vwCl [(A_t, .inr (9, [.int (t_image (v2 + 50 : Int32).toNatClampNeg), .int (t_image (v2 + 51 : Int32).toNatClampNeg), .ref A_t_count, .ref A_t_pace, .int t_house, .int t_sharp, .int t_sights, .ref A_t_sight, .int t_signs, .ref A_t_pad, .int t_up, .ref A_t_now, .int t_reason, .int t_acts, .int t_breaths, .int t_zeroAt, .int t_noticedAt, .ref A_t_image, .ref A_t_isKept])), (A_t_count, .inl (ty.1, 8, .inl t_count)), (A_t_pace, .inl (ty.1, 8, .inl t_pace)), (A_t_sight, .inl (ty.1, 24, .inl t_sight)), (A_t_pad, .inl (ty.1, 60, .inl t_pad)), (A_t_now, .inl (ty.1, 8, .inl t_now)), (A_t_image, .inl (ty.1, 120, .inl t_image)), (A_t_isKept, .inl (ty.2.2.1, 2, .inl t_isKept))] H := hP
      have hD : va_D (va_A WC s.heap.size) [(A_t, .inr (9, [.int (t_image (v2 + 50 : Int32).toNatClampNeg), .int (t_image (v2 + 51 : Int32).toNatClampNeg), .ref A_t_count, .ref A_t_pace, .int t_house, .int t_sharp, .int t_sights, .ref A_t_sight, .int t_signs, .ref A_t_pad, .int t_up, .ref A_t_now, .int t_reason, .int t_acts, .int t_breaths, .int t_zeroAt, .int t_noticedAt, .ref A_t_image, .ref A_t_isKept])), (A_t_count, .inl (ty.1, 8, .inl t_count)), (A_t_pace, .inl (ty.1, 8, .inl t_pace)), (A_t_sight, .inl (ty.1, 24, .inl t_sight)), (A_t_pad, .inl (ty.1, 60, .inl t_pad)), (A_t_now, .inl (ty.1, 8, .inl t_now)), (A_t_image, .inl (ty.1, 120, .inl t_image)), (A_t_isKept, .inl (ty.2.2.1, 2, .inl t_isKept))] := hD
      refine lv_aload_n hx hb dX10_restore_131 rfl (lv_at hl 0 rfl) ?_
      refine lv_aload_n hx hb dX10_restore_132 rfl (lv_at hl 0 rfl) ?_
      refine va_get (D := D) (ci := 9) (v := .ref A_t_image) (C := RX10) (T := TX10) (N := 19) hx hb hts wX10_restore_X10 hown hK.1 hP 0 rfl rfl 17 (by decide) (hts _ mX10_restore_f33) (fun _ h9 => h9) rfl dX10_restore_133 ?_
      refine lv_iload_n hx hb dX10_restore_136 rfl (lv_at hl 1 rfl) ?_
      refine lv_bipush (v := 52) hx hb dX10_restore_137 (by decide) ?_
      refine lv_iadd hx hb dX10_restore_139 ?_
      obtain ⟨hin, hf⟩ := gIn_some hf
      refine va_iald hx hb hK.1 hP 6 0 rfl rfl hin dX10_restore_140 ?_
      refine va_put (D := D) (ci := 9) (v := .int (t_image (v2 + 52 : Int32).toNatClampNeg)) (ty := .int) (C := RX10) (T := TX10) (N := 19) hx hb hts wX10_restore_X10 tyX10 tyX10_ok nmX10 hown hK.1 hP hD hS 0 rfl rfl 4 (by decide) (hts _ mX10_restore_f17) (fun _ h9 => h9) rfl (by decide +kernel) rfl rfl (Nat.le_of_ble_eq_true rfl) dX10_restore_141 (fun H locs hP hD hS => ?_)
      have hP : va_P D vwCl [(A_t, .inr (9, [.int (t_image (v2 + 50 : Int32).toNatClampNeg), .int (t_image (v2 + 51 : Int32).toNatClampNeg), .ref A_t_count, .ref A_t_pace, .int (t_image (v2 + 52 : Int32).toNatClampNeg), .int t_sharp, .int t_sights, .ref A_t_sight, .int t_signs, .ref A_t_pad, .int t_up, .ref A_t_now, .int t_reason, .int t_acts, .int t_breaths, .int t_zeroAt, .int t_noticedAt, .ref A_t_image, .ref A_t_isKept])), (A_t_count, .inl (ty.1, 8, .inl t_count)), (A_t_pace, .inl (ty.1, 8, .inl t_pace)), (A_t_sight, .inl (ty.1, 24, .inl t_sight)), (A_t_pad, .inl (ty.1, 60, .inl t_pad)), (A_t_now, .inl (ty.1, 8, .inl t_now)), (A_t_image, .inl (ty.1, 120, .inl t_image)), (A_t_isKept, .inl (ty.2.2.1, 2, .inl t_isKept))] H := hP
      have hD : va_D (va_A WC s.heap.size) [(A_t, .inr (9, [.int (t_image (v2 + 50 : Int32).toNatClampNeg), .int (t_image (v2 + 51 : Int32).toNatClampNeg), .ref A_t_count, .ref A_t_pace, .int (t_image (v2 + 52 : Int32).toNatClampNeg), .int t_sharp, .int t_sights, .ref A_t_sight, .int t_signs, .ref A_t_pad, .int t_up, .ref A_t_now, .int t_reason, .int t_acts, .int t_breaths, .int t_zeroAt, .int t_noticedAt, .ref A_t_image, .ref A_t_isKept])), (A_t_count, .inl (ty.1, 8, .inl t_count)), (A_t_pace, .inl (ty.1, 8, .inl t_pace)), (A_t_sight, .inl (ty.1, 24, .inl t_sight)), (A_t_pad, .inl (ty.1, 60, .inl t_pad)), (A_t_now, .inl (ty.1, 8, .inl t_now)), (A_t_image, .inl (ty.1, 120, .inl t_image)), (A_t_isKept, .inl (ty.2.2.1, 2, .inl t_isKept))] := hD
      refine lv_aload_n hx hb dX10_restore_144 rfl (lv_at hl 0 rfl) ?_
      refine lv_aload_n hx hb dX10_restore_145 rfl (lv_at hl 0 rfl) ?_
      refine va_get (D := D) (ci := 9) (v := .ref A_t_image) (C := RX10) (T := TX10) (N := 19) hx hb hts wX10_restore_X10 hown hK.1 hP 0 rfl rfl 17 (by decide) (hts _ mX10_restore_f33) (fun _ h9 => h9) rfl dX10_restore_146 ?_
      refine lv_iload_n hx hb dX10_restore_149 rfl (lv_at hl 1 rfl) ?_
      refine lv_bipush (v := 53) hx hb dX10_restore_150 (by decide) ?_
      refine lv_iadd hx hb dX10_restore_152 ?_
      obtain ⟨hin, hf⟩ := gIn_some hf
      refine va_iald hx hb hK.1 hP 6 0 rfl rfl hin dX10_restore_153 ?_
      refine va_put (D := D) (ci := 9) (v := .int (t_image (v2 + 53 : Int32).toNatClampNeg)) (ty := .int) (C := RX10) (T := TX10) (N := 19) hx hb hts wX10_restore_X10 tyX10 tyX10_ok nmX10 hown hK.1 hP hD hS 0 rfl rfl 5 (by decide) (hts _ mX10_restore_f21) (fun _ h9 => h9) rfl (by decide +kernel) rfl rfl (Nat.le_of_ble_eq_true rfl) dX10_restore_154 (fun H locs hP hD hS => ?_)
      have hP : va_P D vwCl [(A_t, .inr (9, [.int (t_image (v2 + 50 : Int32).toNatClampNeg), .int (t_image (v2 + 51 : Int32).toNatClampNeg), .ref A_t_count, .ref A_t_pace, .int (t_image (v2 + 52 : Int32).toNatClampNeg), .int (t_image (v2 + 53 : Int32).toNatClampNeg), .int t_sights, .ref A_t_sight, .int t_signs, .ref A_t_pad, .int t_up, .ref A_t_now, .int t_reason, .int t_acts, .int t_breaths, .int t_zeroAt, .int t_noticedAt, .ref A_t_image, .ref A_t_isKept])), (A_t_count, .inl (ty.1, 8, .inl t_count)), (A_t_pace, .inl (ty.1, 8, .inl t_pace)), (A_t_sight, .inl (ty.1, 24, .inl t_sight)), (A_t_pad, .inl (ty.1, 60, .inl t_pad)), (A_t_now, .inl (ty.1, 8, .inl t_now)), (A_t_image, .inl (ty.1, 120, .inl t_image)), (A_t_isKept, .inl (ty.2.2.1, 2, .inl t_isKept))] H := hP
      have hD : va_D (va_A WC s.heap.size) [(A_t, .inr (9, [.int (t_image (v2 + 50 : Int32).toNatClampNeg), .int (t_image (v2 + 51 : Int32).toNatClampNeg), .ref A_t_count, .ref A_t_pace, .int (t_image (v2 + 52 : Int32).toNatClampNeg), .int (t_image (v2 + 53 : Int32).toNatClampNeg), .int t_sights, .ref A_t_sight, .int t_signs, .ref A_t_pad, .int t_up, .ref A_t_now, .int t_reason, .int t_acts, .int t_breaths, .int t_zeroAt, .int t_noticedAt, .ref A_t_image, .ref A_t_isKept])), (A_t_count, .inl (ty.1, 8, .inl t_count)), (A_t_pace, .inl (ty.1, 8, .inl t_pace)), (A_t_sight, .inl (ty.1, 24, .inl t_sight)), (A_t_pad, .inl (ty.1, 60, .inl t_pad)), (A_t_now, .inl (ty.1, 8, .inl t_now)), (A_t_image, .inl (ty.1, 120, .inl t_image)), (A_t_isKept, .inl (ty.2.2.1, 2, .inl t_isKept))] := hD
      refine lv_aload_n hx hb dX10_restore_157 rfl (lv_at hl 0 rfl) ?_
      refine lv_aload_n hx hb dX10_restore_158 rfl (lv_at hl 0 rfl) ?_
      refine va_get (D := D) (ci := 9) (v := .ref A_t_image) (C := RX10) (T := TX10) (N := 19) hx hb hts wX10_restore_X10 hown hK.1 hP 0 rfl rfl 17 (by decide) (hts _ mX10_restore_f33) (fun _ h9 => h9) rfl dX10_restore_159 ?_
      refine lv_iload_n hx hb dX10_restore_162 rfl (lv_at hl 1 rfl) ?_
      refine lv_bipush (v := 54) hx hb dX10_restore_163 (by decide) ?_
      refine lv_iadd hx hb dX10_restore_165 ?_
      obtain ⟨hin, hf⟩ := gIn_some hf
      refine va_iald hx hb hK.1 hP 6 0 rfl rfl hin dX10_restore_166 ?_
      refine va_put (D := D) (ci := 9) (v := .int (t_image (v2 + 54 : Int32).toNatClampNeg)) (ty := .int) (C := RX10) (T := TX10) (N := 19) hx hb hts wX10_restore_X10 tyX10 tyX10_ok nmX10 hown hK.1 hP hD hS 0 rfl rfl 6 (by decide) (hts _ mX10_restore_f158) (fun _ h9 => h9) rfl (by decide +kernel) rfl rfl (Nat.le_of_ble_eq_true rfl) dX10_restore_167 (fun H locs hP hD hS => ?_)
      have hP : va_P D vwCl [(A_t, .inr (9, [.int (t_image (v2 + 50 : Int32).toNatClampNeg), .int (t_image (v2 + 51 : Int32).toNatClampNeg), .ref A_t_count, .ref A_t_pace, .int (t_image (v2 + 52 : Int32).toNatClampNeg), .int (t_image (v2 + 53 : Int32).toNatClampNeg), .int (t_image (v2 + 54 : Int32).toNatClampNeg), .ref A_t_sight, .int t_signs, .ref A_t_pad, .int t_up, .ref A_t_now, .int t_reason, .int t_acts, .int t_breaths, .int t_zeroAt, .int t_noticedAt, .ref A_t_image, .ref A_t_isKept])), (A_t_count, .inl (ty.1, 8, .inl t_count)), (A_t_pace, .inl (ty.1, 8, .inl t_pace)), (A_t_sight, .inl (ty.1, 24, .inl t_sight)), (A_t_pad, .inl (ty.1, 60, .inl t_pad)), (A_t_now, .inl (ty.1, 8, .inl t_now)), (A_t_image, .inl (ty.1, 120, .inl t_image)), (A_t_isKept, .inl (ty.2.2.1, 2, .inl t_isKept))] H := hP
      have hD : va_D (va_A WC s.heap.size) [(A_t, .inr (9, [.int (t_image (v2 + 50 : Int32).toNatClampNeg), .int (t_image (v2 + 51 : Int32).toNatClampNeg), .ref A_t_count, .ref A_t_pace, .int (t_image (v2 + 52 : Int32).toNatClampNeg), .int (t_image (v2 + 53 : Int32).toNatClampNeg), .int (t_image (v2 + 54 : Int32).toNatClampNeg), .ref A_t_sight, .int t_signs, .ref A_t_pad, .int t_up, .ref A_t_now, .int t_reason, .int t_acts, .int t_breaths, .int t_zeroAt, .int t_noticedAt, .ref A_t_image, .ref A_t_isKept])), (A_t_count, .inl (ty.1, 8, .inl t_count)), (A_t_pace, .inl (ty.1, 8, .inl t_pace)), (A_t_sight, .inl (ty.1, 24, .inl t_sight)), (A_t_pad, .inl (ty.1, 60, .inl t_pad)), (A_t_now, .inl (ty.1, 8, .inl t_now)), (A_t_image, .inl (ty.1, 120, .inl t_image)), (A_t_isKept, .inl (ty.2.2.1, 2, .inl t_isKept))] := hD
      refine lv_iconst (v := 1) hx hb dX10_restore_170 (by decide) ?_
      cases hf
      exact ret_wi hx hb hr hlocks hP hD hS dX10_restore_171
    · have hf := ff hf hc
      refine lv_aload_n hx hb dX10_restore_82 rfl (lv_at hl 0 rfl) ?_
      refine va_get (D := D) (ci := 9) (v := .ref A_t_sight) (C := RX10) (T := TX10) (N := 19) hx hb hts wX10_restore_X10 hown hK.1 hP 0 rfl rfl 7 (by decide) (hts _ mX10_restore_f24) (fun _ h9 => h9) rfl dX10_restore_83 ?_
      refine lv_iload_n hx hb dX10_restore_86 rfl (lv_at hl 2 rfl) ?_
      refine lv_aload_n hx hb dX10_restore_87 rfl (lv_at hl 0 rfl) ?_
      refine va_get (D := D) (ci := 9) (v := .ref A_t_image) (C := RX10) (T := TX10) (N := 19) hx hb hts wX10_restore_X10 hown hK.1 hP 0 rfl rfl 17 (by decide) (hts _ mX10_restore_f33) (fun _ h9 => h9) rfl dX10_restore_88 ?_
      refine lv_iload_n hx hb dX10_restore_91 rfl (lv_at hl 1 rfl) ?_
      refine lv_bipush (v := 16) hx hb dX10_restore_92 (by decide) ?_
      refine lv_iadd hx hb dX10_restore_94 ?_
      refine lv_iload_n hx hb dX10_restore_95 rfl (lv_at hl 2 rfl) ?_
      refine lv_iadd hx hb dX10_restore_96 ?_
      obtain ⟨hin, hf⟩ := gIn_some hf
      refine va_iald hx hb hK.1 hP 6 0 rfl rfl hin dX10_restore_97 ?_
      obtain ⟨hin, hf⟩ := gIn_some hf
      refine va_iast hx hb hK.1 hP hD hS 3 0 rfl rfl hin dX10_restore_98 (fun H locs hP hD hS => ?_)
      have hP : va_P D vwCl [(A_t, .inr (9, [.int t_there, .int t_awake, .ref A_t_count, .ref A_t_pace, .int t_house, .int t_sharp, .int t_sights, .ref A_t_sight, .int t_signs, .ref A_t_pad, .int t_up, .ref A_t_now, .int t_reason, .int t_acts, .int t_breaths, .int t_zeroAt, .int t_noticedAt, .ref A_t_image, .ref A_t_isKept])), (A_t_count, .inl (ty.1, 8, .inl t_count)), (A_t_pace, .inl (ty.1, 8, .inl t_pace)), (A_t_sight, .inl (ty.1, 24, .inl (upd t_sight (v3 : Int32).toNatClampNeg (t_image ((v2 + 16) + v3 : Int32).toNatClampNeg)))), (A_t_pad, .inl (ty.1, 60, .inl t_pad)), (A_t_now, .inl (ty.1, 8, .inl t_now)), (A_t_image, .inl (ty.1, 120, .inl t_image)), (A_t_isKept, .inl (ty.2.2.1, 2, .inl t_isKept))] H := hP
      have hD : va_D (va_A WC s.heap.size) [(A_t, .inr (9, [.int t_there, .int t_awake, .ref A_t_count, .ref A_t_pace, .int t_house, .int t_sharp, .int t_sights, .ref A_t_sight, .int t_signs, .ref A_t_pad, .int t_up, .ref A_t_now, .int t_reason, .int t_acts, .int t_breaths, .int t_zeroAt, .int t_noticedAt, .ref A_t_image, .ref A_t_isKept])), (A_t_count, .inl (ty.1, 8, .inl t_count)), (A_t_pace, .inl (ty.1, 8, .inl t_pace)), (A_t_sight, .inl (ty.1, 24, .inl (upd t_sight (v3 : Int32).toNatClampNeg (t_image ((v2 + 16) + v3 : Int32).toNatClampNeg)))), (A_t_pad, .inl (ty.1, 60, .inl t_pad)), (A_t_now, .inl (ty.1, 8, .inl t_now)), (A_t_image, .inl (ty.1, 120, .inl t_image)), (A_t_isKept, .inl (ty.2.2.1, 2, .inl t_isKept))] := hD
      refine lv_iinc (v := v3 + 1) (lv' := [(3, .int (v3 + 1)), (0, .ref A_t), (2, .int v2)]) hx hb dX10_restore_99 hl (k := 2) rfl rfl (by decide) rfl (fun ls hl => ?_)
      refine lv_goto (tgt := 76) hx hb dX10_restore_102 (by decide) ?_
      exact hk76 _ _ _ _ _ _ _ _ _ _ _ _ _ hP hD hS (lv_sub hl [1, 2, 0] rfl) hf
def bX10_restore_31 (k31 : Int32 × Int32 × Int32 × Int32 × Int32 × Int32 × Int32 × (Nat → Int32) × (Nat → Int32) × (Nat → Int32) → Option (Int32 × Int32 × Int32 × Int32 × Int32 × Int32 × (Nat → Int32) × (Nat → Int32) × (Nat → Int32))) (t_image : Nat → Int32) (v2 : Int32) (v3 : Int32) (t_there : Int32) (t_awake : Int32) (t_house : Int32) (t_sharp : Int32) (t_sights : Int32) (t_count : Nat → Int32) (t_pace : Nat → Int32) (t_sight : Nat → Int32) : Option (Int32 × Int32 × Int32 × Int32 × Int32 × Int32 × (Nat → Int32) × (Nat → Int32) × (Nat → Int32)) :=
  if 8 ≤ v3 then loopF (fun k q => bX10_restore_76 k t_image q.1 q.2.1 q.2.2.1 q.2.2.2.1 q.2.2.2.2.1 q.2.2.2.2.2.1 q.2.2.2.2.2.2.1 q.2.2.2.2.2.2.2.1 q.2.2.2.2.2.2.2.2.1 q.2.2.2.2.2.2.2.2.2) FU (v2, 0, t_there, t_awake, t_house, t_sharp, t_sights, t_count, t_pace, t_sight) else gIn (v2 + v3) 120 (gIn v3 8 (gIn ((v2 + 8) + v3) 120 (gIn v3 8 (k31 (v2, v3 + 1, t_there, t_awake, t_house, t_sharp, t_sights, upd t_count (v3 : Int32).toNatClampNeg (t_image (v2 + v3 : Int32).toNatClampNeg), upd t_pace (v3 : Int32).toNatClampNeg (t_image ((v2 + 8) + v3 : Int32).toNatClampNeg), t_sight)))))
set_option maxRecDepth 100000 in
set_option maxHeartbeats 4000000 in
theorem BX10_restore_31 {p : Program} {l : Launch} {e : Env} {s : State} {m : MethodId} {below : List Frame} {meth : Method} {c : Code} {D : va_G} {ty : TY} {A_t A_t_count A_t_pace A_t_sight A_t_pad A_t_now A_t_image A_t_isKept : Nat} {t_signs : Int32} {t_up : Int32} {t_reason : Int32} {t_acts : Int32} {t_breaths : Int32} {t_zeroAt : Int32} {t_noticedAt : Int32} {t_pad : Nat → Int32} {t_now : Nat → Int32} {t_image : Nat → Int32} {t_isKept : Nat → Int32} {a1 : Int32} {q0 : Int32 × Int32 × Int32 × Int32 × Int32 × Int32 × (Nat → Int32) × (Nat → Int32) × (Nat → Int32)} {WC : va_W} (C : cx p s m [.ref A_t, .int a1] meth c cX10_restore 4 (some .int) RX10 wsX10_restore) (hK : KK D ty s)   : ∀ (n : Nat) (v2 : Int32) (v3 : Int32) (t_there : Int32) (t_awake : Int32) (t_house : Int32) (t_sharp : Int32) (t_sights : Int32) (t_count : Nat → Int32) (t_pace : Nat → Int32) (t_sight : Nat → Int32) (H : Heap) (locs : List Loc) (ls : Array Slot), va_P D vwCl [(A_t, .inr (9, [.int t_there, .int t_awake, .ref A_t_count, .ref A_t_pace, .int t_house, .int t_sharp, .int t_sights, .ref A_t_sight, .int t_signs, .ref A_t_pad, .int t_up, .ref A_t_now, .int t_reason, .int t_acts, .int t_breaths, .int t_zeroAt, .int t_noticedAt, .ref A_t_image, .ref A_t_isKept])), (A_t_count, .inl (ty.1, 8, .inl t_count)), (A_t_pace, .inl (ty.1, 8, .inl t_pace)), (A_t_sight, .inl (ty.1, 24, .inl t_sight)), (A_t_pad, .inl (ty.1, 60, .inl t_pad)), (A_t_now, .inl (ty.1, 8, .inl t_now)), (A_t_image, .inl (ty.1, 120, .inl t_image)), (A_t_isKept, .inl (ty.2.2.1, 2, .inl t_isKept))] H → va_D (va_A WC s.heap.size) [(A_t, .inr (9, [.int t_there, .int t_awake, .ref A_t_count, .ref A_t_pace, .int t_house, .int t_sharp, .int t_sights, .ref A_t_sight, .int t_signs, .ref A_t_pad, .int t_up, .ref A_t_now, .int t_reason, .int t_acts, .int t_breaths, .int t_zeroAt, .int t_noticedAt, .ref A_t_image, .ref A_t_isKept])), (A_t_count, .inl (ty.1, 8, .inl t_count)), (A_t_pace, .inl (ty.1, 8, .inl t_pace)), (A_t_sight, .inl (ty.1, 24, .inl t_sight)), (A_t_pad, .inl (ty.1, 60, .inl t_pad)), (A_t_now, .inl (ty.1, 8, .inl t_now)), (A_t_image, .inl (ty.1, 120, .inl t_image)), (A_t_isKept, .inl (ty.2.2.1, 2, .inl t_isKept))] → va_S (va_A WC s.heap.size) s.heap H locs → lv_has ls 4 [(0, .ref A_t), (2, .int v2), (3, .int v3)] → loopF (fun k q => bX10_restore_31 k t_image q.1 q.2.1 q.2.2.1 q.2.2.2.1 q.2.2.2.2.1 q.2.2.2.2.2.1 q.2.2.2.2.2.2.1 q.2.2.2.2.2.2.2.1 q.2.2.2.2.2.2.2.2.1 q.2.2.2.2.2.2.2.2.2) n (v2, v3, t_there, t_awake, t_house, t_sharp, t_sights, t_count, t_pace, t_sight) = some q0 → WWi p l e rmX10_restore s m [.ref A_t, .int a1] below meth c D WC [(A_t, .inr (9, [.int q0.2.1, .int q0.2.2.1, .ref A_t_count, .ref A_t_pace, .int q0.2.2.2.1, .int q0.2.2.2.2.1, .int q0.2.2.2.2.2.1, .ref A_t_sight, .int t_signs, .ref A_t_pad, .int t_up, .ref A_t_now, .int t_reason, .int t_acts, .int t_breaths, .int t_zeroAt, .int t_noticedAt, .ref A_t_image, .ref A_t_isKept])), (A_t_count, .inl (ty.1, 8, .inl q0.2.2.2.2.2.2.1)), (A_t_pace, .inl (ty.1, 8, .inl q0.2.2.2.2.2.2.2.1)), (A_t_sight, .inl (ty.1, 24, .inl q0.2.2.2.2.2.2.2.2)), (A_t_pad, .inl (ty.1, 60, .inl t_pad)), (A_t_now, .inl (ty.1, 8, .inl t_now)), (A_t_image, .inl (ty.1, 120, .inl t_image)), (A_t_isKept, .inl (ty.2.2.1, 2, .inl t_isKept))] q0.1 H locs (F0 m 31 ls []) := by
  obtain ⟨hx, hb, hr, hml, hown, hts, hlocks⟩ := id C
  intro n
  induction n with
  | zero =>
    intro v2 v3 t_there t_awake t_house t_sharp t_sights t_count t_pace t_sight H locs ls hP hD hS hl hf
    cases hf
  | succ n ih =>
    intro v2 v3 t_there t_awake t_house t_sharp t_sights t_count t_pace t_sight H locs ls hP hD hS hl hf
    have hf : bX10_restore_31 (loopF (fun k q => bX10_restore_31 k t_image q.1 q.2.1 q.2.2.1 q.2.2.2.1 q.2.2.2.2.1 q.2.2.2.2.2.1 q.2.2.2.2.2.2.1 q.2.2.2.2.2.2.2.1 q.2.2.2.2.2.2.2.2.1 q.2.2.2.2.2.2.2.2.2) n) t_image v2 v3 t_there t_awake t_house t_sharp t_sights t_count t_pace t_sight = some q0 := hf
    have hk31 := ih
    unfold bX10_restore_31 at hf
    refine lv_iload_n hx hb dX10_restore_31 rfl (lv_at hl 2 rfl) ?_
    refine lv_bipush (v := 8) hx hb dX10_restore_32 (by decide) ?_
    refine lv_icmp_ge (tgt := 74) hx hb dX10_restore_34 (by decide) (fun hc => ?_) (fun hc => ?_)
    · have hf := ft hf hc
      refine lv_iconst (v := 0) hx hb dX10_restore_74 (by decide) ?_
      refine lv_istore_n (lv' := [(3, .int 0), (0, .ref A_t), (2, .int v2)]) hx hb dX10_restore_75 rfl hl (by decide) rfl (fun ls hl => ?_)
      exact BX10_restore_76 C hK  FU _ _ _ _ _ _ _ _ _ _ _ _ _ hP hD hS (lv_sub hl [1, 2, 0] rfl) hf
    · have hf := ff hf hc
      refine lv_aload_n hx hb dX10_restore_37 rfl (lv_at hl 0 rfl) ?_
      refine va_get (D := D) (ci := 9) (v := .ref A_t_count) (C := RX10) (T := TX10) (N := 19) hx hb hts wX10_restore_X10 hown hK.1 hP 0 rfl rfl 2 (by decide) (hts _ mX10_restore_f7) (fun _ h9 => h9) rfl dX10_restore_38 ?_
      refine lv_iload_n hx hb dX10_restore_41 rfl (lv_at hl 2 rfl) ?_
      refine lv_aload_n hx hb dX10_restore_42 rfl (lv_at hl 0 rfl) ?_
      refine va_get (D := D) (ci := 9) (v := .ref A_t_image) (C := RX10) (T := TX10) (N := 19) hx hb hts wX10_restore_X10 hown hK.1 hP 0 rfl rfl 17 (by decide) (hts _ mX10_restore_f33) (fun _ h9 => h9) rfl dX10_restore_43 ?_
      refine lv_iload_n hx hb dX10_restore_46 rfl (lv_at hl 1 rfl) ?_
      refine lv_iload_n hx hb dX10_restore_47 rfl (lv_at hl 2 rfl) ?_
      refine lv_iadd hx hb dX10_restore_48 ?_
      obtain ⟨hin, hf⟩ := gIn_some hf
      refine va_iald hx hb hK.1 hP 6 0 rfl rfl hin dX10_restore_49 ?_
      obtain ⟨hin, hf⟩ := gIn_some hf
      refine va_iast hx hb hK.1 hP hD hS 1 0 rfl rfl hin dX10_restore_50 (fun H locs hP hD hS => ?_)
      have hP : va_P D vwCl [(A_t, .inr (9, [.int t_there, .int t_awake, .ref A_t_count, .ref A_t_pace, .int t_house, .int t_sharp, .int t_sights, .ref A_t_sight, .int t_signs, .ref A_t_pad, .int t_up, .ref A_t_now, .int t_reason, .int t_acts, .int t_breaths, .int t_zeroAt, .int t_noticedAt, .ref A_t_image, .ref A_t_isKept])), (A_t_count, .inl (ty.1, 8, .inl (upd t_count (v3 : Int32).toNatClampNeg (t_image (v2 + v3 : Int32).toNatClampNeg)))), (A_t_pace, .inl (ty.1, 8, .inl t_pace)), (A_t_sight, .inl (ty.1, 24, .inl t_sight)), (A_t_pad, .inl (ty.1, 60, .inl t_pad)), (A_t_now, .inl (ty.1, 8, .inl t_now)), (A_t_image, .inl (ty.1, 120, .inl t_image)), (A_t_isKept, .inl (ty.2.2.1, 2, .inl t_isKept))] H := hP
      have hD : va_D (va_A WC s.heap.size) [(A_t, .inr (9, [.int t_there, .int t_awake, .ref A_t_count, .ref A_t_pace, .int t_house, .int t_sharp, .int t_sights, .ref A_t_sight, .int t_signs, .ref A_t_pad, .int t_up, .ref A_t_now, .int t_reason, .int t_acts, .int t_breaths, .int t_zeroAt, .int t_noticedAt, .ref A_t_image, .ref A_t_isKept])), (A_t_count, .inl (ty.1, 8, .inl (upd t_count (v3 : Int32).toNatClampNeg (t_image (v2 + v3 : Int32).toNatClampNeg)))), (A_t_pace, .inl (ty.1, 8, .inl t_pace)), (A_t_sight, .inl (ty.1, 24, .inl t_sight)), (A_t_pad, .inl (ty.1, 60, .inl t_pad)), (A_t_now, .inl (ty.1, 8, .inl t_now)), (A_t_image, .inl (ty.1, 120, .inl t_image)), (A_t_isKept, .inl (ty.2.2.1, 2, .inl t_isKept))] := hD
      refine lv_aload_n hx hb dX10_restore_51 rfl (lv_at hl 0 rfl) ?_
      refine va_get (D := D) (ci := 9) (v := .ref A_t_pace) (C := RX10) (T := TX10) (N := 19) hx hb hts wX10_restore_X10 hown hK.1 hP 0 rfl rfl 3 (by decide) (hts _ mX10_restore_f13) (fun _ h9 => h9) rfl dX10_restore_52 ?_
      refine lv_iload_n hx hb dX10_restore_55 rfl (lv_at hl 2 rfl) ?_
      refine lv_aload_n hx hb dX10_restore_56 rfl (lv_at hl 0 rfl) ?_
      refine va_get (D := D) (ci := 9) (v := .ref A_t_image) (C := RX10) (T := TX10) (N := 19) hx hb hts wX10_restore_X10 hown hK.1 hP 0 rfl rfl 17 (by decide) (hts _ mX10_restore_f33) (fun _ h9 => h9) rfl dX10_restore_57 ?_
      refine lv_iload_n hx hb dX10_restore_60 rfl (lv_at hl 1 rfl) ?_
      refine lv_bipush (v := 8) hx hb dX10_restore_61 (by decide) ?_
      refine lv_iadd hx hb dX10_restore_63 ?_
      refine lv_iload_n hx hb dX10_restore_64 rfl (lv_at hl 2 rfl) ?_
      refine lv_iadd hx hb dX10_restore_65 ?_
      obtain ⟨hin, hf⟩ := gIn_some hf
      refine va_iald hx hb hK.1 hP 6 0 rfl rfl hin dX10_restore_66 ?_
      obtain ⟨hin, hf⟩ := gIn_some hf
      refine va_iast hx hb hK.1 hP hD hS 2 0 rfl rfl hin dX10_restore_67 (fun H locs hP hD hS => ?_)
      have hP : va_P D vwCl [(A_t, .inr (9, [.int t_there, .int t_awake, .ref A_t_count, .ref A_t_pace, .int t_house, .int t_sharp, .int t_sights, .ref A_t_sight, .int t_signs, .ref A_t_pad, .int t_up, .ref A_t_now, .int t_reason, .int t_acts, .int t_breaths, .int t_zeroAt, .int t_noticedAt, .ref A_t_image, .ref A_t_isKept])), (A_t_count, .inl (ty.1, 8, .inl (upd t_count (v3 : Int32).toNatClampNeg (t_image (v2 + v3 : Int32).toNatClampNeg)))), (A_t_pace, .inl (ty.1, 8, .inl (upd t_pace (v3 : Int32).toNatClampNeg (t_image ((v2 + 8) + v3 : Int32).toNatClampNeg)))), (A_t_sight, .inl (ty.1, 24, .inl t_sight)), (A_t_pad, .inl (ty.1, 60, .inl t_pad)), (A_t_now, .inl (ty.1, 8, .inl t_now)), (A_t_image, .inl (ty.1, 120, .inl t_image)), (A_t_isKept, .inl (ty.2.2.1, 2, .inl t_isKept))] H := hP
      have hD : va_D (va_A WC s.heap.size) [(A_t, .inr (9, [.int t_there, .int t_awake, .ref A_t_count, .ref A_t_pace, .int t_house, .int t_sharp, .int t_sights, .ref A_t_sight, .int t_signs, .ref A_t_pad, .int t_up, .ref A_t_now, .int t_reason, .int t_acts, .int t_breaths, .int t_zeroAt, .int t_noticedAt, .ref A_t_image, .ref A_t_isKept])), (A_t_count, .inl (ty.1, 8, .inl (upd t_count (v3 : Int32).toNatClampNeg (t_image (v2 + v3 : Int32).toNatClampNeg)))), (A_t_pace, .inl (ty.1, 8, .inl (upd t_pace (v3 : Int32).toNatClampNeg (t_image ((v2 + 8) + v3 : Int32).toNatClampNeg)))), (A_t_sight, .inl (ty.1, 24, .inl t_sight)), (A_t_pad, .inl (ty.1, 60, .inl t_pad)), (A_t_now, .inl (ty.1, 8, .inl t_now)), (A_t_image, .inl (ty.1, 120, .inl t_image)), (A_t_isKept, .inl (ty.2.2.1, 2, .inl t_isKept))] := hD
      refine lv_iinc (v := v3 + 1) (lv' := [(3, .int (v3 + 1)), (0, .ref A_t), (2, .int v2)]) hx hb dX10_restore_68 hl (k := 2) rfl rfl (by decide) rfl (fun ls hl => ?_)
      refine lv_goto (tgt := 31) hx hb dX10_restore_71 (by decide) ?_
      exact hk31 _ _ _ _ _ _ _ _ _ _ _ _ _ hP hD hS (lv_sub hl [1, 2, 0] rfl) hf
def fX10_restore (t_there : Int32) (t_awake : Int32) (t_house : Int32) (t_sharp : Int32) (t_sights : Int32) (t_count : Nat → Int32) (t_pace : Nat → Int32) (t_sight : Nat → Int32) (t_image : Nat → Int32) (t_isKept : Nat → Int32) (a1 : Int32) : Option (Int32 × Int32 × Int32 × Int32 × Int32 × Int32 × (Nat → Int32) × (Nat → Int32) × (Nat → Int32)) :=
  (fX10_in a1 0 1).bind fun r3 => if r3 = 0 then some ((-2), t_there, t_awake, t_house, t_sharp, t_sights, t_count, t_pace, t_sight) else gIn a1 2 (if (t_isKept (a1 : Int32).toNatClampNeg) = 0 then some ((-3), t_there, t_awake, t_house, t_sharp, t_sights, t_count, t_pace, t_sight) else loopF (fun k q => bX10_restore_31 k t_image q.1 q.2.1 q.2.2.1 q.2.2.2.1 q.2.2.2.2.1 q.2.2.2.2.2.1 q.2.2.2.2.2.2.1 q.2.2.2.2.2.2.2.1 q.2.2.2.2.2.2.2.2.1 q.2.2.2.2.2.2.2.2.2) FU (60 * a1, 0, t_there, t_awake, t_house, t_sharp, t_sights, t_count, t_pace, t_sight))
set_option maxRecDepth 100000 in
set_option maxHeartbeats 4000000 in
theorem CX10_restore (l : Launch) {D : va_G} {ty : TY} {A_t A_t_count A_t_pace A_t_sight A_t_pad A_t_now A_t_image A_t_isKept : Nat} {t_there : Int32} {t_awake : Int32} {t_house : Int32} {t_sharp : Int32} {t_sights : Int32} {t_signs : Int32} {t_up : Int32} {t_reason : Int32} {t_acts : Int32} {t_breaths : Int32} {t_zeroAt : Int32} {t_noticedAt : Int32} {t_count : Nat → Int32} {t_pace : Nat → Int32} {t_sight : Nat → Int32} {t_pad : Nat → Int32} {t_now : Nat → Int32} {t_image : Nat → Int32} {t_isKept : Nat → Int32} {a1 : Int32} {q0 : Int32 × Int32 × Int32 × Int32 × Int32 × Int32 × (Nat → Int32) × (Nat → Int32) × (Nat → Int32)} (hf : fX10_restore t_there t_awake t_house t_sharp t_sights t_count t_pace t_sight t_image t_isKept a1 = some q0) : RWi l yX10_restore wsX10_restore rmX10_restore D ty [.ref A_t, .int a1] [(A_t, .inr (9, [.int t_there, .int t_awake, .ref A_t_count, .ref A_t_pace, .int t_house, .int t_sharp, .int t_sights, .ref A_t_sight, .int t_signs, .ref A_t_pad, .int t_up, .ref A_t_now, .int t_reason, .int t_acts, .int t_breaths, .int t_zeroAt, .int t_noticedAt, .ref A_t_image, .ref A_t_isKept])), (A_t_count, .inl (ty.1, 8, .inl t_count)), (A_t_pace, .inl (ty.1, 8, .inl t_pace)), (A_t_sight, .inl (ty.1, 24, .inl t_sight)), (A_t_pad, .inl (ty.1, 60, .inl t_pad)), (A_t_now, .inl (ty.1, 8, .inl t_now)), (A_t_image, .inl (ty.1, 120, .inl t_image)), (A_t_isKept, .inl (ty.2.2.1, 2, .inl t_isKept))] q0.1 [(A_t, .inr (9, [.int q0.2.1, .int q0.2.2.1, .ref A_t_count, .ref A_t_pace, .int q0.2.2.2.1, .int q0.2.2.2.2.1, .int q0.2.2.2.2.2.1, .ref A_t_sight, .int t_signs, .ref A_t_pad, .int t_up, .ref A_t_now, .int t_reason, .int t_acts, .int t_breaths, .int t_zeroAt, .int t_noticedAt, .ref A_t_image, .ref A_t_isKept])), (A_t_count, .inl (ty.1, 8, .inl q0.2.2.2.2.2.2.1)), (A_t_pace, .inl (ty.1, 8, .inl q0.2.2.2.2.2.2.2.1)), (A_t_sight, .inl (ty.1, 24, .inl q0.2.2.2.2.2.2.2.2)), (A_t_pad, .inl (ty.1, 60, .inl t_pad)), (A_t_now, .inl (ty.1, 8, .inl t_now)), (A_t_image, .inl (ty.1, 120, .inl t_image)), (A_t_isKept, .inl (ty.2.2.1, 2, .inl t_isKept))] := by
  refine RWi.start (cc := cX10_restore) (maxL := 4) (ret := (some .int)) (own := RX10) (by decide) rfl rfl (Nat.le_of_ble_eq_true rfl) ?_
  intro p e s m below meth c ls C hK hP hD hS hl
  obtain ⟨WC, hWC⟩ : ∃ w : va_W, w = [(A_t, .inr (9, [.int t_there, .int t_awake, .ref A_t_count, .ref A_t_pace, .int t_house, .int t_sharp, .int t_sights, .ref A_t_sight, .int t_signs, .ref A_t_pad, .int t_up, .ref A_t_now, .int t_reason, .int t_acts, .int t_breaths, .int t_zeroAt, .int t_noticedAt, .ref A_t_image, .ref A_t_isKept])), (A_t_count, .inl (ty.1, 8, .inl t_count)), (A_t_pace, .inl (ty.1, 8, .inl t_pace)), (A_t_sight, .inl (ty.1, 24, .inl t_sight)), (A_t_pad, .inl (ty.1, 60, .inl t_pad)), (A_t_now, .inl (ty.1, 8, .inl t_now)), (A_t_image, .inl (ty.1, 120, .inl t_image)), (A_t_isKept, .inl (ty.2.2.1, 2, .inl t_isKept))] := ⟨_, rfl⟩
  rw [← hWC] at hD hS ⊢
  have hD : va_D (va_A WC s.heap.size) [(A_t, .inr (9, [.int t_there, .int t_awake, .ref A_t_count, .ref A_t_pace, .int t_house, .int t_sharp, .int t_sights, .ref A_t_sight, .int t_signs, .ref A_t_pad, .int t_up, .ref A_t_now, .int t_reason, .int t_acts, .int t_breaths, .int t_zeroAt, .int t_noticedAt, .ref A_t_image, .ref A_t_isKept])), (A_t_count, .inl (ty.1, 8, .inl t_count)), (A_t_pace, .inl (ty.1, 8, .inl t_pace)), (A_t_sight, .inl (ty.1, 24, .inl t_sight)), (A_t_pad, .inl (ty.1, 60, .inl t_pad)), (A_t_now, .inl (ty.1, 8, .inl t_now)), (A_t_image, .inl (ty.1, 120, .inl t_image)), (A_t_isKept, .inl (ty.2.2.1, 2, .inl t_isKept))] := by rw [← hWC]; exact hD
  obtain ⟨hx, hb, hr, hml, hown, hts, hlocks⟩ := id C
  have hl : lv_has ls 4 [(0, .ref A_t), (1, .int a1)] := hl
  unfold fX10_restore at hf
  refine lv_iload_n hx hb dX10_restore_0 rfl (lv_at hl 1 rfl) ?_
  refine lv_iconst (v := 0) hx hb dX10_restore_1 (by decide) ?_
  refine lv_iconst (v := 1) hx hb dX10_restore_2 (by decide) ?_
  obtain ⟨r3, hr3, hf⟩ := bnd hf
  have hPc : va_P D vwCl [] _ := hP.sub [] rfl
  refine callS_ri (As := [.int a1, .int 0, .int 1]) (rest := []) ⟨hx, hb, hml, hown, hts⟩ (CX10_in l hr3) (va_cwS 3 hts gX10_restore_X10_in rfl rfl rfl kkX10_in.2 ⟨Nat.le_of_ble_eq_true rfl, Nat.le_of_ble_eq_true rfl⟩) hK hPc hl.1 rfl (Nat.le_of_ble_eq_true rfl) dX10_restore_3 ⟨Nat.zero_le _, Nat.zero_le _⟩ ?_
  refine lv_if_ne (tgt := 12) hx hb dX10_restore_6 (by decide) (fun hc => ?_) (fun hc => ?_)
  · have hf := ff hf hc
    refine lv_aload_n hx hb dX10_restore_12 rfl (lv_at hl 0 rfl) ?_
    refine va_get (D := D) (ci := 9) (v := .ref A_t_isKept) (C := RX10) (T := TX10) (N := 19) hx hb hts wX10_restore_X10 hown hK.1 hP 0 rfl rfl 18 (by decide) (hts _ mX10_restore_f36) (fun _ h9 => h9) rfl dX10_restore_13 ?_
    refine lv_iload_n hx hb dX10_restore_16 rfl (lv_at hl 1 rfl) ?_
    obtain ⟨hin, hf⟩ := gIn_some hf
    refine va_zald hx hb hK.1 hP 7 2 rfl rfl hin dX10_restore_17 ?_
    refine lv_if_ne (tgt := 24) hx hb dX10_restore_18 (by decide) (fun hc => ?_) (fun hc => ?_)
    · have hf := ff hf hc
      refine lv_bipush (v := 60) hx hb dX10_restore_24 (by decide) ?_
      refine lv_iload_n hx hb dX10_restore_26 rfl (lv_at hl 1 rfl) ?_
      refine lv_imul hx hb dX10_restore_27 ?_
      refine lv_istore_n (lv' := [(2, .int (60 * a1)), (0, .ref A_t), (1, .int a1)]) hx hb dX10_restore_28 rfl hl (by decide) rfl (fun ls hl => ?_)
      refine lv_iconst (v := 0) hx hb dX10_restore_29 (by decide) ?_
      refine lv_istore_n (lv' := [(3, .int 0), (2, .int (60 * a1)), (0, .ref A_t), (1, .int a1)]) hx hb dX10_restore_30 rfl hl (by decide) rfl (fun ls hl => ?_)
      exact BX10_restore_31 C hK  FU _ _ _ _ _ _ _ _ _ _ _ _ _ hP hD hS (lv_sub hl [2, 1, 0] rfl) hf
    · have hf := ft hf hc
      refine lv_bipush (v := (-3)) hx hb dX10_restore_21 (by decide) ?_
      cases hf
      exact ret_wi hx hb hr hlocks hP hD hS dX10_restore_23
  · have hf := ft hf hc
    refine lv_bipush (v := (-2)) hx hb dX10_restore_9 (by decide) ?_
    cases hf
    exact ret_wi hx hb hr hlocks hP hD hS dX10_restore_11
/-! ===== SilenceCountModel.say(I)I ===== -/
abbrev rmX10_say : Room := { frames := 1, cells := 0, slots := 0, locals := 22 }
theorem kkX10_say : yX10_say.cls = RX10 ∧ yX10_say.cls ≠ "java/lang/invoke/MethodHandle" ∧ yX10_say.cls ≠ "java/lang/invoke/VarHandle" ∧ (parseMethodDescriptor yX10_say.desc).map (fun d => d.parameters.length) = some 1 := by decide +kernel
theorem mX10_say_f62 : Cond.fieldLink RX10 62 "SilenceCountModel" "signs" "I" ∈ wsX10_say := by decide +kernel
theorem mX10_say_f27 : Cond.fieldLink RX10 27 "SilenceCountModel" "pad" "[I" ∈ wsX10_say := by decide +kernel
theorem wX10_say_X10 : ∀ w ∈ u_ws RX10 TX10 19, w ∈ wsX10_say := by decide +kernel
def fX10_say (t_signs : Int32) (t_pad : Nat → Int32) (a1 : Int32) : Option (Int32 × Int32 × (Nat → Int32)) :=
  (fX10_in a1 33 126).bind fun r5 => if r5 = 0 then some ((-2), t_signs, t_pad) else if t_signs = 60 then some ((-4), t_signs, t_pad) else gIn t_signs 60 (some (t_signs + 1, t_signs + 1, upd t_pad (t_signs : Int32).toNatClampNeg a1))
set_option maxRecDepth 100000 in
set_option maxHeartbeats 4000000 in
theorem CX10_say (l : Launch) {D : va_G} {ty : TY} {A_t A_t_count A_t_pace A_t_sight A_t_pad A_t_now A_t_image A_t_isKept : Nat} {t_there : Int32} {t_awake : Int32} {t_house : Int32} {t_sharp : Int32} {t_sights : Int32} {t_signs : Int32} {t_up : Int32} {t_reason : Int32} {t_acts : Int32} {t_breaths : Int32} {t_zeroAt : Int32} {t_noticedAt : Int32} {t_count : Nat → Int32} {t_pace : Nat → Int32} {t_sight : Nat → Int32} {t_pad : Nat → Int32} {t_now : Nat → Int32} {t_image : Nat → Int32} {t_isKept : Nat → Int32} {a1 : Int32} {q0 : Int32 × Int32 × (Nat → Int32)} (hf : fX10_say t_signs t_pad a1 = some q0) : RWi l yX10_say wsX10_say rmX10_say D ty [.ref A_t, .int a1] [(A_t, .inr (9, [.int t_there, .int t_awake, .ref A_t_count, .ref A_t_pace, .int t_house, .int t_sharp, .int t_sights, .ref A_t_sight, .int t_signs, .ref A_t_pad, .int t_up, .ref A_t_now, .int t_reason, .int t_acts, .int t_breaths, .int t_zeroAt, .int t_noticedAt, .ref A_t_image, .ref A_t_isKept])), (A_t_count, .inl (ty.1, 8, .inl t_count)), (A_t_pace, .inl (ty.1, 8, .inl t_pace)), (A_t_sight, .inl (ty.1, 24, .inl t_sight)), (A_t_pad, .inl (ty.1, 60, .inl t_pad)), (A_t_now, .inl (ty.1, 8, .inl t_now)), (A_t_image, .inl (ty.1, 120, .inl t_image)), (A_t_isKept, .inl (ty.2.2.1, 2, .inl t_isKept))] q0.1 [(A_t, .inr (9, [.int t_there, .int t_awake, .ref A_t_count, .ref A_t_pace, .int t_house, .int t_sharp, .int t_sights, .ref A_t_sight, .int q0.2.1, .ref A_t_pad, .int t_up, .ref A_t_now, .int t_reason, .int t_acts, .int t_breaths, .int t_zeroAt, .int t_noticedAt, .ref A_t_image, .ref A_t_isKept])), (A_t_count, .inl (ty.1, 8, .inl t_count)), (A_t_pace, .inl (ty.1, 8, .inl t_pace)), (A_t_sight, .inl (ty.1, 24, .inl t_sight)), (A_t_pad, .inl (ty.1, 60, .inl q0.2.2)), (A_t_now, .inl (ty.1, 8, .inl t_now)), (A_t_image, .inl (ty.1, 120, .inl t_image)), (A_t_isKept, .inl (ty.2.2.1, 2, .inl t_isKept))] := by
  refine RWi.start (cc := cX10_say) (maxL := 2) (ret := (some .int)) (own := RX10) (by decide) rfl rfl (Nat.le_of_ble_eq_true rfl) ?_
  intro p e s m below meth c ls C hK hP hD hS hl
  obtain ⟨WC, hWC⟩ : ∃ w : va_W, w = [(A_t, .inr (9, [.int t_there, .int t_awake, .ref A_t_count, .ref A_t_pace, .int t_house, .int t_sharp, .int t_sights, .ref A_t_sight, .int t_signs, .ref A_t_pad, .int t_up, .ref A_t_now, .int t_reason, .int t_acts, .int t_breaths, .int t_zeroAt, .int t_noticedAt, .ref A_t_image, .ref A_t_isKept])), (A_t_count, .inl (ty.1, 8, .inl t_count)), (A_t_pace, .inl (ty.1, 8, .inl t_pace)), (A_t_sight, .inl (ty.1, 24, .inl t_sight)), (A_t_pad, .inl (ty.1, 60, .inl t_pad)), (A_t_now, .inl (ty.1, 8, .inl t_now)), (A_t_image, .inl (ty.1, 120, .inl t_image)), (A_t_isKept, .inl (ty.2.2.1, 2, .inl t_isKept))] := ⟨_, rfl⟩
  rw [← hWC] at hD hS ⊢
  have hD : va_D (va_A WC s.heap.size) [(A_t, .inr (9, [.int t_there, .int t_awake, .ref A_t_count, .ref A_t_pace, .int t_house, .int t_sharp, .int t_sights, .ref A_t_sight, .int t_signs, .ref A_t_pad, .int t_up, .ref A_t_now, .int t_reason, .int t_acts, .int t_breaths, .int t_zeroAt, .int t_noticedAt, .ref A_t_image, .ref A_t_isKept])), (A_t_count, .inl (ty.1, 8, .inl t_count)), (A_t_pace, .inl (ty.1, 8, .inl t_pace)), (A_t_sight, .inl (ty.1, 24, .inl t_sight)), (A_t_pad, .inl (ty.1, 60, .inl t_pad)), (A_t_now, .inl (ty.1, 8, .inl t_now)), (A_t_image, .inl (ty.1, 120, .inl t_image)), (A_t_isKept, .inl (ty.2.2.1, 2, .inl t_isKept))] := by rw [← hWC]; exact hD
  obtain ⟨hx, hb, hr, hml, hown, hts, hlocks⟩ := id C
  have hl : lv_has ls 2 [(0, .ref A_t), (1, .int a1)] := hl
  unfold fX10_say at hf
  refine lv_iload_n hx hb dX10_say_0 rfl (lv_at hl 1 rfl) ?_
  refine lv_bipush (v := 33) hx hb dX10_say_1 (by decide) ?_
  refine lv_bipush (v := 126) hx hb dX10_say_3 (by decide) ?_
  obtain ⟨r5, hr5, hf⟩ := bnd hf
  have hPc : va_P D vwCl [] _ := hP.sub [] rfl
  refine callS_ri (As := [.int a1, .int 33, .int 126]) (rest := []) ⟨hx, hb, hml, hown, hts⟩ (CX10_in l hr5) (va_cwS 3 hts gX10_say_X10_in rfl rfl rfl kkX10_in.2 ⟨Nat.le_of_ble_eq_true rfl, Nat.le_of_ble_eq_true rfl⟩) hK hPc hl.1 rfl (Nat.le_of_ble_eq_true rfl) dX10_say_5 ⟨Nat.zero_le _, Nat.zero_le _⟩ ?_
  refine lv_if_ne (tgt := 14) hx hb dX10_say_8 (by decide) (fun hc => ?_) (fun hc => ?_)
  · have hf := ff hf hc
    refine lv_aload_n hx hb dX10_say_14 rfl (lv_at hl 0 rfl) ?_
    refine va_get (D := D) (ci := 9) (v := .int t_signs) (C := RX10) (T := TX10) (N := 19) hx hb hts wX10_say_X10 hown hK.1 hP 0 rfl rfl 8 (by decide) (hts _ mX10_say_f62) (fun _ h9 => h9) rfl dX10_say_15 ?_
    refine lv_bipush (v := 60) hx hb dX10_say_18 (by decide) ?_
    refine lv_icmp_ne (tgt := 26) hx hb dX10_say_20 (by decide) (fun hc => ?_) (fun hc => ?_)
    · have hf := ff hf hc
      refine lv_aload_n hx hb dX10_say_26 rfl (lv_at hl 0 rfl) ?_
      refine va_get (D := D) (ci := 9) (v := .ref A_t_pad) (C := RX10) (T := TX10) (N := 19) hx hb hts wX10_say_X10 hown hK.1 hP 0 rfl rfl 9 (by decide) (hts _ mX10_say_f27) (fun _ h9 => h9) rfl dX10_say_27 ?_
      refine lv_aload_n hx hb dX10_say_30 rfl (lv_at hl 0 rfl) ?_
      refine va_get (D := D) (ci := 9) (v := .int t_signs) (C := RX10) (T := TX10) (N := 19) hx hb hts wX10_say_X10 hown hK.1 hP 0 rfl rfl 8 (by decide) (hts _ mX10_say_f62) (fun _ h9 => h9) rfl dX10_say_31 ?_
      refine lv_iload_n hx hb dX10_say_34 rfl (lv_at hl 1 rfl) ?_
      obtain ⟨hin, hf⟩ := gIn_some hf
      refine va_iast hx hb hK.1 hP hD hS 4 0 rfl rfl hin dX10_say_35 (fun H locs hP hD hS => ?_)
      have hP : va_P D vwCl [(A_t, .inr (9, [.int t_there, .int t_awake, .ref A_t_count, .ref A_t_pace, .int t_house, .int t_sharp, .int t_sights, .ref A_t_sight, .int t_signs, .ref A_t_pad, .int t_up, .ref A_t_now, .int t_reason, .int t_acts, .int t_breaths, .int t_zeroAt, .int t_noticedAt, .ref A_t_image, .ref A_t_isKept])), (A_t_count, .inl (ty.1, 8, .inl t_count)), (A_t_pace, .inl (ty.1, 8, .inl t_pace)), (A_t_sight, .inl (ty.1, 24, .inl t_sight)), (A_t_pad, .inl (ty.1, 60, .inl (upd t_pad (t_signs : Int32).toNatClampNeg a1))), (A_t_now, .inl (ty.1, 8, .inl t_now)), (A_t_image, .inl (ty.1, 120, .inl t_image)), (A_t_isKept, .inl (ty.2.2.1, 2, .inl t_isKept))] H := hP
      have hD : va_D (va_A WC s.heap.size) [(A_t, .inr (9, [.int t_there, .int t_awake, .ref A_t_count, .ref A_t_pace, .int t_house, .int t_sharp, .int t_sights, .ref A_t_sight, .int t_signs, .ref A_t_pad, .int t_up, .ref A_t_now, .int t_reason, .int t_acts, .int t_breaths, .int t_zeroAt, .int t_noticedAt, .ref A_t_image, .ref A_t_isKept])), (A_t_count, .inl (ty.1, 8, .inl t_count)), (A_t_pace, .inl (ty.1, 8, .inl t_pace)), (A_t_sight, .inl (ty.1, 24, .inl t_sight)), (A_t_pad, .inl (ty.1, 60, .inl (upd t_pad (t_signs : Int32).toNatClampNeg a1))), (A_t_now, .inl (ty.1, 8, .inl t_now)), (A_t_image, .inl (ty.1, 120, .inl t_image)), (A_t_isKept, .inl (ty.2.2.1, 2, .inl t_isKept))] := hD
      refine lv_aload_n hx hb dX10_say_36 rfl (lv_at hl 0 rfl) ?_
      refine lv_dup hx hb dX10_say_37 rfl ?_
      refine va_get (D := D) (ci := 9) (v := .int t_signs) (C := RX10) (T := TX10) (N := 19) hx hb hts wX10_say_X10 hown hK.1 hP 0 rfl rfl 8 (by decide) (hts _ mX10_say_f62) (fun _ h9 => h9) rfl dX10_say_38 ?_
      refine lv_iconst (v := 1) hx hb dX10_say_41 (by decide) ?_
      refine lv_iadd hx hb dX10_say_42 ?_
      refine va_put (D := D) (ci := 9) (v := .int (t_signs + 1)) (ty := .int) (C := RX10) (T := TX10) (N := 19) hx hb hts wX10_say_X10 tyX10 tyX10_ok nmX10 hown hK.1 hP hD hS 0 rfl rfl 8 (by decide) (hts _ mX10_say_f62) (fun _ h9 => h9) rfl (by decide +kernel) rfl rfl (Nat.le_of_ble_eq_true rfl) dX10_say_43 (fun H locs hP hD hS => ?_)
      have hP : va_P D vwCl [(A_t, .inr (9, [.int t_there, .int t_awake, .ref A_t_count, .ref A_t_pace, .int t_house, .int t_sharp, .int t_sights, .ref A_t_sight, .int (t_signs + 1), .ref A_t_pad, .int t_up, .ref A_t_now, .int t_reason, .int t_acts, .int t_breaths, .int t_zeroAt, .int t_noticedAt, .ref A_t_image, .ref A_t_isKept])), (A_t_count, .inl (ty.1, 8, .inl t_count)), (A_t_pace, .inl (ty.1, 8, .inl t_pace)), (A_t_sight, .inl (ty.1, 24, .inl t_sight)), (A_t_pad, .inl (ty.1, 60, .inl (upd t_pad (t_signs : Int32).toNatClampNeg a1))), (A_t_now, .inl (ty.1, 8, .inl t_now)), (A_t_image, .inl (ty.1, 120, .inl t_image)), (A_t_isKept, .inl (ty.2.2.1, 2, .inl t_isKept))] H := hP
      have hD : va_D (va_A WC s.heap.size) [(A_t, .inr (9, [.int t_there, .int t_awake, .ref A_t_count, .ref A_t_pace, .int t_house, .int t_sharp, .int t_sights, .ref A_t_sight, .int (t_signs + 1), .ref A_t_pad, .int t_up, .ref A_t_now, .int t_reason, .int t_acts, .int t_breaths, .int t_zeroAt, .int t_noticedAt, .ref A_t_image, .ref A_t_isKept])), (A_t_count, .inl (ty.1, 8, .inl t_count)), (A_t_pace, .inl (ty.1, 8, .inl t_pace)), (A_t_sight, .inl (ty.1, 24, .inl t_sight)), (A_t_pad, .inl (ty.1, 60, .inl (upd t_pad (t_signs : Int32).toNatClampNeg a1))), (A_t_now, .inl (ty.1, 8, .inl t_now)), (A_t_image, .inl (ty.1, 120, .inl t_image)), (A_t_isKept, .inl (ty.2.2.1, 2, .inl t_isKept))] := hD
      refine lv_aload_n hx hb dX10_say_46 rfl (lv_at hl 0 rfl) ?_
      refine va_get (D := D) (ci := 9) (v := .int (t_signs + 1)) (C := RX10) (T := TX10) (N := 19) hx hb hts wX10_say_X10 hown hK.1 hP 0 rfl rfl 8 (by decide) (hts _ mX10_say_f62) (fun _ h9 => h9) rfl dX10_say_47 ?_
      cases hf
      exact ret_wi hx hb hr hlocks hP hD hS dX10_say_50
    · have hf := ft hf hc
      refine lv_bipush (v := (-4)) hx hb dX10_say_23 (by decide) ?_
      cases hf
      exact ret_wi hx hb hr hlocks hP hD hS dX10_say_25
  · have hf := ft hf hc
    refine lv_bipush (v := (-2)) hx hb dX10_say_11 (by decide) ?_
    cases hf
    exact ret_wi hx hb hr hlocks hP hD hS dX10_say_13
/-! ===== SilenceCountModel.seen(IIZ)I ===== -/
abbrev rmX10_seen : Room := { frames := 2, cells := 0, slots := 0, locals := 43 }
theorem kkX10_seen : yX10_seen.cls = RX10 ∧ yX10_seen.cls ≠ "java/lang/invoke/MethodHandle" ∧ yX10_seen.cls ≠ "java/lang/invoke/VarHandle" ∧ (parseMethodDescriptor yX10_seen.desc).map (fun d => d.parameters.length) = some 3 := by decide +kernel
theorem mX10_seen_f158 : Cond.fieldLink RX10 158 "SilenceCountModel" "sights" "I" ∈ wsX10_seen := by decide +kernel
theorem mX10_seen_f24 : Cond.fieldLink RX10 24 "SilenceCountModel" "sight" "[I" ∈ wsX10_seen := by decide +kernel
theorem wX10_seen_X10 : ∀ w ∈ u_ws RX10 TX10 19, w ∈ wsX10_seen := by decide +kernel
def bX10_seen_82 (s0 : Int32) (s1 : Int32) (t_sights : Int32) (t_sight : Nat → Int32) : Option (Int32 × Int32 × (Nat → Int32)) :=
  gIn s1 24 (some (t_sights + 1, t_sights + 1, upd t_sight (s1 : Int32).toNatClampNeg s0))
set_option maxRecDepth 100000 in
set_option maxHeartbeats 4000000 in
theorem BX10_seen_82 {p : Program} {l : Launch} {e : Env} {s : State} {m : MethodId} {below : List Frame} {meth : Method} {c : Code} {D : va_G} {ty : TY} {A_t A_t_count A_t_pace A_t_sight A_t_pad A_t_now A_t_image A_t_isKept : Nat} {t_there : Int32} {t_awake : Int32} {t_house : Int32} {t_sharp : Int32} {t_signs : Int32} {t_up : Int32} {t_reason : Int32} {t_acts : Int32} {t_breaths : Int32} {t_zeroAt : Int32} {t_noticedAt : Int32} {t_count : Nat → Int32} {t_pace : Nat → Int32} {t_pad : Nat → Int32} {t_now : Nat → Int32} {t_image : Nat → Int32} {t_isKept : Nat → Int32} {a1 : Int32} {a2 : Int32} {a3 : Int32} {q0 : Int32 × Int32 × (Nat → Int32)} {WC : va_W} (C : cx p s m [.ref A_t, .int a1, .int a2, .int a3] meth c cX10_seen 4 (some .int) RX10 wsX10_seen) (hK : KK D ty s)   {s0 : Int32} {s1 : Int32} {t_sights : Int32} {t_sight : Nat → Int32} {H : Heap} {locs : List Loc} {ls : Array Slot} (hP : va_P D vwCl [(A_t, .inr (9, [.int t_there, .int t_awake, .ref A_t_count, .ref A_t_pace, .int t_house, .int t_sharp, .int t_sights, .ref A_t_sight, .int t_signs, .ref A_t_pad, .int t_up, .ref A_t_now, .int t_reason, .int t_acts, .int t_breaths, .int t_zeroAt, .int t_noticedAt, .ref A_t_image, .ref A_t_isKept])), (A_t_count, .inl (ty.1, 8, .inl t_count)), (A_t_pace, .inl (ty.1, 8, .inl t_pace)), (A_t_sight, .inl (ty.1, 24, .inl t_sight)), (A_t_pad, .inl (ty.1, 60, .inl t_pad)), (A_t_now, .inl (ty.1, 8, .inl t_now)), (A_t_image, .inl (ty.1, 120, .inl t_image)), (A_t_isKept, .inl (ty.2.2.1, 2, .inl t_isKept))] H) (hD : va_D (va_A WC s.heap.size) [(A_t, .inr (9, [.int t_there, .int t_awake, .ref A_t_count, .ref A_t_pace, .int t_house, .int t_sharp, .int t_sights, .ref A_t_sight, .int t_signs, .ref A_t_pad, .int t_up, .ref A_t_now, .int t_reason, .int t_acts, .int t_breaths, .int t_zeroAt, .int t_noticedAt, .ref A_t_image, .ref A_t_isKept])), (A_t_count, .inl (ty.1, 8, .inl t_count)), (A_t_pace, .inl (ty.1, 8, .inl t_pace)), (A_t_sight, .inl (ty.1, 24, .inl t_sight)), (A_t_pad, .inl (ty.1, 60, .inl t_pad)), (A_t_now, .inl (ty.1, 8, .inl t_now)), (A_t_image, .inl (ty.1, 120, .inl t_image)), (A_t_isKept, .inl (ty.2.2.1, 2, .inl t_isKept))]) (hS : va_S (va_A WC s.heap.size) s.heap H locs) (hl : lv_has ls 4 [(0, .ref A_t)]) (hf : bX10_seen_82 s0 s1 t_sights t_sight = some q0) : WWi p l e rmX10_seen s m [.ref A_t, .int a1, .int a2, .int a3] below meth c D WC [(A_t, .inr (9, [.int t_there, .int t_awake, .ref A_t_count, .ref A_t_pace, .int t_house, .int t_sharp, .int q0.2.1, .ref A_t_sight, .int t_signs, .ref A_t_pad, .int t_up, .ref A_t_now, .int t_reason, .int t_acts, .int t_breaths, .int t_zeroAt, .int t_noticedAt, .ref A_t_image, .ref A_t_isKept])), (A_t_count, .inl (ty.1, 8, .inl t_count)), (A_t_pace, .inl (ty.1, 8, .inl t_pace)), (A_t_sight, .inl (ty.1, 24, .inl q0.2.2)), (A_t_pad, .inl (ty.1, 60, .inl t_pad)), (A_t_now, .inl (ty.1, 8, .inl t_now)), (A_t_image, .inl (ty.1, 120, .inl t_image)), (A_t_isKept, .inl (ty.2.2.1, 2, .inl t_isKept))] q0.1 H locs (F0 m 82 ls [.int s0, .int s1, .ref A_t_sight]) := by
  obtain ⟨hx, hb, hr, hml, hown, hts, hlocks⟩ := id C
  unfold bX10_seen_82 at hf
  obtain ⟨hin, hf⟩ := gIn_some hf
  refine va_iast hx hb hK.1 hP hD hS 3 0 rfl rfl hin dX10_seen_82 (fun H locs hP hD hS => ?_)
  have hP : va_P D vwCl [(A_t, .inr (9, [.int t_there, .int t_awake, .ref A_t_count, .ref A_t_pace, .int t_house, .int t_sharp, .int t_sights, .ref A_t_sight, .int t_signs, .ref A_t_pad, .int t_up, .ref A_t_now, .int t_reason, .int t_acts, .int t_breaths, .int t_zeroAt, .int t_noticedAt, .ref A_t_image, .ref A_t_isKept])), (A_t_count, .inl (ty.1, 8, .inl t_count)), (A_t_pace, .inl (ty.1, 8, .inl t_pace)), (A_t_sight, .inl (ty.1, 24, .inl (upd t_sight (s1 : Int32).toNatClampNeg s0))), (A_t_pad, .inl (ty.1, 60, .inl t_pad)), (A_t_now, .inl (ty.1, 8, .inl t_now)), (A_t_image, .inl (ty.1, 120, .inl t_image)), (A_t_isKept, .inl (ty.2.2.1, 2, .inl t_isKept))] H := hP
  have hD : va_D (va_A WC s.heap.size) [(A_t, .inr (9, [.int t_there, .int t_awake, .ref A_t_count, .ref A_t_pace, .int t_house, .int t_sharp, .int t_sights, .ref A_t_sight, .int t_signs, .ref A_t_pad, .int t_up, .ref A_t_now, .int t_reason, .int t_acts, .int t_breaths, .int t_zeroAt, .int t_noticedAt, .ref A_t_image, .ref A_t_isKept])), (A_t_count, .inl (ty.1, 8, .inl t_count)), (A_t_pace, .inl (ty.1, 8, .inl t_pace)), (A_t_sight, .inl (ty.1, 24, .inl (upd t_sight (s1 : Int32).toNatClampNeg s0))), (A_t_pad, .inl (ty.1, 60, .inl t_pad)), (A_t_now, .inl (ty.1, 8, .inl t_now)), (A_t_image, .inl (ty.1, 120, .inl t_image)), (A_t_isKept, .inl (ty.2.2.1, 2, .inl t_isKept))] := hD
  refine lv_aload_n hx hb dX10_seen_83 rfl (lv_at hl 0 rfl) ?_
  refine lv_dup hx hb dX10_seen_84 rfl ?_
  refine va_get (D := D) (ci := 9) (v := .int t_sights) (C := RX10) (T := TX10) (N := 19) hx hb hts wX10_seen_X10 hown hK.1 hP 0 rfl rfl 6 (by decide) (hts _ mX10_seen_f158) (fun _ h9 => h9) rfl dX10_seen_85 ?_
  refine lv_iconst (v := 1) hx hb dX10_seen_88 (by decide) ?_
  refine lv_iadd hx hb dX10_seen_89 ?_
  refine va_put (D := D) (ci := 9) (v := .int (t_sights + 1)) (ty := .int) (C := RX10) (T := TX10) (N := 19) hx hb hts wX10_seen_X10 tyX10 tyX10_ok nmX10 hown hK.1 hP hD hS 0 rfl rfl 6 (by decide) (hts _ mX10_seen_f158) (fun _ h9 => h9) rfl (by decide +kernel) rfl rfl (Nat.le_of_ble_eq_true rfl) dX10_seen_90 (fun H locs hP hD hS => ?_)
  have hP : va_P D vwCl [(A_t, .inr (9, [.int t_there, .int t_awake, .ref A_t_count, .ref A_t_pace, .int t_house, .int t_sharp, .int (t_sights + 1), .ref A_t_sight, .int t_signs, .ref A_t_pad, .int t_up, .ref A_t_now, .int t_reason, .int t_acts, .int t_breaths, .int t_zeroAt, .int t_noticedAt, .ref A_t_image, .ref A_t_isKept])), (A_t_count, .inl (ty.1, 8, .inl t_count)), (A_t_pace, .inl (ty.1, 8, .inl t_pace)), (A_t_sight, .inl (ty.1, 24, .inl (upd t_sight (s1 : Int32).toNatClampNeg s0))), (A_t_pad, .inl (ty.1, 60, .inl t_pad)), (A_t_now, .inl (ty.1, 8, .inl t_now)), (A_t_image, .inl (ty.1, 120, .inl t_image)), (A_t_isKept, .inl (ty.2.2.1, 2, .inl t_isKept))] H := hP
  have hD : va_D (va_A WC s.heap.size) [(A_t, .inr (9, [.int t_there, .int t_awake, .ref A_t_count, .ref A_t_pace, .int t_house, .int t_sharp, .int (t_sights + 1), .ref A_t_sight, .int t_signs, .ref A_t_pad, .int t_up, .ref A_t_now, .int t_reason, .int t_acts, .int t_breaths, .int t_zeroAt, .int t_noticedAt, .ref A_t_image, .ref A_t_isKept])), (A_t_count, .inl (ty.1, 8, .inl t_count)), (A_t_pace, .inl (ty.1, 8, .inl t_pace)), (A_t_sight, .inl (ty.1, 24, .inl (upd t_sight (s1 : Int32).toNatClampNeg s0))), (A_t_pad, .inl (ty.1, 60, .inl t_pad)), (A_t_now, .inl (ty.1, 8, .inl t_now)), (A_t_image, .inl (ty.1, 120, .inl t_image)), (A_t_isKept, .inl (ty.2.2.1, 2, .inl t_isKept))] := hD
  refine lv_aload_n hx hb dX10_seen_93 rfl (lv_at hl 0 rfl) ?_
  refine va_get (D := D) (ci := 9) (v := .int (t_sights + 1)) (C := RX10) (T := TX10) (N := 19) hx hb hts wX10_seen_X10 hown hK.1 hP 0 rfl rfl 6 (by decide) (hts _ mX10_seen_f158) (fun _ h9 => h9) rfl dX10_seen_94 ?_
  cases hf
  exact ret_wi hx hb hr hlocks hP hD hS dX10_seen_97
def fX10_seen (t_there : Int32) (t_sights : Int32) (t_sight : Nat → Int32) (a1 : Int32) (a2 : Int32) (a3 : Int32) : Option (Int32 × Int32 × (Nat → Int32)) :=
  (fX10_isThere t_there a1).bind fun r2 => if r2 = 0 then some ((-1), t_sights, t_sight) else (fX10_in a2 0 99).bind fun r14 => if r14 = 0 then some ((-2), t_sights, t_sight) else if t_sights = 8 then some ((-4), t_sights, t_sight) else gIn (3 * t_sights) 24 (gIn ((3 * t_sights) + 1) 24 (if a3 = 0 then bX10_seen_82 0 ((3 * t_sights) + 2) t_sights (upd (upd t_sight (3 * t_sights : Int32).toNatClampNeg a1) ((3 * t_sights) + 1 : Int32).toNatClampNeg a2) else bX10_seen_82 1 ((3 * t_sights) + 2) t_sights (upd (upd t_sight (3 * t_sights : Int32).toNatClampNeg a1) ((3 * t_sights) + 1 : Int32).toNatClampNeg a2)))
set_option maxRecDepth 100000 in
set_option maxHeartbeats 4000000 in
theorem CX10_seen (l : Launch) {D : va_G} {ty : TY} {A_t A_t_count A_t_pace A_t_sight A_t_pad A_t_now A_t_image A_t_isKept : Nat} {t_there : Int32} {t_awake : Int32} {t_house : Int32} {t_sharp : Int32} {t_sights : Int32} {t_signs : Int32} {t_up : Int32} {t_reason : Int32} {t_acts : Int32} {t_breaths : Int32} {t_zeroAt : Int32} {t_noticedAt : Int32} {t_count : Nat → Int32} {t_pace : Nat → Int32} {t_sight : Nat → Int32} {t_pad : Nat → Int32} {t_now : Nat → Int32} {t_image : Nat → Int32} {t_isKept : Nat → Int32} {a1 : Int32} {a2 : Int32} {a3 : Int32} {q0 : Int32 × Int32 × (Nat → Int32)} (hf : fX10_seen t_there t_sights t_sight a1 a2 a3 = some q0) : RWi l yX10_seen wsX10_seen rmX10_seen D ty [.ref A_t, .int a1, .int a2, .int a3] [(A_t, .inr (9, [.int t_there, .int t_awake, .ref A_t_count, .ref A_t_pace, .int t_house, .int t_sharp, .int t_sights, .ref A_t_sight, .int t_signs, .ref A_t_pad, .int t_up, .ref A_t_now, .int t_reason, .int t_acts, .int t_breaths, .int t_zeroAt, .int t_noticedAt, .ref A_t_image, .ref A_t_isKept])), (A_t_count, .inl (ty.1, 8, .inl t_count)), (A_t_pace, .inl (ty.1, 8, .inl t_pace)), (A_t_sight, .inl (ty.1, 24, .inl t_sight)), (A_t_pad, .inl (ty.1, 60, .inl t_pad)), (A_t_now, .inl (ty.1, 8, .inl t_now)), (A_t_image, .inl (ty.1, 120, .inl t_image)), (A_t_isKept, .inl (ty.2.2.1, 2, .inl t_isKept))] q0.1 [(A_t, .inr (9, [.int t_there, .int t_awake, .ref A_t_count, .ref A_t_pace, .int t_house, .int t_sharp, .int q0.2.1, .ref A_t_sight, .int t_signs, .ref A_t_pad, .int t_up, .ref A_t_now, .int t_reason, .int t_acts, .int t_breaths, .int t_zeroAt, .int t_noticedAt, .ref A_t_image, .ref A_t_isKept])), (A_t_count, .inl (ty.1, 8, .inl t_count)), (A_t_pace, .inl (ty.1, 8, .inl t_pace)), (A_t_sight, .inl (ty.1, 24, .inl q0.2.2)), (A_t_pad, .inl (ty.1, 60, .inl t_pad)), (A_t_now, .inl (ty.1, 8, .inl t_now)), (A_t_image, .inl (ty.1, 120, .inl t_image)), (A_t_isKept, .inl (ty.2.2.1, 2, .inl t_isKept))] := by
  refine RWi.start (cc := cX10_seen) (maxL := 4) (ret := (some .int)) (own := RX10) (by decide) rfl rfl (Nat.le_of_ble_eq_true rfl) ?_
  intro p e s m below meth c ls C hK hP hD hS hl
  obtain ⟨WC, hWC⟩ : ∃ w : va_W, w = [(A_t, .inr (9, [.int t_there, .int t_awake, .ref A_t_count, .ref A_t_pace, .int t_house, .int t_sharp, .int t_sights, .ref A_t_sight, .int t_signs, .ref A_t_pad, .int t_up, .ref A_t_now, .int t_reason, .int t_acts, .int t_breaths, .int t_zeroAt, .int t_noticedAt, .ref A_t_image, .ref A_t_isKept])), (A_t_count, .inl (ty.1, 8, .inl t_count)), (A_t_pace, .inl (ty.1, 8, .inl t_pace)), (A_t_sight, .inl (ty.1, 24, .inl t_sight)), (A_t_pad, .inl (ty.1, 60, .inl t_pad)), (A_t_now, .inl (ty.1, 8, .inl t_now)), (A_t_image, .inl (ty.1, 120, .inl t_image)), (A_t_isKept, .inl (ty.2.2.1, 2, .inl t_isKept))] := ⟨_, rfl⟩
  rw [← hWC] at hD hS ⊢
  have hD : va_D (va_A WC s.heap.size) [(A_t, .inr (9, [.int t_there, .int t_awake, .ref A_t_count, .ref A_t_pace, .int t_house, .int t_sharp, .int t_sights, .ref A_t_sight, .int t_signs, .ref A_t_pad, .int t_up, .ref A_t_now, .int t_reason, .int t_acts, .int t_breaths, .int t_zeroAt, .int t_noticedAt, .ref A_t_image, .ref A_t_isKept])), (A_t_count, .inl (ty.1, 8, .inl t_count)), (A_t_pace, .inl (ty.1, 8, .inl t_pace)), (A_t_sight, .inl (ty.1, 24, .inl t_sight)), (A_t_pad, .inl (ty.1, 60, .inl t_pad)), (A_t_now, .inl (ty.1, 8, .inl t_now)), (A_t_image, .inl (ty.1, 120, .inl t_image)), (A_t_isKept, .inl (ty.2.2.1, 2, .inl t_isKept))] := by rw [← hWC]; exact hD
  obtain ⟨hx, hb, hr, hml, hown, hts, hlocks⟩ := id C
  have hl : lv_has ls 4 [(0, .ref A_t), (1, .int a1), (2, .int a2), (3, .int a3)] := hl
  unfold fX10_seen at hf
  refine lv_aload_n hx hb dX10_seen_0 rfl (lv_at hl 0 rfl) ?_
  refine lv_iload_n hx hb dX10_seen_1 rfl (lv_at hl 1 rfl) ?_
  obtain ⟨r2, hr2, hf⟩ := bnd hf
  refine callV_ri (As := [.int a1]) (rest := []) ⟨hx, hb, hml, hown, hts⟩ (CX10_isThere l hr2) (cwV 1 hts gX10_seen_X10_isThere rfl rfl rfl kkX10_isThere ⟨Nat.le_of_ble_eq_true rfl, Nat.le_of_ble_eq_true rfl⟩) hK hP 0 rfl rfl rfl hl.1 rfl (Nat.le_of_ble_eq_true rfl) dX10_seen_2 ⟨Nat.zero_le _, Nat.zero_le _⟩ ?_
  refine lv_if_ne (tgt := 10) hx hb dX10_seen_5 (by decide) (fun hc => ?_) (fun hc => ?_)
  · have hf := ff hf hc
    refine lv_iload_n hx hb dX10_seen_10 rfl (lv_at hl 2 rfl) ?_
    refine lv_iconst (v := 0) hx hb dX10_seen_11 (by decide) ?_
    refine lv_bipush (v := 99) hx hb dX10_seen_12 (by decide) ?_
    obtain ⟨r14, hr14, hf⟩ := bnd hf
    have hPc : va_P D vwCl [] _ := hP.sub [] rfl
    refine callS_ri (As := [.int a2, .int 0, .int 99]) (rest := []) ⟨hx, hb, hml, hown, hts⟩ (CX10_in l hr14) (va_cwS 3 hts gX10_seen_X10_in rfl rfl rfl kkX10_in.2 ⟨Nat.le_of_ble_eq_true rfl, Nat.le_of_ble_eq_true rfl⟩) hK hPc hl.1 rfl (Nat.le_of_ble_eq_true rfl) dX10_seen_14 ⟨Nat.zero_le _, Nat.zero_le _⟩ ?_
    refine lv_if_ne (tgt := 23) hx hb dX10_seen_17 (by decide) (fun hc => ?_) (fun hc => ?_)
    · have hf := ff hf hc
      refine lv_aload_n hx hb dX10_seen_23 rfl (lv_at hl 0 rfl) ?_
      refine va_get (D := D) (ci := 9) (v := .int t_sights) (C := RX10) (T := TX10) (N := 19) hx hb hts wX10_seen_X10 hown hK.1 hP 0 rfl rfl 6 (by decide) (hts _ mX10_seen_f158) (fun _ h9 => h9) rfl dX10_seen_24 ?_
      refine lv_bipush (v := 8) hx hb dX10_seen_27 (by decide) ?_
      refine lv_icmp_ne (tgt := 35) hx hb dX10_seen_29 (by decide) (fun hc => ?_) (fun hc => ?_)
      · have hf := ff hf hc
        refine lv_aload_n hx hb dX10_seen_35 rfl (lv_at hl 0 rfl) ?_
        refine va_get (D := D) (ci := 9) (v := .ref A_t_sight) (C := RX10) (T := TX10) (N := 19) hx hb hts wX10_seen_X10 hown hK.1 hP 0 rfl rfl 7 (by decide) (hts _ mX10_seen_f24) (fun _ h9 => h9) rfl dX10_seen_36 ?_
        refine lv_iconst (v := 3) hx hb dX10_seen_39 (by decide) ?_
        refine lv_aload_n hx hb dX10_seen_40 rfl (lv_at hl 0 rfl) ?_
        refine va_get (D := D) (ci := 9) (v := .int t_sights) (C := RX10) (T := TX10) (N := 19) hx hb hts wX10_seen_X10 hown hK.1 hP 0 rfl rfl 6 (by decide) (hts _ mX10_seen_f158) (fun _ h9 => h9) rfl dX10_seen_41 ?_
        refine lv_imul hx hb dX10_seen_44 ?_
        refine lv_iload_n hx hb dX10_seen_45 rfl (lv_at hl 1 rfl) ?_
        obtain ⟨hin, hf⟩ := gIn_some hf
        refine va_iast hx hb hK.1 hP hD hS 3 0 rfl rfl hin dX10_seen_46 (fun H locs hP hD hS => ?_)
        have hP : va_P D vwCl [(A_t, .inr (9, [.int t_there, .int t_awake, .ref A_t_count, .ref A_t_pace, .int t_house, .int t_sharp, .int t_sights, .ref A_t_sight, .int t_signs, .ref A_t_pad, .int t_up, .ref A_t_now, .int t_reason, .int t_acts, .int t_breaths, .int t_zeroAt, .int t_noticedAt, .ref A_t_image, .ref A_t_isKept])), (A_t_count, .inl (ty.1, 8, .inl t_count)), (A_t_pace, .inl (ty.1, 8, .inl t_pace)), (A_t_sight, .inl (ty.1, 24, .inl (upd t_sight (3 * t_sights : Int32).toNatClampNeg a1))), (A_t_pad, .inl (ty.1, 60, .inl t_pad)), (A_t_now, .inl (ty.1, 8, .inl t_now)), (A_t_image, .inl (ty.1, 120, .inl t_image)), (A_t_isKept, .inl (ty.2.2.1, 2, .inl t_isKept))] H := hP
        have hD : va_D (va_A WC s.heap.size) [(A_t, .inr (9, [.int t_there, .int t_awake, .ref A_t_count, .ref A_t_pace, .int t_house, .int t_sharp, .int t_sights, .ref A_t_sight, .int t_signs, .ref A_t_pad, .int t_up, .ref A_t_now, .int t_reason, .int t_acts, .int t_breaths, .int t_zeroAt, .int t_noticedAt, .ref A_t_image, .ref A_t_isKept])), (A_t_count, .inl (ty.1, 8, .inl t_count)), (A_t_pace, .inl (ty.1, 8, .inl t_pace)), (A_t_sight, .inl (ty.1, 24, .inl (upd t_sight (3 * t_sights : Int32).toNatClampNeg a1))), (A_t_pad, .inl (ty.1, 60, .inl t_pad)), (A_t_now, .inl (ty.1, 8, .inl t_now)), (A_t_image, .inl (ty.1, 120, .inl t_image)), (A_t_isKept, .inl (ty.2.2.1, 2, .inl t_isKept))] := hD
        refine lv_aload_n hx hb dX10_seen_47 rfl (lv_at hl 0 rfl) ?_
        refine va_get (D := D) (ci := 9) (v := .ref A_t_sight) (C := RX10) (T := TX10) (N := 19) hx hb hts wX10_seen_X10 hown hK.1 hP 0 rfl rfl 7 (by decide) (hts _ mX10_seen_f24) (fun _ h9 => h9) rfl dX10_seen_48 ?_
        refine lv_iconst (v := 3) hx hb dX10_seen_51 (by decide) ?_
        refine lv_aload_n hx hb dX10_seen_52 rfl (lv_at hl 0 rfl) ?_
        refine va_get (D := D) (ci := 9) (v := .int t_sights) (C := RX10) (T := TX10) (N := 19) hx hb hts wX10_seen_X10 hown hK.1 hP 0 rfl rfl 6 (by decide) (hts _ mX10_seen_f158) (fun _ h9 => h9) rfl dX10_seen_53 ?_
        refine lv_imul hx hb dX10_seen_56 ?_
        refine lv_iconst (v := 1) hx hb dX10_seen_57 (by decide) ?_
        refine lv_iadd hx hb dX10_seen_58 ?_
        refine lv_iload_n hx hb dX10_seen_59 rfl (lv_at hl 2 rfl) ?_
        obtain ⟨hin, hf⟩ := gIn_some hf
        refine va_iast hx hb hK.1 hP hD hS 3 0 rfl rfl hin dX10_seen_60 (fun H locs hP hD hS => ?_)
        have hP : va_P D vwCl [(A_t, .inr (9, [.int t_there, .int t_awake, .ref A_t_count, .ref A_t_pace, .int t_house, .int t_sharp, .int t_sights, .ref A_t_sight, .int t_signs, .ref A_t_pad, .int t_up, .ref A_t_now, .int t_reason, .int t_acts, .int t_breaths, .int t_zeroAt, .int t_noticedAt, .ref A_t_image, .ref A_t_isKept])), (A_t_count, .inl (ty.1, 8, .inl t_count)), (A_t_pace, .inl (ty.1, 8, .inl t_pace)), (A_t_sight, .inl (ty.1, 24, .inl (upd (upd t_sight (3 * t_sights : Int32).toNatClampNeg a1) ((3 * t_sights) + 1 : Int32).toNatClampNeg a2))), (A_t_pad, .inl (ty.1, 60, .inl t_pad)), (A_t_now, .inl (ty.1, 8, .inl t_now)), (A_t_image, .inl (ty.1, 120, .inl t_image)), (A_t_isKept, .inl (ty.2.2.1, 2, .inl t_isKept))] H := hP
        have hD : va_D (va_A WC s.heap.size) [(A_t, .inr (9, [.int t_there, .int t_awake, .ref A_t_count, .ref A_t_pace, .int t_house, .int t_sharp, .int t_sights, .ref A_t_sight, .int t_signs, .ref A_t_pad, .int t_up, .ref A_t_now, .int t_reason, .int t_acts, .int t_breaths, .int t_zeroAt, .int t_noticedAt, .ref A_t_image, .ref A_t_isKept])), (A_t_count, .inl (ty.1, 8, .inl t_count)), (A_t_pace, .inl (ty.1, 8, .inl t_pace)), (A_t_sight, .inl (ty.1, 24, .inl (upd (upd t_sight (3 * t_sights : Int32).toNatClampNeg a1) ((3 * t_sights) + 1 : Int32).toNatClampNeg a2))), (A_t_pad, .inl (ty.1, 60, .inl t_pad)), (A_t_now, .inl (ty.1, 8, .inl t_now)), (A_t_image, .inl (ty.1, 120, .inl t_image)), (A_t_isKept, .inl (ty.2.2.1, 2, .inl t_isKept))] := hD
        refine lv_aload_n hx hb dX10_seen_61 rfl (lv_at hl 0 rfl) ?_
        refine va_get (D := D) (ci := 9) (v := .ref A_t_sight) (C := RX10) (T := TX10) (N := 19) hx hb hts wX10_seen_X10 hown hK.1 hP 0 rfl rfl 7 (by decide) (hts _ mX10_seen_f24) (fun _ h9 => h9) rfl dX10_seen_62 ?_
        refine lv_iconst (v := 3) hx hb dX10_seen_65 (by decide) ?_
        refine lv_aload_n hx hb dX10_seen_66 rfl (lv_at hl 0 rfl) ?_
        refine va_get (D := D) (ci := 9) (v := .int t_sights) (C := RX10) (T := TX10) (N := 19) hx hb hts wX10_seen_X10 hown hK.1 hP 0 rfl rfl 6 (by decide) (hts _ mX10_seen_f158) (fun _ h9 => h9) rfl dX10_seen_67 ?_
        refine lv_imul hx hb dX10_seen_70 ?_
        refine lv_iconst (v := 2) hx hb dX10_seen_71 (by decide) ?_
        refine lv_iadd hx hb dX10_seen_72 ?_
        refine lv_iload_n hx hb dX10_seen_73 rfl (lv_at hl 3 rfl) ?_
        refine lv_if_eq (tgt := 81) hx hb dX10_seen_74 (by decide) (fun hc => ?_) (fun hc => ?_)
        · have hf := ft hf hc
          refine lv_iconst (v := 0) hx hb dX10_seen_81 (by decide) ?_
          exact BX10_seen_82 C hK  hP hD hS (lv_sub hl [0] rfl) hf
        · have hf := ff hf hc
          refine lv_iconst (v := 1) hx hb dX10_seen_77 (by decide) ?_
          refine lv_goto (tgt := 82) hx hb dX10_seen_78 (by decide) ?_
          exact BX10_seen_82 C hK  hP hD hS (lv_sub hl [0] rfl) hf
      · have hf := ft hf hc
        refine lv_bipush (v := (-4)) hx hb dX10_seen_32 (by decide) ?_
        cases hf
        exact ret_wi hx hb hr hlocks hP hD hS dX10_seen_34
    · have hf := ft hf hc
      refine lv_bipush (v := (-2)) hx hb dX10_seen_20 (by decide) ?_
      cases hf
      exact ret_wi hx hb hr hlocks hP hD hS dX10_seen_22
  · have hf := ft hf hc
    refine lv_iconst (v := (-1)) hx hb dX10_seen_8 (by decide) ?_
    cases hf
    exact ret_wi hx hb hr hlocks hP hD hS dX10_seen_9
/-! ===== SilenceCountModel.set(II)I ===== -/
abbrev rmX10_set : Room := { frames := 1, cells := 0, slots := 0, locals := 22 }
theorem kkX10_set : yX10_set.cls = RX10 ∧ yX10_set.cls ≠ "java/lang/invoke/MethodHandle" ∧ yX10_set.cls ≠ "java/lang/invoke/VarHandle" ∧ (parseMethodDescriptor yX10_set.desc).map (fun d => d.parameters.length) = some 2 := by decide +kernel
theorem mX10_set_f21 : Cond.fieldLink RX10 21 "SilenceCountModel" "sharp" "I" ∈ wsX10_set := by decide +kernel
theorem mX10_set_f17 : Cond.fieldLink RX10 17 "SilenceCountModel" "house" "I" ∈ wsX10_set := by decide +kernel
theorem mX10_set_f40 : Cond.fieldLink RX10 40 "SilenceCountModel" "there" "I" ∈ wsX10_set := by decide +kernel
theorem mX10_set_f7 : Cond.fieldLink RX10 7 "SilenceCountModel" "count" "[I" ∈ wsX10_set := by decide +kernel
theorem mX10_set_k16 : Cond.constant RX10 16 (1000000) ∈ wsX10_set := by decide +kernel
theorem wX10_set_X10 : ∀ w ∈ u_ws RX10 TX10 19, w ∈ wsX10_set := by decide +kernel
def bX10_set_118 (a1 : Int32) (a2 : Int32) (v4 : Int32) (s0 : Int32) (t_house : Int32) (t_sharp : Int32) : Option (Int32 × Int32 × Int32) :=
  if a1 = 1 then some (v4, s0, a2) else some (v4, s0, t_sharp)
set_option maxRecDepth 100000 in
set_option maxHeartbeats 4000000 in
theorem BX10_set_118 {p : Program} {l : Launch} {e : Env} {s : State} {m : MethodId} {below : List Frame} {meth : Method} {c : Code} {D : va_G} {ty : TY} {A_t A_t_count A_t_pace A_t_sight A_t_pad A_t_now A_t_image A_t_isKept : Nat} {t_there : Int32} {t_awake : Int32} {t_sights : Int32} {t_signs : Int32} {t_up : Int32} {t_reason : Int32} {t_acts : Int32} {t_breaths : Int32} {t_zeroAt : Int32} {t_noticedAt : Int32} {t_count : Nat → Int32} {t_pace : Nat → Int32} {t_sight : Nat → Int32} {t_pad : Nat → Int32} {t_now : Nat → Int32} {t_image : Nat → Int32} {t_isKept : Nat → Int32} {a1 : Int32} {a2 : Int32} {q0 : Int32 × Int32 × Int32} {WC : va_W} (C : cx p s m [.ref A_t, .int a1, .int a2] meth c cX10_set 5 (some .int) RX10 wsX10_set) (hK : KK D ty s)   {v4 : Int32} {s0 : Int32} {t_house : Int32} {t_sharp : Int32} {H : Heap} {locs : List Loc} {ls : Array Slot} (hP : va_P D vwCl [(A_t, .inr (9, [.int t_there, .int t_awake, .ref A_t_count, .ref A_t_pace, .int t_house, .int t_sharp, .int t_sights, .ref A_t_sight, .int t_signs, .ref A_t_pad, .int t_up, .ref A_t_now, .int t_reason, .int t_acts, .int t_breaths, .int t_zeroAt, .int t_noticedAt, .ref A_t_image, .ref A_t_isKept])), (A_t_count, .inl (ty.1, 8, .inl t_count)), (A_t_pace, .inl (ty.1, 8, .inl t_pace)), (A_t_sight, .inl (ty.1, 24, .inl t_sight)), (A_t_pad, .inl (ty.1, 60, .inl t_pad)), (A_t_now, .inl (ty.1, 8, .inl t_now)), (A_t_image, .inl (ty.1, 120, .inl t_image)), (A_t_isKept, .inl (ty.2.2.1, 2, .inl t_isKept))] H) (hD : va_D (va_A WC s.heap.size) [(A_t, .inr (9, [.int t_there, .int t_awake, .ref A_t_count, .ref A_t_pace, .int t_house, .int t_sharp, .int t_sights, .ref A_t_sight, .int t_signs, .ref A_t_pad, .int t_up, .ref A_t_now, .int t_reason, .int t_acts, .int t_breaths, .int t_zeroAt, .int t_noticedAt, .ref A_t_image, .ref A_t_isKept])), (A_t_count, .inl (ty.1, 8, .inl t_count)), (A_t_pace, .inl (ty.1, 8, .inl t_pace)), (A_t_sight, .inl (ty.1, 24, .inl t_sight)), (A_t_pad, .inl (ty.1, 60, .inl t_pad)), (A_t_now, .inl (ty.1, 8, .inl t_now)), (A_t_image, .inl (ty.1, 120, .inl t_image)), (A_t_isKept, .inl (ty.2.2.1, 2, .inl t_isKept))]) (hS : va_S (va_A WC s.heap.size) s.heap H locs) (hl : lv_has ls 5 [(0, .ref A_t), (1, .int a1), (2, .int a2), (4, .int v4)]) (hf : bX10_set_118 a1 a2 v4 s0 t_house t_sharp = some q0) : WWi p l e rmX10_set s m [.ref A_t, .int a1, .int a2] below meth c D WC [(A_t, .inr (9, [.int t_there, .int t_awake, .ref A_t_count, .ref A_t_pace, .int q0.2.1, .int q0.2.2, .int t_sights, .ref A_t_sight, .int t_signs, .ref A_t_pad, .int t_up, .ref A_t_now, .int t_reason, .int t_acts, .int t_breaths, .int t_zeroAt, .int t_noticedAt, .ref A_t_image, .ref A_t_isKept])), (A_t_count, .inl (ty.1, 8, .inl t_count)), (A_t_pace, .inl (ty.1, 8, .inl t_pace)), (A_t_sight, .inl (ty.1, 24, .inl t_sight)), (A_t_pad, .inl (ty.1, 60, .inl t_pad)), (A_t_now, .inl (ty.1, 8, .inl t_now)), (A_t_image, .inl (ty.1, 120, .inl t_image)), (A_t_isKept, .inl (ty.2.2.1, 2, .inl t_isKept))] q0.1 H locs (F0 m 118 ls [.int s0, .ref A_t]) := by
  obtain ⟨hx, hb, hr, hml, hown, hts, hlocks⟩ := id C
  unfold bX10_set_118 at hf
  refine va_put (D := D) (ci := 9) (v := .int s0) (ty := .int) (C := RX10) (T := TX10) (N := 19) hx hb hts wX10_set_X10 tyX10 tyX10_ok nmX10 hown hK.1 hP hD hS 0 rfl rfl 4 (by decide) (hts _ mX10_set_f17) (fun _ h9 => h9) rfl (by decide +kernel) rfl rfl (Nat.le_of_ble_eq_true rfl) dX10_set_118 (fun H locs hP hD hS => ?_)
  have hP : va_P D vwCl [(A_t, .inr (9, [.int t_there, .int t_awake, .ref A_t_count, .ref A_t_pace, .int s0, .int t_sharp, .int t_sights, .ref A_t_sight, .int t_signs, .ref A_t_pad, .int t_up, .ref A_t_now, .int t_reason, .int t_acts, .int t_breaths, .int t_zeroAt, .int t_noticedAt, .ref A_t_image, .ref A_t_isKept])), (A_t_count, .inl (ty.1, 8, .inl t_count)), (A_t_pace, .inl (ty.1, 8, .inl t_pace)), (A_t_sight, .inl (ty.1, 24, .inl t_sight)), (A_t_pad, .inl (ty.1, 60, .inl t_pad)), (A_t_now, .inl (ty.1, 8, .inl t_now)), (A_t_image, .inl (ty.1, 120, .inl t_image)), (A_t_isKept, .inl (ty.2.2.1, 2, .inl t_isKept))] H := hP
  have hD : va_D (va_A WC s.heap.size) [(A_t, .inr (9, [.int t_there, .int t_awake, .ref A_t_count, .ref A_t_pace, .int s0, .int t_sharp, .int t_sights, .ref A_t_sight, .int t_signs, .ref A_t_pad, .int t_up, .ref A_t_now, .int t_reason, .int t_acts, .int t_breaths, .int t_zeroAt, .int t_noticedAt, .ref A_t_image, .ref A_t_isKept])), (A_t_count, .inl (ty.1, 8, .inl t_count)), (A_t_pace, .inl (ty.1, 8, .inl t_pace)), (A_t_sight, .inl (ty.1, 24, .inl t_sight)), (A_t_pad, .inl (ty.1, 60, .inl t_pad)), (A_t_now, .inl (ty.1, 8, .inl t_now)), (A_t_image, .inl (ty.1, 120, .inl t_image)), (A_t_isKept, .inl (ty.2.2.1, 2, .inl t_isKept))] := hD
  refine lv_aload_n hx hb dX10_set_121 rfl (lv_at hl 0 rfl) ?_
  refine lv_iload_n hx hb dX10_set_122 rfl (lv_at hl 1 rfl) ?_
  refine lv_iconst (v := 1) hx hb dX10_set_123 (by decide) ?_
  refine lv_icmp_ne (tgt := 131) hx hb dX10_set_124 (by decide) (fun hc => ?_) (fun hc => ?_)
  · have hf := ff hf hc
    refine lv_aload_n hx hb dX10_set_131 rfl (lv_at hl 0 rfl) ?_
    refine va_get (D := D) (ci := 9) (v := .int t_sharp) (C := RX10) (T := TX10) (N := 19) hx hb hts wX10_set_X10 hown hK.1 hP 0 rfl rfl 5 (by decide) (hts _ mX10_set_f21) (fun _ h9 => h9) rfl dX10_set_132 ?_
    refine va_put (D := D) (ci := 9) (v := .int t_sharp) (ty := .int) (C := RX10) (T := TX10) (N := 19) hx hb hts wX10_set_X10 tyX10 tyX10_ok nmX10 hown hK.1 hP hD hS 0 rfl rfl 5 (by decide) (hts _ mX10_set_f21) (fun _ h9 => h9) rfl (by decide +kernel) rfl rfl (Nat.le_of_ble_eq_true rfl) dX10_set_135 (fun H locs hP hD hS => ?_)
    have hP : va_P D vwCl [(A_t, .inr (9, [.int t_there, .int t_awake, .ref A_t_count, .ref A_t_pace, .int s0, .int t_sharp, .int t_sights, .ref A_t_sight, .int t_signs, .ref A_t_pad, .int t_up, .ref A_t_now, .int t_reason, .int t_acts, .int t_breaths, .int t_zeroAt, .int t_noticedAt, .ref A_t_image, .ref A_t_isKept])), (A_t_count, .inl (ty.1, 8, .inl t_count)), (A_t_pace, .inl (ty.1, 8, .inl t_pace)), (A_t_sight, .inl (ty.1, 24, .inl t_sight)), (A_t_pad, .inl (ty.1, 60, .inl t_pad)), (A_t_now, .inl (ty.1, 8, .inl t_now)), (A_t_image, .inl (ty.1, 120, .inl t_image)), (A_t_isKept, .inl (ty.2.2.1, 2, .inl t_isKept))] H := hP
    have hD : va_D (va_A WC s.heap.size) [(A_t, .inr (9, [.int t_there, .int t_awake, .ref A_t_count, .ref A_t_pace, .int s0, .int t_sharp, .int t_sights, .ref A_t_sight, .int t_signs, .ref A_t_pad, .int t_up, .ref A_t_now, .int t_reason, .int t_acts, .int t_breaths, .int t_zeroAt, .int t_noticedAt, .ref A_t_image, .ref A_t_isKept])), (A_t_count, .inl (ty.1, 8, .inl t_count)), (A_t_pace, .inl (ty.1, 8, .inl t_pace)), (A_t_sight, .inl (ty.1, 24, .inl t_sight)), (A_t_pad, .inl (ty.1, 60, .inl t_pad)), (A_t_now, .inl (ty.1, 8, .inl t_now)), (A_t_image, .inl (ty.1, 120, .inl t_image)), (A_t_isKept, .inl (ty.2.2.1, 2, .inl t_isKept))] := hD
    refine lv_iload hx hb dX10_set_138 (lv_at hl 3 rfl) ?_
    cases hf
    exact ret_wi hx hb hr hlocks hP hD hS dX10_set_140
  · have hf := ft hf hc
    refine lv_iload_n hx hb dX10_set_127 rfl (lv_at hl 2 rfl) ?_
    refine lv_goto (tgt := 135) hx hb dX10_set_128 (by decide) ?_
    refine va_put (D := D) (ci := 9) (v := .int a2) (ty := .int) (C := RX10) (T := TX10) (N := 19) hx hb hts wX10_set_X10 tyX10 tyX10_ok nmX10 hown hK.1 hP hD hS 0 rfl rfl 5 (by decide) (hts _ mX10_set_f21) (fun _ h9 => h9) rfl (by decide +kernel) rfl rfl (Nat.le_of_ble_eq_true rfl) dX10_set_135 (fun H locs hP hD hS => ?_)
    have hP : va_P D vwCl [(A_t, .inr (9, [.int t_there, .int t_awake, .ref A_t_count, .ref A_t_pace, .int s0, .int a2, .int t_sights, .ref A_t_sight, .int t_signs, .ref A_t_pad, .int t_up, .ref A_t_now, .int t_reason, .int t_acts, .int t_breaths, .int t_zeroAt, .int t_noticedAt, .ref A_t_image, .ref A_t_isKept])), (A_t_count, .inl (ty.1, 8, .inl t_count)), (A_t_pace, .inl (ty.1, 8, .inl t_pace)), (A_t_sight, .inl (ty.1, 24, .inl t_sight)), (A_t_pad, .inl (ty.1, 60, .inl t_pad)), (A_t_now, .inl (ty.1, 8, .inl t_now)), (A_t_image, .inl (ty.1, 120, .inl t_image)), (A_t_isKept, .inl (ty.2.2.1, 2, .inl t_isKept))] H := hP
    have hD : va_D (va_A WC s.heap.size) [(A_t, .inr (9, [.int t_there, .int t_awake, .ref A_t_count, .ref A_t_pace, .int s0, .int a2, .int t_sights, .ref A_t_sight, .int t_signs, .ref A_t_pad, .int t_up, .ref A_t_now, .int t_reason, .int t_acts, .int t_breaths, .int t_zeroAt, .int t_noticedAt, .ref A_t_image, .ref A_t_isKept])), (A_t_count, .inl (ty.1, 8, .inl t_count)), (A_t_pace, .inl (ty.1, 8, .inl t_pace)), (A_t_sight, .inl (ty.1, 24, .inl t_sight)), (A_t_pad, .inl (ty.1, 60, .inl t_pad)), (A_t_now, .inl (ty.1, 8, .inl t_now)), (A_t_image, .inl (ty.1, 120, .inl t_image)), (A_t_isKept, .inl (ty.2.2.1, 2, .inl t_isKept))] := hD
    refine lv_iload hx hb dX10_set_138 (lv_at hl 3 rfl) ?_
    cases hf
    exact ret_wi hx hb hr hlocks hP hD hS dX10_set_140
def bX10_set_103 (a1 : Int32) (a2 : Int32) (s0 : Int32) (t_house : Int32) (t_sharp : Int32) : Option (Int32 × Int32 × Int32) :=
  if a1 = 0 then bX10_set_118 a1 a2 s0 a2 t_house t_sharp else bX10_set_118 a1 a2 s0 t_house t_house t_sharp
set_option maxRecDepth 100000 in
set_option maxHeartbeats 4000000 in
theorem BX10_set_103 {p : Program} {l : Launch} {e : Env} {s : State} {m : MethodId} {below : List Frame} {meth : Method} {c : Code} {D : va_G} {ty : TY} {A_t A_t_count A_t_pace A_t_sight A_t_pad A_t_now A_t_image A_t_isKept : Nat} {t_there : Int32} {t_awake : Int32} {t_sights : Int32} {t_signs : Int32} {t_up : Int32} {t_reason : Int32} {t_acts : Int32} {t_breaths : Int32} {t_zeroAt : Int32} {t_noticedAt : Int32} {t_count : Nat → Int32} {t_pace : Nat → Int32} {t_sight : Nat → Int32} {t_pad : Nat → Int32} {t_now : Nat → Int32} {t_image : Nat → Int32} {t_isKept : Nat → Int32} {a1 : Int32} {a2 : Int32} {q0 : Int32 × Int32 × Int32} {WC : va_W} (C : cx p s m [.ref A_t, .int a1, .int a2] meth c cX10_set 5 (some .int) RX10 wsX10_set) (hK : KK D ty s)   {s0 : Int32} {t_house : Int32} {t_sharp : Int32} {H : Heap} {locs : List Loc} {ls : Array Slot} (hP : va_P D vwCl [(A_t, .inr (9, [.int t_there, .int t_awake, .ref A_t_count, .ref A_t_pace, .int t_house, .int t_sharp, .int t_sights, .ref A_t_sight, .int t_signs, .ref A_t_pad, .int t_up, .ref A_t_now, .int t_reason, .int t_acts, .int t_breaths, .int t_zeroAt, .int t_noticedAt, .ref A_t_image, .ref A_t_isKept])), (A_t_count, .inl (ty.1, 8, .inl t_count)), (A_t_pace, .inl (ty.1, 8, .inl t_pace)), (A_t_sight, .inl (ty.1, 24, .inl t_sight)), (A_t_pad, .inl (ty.1, 60, .inl t_pad)), (A_t_now, .inl (ty.1, 8, .inl t_now)), (A_t_image, .inl (ty.1, 120, .inl t_image)), (A_t_isKept, .inl (ty.2.2.1, 2, .inl t_isKept))] H) (hD : va_D (va_A WC s.heap.size) [(A_t, .inr (9, [.int t_there, .int t_awake, .ref A_t_count, .ref A_t_pace, .int t_house, .int t_sharp, .int t_sights, .ref A_t_sight, .int t_signs, .ref A_t_pad, .int t_up, .ref A_t_now, .int t_reason, .int t_acts, .int t_breaths, .int t_zeroAt, .int t_noticedAt, .ref A_t_image, .ref A_t_isKept])), (A_t_count, .inl (ty.1, 8, .inl t_count)), (A_t_pace, .inl (ty.1, 8, .inl t_pace)), (A_t_sight, .inl (ty.1, 24, .inl t_sight)), (A_t_pad, .inl (ty.1, 60, .inl t_pad)), (A_t_now, .inl (ty.1, 8, .inl t_now)), (A_t_image, .inl (ty.1, 120, .inl t_image)), (A_t_isKept, .inl (ty.2.2.1, 2, .inl t_isKept))]) (hS : va_S (va_A WC s.heap.size) s.heap H locs) (hl : lv_has ls 5 [(0, .ref A_t), (1, .int a1), (2, .int a2)]) (hf : bX10_set_103 a1 a2 s0 t_house t_sharp = some q0) : WWi p l e rmX10_set s m [.ref A_t, .int a1, .int a2] below meth c D WC [(A_t, .inr (9, [.int t_there, .int t_awake, .ref A_t_count, .ref A_t_pace, .int q0.2.1, .int q0.2.2, .int t_sights, .ref A_t_sight, .int t_signs, .ref A_t_pad, .int t_up, .ref A_t_now, .int t_reason, .int t_acts, .int t_breaths, .int t_zeroAt, .int t_noticedAt, .ref A_t_image, .ref A_t_isKept])), (A_t_count, .inl (ty.1, 8, .inl t_count)), (A_t_pace, .inl (ty.1, 8, .inl t_pace)), (A_t_sight, .inl (ty.1, 24, .inl t_sight)), (A_t_pad, .inl (ty.1, 60, .inl t_pad)), (A_t_now, .inl (ty.1, 8, .inl t_now)), (A_t_image, .inl (ty.1, 120, .inl t_image)), (A_t_isKept, .inl (ty.2.2.1, 2, .inl t_isKept))] q0.1 H locs (F0 m 103 ls [.int s0]) := by
  obtain ⟨hx, hb, hr, hml, hown, hts, hlocks⟩ := id C
  unfold bX10_set_103 at hf
  refine lv_istore (lv' := [(4, .int s0), (0, .ref A_t), (1, .int a1), (2, .int a2)]) hx hb dX10_set_103 hl (by decide) rfl (fun ls hl => ?_)
  refine lv_aload_n hx hb dX10_set_105 rfl (lv_at hl 1 rfl) ?_
  refine lv_iload_n hx hb dX10_set_106 rfl (lv_at hl 2 rfl) ?_
  refine lv_if_ne (tgt := 114) hx hb dX10_set_107 (by decide) (fun hc => ?_) (fun hc => ?_)
  · have hf := ff hf hc
    refine lv_aload_n hx hb dX10_set_114 rfl (lv_at hl 1 rfl) ?_
    refine va_get (D := D) (ci := 9) (v := .int t_house) (C := RX10) (T := TX10) (N := 19) hx hb hts wX10_set_X10 hown hK.1 hP 0 rfl rfl 4 (by decide) (hts _ mX10_set_f17) (fun _ h9 => h9) rfl dX10_set_115 ?_
    exact BX10_set_118 C hK  hP hD hS (lv_sub hl [1, 2, 3, 0] rfl) hf
  · have hf := ft hf hc
    refine lv_iload_n hx hb dX10_set_110 rfl (lv_at hl 3 rfl) ?_
    refine lv_goto (tgt := 118) hx hb dX10_set_111 (by decide) ?_
    exact BX10_set_118 C hK  hP hD hS (lv_sub hl [1, 2, 3, 0] rfl) hf
def bX10_set_88 (a1 : Int32) (a2 : Int32) (t_house : Int32) (t_sharp : Int32) : Option (Int32 × Int32 × Int32) :=
  if a1 = 0 then bX10_set_103 a1 a2 t_house t_house t_sharp else bX10_set_103 a1 a2 t_sharp t_house t_sharp
set_option maxRecDepth 100000 in
set_option maxHeartbeats 4000000 in
theorem BX10_set_88 {p : Program} {l : Launch} {e : Env} {s : State} {m : MethodId} {below : List Frame} {meth : Method} {c : Code} {D : va_G} {ty : TY} {A_t A_t_count A_t_pace A_t_sight A_t_pad A_t_now A_t_image A_t_isKept : Nat} {t_there : Int32} {t_awake : Int32} {t_sights : Int32} {t_signs : Int32} {t_up : Int32} {t_reason : Int32} {t_acts : Int32} {t_breaths : Int32} {t_zeroAt : Int32} {t_noticedAt : Int32} {t_count : Nat → Int32} {t_pace : Nat → Int32} {t_sight : Nat → Int32} {t_pad : Nat → Int32} {t_now : Nat → Int32} {t_image : Nat → Int32} {t_isKept : Nat → Int32} {a1 : Int32} {a2 : Int32} {q0 : Int32 × Int32 × Int32} {WC : va_W} (C : cx p s m [.ref A_t, .int a1, .int a2] meth c cX10_set 5 (some .int) RX10 wsX10_set) (hK : KK D ty s)   {t_house : Int32} {t_sharp : Int32} {H : Heap} {locs : List Loc} {ls : Array Slot} (hP : va_P D vwCl [(A_t, .inr (9, [.int t_there, .int t_awake, .ref A_t_count, .ref A_t_pace, .int t_house, .int t_sharp, .int t_sights, .ref A_t_sight, .int t_signs, .ref A_t_pad, .int t_up, .ref A_t_now, .int t_reason, .int t_acts, .int t_breaths, .int t_zeroAt, .int t_noticedAt, .ref A_t_image, .ref A_t_isKept])), (A_t_count, .inl (ty.1, 8, .inl t_count)), (A_t_pace, .inl (ty.1, 8, .inl t_pace)), (A_t_sight, .inl (ty.1, 24, .inl t_sight)), (A_t_pad, .inl (ty.1, 60, .inl t_pad)), (A_t_now, .inl (ty.1, 8, .inl t_now)), (A_t_image, .inl (ty.1, 120, .inl t_image)), (A_t_isKept, .inl (ty.2.2.1, 2, .inl t_isKept))] H) (hD : va_D (va_A WC s.heap.size) [(A_t, .inr (9, [.int t_there, .int t_awake, .ref A_t_count, .ref A_t_pace, .int t_house, .int t_sharp, .int t_sights, .ref A_t_sight, .int t_signs, .ref A_t_pad, .int t_up, .ref A_t_now, .int t_reason, .int t_acts, .int t_breaths, .int t_zeroAt, .int t_noticedAt, .ref A_t_image, .ref A_t_isKept])), (A_t_count, .inl (ty.1, 8, .inl t_count)), (A_t_pace, .inl (ty.1, 8, .inl t_pace)), (A_t_sight, .inl (ty.1, 24, .inl t_sight)), (A_t_pad, .inl (ty.1, 60, .inl t_pad)), (A_t_now, .inl (ty.1, 8, .inl t_now)), (A_t_image, .inl (ty.1, 120, .inl t_image)), (A_t_isKept, .inl (ty.2.2.1, 2, .inl t_isKept))]) (hS : va_S (va_A WC s.heap.size) s.heap H locs) (hl : lv_has ls 5 [(0, .ref A_t), (1, .int a1), (2, .int a2)]) (hf : bX10_set_88 a1 a2 t_house t_sharp = some q0) : WWi p l e rmX10_set s m [.ref A_t, .int a1, .int a2] below meth c D WC [(A_t, .inr (9, [.int t_there, .int t_awake, .ref A_t_count, .ref A_t_pace, .int q0.2.1, .int q0.2.2, .int t_sights, .ref A_t_sight, .int t_signs, .ref A_t_pad, .int t_up, .ref A_t_now, .int t_reason, .int t_acts, .int t_breaths, .int t_zeroAt, .int t_noticedAt, .ref A_t_image, .ref A_t_isKept])), (A_t_count, .inl (ty.1, 8, .inl t_count)), (A_t_pace, .inl (ty.1, 8, .inl t_pace)), (A_t_sight, .inl (ty.1, 24, .inl t_sight)), (A_t_pad, .inl (ty.1, 60, .inl t_pad)), (A_t_now, .inl (ty.1, 8, .inl t_now)), (A_t_image, .inl (ty.1, 120, .inl t_image)), (A_t_isKept, .inl (ty.2.2.1, 2, .inl t_isKept))] q0.1 H locs (F0 m 88 ls []) := by
  obtain ⟨hx, hb, hr, hml, hown, hts, hlocks⟩ := id C
  unfold bX10_set_88 at hf
  refine lv_iload_n hx hb dX10_set_88 rfl (lv_at hl 1 rfl) ?_
  refine lv_if_ne (tgt := 99) hx hb dX10_set_89 (by decide) (fun hc => ?_) (fun hc => ?_)
  · have hf := ff hf hc
    refine lv_aload_n hx hb dX10_set_99 rfl (lv_at hl 0 rfl) ?_
    refine va_get (D := D) (ci := 9) (v := .int t_sharp) (C := RX10) (T := TX10) (N := 19) hx hb hts wX10_set_X10 hown hK.1 hP 0 rfl rfl 5 (by decide) (hts _ mX10_set_f21) (fun _ h9 => h9) rfl dX10_set_100 ?_
    exact BX10_set_103 C hK  hP hD hS (lv_sub hl [0, 1, 2] rfl) hf
  · have hf := ft hf hc
    refine lv_aload_n hx hb dX10_set_92 rfl (lv_at hl 0 rfl) ?_
    refine va_get (D := D) (ci := 9) (v := .int t_house) (C := RX10) (T := TX10) (N := 19) hx hb hts wX10_set_X10 hown hK.1 hP 0 rfl rfl 4 (by decide) (hts _ mX10_set_f17) (fun _ h9 => h9) rfl dX10_set_93 ?_
    refine lv_goto (tgt := 103) hx hb dX10_set_96 (by decide) ?_
    exact BX10_set_103 C hK  hP hD hS (lv_sub hl [0, 1, 2] rfl) hf
def bX10_set_45 (k45 : Int32 × Int32 × Int32 → Option (Int32 × Int32 × Int32)) (t_there : Int32) (t_count : Nat → Int32) (a1 : Int32) (a2 : Int32) (v4 : Int32) (t_house : Int32) (t_sharp : Int32) : Option (Int32 × Int32 × Int32) :=
  if 8 ≤ v4 then bX10_set_88 a1 a2 t_house t_sharp else if a1 = 0 then (fX10_has t_there v4).bind fun r62 => if r62 = 0 then k45 (v4 + 1, t_house, t_sharp) else gIn v4 8 (if (t_count (v4 : Int32).toNatClampNeg) ≤ a2 then k45 (v4 + 1, t_house, t_sharp) else some ((-3), t_house, t_sharp)) else bX10_set_88 a1 a2 t_house t_sharp
set_option maxRecDepth 100000 in
set_option maxHeartbeats 4000000 in
theorem BX10_set_45 {p : Program} {l : Launch} {e : Env} {s : State} {m : MethodId} {below : List Frame} {meth : Method} {c : Code} {D : va_G} {ty : TY} {A_t A_t_count A_t_pace A_t_sight A_t_pad A_t_now A_t_image A_t_isKept : Nat} {t_there : Int32} {t_awake : Int32} {t_sights : Int32} {t_signs : Int32} {t_up : Int32} {t_reason : Int32} {t_acts : Int32} {t_breaths : Int32} {t_zeroAt : Int32} {t_noticedAt : Int32} {t_count : Nat → Int32} {t_pace : Nat → Int32} {t_sight : Nat → Int32} {t_pad : Nat → Int32} {t_now : Nat → Int32} {t_image : Nat → Int32} {t_isKept : Nat → Int32} {a1 : Int32} {a2 : Int32} {q0 : Int32 × Int32 × Int32} {WC : va_W} (C : cx p s m [.ref A_t, .int a1, .int a2] meth c cX10_set 5 (some .int) RX10 wsX10_set) (hK : KK D ty s)   : ∀ (n : Nat) (v4 : Int32) (t_house : Int32) (t_sharp : Int32) (H : Heap) (locs : List Loc) (ls : Array Slot), va_P D vwCl [(A_t, .inr (9, [.int t_there, .int t_awake, .ref A_t_count, .ref A_t_pace, .int t_house, .int t_sharp, .int t_sights, .ref A_t_sight, .int t_signs, .ref A_t_pad, .int t_up, .ref A_t_now, .int t_reason, .int t_acts, .int t_breaths, .int t_zeroAt, .int t_noticedAt, .ref A_t_image, .ref A_t_isKept])), (A_t_count, .inl (ty.1, 8, .inl t_count)), (A_t_pace, .inl (ty.1, 8, .inl t_pace)), (A_t_sight, .inl (ty.1, 24, .inl t_sight)), (A_t_pad, .inl (ty.1, 60, .inl t_pad)), (A_t_now, .inl (ty.1, 8, .inl t_now)), (A_t_image, .inl (ty.1, 120, .inl t_image)), (A_t_isKept, .inl (ty.2.2.1, 2, .inl t_isKept))] H → va_D (va_A WC s.heap.size) [(A_t, .inr (9, [.int t_there, .int t_awake, .ref A_t_count, .ref A_t_pace, .int t_house, .int t_sharp, .int t_sights, .ref A_t_sight, .int t_signs, .ref A_t_pad, .int t_up, .ref A_t_now, .int t_reason, .int t_acts, .int t_breaths, .int t_zeroAt, .int t_noticedAt, .ref A_t_image, .ref A_t_isKept])), (A_t_count, .inl (ty.1, 8, .inl t_count)), (A_t_pace, .inl (ty.1, 8, .inl t_pace)), (A_t_sight, .inl (ty.1, 24, .inl t_sight)), (A_t_pad, .inl (ty.1, 60, .inl t_pad)), (A_t_now, .inl (ty.1, 8, .inl t_now)), (A_t_image, .inl (ty.1, 120, .inl t_image)), (A_t_isKept, .inl (ty.2.2.1, 2, .inl t_isKept))] → va_S (va_A WC s.heap.size) s.heap H locs → lv_has ls 5 [(0, .ref A_t), (1, .int a1), (2, .int a2), (4, .int v4)] → loopF (fun k q => bX10_set_45 k t_there t_count a1 a2 q.1 q.2.1 q.2.2) n (v4, t_house, t_sharp) = some q0 → WWi p l e rmX10_set s m [.ref A_t, .int a1, .int a2] below meth c D WC [(A_t, .inr (9, [.int t_there, .int t_awake, .ref A_t_count, .ref A_t_pace, .int q0.2.1, .int q0.2.2, .int t_sights, .ref A_t_sight, .int t_signs, .ref A_t_pad, .int t_up, .ref A_t_now, .int t_reason, .int t_acts, .int t_breaths, .int t_zeroAt, .int t_noticedAt, .ref A_t_image, .ref A_t_isKept])), (A_t_count, .inl (ty.1, 8, .inl t_count)), (A_t_pace, .inl (ty.1, 8, .inl t_pace)), (A_t_sight, .inl (ty.1, 24, .inl t_sight)), (A_t_pad, .inl (ty.1, 60, .inl t_pad)), (A_t_now, .inl (ty.1, 8, .inl t_now)), (A_t_image, .inl (ty.1, 120, .inl t_image)), (A_t_isKept, .inl (ty.2.2.1, 2, .inl t_isKept))] q0.1 H locs (F0 m 45 ls []) := by
  obtain ⟨hx, hb, hr, hml, hown, hts, hlocks⟩ := id C
  intro n
  induction n with
  | zero =>
    intro v4 t_house t_sharp H locs ls hP hD hS hl hf
    cases hf
  | succ n ih =>
    intro v4 t_house t_sharp H locs ls hP hD hS hl hf
    have hf : bX10_set_45 (loopF (fun k q => bX10_set_45 k t_there t_count a1 a2 q.1 q.2.1 q.2.2) n) t_there t_count a1 a2 v4 t_house t_sharp = some q0 := hf
    have hk45 := ih
    unfold bX10_set_45 at hf
    refine lv_iload hx hb dX10_set_45 (lv_at hl 3 rfl) ?_
    refine lv_bipush (v := 8) hx hb dX10_set_47 (by decide) ?_
    refine lv_icmp_ge (tgt := 88) hx hb dX10_set_49 (by decide) (fun hc => ?_) (fun hc => ?_)
    · have hf := ft hf hc
      exact BX10_set_88 C hK  hP hD hS (lv_sub hl [0, 1, 2] rfl) hf
    · have hf := ff hf hc
      refine lv_iload_n hx hb dX10_set_52 rfl (lv_at hl 1 rfl) ?_
      refine lv_if_ne (tgt := 88) hx hb dX10_set_53 (by decide) (fun hc => ?_) (fun hc => ?_)
      · have hf := ff hf hc
        exact BX10_set_88 C hK  hP hD hS (lv_sub hl [0, 1, 2] rfl) hf
      · have hf := ft hf hc
        refine lv_aload_n hx hb dX10_set_56 rfl (lv_at hl 0 rfl) ?_
        refine va_get (D := D) (ci := 9) (v := .int t_there) (C := RX10) (T := TX10) (N := 19) hx hb hts wX10_set_X10 hown hK.1 hP 0 rfl rfl 0 (by decide) (hts _ mX10_set_f40) (fun _ h9 => h9) rfl dX10_set_57 ?_
        refine lv_iload hx hb dX10_set_60 (lv_at hl 3 rfl) ?_
        obtain ⟨r62, hr62, hf⟩ := bnd hf
        have hPc : va_P D vwCl [] _ := hP.sub [] rfl
        refine callS_ri (As := [.int t_there, .int v4]) (rest := []) ⟨hx, hb, hml, hown, hts⟩ (CX10_has l hr62) (va_cwS 2 hts gX10_set_X10_has rfl rfl rfl kkX10_has.2 ⟨Nat.le_of_ble_eq_true rfl, Nat.le_of_ble_eq_true rfl⟩) hK hPc hl.1 rfl (Nat.le_of_ble_eq_true rfl) dX10_set_62 ⟨Nat.zero_le _, Nat.zero_le _⟩ ?_
        refine lv_if_eq (tgt := 82) hx hb dX10_set_65 (by decide) (fun hc => ?_) (fun hc => ?_)
        · have hf := ft hf hc
          refine lv_iinc (v := v4 + 1) (lv' := [(4, .int (v4 + 1)), (0, .ref A_t), (1, .int a1), (2, .int a2)]) hx hb dX10_set_82 hl (k := 3) rfl rfl (by decide) rfl (fun ls hl => ?_)
          refine lv_goto (tgt := 45) hx hb dX10_set_85 (by decide) ?_
          exact hk45 _ _ _ _ _ _ hP hD hS (lv_sub hl [1, 2, 3, 0] rfl) hf
        · have hf := ff hf hc
          refine lv_aload_n hx hb dX10_set_68 rfl (lv_at hl 0 rfl) ?_
          refine va_get (D := D) (ci := 9) (v := .ref A_t_count) (C := RX10) (T := TX10) (N := 19) hx hb hts wX10_set_X10 hown hK.1 hP 0 rfl rfl 2 (by decide) (hts _ mX10_set_f7) (fun _ h9 => h9) rfl dX10_set_69 ?_
          refine lv_iload hx hb dX10_set_72 (lv_at hl 3 rfl) ?_
          obtain ⟨hin, hf⟩ := gIn_some hf
          refine va_iald hx hb hK.1 hP 1 0 rfl rfl hin dX10_set_74 ?_
          refine lv_iload_n hx hb dX10_set_75 rfl (lv_at hl 2 rfl) ?_
          refine lv_icmp_le (tgt := 82) hx hb dX10_set_76 (by decide) (fun hc => ?_) (fun hc => ?_)
          · have hf := ft hf hc
            refine lv_iinc (v := v4 + 1) (lv' := [(4, .int (v4 + 1)), (0, .ref A_t), (1, .int a1), (2, .int a2)]) hx hb dX10_set_82 hl (k := 3) rfl rfl (by decide) rfl (fun ls hl => ?_)
            refine lv_goto (tgt := 45) hx hb dX10_set_85 (by decide) ?_
            exact hk45 _ _ _ _ _ _ hP hD hS (lv_sub hl [1, 2, 3, 0] rfl) hf
          · have hf := ff hf hc
            refine lv_bipush (v := (-3)) hx hb dX10_set_79 (by decide) ?_
            cases hf
            exact ret_wi hx hb hr hlocks hP hD hS dX10_set_81
def bX10_set_34 (t_there : Int32) (t_count : Nat → Int32) (a1 : Int32) (a2 : Int32) (s0 : Int32) (t_house : Int32) (t_sharp : Int32) : Option (Int32 × Int32 × Int32) :=
  if s0 = 0 then some ((-2), t_house, t_sharp) else loopF (fun k q => bX10_set_45 k t_there t_count a1 a2 q.1 q.2.1 q.2.2) FU (0, t_house, t_sharp)
set_option maxRecDepth 100000 in
set_option maxHeartbeats 4000000 in
theorem BX10_set_34 {p : Program} {l : Launch} {e : Env} {s : State} {m : MethodId} {below : List Frame} {meth : Method} {c : Code} {D : va_G} {ty : TY} {A_t A_t_count A_t_pace A_t_sight A_t_pad A_t_now A_t_image A_t_isKept : Nat} {t_there : Int32} {t_awake : Int32} {t_sights : Int32} {t_signs : Int32} {t_up : Int32} {t_reason : Int32} {t_acts : Int32} {t_breaths : Int32} {t_zeroAt : Int32} {t_noticedAt : Int32} {t_count : Nat → Int32} {t_pace : Nat → Int32} {t_sight : Nat → Int32} {t_pad : Nat → Int32} {t_now : Nat → Int32} {t_image : Nat → Int32} {t_isKept : Nat → Int32} {a1 : Int32} {a2 : Int32} {q0 : Int32 × Int32 × Int32} {WC : va_W} (C : cx p s m [.ref A_t, .int a1, .int a2] meth c cX10_set 5 (some .int) RX10 wsX10_set) (hK : KK D ty s)   {s0 : Int32} {t_house : Int32} {t_sharp : Int32} {H : Heap} {locs : List Loc} {ls : Array Slot} (hP : va_P D vwCl [(A_t, .inr (9, [.int t_there, .int t_awake, .ref A_t_count, .ref A_t_pace, .int t_house, .int t_sharp, .int t_sights, .ref A_t_sight, .int t_signs, .ref A_t_pad, .int t_up, .ref A_t_now, .int t_reason, .int t_acts, .int t_breaths, .int t_zeroAt, .int t_noticedAt, .ref A_t_image, .ref A_t_isKept])), (A_t_count, .inl (ty.1, 8, .inl t_count)), (A_t_pace, .inl (ty.1, 8, .inl t_pace)), (A_t_sight, .inl (ty.1, 24, .inl t_sight)), (A_t_pad, .inl (ty.1, 60, .inl t_pad)), (A_t_now, .inl (ty.1, 8, .inl t_now)), (A_t_image, .inl (ty.1, 120, .inl t_image)), (A_t_isKept, .inl (ty.2.2.1, 2, .inl t_isKept))] H) (hD : va_D (va_A WC s.heap.size) [(A_t, .inr (9, [.int t_there, .int t_awake, .ref A_t_count, .ref A_t_pace, .int t_house, .int t_sharp, .int t_sights, .ref A_t_sight, .int t_signs, .ref A_t_pad, .int t_up, .ref A_t_now, .int t_reason, .int t_acts, .int t_breaths, .int t_zeroAt, .int t_noticedAt, .ref A_t_image, .ref A_t_isKept])), (A_t_count, .inl (ty.1, 8, .inl t_count)), (A_t_pace, .inl (ty.1, 8, .inl t_pace)), (A_t_sight, .inl (ty.1, 24, .inl t_sight)), (A_t_pad, .inl (ty.1, 60, .inl t_pad)), (A_t_now, .inl (ty.1, 8, .inl t_now)), (A_t_image, .inl (ty.1, 120, .inl t_image)), (A_t_isKept, .inl (ty.2.2.1, 2, .inl t_isKept))]) (hS : va_S (va_A WC s.heap.size) s.heap H locs) (hl : lv_has ls 5 [(0, .ref A_t), (1, .int a1), (2, .int a2)]) (hf : bX10_set_34 t_there t_count a1 a2 s0 t_house t_sharp = some q0) : WWi p l e rmX10_set s m [.ref A_t, .int a1, .int a2] below meth c D WC [(A_t, .inr (9, [.int t_there, .int t_awake, .ref A_t_count, .ref A_t_pace, .int q0.2.1, .int q0.2.2, .int t_sights, .ref A_t_sight, .int t_signs, .ref A_t_pad, .int t_up, .ref A_t_now, .int t_reason, .int t_acts, .int t_breaths, .int t_zeroAt, .int t_noticedAt, .ref A_t_image, .ref A_t_isKept])), (A_t_count, .inl (ty.1, 8, .inl t_count)), (A_t_pace, .inl (ty.1, 8, .inl t_pace)), (A_t_sight, .inl (ty.1, 24, .inl t_sight)), (A_t_pad, .inl (ty.1, 60, .inl t_pad)), (A_t_now, .inl (ty.1, 8, .inl t_now)), (A_t_image, .inl (ty.1, 120, .inl t_image)), (A_t_isKept, .inl (ty.2.2.1, 2, .inl t_isKept))] q0.1 H locs (F0 m 34 ls [.int s0]) := by
  obtain ⟨hx, hb, hr, hml, hown, hts, hlocks⟩ := id C
  unfold bX10_set_34 at hf
  refine lv_istore_n (lv' := [(3, .int s0), (0, .ref A_t), (1, .int a1), (2, .int a2)]) hx hb dX10_set_34 rfl hl (by decide) rfl (fun ls hl => ?_)
  refine lv_iload_n hx hb dX10_set_35 rfl (lv_at hl 0 rfl) ?_
  refine lv_if_ne (tgt := 42) hx hb dX10_set_36 (by decide) (fun hc => ?_) (fun hc => ?_)
  · have hf := ff hf hc
    refine lv_iconst (v := 0) hx hb dX10_set_42 (by decide) ?_
    refine lv_istore (lv' := [(4, .int 0), (3, .int s0), (0, .ref A_t), (1, .int a1), (2, .int a2)]) hx hb dX10_set_43 hl (by decide) rfl (fun ls hl => ?_)
    exact BX10_set_45 C hK  FU _ _ _ _ _ _ hP hD hS (lv_sub hl [2, 3, 4, 0] rfl) hf
  · have hf := ft hf hc
    refine lv_bipush (v := (-2)) hx hb dX10_set_39 (by decide) ?_
    cases hf
    exact ret_wi hx hb hr hlocks hP hD hS dX10_set_41
def fX10_set (t_there : Int32) (t_house : Int32) (t_sharp : Int32) (t_count : Nat → Int32) (a1 : Int32) (a2 : Int32) : Option (Int32 × Int32 × Int32) :=
  if a1 = 0 then (fX10_in a2 1 1000000).bind fun r8 => bX10_set_34 t_there t_count a1 a2 r8 t_house t_sharp else if a1 = 1 then (fX10_in a2 0 99).bind fun r23 => if r23 = 0 then bX10_set_34 t_there t_count a1 a2 0 t_house t_sharp else bX10_set_34 t_there t_count a1 a2 1 t_house t_sharp else bX10_set_34 t_there t_count a1 a2 0 t_house t_sharp
set_option maxRecDepth 100000 in
set_option maxHeartbeats 4000000 in
theorem CX10_set (l : Launch) {D : va_G} {ty : TY} {A_t A_t_count A_t_pace A_t_sight A_t_pad A_t_now A_t_image A_t_isKept : Nat} {t_there : Int32} {t_awake : Int32} {t_house : Int32} {t_sharp : Int32} {t_sights : Int32} {t_signs : Int32} {t_up : Int32} {t_reason : Int32} {t_acts : Int32} {t_breaths : Int32} {t_zeroAt : Int32} {t_noticedAt : Int32} {t_count : Nat → Int32} {t_pace : Nat → Int32} {t_sight : Nat → Int32} {t_pad : Nat → Int32} {t_now : Nat → Int32} {t_image : Nat → Int32} {t_isKept : Nat → Int32} {a1 : Int32} {a2 : Int32} {q0 : Int32 × Int32 × Int32} (hf : fX10_set t_there t_house t_sharp t_count a1 a2 = some q0) : RWi l yX10_set wsX10_set rmX10_set D ty [.ref A_t, .int a1, .int a2] [(A_t, .inr (9, [.int t_there, .int t_awake, .ref A_t_count, .ref A_t_pace, .int t_house, .int t_sharp, .int t_sights, .ref A_t_sight, .int t_signs, .ref A_t_pad, .int t_up, .ref A_t_now, .int t_reason, .int t_acts, .int t_breaths, .int t_zeroAt, .int t_noticedAt, .ref A_t_image, .ref A_t_isKept])), (A_t_count, .inl (ty.1, 8, .inl t_count)), (A_t_pace, .inl (ty.1, 8, .inl t_pace)), (A_t_sight, .inl (ty.1, 24, .inl t_sight)), (A_t_pad, .inl (ty.1, 60, .inl t_pad)), (A_t_now, .inl (ty.1, 8, .inl t_now)), (A_t_image, .inl (ty.1, 120, .inl t_image)), (A_t_isKept, .inl (ty.2.2.1, 2, .inl t_isKept))] q0.1 [(A_t, .inr (9, [.int t_there, .int t_awake, .ref A_t_count, .ref A_t_pace, .int q0.2.1, .int q0.2.2, .int t_sights, .ref A_t_sight, .int t_signs, .ref A_t_pad, .int t_up, .ref A_t_now, .int t_reason, .int t_acts, .int t_breaths, .int t_zeroAt, .int t_noticedAt, .ref A_t_image, .ref A_t_isKept])), (A_t_count, .inl (ty.1, 8, .inl t_count)), (A_t_pace, .inl (ty.1, 8, .inl t_pace)), (A_t_sight, .inl (ty.1, 24, .inl t_sight)), (A_t_pad, .inl (ty.1, 60, .inl t_pad)), (A_t_now, .inl (ty.1, 8, .inl t_now)), (A_t_image, .inl (ty.1, 120, .inl t_image)), (A_t_isKept, .inl (ty.2.2.1, 2, .inl t_isKept))] := by
  refine RWi.start (cc := cX10_set) (maxL := 5) (ret := (some .int)) (own := RX10) (by decide) rfl rfl (Nat.le_of_ble_eq_true rfl) ?_
  intro p e s m below meth c ls C hK hP hD hS hl
  obtain ⟨WC, hWC⟩ : ∃ w : va_W, w = [(A_t, .inr (9, [.int t_there, .int t_awake, .ref A_t_count, .ref A_t_pace, .int t_house, .int t_sharp, .int t_sights, .ref A_t_sight, .int t_signs, .ref A_t_pad, .int t_up, .ref A_t_now, .int t_reason, .int t_acts, .int t_breaths, .int t_zeroAt, .int t_noticedAt, .ref A_t_image, .ref A_t_isKept])), (A_t_count, .inl (ty.1, 8, .inl t_count)), (A_t_pace, .inl (ty.1, 8, .inl t_pace)), (A_t_sight, .inl (ty.1, 24, .inl t_sight)), (A_t_pad, .inl (ty.1, 60, .inl t_pad)), (A_t_now, .inl (ty.1, 8, .inl t_now)), (A_t_image, .inl (ty.1, 120, .inl t_image)), (A_t_isKept, .inl (ty.2.2.1, 2, .inl t_isKept))] := ⟨_, rfl⟩
  rw [← hWC] at hD hS ⊢
  have hD : va_D (va_A WC s.heap.size) [(A_t, .inr (9, [.int t_there, .int t_awake, .ref A_t_count, .ref A_t_pace, .int t_house, .int t_sharp, .int t_sights, .ref A_t_sight, .int t_signs, .ref A_t_pad, .int t_up, .ref A_t_now, .int t_reason, .int t_acts, .int t_breaths, .int t_zeroAt, .int t_noticedAt, .ref A_t_image, .ref A_t_isKept])), (A_t_count, .inl (ty.1, 8, .inl t_count)), (A_t_pace, .inl (ty.1, 8, .inl t_pace)), (A_t_sight, .inl (ty.1, 24, .inl t_sight)), (A_t_pad, .inl (ty.1, 60, .inl t_pad)), (A_t_now, .inl (ty.1, 8, .inl t_now)), (A_t_image, .inl (ty.1, 120, .inl t_image)), (A_t_isKept, .inl (ty.2.2.1, 2, .inl t_isKept))] := by rw [← hWC]; exact hD
  obtain ⟨hx, hb, hr, hml, hown, hts, hlocks⟩ := id C
  have hl : lv_has ls 5 [(0, .ref A_t), (1, .int a1), (2, .int a2)] := hl
  unfold fX10_set at hf
  refine lv_iload_n hx hb dX10_set_0 rfl (lv_at hl 1 rfl) ?_
  refine lv_if_ne (tgt := 14) hx hb dX10_set_1 (by decide) (fun hc => ?_) (fun hc => ?_)
  · have hf := ff hf hc
    refine lv_iload_n hx hb dX10_set_14 rfl (lv_at hl 1 rfl) ?_
    refine lv_iconst (v := 1) hx hb dX10_set_15 (by decide) ?_
    refine lv_icmp_ne (tgt := 33) hx hb dX10_set_16 (by decide) (fun hc => ?_) (fun hc => ?_)
    · have hf := ff hf hc
      refine lv_iconst (v := 0) hx hb dX10_set_33 (by decide) ?_
      exact BX10_set_34 C hK  hP hD hS (lv_sub hl [0, 1, 2] rfl) hf
    · have hf := ft hf hc
      refine lv_iload_n hx hb dX10_set_19 rfl (lv_at hl 2 rfl) ?_
      refine lv_iconst (v := 0) hx hb dX10_set_20 (by decide) ?_
      refine lv_bipush (v := 99) hx hb dX10_set_21 (by decide) ?_
      obtain ⟨r23, hr23, hf⟩ := bnd hf
      have hPc : va_P D vwCl [] _ := hP.sub [] rfl
      refine callS_ri (As := [.int a2, .int 0, .int 99]) (rest := []) ⟨hx, hb, hml, hown, hts⟩ (CX10_in l hr23) (va_cwS 3 hts gX10_set_X10_in rfl rfl rfl kkX10_in.2 ⟨Nat.le_of_ble_eq_true rfl, Nat.le_of_ble_eq_true rfl⟩) hK hPc hl.1 rfl (Nat.le_of_ble_eq_true rfl) dX10_set_23 ⟨Nat.zero_le _, Nat.zero_le _⟩ ?_
      refine lv_if_eq (tgt := 33) hx hb dX10_set_26 (by decide) (fun hc => ?_) (fun hc => ?_)
      · have hf := ft hf hc
        refine lv_iconst (v := 0) hx hb dX10_set_33 (by decide) ?_
        exact BX10_set_34 C hK  hP hD hS (lv_sub hl [0, 1, 2] rfl) hf
      · have hf := ff hf hc
        refine lv_iconst (v := 1) hx hb dX10_set_29 (by decide) ?_
        refine lv_goto (tgt := 34) hx hb dX10_set_30 (by decide) ?_
        exact BX10_set_34 C hK  hP hD hS (lv_sub hl [0, 1, 2] rfl) hf
  · have hf := ft hf hc
    refine lv_iload_n hx hb dX10_set_4 rfl (lv_at hl 2 rfl) ?_
    refine lv_iconst (v := 1) hx hb dX10_set_5 (by decide) ?_
    refine lv_ldc (v := 1000000) hx hb hown (hts _ mX10_set_k16) dX10_set_6 ?_
    obtain ⟨r8, hr8, hf⟩ := bnd hf
    have hPc : va_P D vwCl [] _ := hP.sub [] rfl
    refine callS_ri (As := [.int a2, .int 1, .int 1000000]) (rest := []) ⟨hx, hb, hml, hown, hts⟩ (CX10_in l hr8) (va_cwS 3 hts gX10_set_X10_in rfl rfl rfl kkX10_in.2 ⟨Nat.le_of_ble_eq_true rfl, Nat.le_of_ble_eq_true rfl⟩) hK hPc hl.1 rfl (Nat.le_of_ble_eq_true rfl) dX10_set_8 ⟨Nat.zero_le _, Nat.zero_le _⟩ ?_
    refine lv_goto (tgt := 34) hx hb dX10_set_11 (by decide) ?_
    exact BX10_set_34 C hK  hP hD hS (lv_sub hl [0, 1, 2] rfl) hf
/-! ===== SilenceCountModel.skips(II)I ===== -/
abbrev rmX10_skips : Room := { frames := 5, cells := 0, slots := 0, locals := 116 }
theorem kkX10_skips : yX10_skips.cls = RX10 ∧ yX10_skips.cls ≠ "java/lang/invoke/MethodHandle" ∧ yX10_skips.cls ≠ "java/lang/invoke/VarHandle" ∧ (parseMethodDescriptor yX10_skips.desc).map (fun d => d.parameters.length) = some 2 := by decide +kernel
theorem mX10_skips_f55 : Cond.fieldLink RX10 55 "SilenceCountModel" "awake" "I" ∈ wsX10_skips := by decide +kernel
theorem wX10_skips_X10 : ∀ w ∈ u_ws RX10 TX10 19, w ∈ wsX10_skips := by decide +kernel
def bX10_skips_57 (k47 : Int32 × Int32 × Int32 × Int32 → Option (Int32)) (k57 : Int32 × Int32 × Int32 × Int32 × Int32 → Option (Int32)) (t_there : Int32) (t_awake : Int32) (t_sights : Int32) (t_count : Nat → Int32) (t_pace : Nat → Int32) (t_sight : Nat → Int32) (a1 : Int32) (v3 : Int32) (v4 : Int32) (v5 : Int32) (v6 : Int32) (v7 : Int32) : Option (Int32) :=
  if 10 ≤ v7 then k47 (v3, v4, v5, v6 + 1) else (fX10_has t_awake v6).bind fun r70 => if r70 = 0 then k47 (v3, v4, v5, v6 + 1) else (fX10_isWorld t_there t_awake t_sights t_count t_pace t_sight a1 v6 v7).bind fun r82 => if r82 = 0 then k57 (v3, v4, v5, v6, v7 + 1) else k57 (v3, v4 + 1, v5 ||| (1 <<< (v6 &&& 31)), v6, v7 + 1)
set_option maxRecDepth 100000 in
set_option maxHeartbeats 4000000 in
theorem BX10_skips_57 {p : Program} {l : Launch} {e : Env} {s : State} {m : MethodId} {below : List Frame} {meth : Method} {c : Code} {D : va_G} {ty : TY} {A_t A_t_count A_t_pace A_t_sight A_t_pad A_t_now A_t_image A_t_isKept : Nat} {t_there : Int32} {t_awake : Int32} {t_house : Int32} {t_sharp : Int32} {t_sights : Int32} {t_signs : Int32} {t_up : Int32} {t_reason : Int32} {t_acts : Int32} {t_breaths : Int32} {t_zeroAt : Int32} {t_noticedAt : Int32} {t_count : Nat → Int32} {t_pace : Nat → Int32} {t_sight : Nat → Int32} {t_pad : Nat → Int32} {t_now : Nat → Int32} {t_image : Nat → Int32} {t_isKept : Nat → Int32} {a1 : Int32} {a2 : Int32} {q0 : Int32} (C : cx p s m [.ref A_t, .int a1, .int a2] meth c cX10_skips 8 (some .int) RX10 wsX10_skips) (hK : KK D ty s) (hP : va_P D vwCl [(A_t, .inr (9, [.int t_there, .int t_awake, .ref A_t_count, .ref A_t_pace, .int t_house, .int t_sharp, .int t_sights, .ref A_t_sight, .int t_signs, .ref A_t_pad, .int t_up, .ref A_t_now, .int t_reason, .int t_acts, .int t_breaths, .int t_zeroAt, .int t_noticedAt, .ref A_t_image, .ref A_t_isKept])), (A_t_count, .inl (ty.1, 8, .inl t_count)), (A_t_pace, .inl (ty.1, 8, .inl t_pace)), (A_t_sight, .inl (ty.1, 24, .inl t_sight)), (A_t_pad, .inl (ty.1, 60, .inl t_pad)), (A_t_now, .inl (ty.1, 8, .inl t_now)), (A_t_image, .inl (ty.1, 120, .inl t_image)), (A_t_isKept, .inl (ty.2.2.1, 2, .inl t_isKept))] s.heap) {k47 : Int32 × Int32 × Int32 × Int32 → Option (Int32)} (hk47 : ∀ (v3 : Int32) (v4 : Int32) (v5 : Int32) (v6 : Int32) (ls : Array Slot), lv_has ls 8 [(0, .ref A_t), (1, .int a1), (2, .int a2), (3, .int v3), (4, .int v4), (5, .int v5), (6, .int v6)] → k47 (v3, v4, v5, v6) = some q0 → WRi p l e rmX10_skips s m [.ref A_t, .int a1, .int a2] below meth c q0 (F0 m 47 ls [])) : ∀ (n : Nat) (v3 : Int32) (v4 : Int32) (v5 : Int32) (v6 : Int32) (v7 : Int32) (ls : Array Slot), lv_has ls 8 [(0, .ref A_t), (1, .int a1), (2, .int a2), (3, .int v3), (4, .int v4), (5, .int v5), (6, .int v6), (7, .int v7)] → loopF (fun k q => bX10_skips_57 k47 k t_there t_awake t_sights t_count t_pace t_sight a1 q.1 q.2.1 q.2.2.1 q.2.2.2.1 q.2.2.2.2) n (v3, v4, v5, v6, v7) = some q0 → WRi p l e rmX10_skips s m [.ref A_t, .int a1, .int a2] below meth c q0 (F0 m 57 ls []) := by
  obtain ⟨hx, hb, hr, hml, hown, hts, hlocks⟩ := id C
  intro n
  induction n with
  | zero =>
    intro v3 v4 v5 v6 v7 ls hl hf
    cases hf
  | succ n ih =>
    intro v3 v4 v5 v6 v7 ls hl hf
    have hf : bX10_skips_57 k47 (loopF (fun k q => bX10_skips_57 k47 k t_there t_awake t_sights t_count t_pace t_sight a1 q.1 q.2.1 q.2.2.1 q.2.2.2.1 q.2.2.2.2) n) t_there t_awake t_sights t_count t_pace t_sight a1 v3 v4 v5 v6 v7 = some q0 := hf
    have hk57 := ih
    unfold bX10_skips_57 at hf
    refine lv_iload hx hb dX10_skips_57 (lv_at hl 7 rfl) ?_
    refine lv_bipush (v := 10) hx hb dX10_skips_59 (by decide) ?_
    refine lv_icmp_ge (tgt := 106) hx hb dX10_skips_61 (by decide) (fun hc => ?_) (fun hc => ?_)
    · have hf := ft hf hc
      refine lv_iinc (v := v6 + 1) (lv' := [(6, .int (v6 + 1)), (0, .ref A_t), (1, .int a1), (2, .int a2), (3, .int v3), (4, .int v4), (5, .int v5), (7, .int v7)]) hx hb dX10_skips_106 hl (k := 6) rfl rfl (by decide) rfl (fun ls hl => ?_)
      refine lv_goto (tgt := 47) hx hb dX10_skips_109 (by decide) ?_
      exact hk47 _ _ _ _ _ (lv_sub hl [1, 2, 3, 4, 5, 6, 0] rfl) hf
    · have hf := ff hf hc
      refine lv_aload_n hx hb dX10_skips_64 rfl (lv_at hl 0 rfl) ?_
      refine va_get (D := D) (ci := 9) (v := .int t_awake) (C := RX10) (T := TX10) (N := 19) hx hb hts wX10_skips_X10 hown hK.1 hP 0 rfl rfl 1 (by decide) (hts _ mX10_skips_f55) (fun _ h9 => h9) rfl dX10_skips_65 ?_
      refine lv_iload hx hb dX10_skips_68 (lv_at hl 6 rfl) ?_
      obtain ⟨r70, hr70, hf⟩ := bnd hf
      have hPc : va_P D vwCl [] _ := hP.sub [] rfl
      refine callS_ri (As := [.int t_awake, .int v6]) (rest := []) ⟨hx, hb, hml, hown, hts⟩ (CX10_has l hr70) (va_cwS 2 hts gX10_skips_X10_has rfl rfl rfl kkX10_has.2 ⟨Nat.le_of_ble_eq_true rfl, Nat.le_of_ble_eq_true rfl⟩) hK hPc hl.1 rfl (Nat.le_of_ble_eq_true rfl) dX10_skips_70 ⟨Nat.zero_le _, Nat.zero_le _⟩ ?_
      refine lv_if_eq (tgt := 106) hx hb dX10_skips_73 (by decide) (fun hc => ?_) (fun hc => ?_)
      · have hf := ft hf hc
        refine lv_iinc (v := v6 + 1) (lv' := [(6, .int (v6 + 1)), (0, .ref A_t), (1, .int a1), (2, .int a2), (3, .int v3), (4, .int v4), (5, .int v5), (7, .int v7)]) hx hb dX10_skips_106 hl (k := 6) rfl rfl (by decide) rfl (fun ls hl => ?_)
        refine lv_goto (tgt := 47) hx hb dX10_skips_109 (by decide) ?_
        exact hk47 _ _ _ _ _ (lv_sub hl [1, 2, 3, 4, 5, 6, 0] rfl) hf
      · have hf := ff hf hc
        refine lv_aload_n hx hb dX10_skips_76 rfl (lv_at hl 0 rfl) ?_
        refine lv_iload_n hx hb dX10_skips_77 rfl (lv_at hl 1 rfl) ?_
        refine lv_iload hx hb dX10_skips_78 (lv_at hl 6 rfl) ?_
        refine lv_iload hx hb dX10_skips_80 (lv_at hl 7 rfl) ?_
        obtain ⟨r82, hr82, hf⟩ := bnd hf
        refine callV_ri (As := [.int a1, .int v6, .int v7]) (rest := []) ⟨hx, hb, hml, hown, hts⟩ (CX10_isWorld l hr82) (cwV 3 hts gX10_skips_X10_isWorld rfl rfl rfl kkX10_isWorld ⟨Nat.le_of_ble_eq_true rfl, Nat.le_of_ble_eq_true rfl⟩) hK hP 0 rfl rfl rfl hl.1 rfl (Nat.le_of_ble_eq_true rfl) dX10_skips_82 ⟨Nat.zero_le _, Nat.zero_le _⟩ ?_
        refine lv_if_eq (tgt := 100) hx hb dX10_skips_85 (by decide) (fun hc => ?_) (fun hc => ?_)
        · have hf := ft hf hc
          refine lv_iinc (v := v7 + 1) (lv' := [(7, .int (v7 + 1)), (0, .ref A_t), (1, .int a1), (2, .int a2), (3, .int v3), (4, .int v4), (5, .int v5), (6, .int v6)]) hx hb dX10_skips_100 hl (k := 7) rfl rfl (by decide) rfl (fun ls hl => ?_)
          refine lv_goto (tgt := 57) hx hb dX10_skips_103 (by decide) ?_
          exact hk57 _ _ _ _ _ _ (lv_sub hl [1, 2, 3, 4, 5, 6, 7, 0] rfl) hf
        · have hf := ff hf hc
          refine lv_iinc (v := v4 + 1) (lv' := [(4, .int (v4 + 1)), (0, .ref A_t), (1, .int a1), (2, .int a2), (3, .int v3), (5, .int v5), (6, .int v6), (7, .int v7)]) hx hb dX10_skips_88 hl (k := 4) rfl rfl (by decide) rfl (fun ls hl => ?_)
          refine lv_iload hx hb dX10_skips_91 (lv_at hl 5 rfl) ?_
          refine lv_iconst (v := 1) hx hb dX10_skips_93 (by decide) ?_
          refine lv_iload hx hb dX10_skips_94 (lv_at hl 6 rfl) ?_
          refine lv_ishl hx hb dX10_skips_96 ?_
          refine lv_ior hx hb dX10_skips_97 ?_
          refine lv_istore (lv' := [(5, .int (v5 ||| (1 <<< (v6 &&& 31)))), (4, .int (v4 + 1)), (0, .ref A_t), (1, .int a1), (2, .int a2), (3, .int v3), (6, .int v6), (7, .int v7)]) hx hb dX10_skips_98 hl (by decide) rfl (fun ls hl => ?_)
          refine lv_iinc (v := v7 + 1) (lv' := [(7, .int (v7 + 1)), (5, .int (v5 ||| (1 <<< (v6 &&& 31)))), (4, .int (v4 + 1)), (0, .ref A_t), (1, .int a1), (2, .int a2), (3, .int v3), (6, .int v6)]) hx hb dX10_skips_100 hl (k := 7) rfl rfl (by decide) rfl (fun ls hl => ?_)
          refine lv_goto (tgt := 57) hx hb dX10_skips_103 (by decide) ?_
          exact hk57 _ _ _ _ _ _ (lv_sub hl [3, 4, 5, 6, 2, 1, 7, 0] rfl) hf
def bX10_skips_47 (k47 : Int32 × Int32 × Int32 × Int32 → Option (Int32)) (t_there : Int32) (t_awake : Int32) (t_sights : Int32) (t_count : Nat → Int32) (t_pace : Nat → Int32) (t_sight : Nat → Int32) (a1 : Int32) (a2 : Int32) (v3 : Int32) (v4 : Int32) (v5 : Int32) (v6 : Int32) : Option (Int32) :=
  if 8 ≤ v6 then if a2 = 0 then some v4 else if a2 = 1 then some v5 else if v3 = 0 then some 0 else some 1 else loopF (fun k q => bX10_skips_57 k47 k t_there t_awake t_sights t_count t_pace t_sight a1 q.1 q.2.1 q.2.2.1 q.2.2.2.1 q.2.2.2.2) FU (v3, v4, v5, v6, 1)
set_option maxRecDepth 100000 in
set_option maxHeartbeats 4000000 in
theorem BX10_skips_47 {p : Program} {l : Launch} {e : Env} {s : State} {m : MethodId} {below : List Frame} {meth : Method} {c : Code} {D : va_G} {ty : TY} {A_t A_t_count A_t_pace A_t_sight A_t_pad A_t_now A_t_image A_t_isKept : Nat} {t_there : Int32} {t_awake : Int32} {t_house : Int32} {t_sharp : Int32} {t_sights : Int32} {t_signs : Int32} {t_up : Int32} {t_reason : Int32} {t_acts : Int32} {t_breaths : Int32} {t_zeroAt : Int32} {t_noticedAt : Int32} {t_count : Nat → Int32} {t_pace : Nat → Int32} {t_sight : Nat → Int32} {t_pad : Nat → Int32} {t_now : Nat → Int32} {t_image : Nat → Int32} {t_isKept : Nat → Int32} {a1 : Int32} {a2 : Int32} {q0 : Int32} (C : cx p s m [.ref A_t, .int a1, .int a2] meth c cX10_skips 8 (some .int) RX10 wsX10_skips) (hK : KK D ty s) (hP : va_P D vwCl [(A_t, .inr (9, [.int t_there, .int t_awake, .ref A_t_count, .ref A_t_pace, .int t_house, .int t_sharp, .int t_sights, .ref A_t_sight, .int t_signs, .ref A_t_pad, .int t_up, .ref A_t_now, .int t_reason, .int t_acts, .int t_breaths, .int t_zeroAt, .int t_noticedAt, .ref A_t_image, .ref A_t_isKept])), (A_t_count, .inl (ty.1, 8, .inl t_count)), (A_t_pace, .inl (ty.1, 8, .inl t_pace)), (A_t_sight, .inl (ty.1, 24, .inl t_sight)), (A_t_pad, .inl (ty.1, 60, .inl t_pad)), (A_t_now, .inl (ty.1, 8, .inl t_now)), (A_t_image, .inl (ty.1, 120, .inl t_image)), (A_t_isKept, .inl (ty.2.2.1, 2, .inl t_isKept))] s.heap)   : ∀ (n : Nat) (v3 : Int32) (v4 : Int32) (v5 : Int32) (v6 : Int32) (ls : Array Slot), lv_has ls 8 [(0, .ref A_t), (1, .int a1), (2, .int a2), (3, .int v3), (4, .int v4), (5, .int v5), (6, .int v6)] → loopF (fun k q => bX10_skips_47 k t_there t_awake t_sights t_count t_pace t_sight a1 a2 q.1 q.2.1 q.2.2.1 q.2.2.2) n (v3, v4, v5, v6) = some q0 → WRi p l e rmX10_skips s m [.ref A_t, .int a1, .int a2] below meth c q0 (F0 m 47 ls []) := by
  obtain ⟨hx, hb, hr, hml, hown, hts, hlocks⟩ := id C
  intro n
  induction n with
  | zero =>
    intro v3 v4 v5 v6 ls hl hf
    cases hf
  | succ n ih =>
    intro v3 v4 v5 v6 ls hl hf
    have hf : bX10_skips_47 (loopF (fun k q => bX10_skips_47 k t_there t_awake t_sights t_count t_pace t_sight a1 a2 q.1 q.2.1 q.2.2.1 q.2.2.2) n) t_there t_awake t_sights t_count t_pace t_sight a1 a2 v3 v4 v5 v6 = some q0 := hf
    have hk47 := ih
    unfold bX10_skips_47 at hf
    refine lv_iload hx hb dX10_skips_47 (lv_at hl 6 rfl) ?_
    refine lv_bipush (v := 8) hx hb dX10_skips_49 (by decide) ?_
    refine lv_icmp_ge (tgt := 112) hx hb dX10_skips_51 (by decide) (fun hc => ?_) (fun hc => ?_)
    · have hf := ft hf hc
      refine lv_iload_n hx hb dX10_skips_112 rfl (lv_at hl 2 rfl) ?_
      refine lv_if_ne (tgt := 121) hx hb dX10_skips_113 (by decide) (fun hc => ?_) (fun hc => ?_)
      · have hf := ff hf hc
        refine lv_iload_n hx hb dX10_skips_121 rfl (lv_at hl 2 rfl) ?_
        refine lv_iconst (v := 1) hx hb dX10_skips_122 (by decide) ?_
        refine lv_icmp_ne (tgt := 131) hx hb dX10_skips_123 (by decide) (fun hc => ?_) (fun hc => ?_)
        · have hf := ff hf hc
          refine lv_iload_n hx hb dX10_skips_131 rfl (lv_at hl 3 rfl) ?_
          refine lv_if_eq (tgt := 139) hx hb dX10_skips_132 (by decide) (fun hc => ?_) (fun hc => ?_)
          · have hf := ft hf hc
            refine lv_iconst (v := 0) hx hb dX10_skips_139 (by decide) ?_
            exact ret_ri hx hb hr hlocks hf dX10_skips_140
          · have hf := ff hf hc
            refine lv_iconst (v := 1) hx hb dX10_skips_135 (by decide) ?_
            refine lv_goto (tgt := 140) hx hb dX10_skips_136 (by decide) ?_
            exact ret_ri hx hb hr hlocks hf dX10_skips_140
        · have hf := ft hf hc
          refine lv_iload hx hb dX10_skips_126 (lv_at hl 5 rfl) ?_
          refine lv_goto (tgt := 140) hx hb dX10_skips_128 (by decide) ?_
          exact ret_ri hx hb hr hlocks hf dX10_skips_140
      · have hf := ft hf hc
        refine lv_iload hx hb dX10_skips_116 (lv_at hl 4 rfl) ?_
        refine lv_goto (tgt := 140) hx hb dX10_skips_118 (by decide) ?_
        exact ret_ri hx hb hr hlocks hf dX10_skips_140
    · have hf := ff hf hc
      refine lv_iconst (v := 1) hx hb dX10_skips_54 (by decide) ?_
      refine lv_istore (lv' := [(7, .int 1), (0, .ref A_t), (1, .int a1), (2, .int a2), (3, .int v3), (4, .int v4), (5, .int v5), (6, .int v6)]) hx hb dX10_skips_55 hl (by decide) rfl (fun ls hl => ?_)
      exact BX10_skips_57 C hK hP hk47 FU _ _ _ _ _ _ (lv_sub hl [1, 2, 3, 4, 5, 6, 7, 0] rfl) hf
def bX10_skips_39 (t_there : Int32) (t_awake : Int32) (t_sights : Int32) (t_count : Nat → Int32) (t_pace : Nat → Int32) (t_sight : Nat → Int32) (a1 : Int32) (a2 : Int32) (v3 : Int32) (s0 : Int32) : Option (Int32) :=
  loopF (fun k q => bX10_skips_47 k t_there t_awake t_sights t_count t_pace t_sight a1 a2 q.1 q.2.1 q.2.2.1 q.2.2.2) FU (v3, s0, 0, 0)
set_option maxRecDepth 100000 in
set_option maxHeartbeats 4000000 in
theorem BX10_skips_39 {p : Program} {l : Launch} {e : Env} {s : State} {m : MethodId} {below : List Frame} {meth : Method} {c : Code} {D : va_G} {ty : TY} {A_t A_t_count A_t_pace A_t_sight A_t_pad A_t_now A_t_image A_t_isKept : Nat} {t_there : Int32} {t_awake : Int32} {t_house : Int32} {t_sharp : Int32} {t_sights : Int32} {t_signs : Int32} {t_up : Int32} {t_reason : Int32} {t_acts : Int32} {t_breaths : Int32} {t_zeroAt : Int32} {t_noticedAt : Int32} {t_count : Nat → Int32} {t_pace : Nat → Int32} {t_sight : Nat → Int32} {t_pad : Nat → Int32} {t_now : Nat → Int32} {t_image : Nat → Int32} {t_isKept : Nat → Int32} {a1 : Int32} {a2 : Int32} {q0 : Int32} (C : cx p s m [.ref A_t, .int a1, .int a2] meth c cX10_skips 8 (some .int) RX10 wsX10_skips) (hK : KK D ty s) (hP : va_P D vwCl [(A_t, .inr (9, [.int t_there, .int t_awake, .ref A_t_count, .ref A_t_pace, .int t_house, .int t_sharp, .int t_sights, .ref A_t_sight, .int t_signs, .ref A_t_pad, .int t_up, .ref A_t_now, .int t_reason, .int t_acts, .int t_breaths, .int t_zeroAt, .int t_noticedAt, .ref A_t_image, .ref A_t_isKept])), (A_t_count, .inl (ty.1, 8, .inl t_count)), (A_t_pace, .inl (ty.1, 8, .inl t_pace)), (A_t_sight, .inl (ty.1, 24, .inl t_sight)), (A_t_pad, .inl (ty.1, 60, .inl t_pad)), (A_t_now, .inl (ty.1, 8, .inl t_now)), (A_t_image, .inl (ty.1, 120, .inl t_image)), (A_t_isKept, .inl (ty.2.2.1, 2, .inl t_isKept))] s.heap)   {v3 : Int32} {s0 : Int32} {ls : Array Slot} (hl : lv_has ls 8 [(0, .ref A_t), (1, .int a1), (2, .int a2), (3, .int v3)]) (hf : bX10_skips_39 t_there t_awake t_sights t_count t_pace t_sight a1 a2 v3 s0 = some q0) : WRi p l e rmX10_skips s m [.ref A_t, .int a1, .int a2] below meth c q0 (F0 m 39 ls [.int s0]) := by
  obtain ⟨hx, hb, hr, hml, hown, hts, hlocks⟩ := id C
  unfold bX10_skips_39 at hf
  refine lv_istore (lv' := [(4, .int s0), (0, .ref A_t), (1, .int a1), (2, .int a2), (3, .int v3)]) hx hb dX10_skips_39 hl (by decide) rfl (fun ls hl => ?_)
  refine lv_iconst (v := 0) hx hb dX10_skips_41 (by decide) ?_
  refine lv_istore (lv' := [(5, .int 0), (4, .int s0), (0, .ref A_t), (1, .int a1), (2, .int a2), (3, .int v3)]) hx hb dX10_skips_42 hl (by decide) rfl (fun ls hl => ?_)
  refine lv_iconst (v := 0) hx hb dX10_skips_44 (by decide) ?_
  refine lv_istore (lv' := [(6, .int 0), (5, .int 0), (4, .int s0), (0, .ref A_t), (1, .int a1), (2, .int a2), (3, .int v3)]) hx hb dX10_skips_45 hl (by decide) rfl (fun ls hl => ?_)
  exact BX10_skips_47 C hK hP  FU _ _ _ _ _ (lv_sub hl [3, 4, 5, 6, 2, 1, 0] rfl) hf
def fX10_skips (t_there : Int32) (t_awake : Int32) (t_sights : Int32) (t_count : Nat → Int32) (t_pace : Nat → Int32) (t_sight : Nat → Int32) (a1 : Int32) (a2 : Int32) : Option (Int32) :=
  (fX10_in a1 0 4).bind fun r3 => if r3 = 0 then some (-2) else (fX10_in a2 0 2).bind fun r12 => if r12 = 0 then some (-2) else (fX10_isWorld t_there t_awake t_sights t_count t_pace t_sight a1 (-6) 0).bind fun r26 => if r26 = 0 then bX10_skips_39 t_there t_awake t_sights t_count t_pace t_sight a1 a2 r26 0 else bX10_skips_39 t_there t_awake t_sights t_count t_pace t_sight a1 a2 r26 1
set_option maxRecDepth 100000 in
set_option maxHeartbeats 4000000 in
theorem CX10_skips (l : Launch) {D : va_G} {ty : TY} {A_t A_t_count A_t_pace A_t_sight A_t_pad A_t_now A_t_image A_t_isKept : Nat} {t_there : Int32} {t_awake : Int32} {t_house : Int32} {t_sharp : Int32} {t_sights : Int32} {t_signs : Int32} {t_up : Int32} {t_reason : Int32} {t_acts : Int32} {t_breaths : Int32} {t_zeroAt : Int32} {t_noticedAt : Int32} {t_count : Nat → Int32} {t_pace : Nat → Int32} {t_sight : Nat → Int32} {t_pad : Nat → Int32} {t_now : Nat → Int32} {t_image : Nat → Int32} {t_isKept : Nat → Int32} {a1 : Int32} {a2 : Int32} {q0 : Int32} (hf : fX10_skips t_there t_awake t_sights t_count t_pace t_sight a1 a2 = some q0) : ROi l yX10_skips wsX10_skips rmX10_skips D ty [.ref A_t, .int a1, .int a2] [(A_t, .inr (9, [.int t_there, .int t_awake, .ref A_t_count, .ref A_t_pace, .int t_house, .int t_sharp, .int t_sights, .ref A_t_sight, .int t_signs, .ref A_t_pad, .int t_up, .ref A_t_now, .int t_reason, .int t_acts, .int t_breaths, .int t_zeroAt, .int t_noticedAt, .ref A_t_image, .ref A_t_isKept])), (A_t_count, .inl (ty.1, 8, .inl t_count)), (A_t_pace, .inl (ty.1, 8, .inl t_pace)), (A_t_sight, .inl (ty.1, 24, .inl t_sight)), (A_t_pad, .inl (ty.1, 60, .inl t_pad)), (A_t_now, .inl (ty.1, 8, .inl t_now)), (A_t_image, .inl (ty.1, 120, .inl t_image)), (A_t_isKept, .inl (ty.2.2.1, 2, .inl t_isKept))] q0 := by
  refine ROi.start (cc := cX10_skips) (maxL := 8) (ret := (some .int)) (own := RX10) (by decide) rfl rfl (Nat.le_of_ble_eq_true rfl) ?_
  intro p e s m below meth c ls C hK hP hl
  obtain ⟨hx, hb, hr, hml, hown, hts, hlocks⟩ := id C
  have hl : lv_has ls 8 [(0, .ref A_t), (1, .int a1), (2, .int a2)] := hl
  unfold fX10_skips at hf
  refine lv_iload_n hx hb dX10_skips_0 rfl (lv_at hl 1 rfl) ?_
  refine lv_iconst (v := 0) hx hb dX10_skips_1 (by decide) ?_
  refine lv_iconst (v := 4) hx hb dX10_skips_2 (by decide) ?_
  obtain ⟨r3, hr3, hf⟩ := bnd hf
  have hPc : va_P D vwCl [] _ := hP.sub [] rfl
  refine callS_ri (As := [.int a1, .int 0, .int 4]) (rest := []) ⟨hx, hb, hml, hown, hts⟩ (CX10_in l hr3) (va_cwS 3 hts gX10_skips_X10_in rfl rfl rfl kkX10_in.2 ⟨Nat.le_of_ble_eq_true rfl, Nat.le_of_ble_eq_true rfl⟩) hK hPc hl.1 rfl (Nat.le_of_ble_eq_true rfl) dX10_skips_3 ⟨Nat.zero_le _, Nat.zero_le _⟩ ?_
  refine lv_if_eq (tgt := 18) hx hb dX10_skips_6 (by decide) (fun hc => ?_) (fun hc => ?_)
  · have hf := ft hf hc
    refine lv_bipush (v := (-2)) hx hb dX10_skips_18 (by decide) ?_
    exact ret_ri hx hb hr hlocks hf dX10_skips_20
  · have hf := ff hf hc
    refine lv_iload_n hx hb dX10_skips_9 rfl (lv_at hl 2 rfl) ?_
    refine lv_iconst (v := 0) hx hb dX10_skips_10 (by decide) ?_
    refine lv_iconst (v := 2) hx hb dX10_skips_11 (by decide) ?_
    obtain ⟨r12, hr12, hf⟩ := bnd hf
    have hPc : va_P D vwCl [] _ := hP.sub [] rfl
    refine callS_ri (As := [.int a2, .int 0, .int 2]) (rest := []) ⟨hx, hb, hml, hown, hts⟩ (CX10_in l hr12) (va_cwS 3 hts gX10_skips_X10_in rfl rfl rfl kkX10_in.2 ⟨Nat.le_of_ble_eq_true rfl, Nat.le_of_ble_eq_true rfl⟩) hK hPc hl.1 rfl (Nat.le_of_ble_eq_true rfl) dX10_skips_12 ⟨Nat.zero_le _, Nat.zero_le _⟩ ?_
    refine lv_if_ne (tgt := 21) hx hb dX10_skips_15 (by decide) (fun hc => ?_) (fun hc => ?_)
    · have hf := ff hf hc
      refine lv_aload_n hx hb dX10_skips_21 rfl (lv_at hl 0 rfl) ?_
      refine lv_iload_n hx hb dX10_skips_22 rfl (lv_at hl 1 rfl) ?_
      refine lv_bipush (v := (-6)) hx hb dX10_skips_23 (by decide) ?_
      refine lv_iconst (v := 0) hx hb dX10_skips_25 (by decide) ?_
      obtain ⟨r26, hr26, hf⟩ := bnd hf
      refine callV_ri (As := [.int a1, .int (-6), .int 0]) (rest := []) ⟨hx, hb, hml, hown, hts⟩ (CX10_isWorld l hr26) (cwV 3 hts gX10_skips_X10_isWorld rfl rfl rfl kkX10_isWorld ⟨Nat.le_of_ble_eq_true rfl, Nat.le_of_ble_eq_true rfl⟩) hK hP 0 rfl rfl rfl hl.1 rfl (Nat.le_of_ble_eq_true rfl) dX10_skips_26 ⟨Nat.zero_le _, Nat.zero_le _⟩ ?_
      refine lv_istore_n (lv' := [(3, .int r26), (0, .ref A_t), (1, .int a1), (2, .int a2)]) hx hb dX10_skips_29 rfl hl (by decide) rfl (fun ls hl => ?_)
      refine lv_iload_n hx hb dX10_skips_30 rfl (lv_at hl 0 rfl) ?_
      refine lv_if_eq (tgt := 38) hx hb dX10_skips_31 (by decide) (fun hc => ?_) (fun hc => ?_)
      · have hf := ft hf hc
        refine lv_iconst (v := 0) hx hb dX10_skips_38 (by decide) ?_
        exact BX10_skips_39 C hK hP  (lv_sub hl [1, 2, 3, 0] rfl) hf
      · have hf := ff hf hc
        refine lv_iconst (v := 1) hx hb dX10_skips_34 (by decide) ?_
        refine lv_goto (tgt := 39) hx hb dX10_skips_35 (by decide) ?_
        exact BX10_skips_39 C hK hP  (lv_sub hl [1, 2, 3, 0] rfl) hf
    · have hf := ft hf hc
      refine lv_bipush (v := (-2)) hx hb dX10_skips_18 (by decide) ?_
      exact ret_ri hx hb hr hlocks hf dX10_skips_20
/-! ===== SilenceCountModel.state(II)I ===== -/
abbrev rmX10_state : Room := { frames := 2, cells := 0, slots := 0, locals := 43 }
theorem kkX10_state : yX10_state.cls = RX10 ∧ yX10_state.cls ≠ "java/lang/invoke/MethodHandle" ∧ yX10_state.cls ≠ "java/lang/invoke/VarHandle" ∧ (parseMethodDescriptor yX10_state.desc).map (fun d => d.parameters.length) = some 2 := by decide +kernel
theorem mX10_state_f55 : Cond.fieldLink RX10 55 "SilenceCountModel" "awake" "I" ∈ wsX10_state := by decide +kernel
theorem mX10_state_f7 : Cond.fieldLink RX10 7 "SilenceCountModel" "count" "[I" ∈ wsX10_state := by decide +kernel
theorem wX10_state_X10 : ∀ w ∈ u_ws RX10 TX10 19, w ∈ wsX10_state := by decide +kernel
def fX10_state (t_there : Int32) (t_awake : Int32) (t_count : Nat → Int32) (a1 : Int32) (a2 : Int32) : Option (Int32) :=
  (fX10_isThere t_there a1).bind fun r2 => if r2 = 0 then some (-1) else if a2 = 0 then gIn a1 8 (some (t_count (a1 : Int32).toNatClampNeg)) else if a2 = 1 then some ((t_awake >>> (a1 &&& 31)) &&& 1) else some (-2)
set_option maxRecDepth 100000 in
set_option maxHeartbeats 4000000 in
theorem CX10_state (l : Launch) {D : va_G} {ty : TY} {A_t A_t_count A_t_pace A_t_sight A_t_pad A_t_now A_t_image A_t_isKept : Nat} {t_there : Int32} {t_awake : Int32} {t_house : Int32} {t_sharp : Int32} {t_sights : Int32} {t_signs : Int32} {t_up : Int32} {t_reason : Int32} {t_acts : Int32} {t_breaths : Int32} {t_zeroAt : Int32} {t_noticedAt : Int32} {t_count : Nat → Int32} {t_pace : Nat → Int32} {t_sight : Nat → Int32} {t_pad : Nat → Int32} {t_now : Nat → Int32} {t_image : Nat → Int32} {t_isKept : Nat → Int32} {a1 : Int32} {a2 : Int32} {q0 : Int32} (hf : fX10_state t_there t_awake t_count a1 a2 = some q0) : ROi l yX10_state wsX10_state rmX10_state D ty [.ref A_t, .int a1, .int a2] [(A_t, .inr (9, [.int t_there, .int t_awake, .ref A_t_count, .ref A_t_pace, .int t_house, .int t_sharp, .int t_sights, .ref A_t_sight, .int t_signs, .ref A_t_pad, .int t_up, .ref A_t_now, .int t_reason, .int t_acts, .int t_breaths, .int t_zeroAt, .int t_noticedAt, .ref A_t_image, .ref A_t_isKept])), (A_t_count, .inl (ty.1, 8, .inl t_count)), (A_t_pace, .inl (ty.1, 8, .inl t_pace)), (A_t_sight, .inl (ty.1, 24, .inl t_sight)), (A_t_pad, .inl (ty.1, 60, .inl t_pad)), (A_t_now, .inl (ty.1, 8, .inl t_now)), (A_t_image, .inl (ty.1, 120, .inl t_image)), (A_t_isKept, .inl (ty.2.2.1, 2, .inl t_isKept))] q0 := by
  refine ROi.start (cc := cX10_state) (maxL := 3) (ret := (some .int)) (own := RX10) (by decide) rfl rfl (Nat.le_of_ble_eq_true rfl) ?_
  intro p e s m below meth c ls C hK hP hl
  obtain ⟨hx, hb, hr, hml, hown, hts, hlocks⟩ := id C
  have hl : lv_has ls 3 [(0, .ref A_t), (1, .int a1), (2, .int a2)] := hl
  unfold fX10_state at hf
  refine lv_aload_n hx hb dX10_state_0 rfl (lv_at hl 0 rfl) ?_
  refine lv_iload_n hx hb dX10_state_1 rfl (lv_at hl 1 rfl) ?_
  obtain ⟨r2, hr2, hf⟩ := bnd hf
  refine callV_ri (As := [.int a1]) (rest := []) ⟨hx, hb, hml, hown, hts⟩ (CX10_isThere l hr2) (cwV 1 hts gX10_state_X10_isThere rfl rfl rfl kkX10_isThere ⟨Nat.le_of_ble_eq_true rfl, Nat.le_of_ble_eq_true rfl⟩) hK hP 0 rfl rfl rfl hl.1 rfl (Nat.le_of_ble_eq_true rfl) dX10_state_2 ⟨Nat.zero_le _, Nat.zero_le _⟩ ?_
  refine lv_if_ne (tgt := 10) hx hb dX10_state_5 (by decide) (fun hc => ?_) (fun hc => ?_)
  · have hf := ff hf hc
    refine lv_iload_n hx hb dX10_state_10 rfl (lv_at hl 2 rfl) ?_
    refine lv_if_ne (tgt := 23) hx hb dX10_state_11 (by decide) (fun hc => ?_) (fun hc => ?_)
    · have hf := ff hf hc
      refine lv_iload_n hx hb dX10_state_23 rfl (lv_at hl 2 rfl) ?_
      refine lv_iconst (v := 1) hx hb dX10_state_24 (by decide) ?_
      refine lv_icmp_ne (tgt := 39) hx hb dX10_state_25 (by decide) (fun hc => ?_) (fun hc => ?_)
      · have hf := ff hf hc
        refine lv_bipush (v := (-2)) hx hb dX10_state_39 (by decide) ?_
        exact ret_ri hx hb hr hlocks hf dX10_state_41
      · have hf := ft hf hc
        refine lv_aload_n hx hb dX10_state_28 rfl (lv_at hl 0 rfl) ?_
        refine va_get (D := D) (ci := 9) (v := .int t_awake) (C := RX10) (T := TX10) (N := 19) hx hb hts wX10_state_X10 hown hK.1 hP 0 rfl rfl 1 (by decide) (hts _ mX10_state_f55) (fun _ h9 => h9) rfl dX10_state_29 ?_
        refine lv_iload_n hx hb dX10_state_32 rfl (lv_at hl 1 rfl) ?_
        refine lv_ishr hx hb dX10_state_33 ?_
        refine lv_iconst (v := 1) hx hb dX10_state_34 (by decide) ?_
        refine lv_iand hx hb dX10_state_35 ?_
        refine lv_goto (tgt := 41) hx hb dX10_state_36 (by decide) ?_
        exact ret_ri hx hb hr hlocks hf dX10_state_41
    · have hf := ft hf hc
      refine lv_aload_n hx hb dX10_state_14 rfl (lv_at hl 0 rfl) ?_
      refine va_get (D := D) (ci := 9) (v := .ref A_t_count) (C := RX10) (T := TX10) (N := 19) hx hb hts wX10_state_X10 hown hK.1 hP 0 rfl rfl 2 (by decide) (hts _ mX10_state_f7) (fun _ h9 => h9) rfl dX10_state_15 ?_
      refine lv_iload_n hx hb dX10_state_18 rfl (lv_at hl 1 rfl) ?_
      obtain ⟨hin, hf⟩ := gIn_some hf
      refine va_iald hx hb hK.1 hP 1 0 rfl rfl hin dX10_state_19 ?_
      refine lv_goto (tgt := 41) hx hb dX10_state_20 (by decide) ?_
      exact ret_ri hx hb hr hlocks hf dX10_state_41
  · have hf := ft hf hc
    refine lv_iconst (v := (-1)) hx hb dX10_state_8 (by decide) ?_
    exact ret_ri hx hb hr hlocks hf dX10_state_9
/-! ===== SilenceCountModel.told(I)I ===== -/
abbrev rmX10_told : Room := { frames := 2, cells := 0, slots := 0, locals := 43 }
theorem kkX10_told : yX10_told.cls = RX10 ∧ yX10_told.cls ≠ "java/lang/invoke/MethodHandle" ∧ yX10_told.cls ≠ "java/lang/invoke/VarHandle" ∧ (parseMethodDescriptor yX10_told.desc).map (fun d => d.parameters.length) = some 1 := by decide +kernel
theorem mX10_told_f62 : Cond.fieldLink RX10 62 "SilenceCountModel" "signs" "I" ∈ wsX10_told := by decide +kernel
theorem mX10_told_f40 : Cond.fieldLink RX10 40 "SilenceCountModel" "there" "I" ∈ wsX10_told := by decide +kernel
theorem mX10_told_f55 : Cond.fieldLink RX10 55 "SilenceCountModel" "awake" "I" ∈ wsX10_told := by decide +kernel
theorem mX10_told_f17 : Cond.fieldLink RX10 17 "SilenceCountModel" "house" "I" ∈ wsX10_told := by decide +kernel
theorem mX10_told_f21 : Cond.fieldLink RX10 21 "SilenceCountModel" "sharp" "I" ∈ wsX10_told := by decide +kernel
theorem mX10_told_f158 : Cond.fieldLink RX10 158 "SilenceCountModel" "sights" "I" ∈ wsX10_told := by decide +kernel
theorem mX10_told_f13 : Cond.fieldLink RX10 13 "SilenceCountModel" "pace" "[I" ∈ wsX10_told := by decide +kernel
theorem wX10_told_X10 : ∀ w ∈ u_ws RX10 TX10 19, w ∈ wsX10_told := by decide +kernel
def fX10_told (t_there : Int32) (t_awake : Int32) (t_house : Int32) (t_sharp : Int32) (t_sights : Int32) (t_signs : Int32) (t_pace : Nat → Int32) (a1 : Int32) : Option (Int32) :=
  if a1 < 10 then if a1 = 0 then some t_signs else if a1 = 1 then some t_there else if a1 = 2 then some t_awake else if a1 = 3 then some t_house else if a1 = 4 then some t_sharp else if a1 = 5 then some t_sights else some (-2) else (fX10_isThere t_there (a1 - 10)).bind fun r11 => if r11 = 0 then some (-2) else gIn (a1 - 10) 8 (some (t_pace (a1 - 10 : Int32).toNatClampNeg))
set_option maxRecDepth 100000 in
set_option maxHeartbeats 4000000 in
theorem CX10_told (l : Launch) {D : va_G} {ty : TY} {A_t A_t_count A_t_pace A_t_sight A_t_pad A_t_now A_t_image A_t_isKept : Nat} {t_there : Int32} {t_awake : Int32} {t_house : Int32} {t_sharp : Int32} {t_sights : Int32} {t_signs : Int32} {t_up : Int32} {t_reason : Int32} {t_acts : Int32} {t_breaths : Int32} {t_zeroAt : Int32} {t_noticedAt : Int32} {t_count : Nat → Int32} {t_pace : Nat → Int32} {t_sight : Nat → Int32} {t_pad : Nat → Int32} {t_now : Nat → Int32} {t_image : Nat → Int32} {t_isKept : Nat → Int32} {a1 : Int32} {q0 : Int32} (hf : fX10_told t_there t_awake t_house t_sharp t_sights t_signs t_pace a1 = some q0) : ROi l yX10_told wsX10_told rmX10_told D ty [.ref A_t, .int a1] [(A_t, .inr (9, [.int t_there, .int t_awake, .ref A_t_count, .ref A_t_pace, .int t_house, .int t_sharp, .int t_sights, .ref A_t_sight, .int t_signs, .ref A_t_pad, .int t_up, .ref A_t_now, .int t_reason, .int t_acts, .int t_breaths, .int t_zeroAt, .int t_noticedAt, .ref A_t_image, .ref A_t_isKept])), (A_t_count, .inl (ty.1, 8, .inl t_count)), (A_t_pace, .inl (ty.1, 8, .inl t_pace)), (A_t_sight, .inl (ty.1, 24, .inl t_sight)), (A_t_pad, .inl (ty.1, 60, .inl t_pad)), (A_t_now, .inl (ty.1, 8, .inl t_now)), (A_t_image, .inl (ty.1, 120, .inl t_image)), (A_t_isKept, .inl (ty.2.2.1, 2, .inl t_isKept))] q0 := by
  refine ROi.start (cc := cX10_told) (maxL := 2) (ret := (some .int)) (own := RX10) (by decide) rfl rfl (Nat.le_of_ble_eq_true rfl) ?_
  intro p e s m below meth c ls C hK hP hl
  obtain ⟨hx, hb, hr, hml, hown, hts, hlocks⟩ := id C
  have hl : lv_has ls 2 [(0, .ref A_t), (1, .int a1)] := hl
  unfold fX10_told at hf
  refine lv_iload_n hx hb dX10_told_0 rfl (lv_at hl 1 rfl) ?_
  refine lv_bipush (v := 10) hx hb dX10_told_1 (by decide) ?_
  refine lv_icmp_lt (tgt := 32) hx hb dX10_told_3 (by decide) (fun hc => ?_) (fun hc => ?_)
  · have hf := ft hf hc
    refine lv_iload_n hx hb dX10_told_32 rfl (lv_at hl 1 rfl) ?_
    by_cases hc0 : a1 = 0
    · have hf := ft hf hc0
      refine lv_tableIn (tgt := 68) hx hb dX10_told_33 (by rw [hc0]; decide) (by rw [hc0]; decide) (by rw [hc0] <;> rfl) (by decide) ?_
      refine lv_aload_n hx hb dX10_told_68 rfl (lv_at hl 0 rfl) ?_
      refine va_get (D := D) (ci := 9) (v := .int t_signs) (C := RX10) (T := TX10) (N := 19) hx hb hts wX10_told_X10 hown hK.1 hP 0 rfl rfl 8 (by decide) (hts _ mX10_told_f62) (fun _ h9 => h9) rfl dX10_told_69 ?_
      exact ret_ri hx hb hr hlocks hf dX10_told_72
    · have hf := ff hf hc0
      by_cases hc1 : a1 = 1
      · have hf := ft hf hc1
        refine lv_tableIn (tgt := 73) hx hb dX10_told_33 (by rw [hc1]; decide) (by rw [hc1]; decide) (by rw [hc1] <;> rfl) (by decide) ?_
        refine lv_aload_n hx hb dX10_told_73 rfl (lv_at hl 0 rfl) ?_
        refine va_get (D := D) (ci := 9) (v := .int t_there) (C := RX10) (T := TX10) (N := 19) hx hb hts wX10_told_X10 hown hK.1 hP 0 rfl rfl 0 (by decide) (hts _ mX10_told_f40) (fun _ h9 => h9) rfl dX10_told_74 ?_
        exact ret_ri hx hb hr hlocks hf dX10_told_77
      · have hf := ff hf hc1
        by_cases hc2 : a1 = 2
        · have hf := ft hf hc2
          refine lv_tableIn (tgt := 78) hx hb dX10_told_33 (by rw [hc2]; decide) (by rw [hc2]; decide) (by rw [hc2] <;> rfl) (by decide) ?_
          refine lv_aload_n hx hb dX10_told_78 rfl (lv_at hl 0 rfl) ?_
          refine va_get (D := D) (ci := 9) (v := .int t_awake) (C := RX10) (T := TX10) (N := 19) hx hb hts wX10_told_X10 hown hK.1 hP 0 rfl rfl 1 (by decide) (hts _ mX10_told_f55) (fun _ h9 => h9) rfl dX10_told_79 ?_
          exact ret_ri hx hb hr hlocks hf dX10_told_82
        · have hf := ff hf hc2
          by_cases hc3 : a1 = 3
          · have hf := ft hf hc3
            refine lv_tableIn (tgt := 83) hx hb dX10_told_33 (by rw [hc3]; decide) (by rw [hc3]; decide) (by rw [hc3] <;> rfl) (by decide) ?_
            refine lv_aload_n hx hb dX10_told_83 rfl (lv_at hl 0 rfl) ?_
            refine va_get (D := D) (ci := 9) (v := .int t_house) (C := RX10) (T := TX10) (N := 19) hx hb hts wX10_told_X10 hown hK.1 hP 0 rfl rfl 4 (by decide) (hts _ mX10_told_f17) (fun _ h9 => h9) rfl dX10_told_84 ?_
            exact ret_ri hx hb hr hlocks hf dX10_told_87
          · have hf := ff hf hc3
            by_cases hc4 : a1 = 4
            · have hf := ft hf hc4
              refine lv_tableIn (tgt := 88) hx hb dX10_told_33 (by rw [hc4]; decide) (by rw [hc4]; decide) (by rw [hc4] <;> rfl) (by decide) ?_
              refine lv_aload_n hx hb dX10_told_88 rfl (lv_at hl 0 rfl) ?_
              refine va_get (D := D) (ci := 9) (v := .int t_sharp) (C := RX10) (T := TX10) (N := 19) hx hb hts wX10_told_X10 hown hK.1 hP 0 rfl rfl 5 (by decide) (hts _ mX10_told_f21) (fun _ h9 => h9) rfl dX10_told_89 ?_
              exact ret_ri hx hb hr hlocks hf dX10_told_92
            · have hf := ff hf hc4
              refine lv_tableOut (tgt := 93) hx hb dX10_told_33 (by have h0 := sw_ne 0 (by decide) hc0; have h1 := sw_ne 1 (by decide) hc1; have h2 := sw_ne 2 (by decide) hc2; have h3 := sw_ne 3 (by decide) hc3; have h4 := sw_ne 4 (by decide) hc4; omega) (by decide) ?_
              refine lv_iload_n hx hb dX10_told_93 rfl (lv_at hl 1 rfl) ?_
              refine lv_iconst (v := 5) hx hb dX10_told_94 (by decide) ?_
              refine lv_icmp_ne (tgt := 105) hx hb dX10_told_95 (by decide) (fun hc => ?_) (fun hc => ?_)
              · have hf := ff hf hc
                refine lv_bipush (v := (-2)) hx hb dX10_told_105 (by decide) ?_
                exact ret_ri hx hb hr hlocks hf dX10_told_107
              · have hf := ft hf hc
                refine lv_aload_n hx hb dX10_told_98 rfl (lv_at hl 0 rfl) ?_
                refine va_get (D := D) (ci := 9) (v := .int t_sights) (C := RX10) (T := TX10) (N := 19) hx hb hts wX10_told_X10 hown hK.1 hP 0 rfl rfl 6 (by decide) (hts _ mX10_told_f158) (fun _ h9 => h9) rfl dX10_told_99 ?_
                refine lv_goto (tgt := 107) hx hb dX10_told_102 (by decide) ?_
                exact ret_ri hx hb hr hlocks hf dX10_told_107
  · have hf := ff hf hc
    refine lv_aload_n hx hb dX10_told_6 rfl (lv_at hl 0 rfl) ?_
    refine lv_iload_n hx hb dX10_told_7 rfl (lv_at hl 1 rfl) ?_
    refine lv_bipush (v := 10) hx hb dX10_told_8 (by decide) ?_
    refine lv_isub hx hb dX10_told_10 ?_
    obtain ⟨r11, hr11, hf⟩ := bnd hf
    refine callV_ri (As := [.int (a1 - 10)]) (rest := []) ⟨hx, hb, hml, hown, hts⟩ (CX10_isThere l hr11) (cwV 1 hts gX10_told_X10_isThere rfl rfl rfl kkX10_isThere ⟨Nat.le_of_ble_eq_true rfl, Nat.le_of_ble_eq_true rfl⟩) hK hP 0 rfl rfl rfl hl.1 rfl (Nat.le_of_ble_eq_true rfl) dX10_told_11 ⟨Nat.zero_le _, Nat.zero_le _⟩ ?_
    refine lv_if_eq (tgt := 29) hx hb dX10_told_14 (by decide) (fun hc => ?_) (fun hc => ?_)
    · have hf := ft hf hc
      refine lv_bipush (v := (-2)) hx hb dX10_told_29 (by decide) ?_
      exact ret_ri hx hb hr hlocks hf dX10_told_31
    · have hf := ff hf hc
      refine lv_aload_n hx hb dX10_told_17 rfl (lv_at hl 0 rfl) ?_
      refine va_get (D := D) (ci := 9) (v := .ref A_t_pace) (C := RX10) (T := TX10) (N := 19) hx hb hts wX10_told_X10 hown hK.1 hP 0 rfl rfl 3 (by decide) (hts _ mX10_told_f13) (fun _ h9 => h9) rfl dX10_told_18 ?_
      refine lv_iload_n hx hb dX10_told_21 rfl (lv_at hl 1 rfl) ?_
      refine lv_bipush (v := 10) hx hb dX10_told_22 (by decide) ?_
      refine lv_isub hx hb dX10_told_24 ?_
      obtain ⟨hin, hf⟩ := gIn_some hf
      refine va_iald hx hb hK.1 hP 2 0 rfl rfl hin dX10_told_25 ?_
      refine lv_goto (tgt := 31) hx hb dX10_told_26 (by decide) ?_
      exact ret_ri hx hb hr hlocks hf dX10_told_31
