/-! ===== SilenceCountModel.barOfHours()I ===== -/
abbrev rmX10_barOfHours : Room := { frames := 4, cells := 0, slots := 0, locals := 92 }
theorem kkX10_barOfHours : yX10_barOfHours.cls = RX10 ∧ yX10_barOfHours.cls ≠ "java/lang/invoke/MethodHandle" ∧ yX10_barOfHours.cls ≠ "java/lang/invoke/VarHandle" ∧ (parseMethodDescriptor yX10_barOfHours.desc).map (fun d => d.parameters.length) = some 0 := by decide +kernel
def fX10_barOfHours (t_there : Int32) (t_awake : Int32) (t_house : Int32) (t_sharp : Int32) (t_signs : Int32) (t_up : Int32) (t_reason : Int32) (t_acts : Int32) (t_breaths : Int32) (t_zeroAt : Int32) (t_noticedAt : Int32) (t_count : Nat → Int32) (t_pace : Nat → Int32) (t_pad : Nat → Int32) (t_now : Nat → Int32) : Option (Int32 × Int32 × Int32 × Int32 × Int32 × Int32 × Int32 × (Nat → Int32)) :=
  (fX10_faultOf t_signs t_pad).bind fun r1 => if 0 ≤ r1 then some ((-5), t_up, t_reason, t_acts, t_breaths, t_zeroAt, t_noticedAt, t_now) else (fX10_goHours t_there t_awake t_house t_sharp t_signs t_up t_reason t_acts t_breaths t_zeroAt t_noticedAt t_count t_pace t_pad t_now).bind fun r8 => if r8.1 < 0 then some (0, r8.2.1, r8.2.2.1, r8.2.2.2.1, r8.2.2.2.2.1, r8.2.2.2.2.2.1, r8.2.2.2.2.2.2.1, r8.2.2.2.2.2.2.2) else some ((-5), r8.2.1, r8.2.2.1, r8.2.2.2.1, r8.2.2.2.2.1, r8.2.2.2.2.2.1, r8.2.2.2.2.2.2.1, r8.2.2.2.2.2.2.2)
set_option maxRecDepth 100000 in
set_option maxHeartbeats 4000000 in
theorem CX10_barOfHours (l : Launch) {D : va_G} {ty : TY} {A_t A_t_count A_t_pace A_t_sight A_t_pad A_t_now A_t_image A_t_isKept : Nat} {t_there : Int32} {t_awake : Int32} {t_house : Int32} {t_sharp : Int32} {t_sights : Int32} {t_signs : Int32} {t_up : Int32} {t_reason : Int32} {t_acts : Int32} {t_breaths : Int32} {t_zeroAt : Int32} {t_noticedAt : Int32} {t_count : Nat → Int32} {t_pace : Nat → Int32} {t_sight : Nat → Int32} {t_pad : Nat → Int32} {t_now : Nat → Int32} {t_image : Nat → Int32} {t_isKept : Nat → Int32} {q0 : Int32 × Int32 × Int32 × Int32 × Int32 × Int32 × Int32 × (Nat → Int32)} (hf : fX10_barOfHours t_there t_awake t_house t_sharp t_signs t_up t_reason t_acts t_breaths t_zeroAt t_noticedAt t_count t_pace t_pad t_now = some q0) : RWi l yX10_barOfHours wsX10_barOfHours rmX10_barOfHours D ty [.ref A_t] [(A_t, .inr (9, [.int t_there, .int t_awake, .ref A_t_count, .ref A_t_pace, .int t_house, .int t_sharp, .int t_sights, .ref A_t_sight, .int t_signs, .ref A_t_pad, .int t_up, .ref A_t_now, .int t_reason, .int t_acts, .int t_breaths, .int t_zeroAt, .int t_noticedAt, .ref A_t_image, .ref A_t_isKept])), (A_t_count, .inl (ty.1, 8, .inl t_count)), (A_t_pace, .inl (ty.1, 8, .inl t_pace)), (A_t_sight, .inl (ty.1, 24, .inl t_sight)), (A_t_pad, .inl (ty.1, 60, .inl t_pad)), (A_t_now, .inl (ty.1, 8, .inl t_now)), (A_t_image, .inl (ty.1, 120, .inl t_image)), (A_t_isKept, .inl (ty.2.2.1, 2, .inl t_isKept))] q0.1 [(A_t, .inr (9, [.int t_there, .int t_awake, .ref A_t_count, .ref A_t_pace, .int t_house, .int t_sharp, .int t_sights, .ref A_t_sight, .int t_signs, .ref A_t_pad, .int q0.2.1, .ref A_t_now, .int q0.2.2.1, .int q0.2.2.2.1, .int q0.2.2.2.2.1, .int q0.2.2.2.2.2.1, .int q0.2.2.2.2.2.2.1, .ref A_t_image, .ref A_t_isKept])), (A_t_count, .inl (ty.1, 8, .inl t_count)), (A_t_pace, .inl (ty.1, 8, .inl t_pace)), (A_t_sight, .inl (ty.1, 24, .inl t_sight)), (A_t_pad, .inl (ty.1, 60, .inl t_pad)), (A_t_now, .inl (ty.1, 8, .inl q0.2.2.2.2.2.2.2)), (A_t_image, .inl (ty.1, 120, .inl t_image)), (A_t_isKept, .inl (ty.2.2.1, 2, .inl t_isKept))] := by
  refine RWi.start (cc := cX10_barOfHours) (maxL := 1) (ret := (some .int)) (own := RX10) (by decide) rfl rfl (Nat.le_of_ble_eq_true rfl) ?_
  intro p e s m below meth c ls C hK hP hD hS hl
  obtain ⟨WC, hWC⟩ : ∃ w : va_W, w = [(A_t, .inr (9, [.int t_there, .int t_awake, .ref A_t_count, .ref A_t_pace, .int t_house, .int t_sharp, .int t_sights, .ref A_t_sight, .int t_signs, .ref A_t_pad, .int t_up, .ref A_t_now, .int t_reason, .int t_acts, .int t_breaths, .int t_zeroAt, .int t_noticedAt, .ref A_t_image, .ref A_t_isKept])), (A_t_count, .inl (ty.1, 8, .inl t_count)), (A_t_pace, .inl (ty.1, 8, .inl t_pace)), (A_t_sight, .inl (ty.1, 24, .inl t_sight)), (A_t_pad, .inl (ty.1, 60, .inl t_pad)), (A_t_now, .inl (ty.1, 8, .inl t_now)), (A_t_image, .inl (ty.1, 120, .inl t_image)), (A_t_isKept, .inl (ty.2.2.1, 2, .inl t_isKept))] := ⟨_, rfl⟩
  rw [← hWC] at hD hS ⊢
  have hD : va_D (va_A WC s.heap.size) [(A_t, .inr (9, [.int t_there, .int t_awake, .ref A_t_count, .ref A_t_pace, .int t_house, .int t_sharp, .int t_sights, .ref A_t_sight, .int t_signs, .ref A_t_pad, .int t_up, .ref A_t_now, .int t_reason, .int t_acts, .int t_breaths, .int t_zeroAt, .int t_noticedAt, .ref A_t_image, .ref A_t_isKept])), (A_t_count, .inl (ty.1, 8, .inl t_count)), (A_t_pace, .inl (ty.1, 8, .inl t_pace)), (A_t_sight, .inl (ty.1, 24, .inl t_sight)), (A_t_pad, .inl (ty.1, 60, .inl t_pad)), (A_t_now, .inl (ty.1, 8, .inl t_now)), (A_t_image, .inl (ty.1, 120, .inl t_image)), (A_t_isKept, .inl (ty.2.2.1, 2, .inl t_isKept))] := by rw [← hWC]; exact hD
  obtain ⟨hx, hb, hr, hml, hown, hts, hlocks⟩ := id C
  have hl : lv_has ls 1 [(0, .ref A_t)] := hl
  unfold fX10_barOfHours at hf
  refine lv_aload_n hx hb dX10_barOfHours_0 rfl (lv_at hl 0 rfl) ?_
  obtain ⟨r1, hr1, hf⟩ := bnd hf
  refine callV_ri (As := []) (rest := []) ⟨hx, hb, hml, hown, hts⟩ (CX10_faultOf l hr1) (cwV 0 hts gX10_barOfHours_X10_faultOf rfl rfl rfl kkX10_faultOf ⟨Nat.le_of_ble_eq_true rfl, Nat.le_of_ble_eq_true rfl⟩) hK hP 0 rfl rfl rfl hl.1 rfl (Nat.le_of_ble_eq_true rfl) dX10_barOfHours_1 ⟨Nat.zero_le _, Nat.zero_le _⟩ ?_
  refine lv_if_ge (tgt := 14) hx hb dX10_barOfHours_4 (by decide) (fun hc => ?_) (fun hc => ?_)
  · have hf := ft hf hc
    refine lv_bipush (v := (-5)) hx hb dX10_barOfHours_14 (by decide) ?_
    refine lv_goto (tgt := 20) hx hb dX10_barOfHours_16 (by decide) ?_
    cases hf
    exact ret_wi hx hb hr hlocks hP hD hS dX10_barOfHours_20
  · have hf := ff hf hc
    refine lv_aload_n hx hb dX10_barOfHours_7 rfl (lv_at hl 0 rfl) ?_
    obtain ⟨r8, hr8, hf⟩ := bnd hf
    refine callV_wi (As := []) (rest := []) ⟨hx, hb, hml, hown, hts⟩ (CX10_goHours l hr8) (cwV 0 hts gX10_barOfHours_X10_goHours rfl rfl rfl kkX10_goHours ⟨Nat.le_of_ble_eq_true rfl, Nat.le_of_ble_eq_true rfl⟩) hK hP hD hS (fun _ h => Or.inr h) [0, 1, 2, 3, 4, 5, 6, 7] [] [0, 1, 2, 3, 4, 5, 6, 7] rfl (by decide) (by decide) rfl rfl 0 rfl rfl rfl hl.1 rfl (Nat.le_of_ble_eq_true rfl) dX10_barOfHours_8 ⟨Nat.zero_le _, Nat.zero_le _⟩ (fun H locs hP hD hS => ?_)
    have hP : va_P D vwCl [(A_t, .inr (9, [.int t_there, .int t_awake, .ref A_t_count, .ref A_t_pace, .int t_house, .int t_sharp, .int t_sights, .ref A_t_sight, .int t_signs, .ref A_t_pad, .int r8.2.1, .ref A_t_now, .int r8.2.2.1, .int r8.2.2.2.1, .int r8.2.2.2.2.1, .int r8.2.2.2.2.2.1, .int r8.2.2.2.2.2.2.1, .ref A_t_image, .ref A_t_isKept])), (A_t_count, .inl (ty.1, 8, .inl t_count)), (A_t_pace, .inl (ty.1, 8, .inl t_pace)), (A_t_sight, .inl (ty.1, 24, .inl t_sight)), (A_t_pad, .inl (ty.1, 60, .inl t_pad)), (A_t_now, .inl (ty.1, 8, .inl r8.2.2.2.2.2.2.2)), (A_t_image, .inl (ty.1, 120, .inl t_image)), (A_t_isKept, .inl (ty.2.2.1, 2, .inl t_isKept))] H := hP
    have hD : va_D (va_A WC s.heap.size) [(A_t, .inr (9, [.int t_there, .int t_awake, .ref A_t_count, .ref A_t_pace, .int t_house, .int t_sharp, .int t_sights, .ref A_t_sight, .int t_signs, .ref A_t_pad, .int r8.2.1, .ref A_t_now, .int r8.2.2.1, .int r8.2.2.2.1, .int r8.2.2.2.2.1, .int r8.2.2.2.2.2.1, .int r8.2.2.2.2.2.2.1, .ref A_t_image, .ref A_t_isKept])), (A_t_count, .inl (ty.1, 8, .inl t_count)), (A_t_pace, .inl (ty.1, 8, .inl t_pace)), (A_t_sight, .inl (ty.1, 24, .inl t_sight)), (A_t_pad, .inl (ty.1, 60, .inl t_pad)), (A_t_now, .inl (ty.1, 8, .inl r8.2.2.2.2.2.2.2)), (A_t_image, .inl (ty.1, 120, .inl t_image)), (A_t_isKept, .inl (ty.2.2.1, 2, .inl t_isKept))] := hD
    refine lv_if_lt (tgt := 19) hx hb dX10_barOfHours_11 (by decide) (fun hc => ?_) (fun hc => ?_)
    · have hf := ft hf hc
      refine lv_iconst (v := 0) hx hb dX10_barOfHours_19 (by decide) ?_
      cases hf
      exact ret_wi hx hb hr hlocks hP hD hS dX10_barOfHours_20
    · have hf := ff hf hc
      refine lv_bipush (v := (-5)) hx hb dX10_barOfHours_14 (by decide) ?_
      refine lv_goto (tgt := 20) hx hb dX10_barOfHours_16 (by decide) ?_
      cases hf
      exact ret_wi hx hb hr hlocks hP hD hS dX10_barOfHours_20
/-! ===== SilenceCountModel.beads(II)I ===== -/
abbrev rmX10_beads : Room := { frames := 1, cells := 0, slots := 0, locals := 22 }
theorem kkX10_beads : yX10_beads.cls = RX10 ∧ yX10_beads.cls ≠ "java/lang/invoke/MethodHandle" ∧ yX10_beads.cls ≠ "java/lang/invoke/VarHandle" ∧ (parseMethodDescriptor yX10_beads.desc).map (fun d => d.parameters.length) = some 2 := by decide +kernel
theorem mX10_beads_k75 : Cond.constant RX10 75 (100000000) ∈ wsX10_beads := by decide +kernel
def bX10_beads_43 (k32 : Int32 × Int32 × Int32 → Option (Int32)) (k43 : Int32 × Int32 × Int32 × Int32 → Option (Int32)) (a1 : Int32) (v3 : Int32) (v4 : Int32) (v5 : Int32) (v6 : Int32) : Option (Int32) :=
  if a1 < ((5 * v5) + (7 * v6)) then k32 (v3, v4, v5 + 1) else if (((a1 - (5 * v5)) - (7 * v6)) - ((a1 - (5 * v5)) - (7 * v6)) / 12 * 12) = 0 then if v4 ≤ ((v5 + v6) + (((a1 - (5 * v5)) - (7 * v6)) / 12)) then k43 (v3 + 1, v4, v5, v6 + 1) else k43 (v3 + 1, (v5 + v6) + (((a1 - (5 * v5)) - (7 * v6)) / 12), v5, v6 + 1) else k43 (v3, v4, v5, v6 + 1)
set_option maxRecDepth 100000 in
set_option maxHeartbeats 4000000 in
theorem BX10_beads_43 {p : Program} {l : Launch} {e : Env} {s : State} {m : MethodId} {below : List Frame} {meth : Method} {c : Code} {D : va_G} {ty : TY} {A_t A_t_count A_t_pace A_t_sight A_t_pad A_t_now A_t_image A_t_isKept : Nat} {t_there : Int32} {t_awake : Int32} {t_house : Int32} {t_sharp : Int32} {t_sights : Int32} {t_signs : Int32} {t_up : Int32} {t_reason : Int32} {t_acts : Int32} {t_breaths : Int32} {t_zeroAt : Int32} {t_noticedAt : Int32} {t_count : Nat → Int32} {t_pace : Nat → Int32} {t_sight : Nat → Int32} {t_pad : Nat → Int32} {t_now : Nat → Int32} {t_image : Nat → Int32} {t_isKept : Nat → Int32} {a1 : Int32} {a2 : Int32} {q0 : Int32} (C : cx p s m [.ref A_t, .int a1, .int a2] meth c cX10_beads 8 (some .int) RX10 wsX10_beads) (hK : KK D ty s) (hP : va_P D vwCl [(A_t, .inr (9, [.int t_there, .int t_awake, .ref A_t_count, .ref A_t_pace, .int t_house, .int t_sharp, .int t_sights, .ref A_t_sight, .int t_signs, .ref A_t_pad, .int t_up, .ref A_t_now, .int t_reason, .int t_acts, .int t_breaths, .int t_zeroAt, .int t_noticedAt, .ref A_t_image, .ref A_t_isKept])), (A_t_count, .inl (ty.1, 8, .inl t_count)), (A_t_pace, .inl (ty.1, 8, .inl t_pace)), (A_t_sight, .inl (ty.1, 24, .inl t_sight)), (A_t_pad, .inl (ty.1, 60, .inl t_pad)), (A_t_now, .inl (ty.1, 8, .inl t_now)), (A_t_image, .inl (ty.1, 120, .inl t_image)), (A_t_isKept, .inl (ty.2.2.1, 2, .inl t_isKept))] s.heap) {k32 : Int32 × Int32 × Int32 → Option (Int32)} (hk32 : ∀ (v3 : Int32) (v4 : Int32) (v5 : Int32) (ls : Array Slot), lv_has ls 8 [(1, .int a1), (2, .int a2), (3, .int v3), (4, .int v4), (5, .int v5)] → k32 (v3, v4, v5) = some q0 → WRi p l e rmX10_beads s m [.ref A_t, .int a1, .int a2] below meth c q0 (F0 m 32 ls [])) : ∀ (n : Nat) (v3 : Int32) (v4 : Int32) (v5 : Int32) (v6 : Int32) (ls : Array Slot), lv_has ls 8 [(1, .int a1), (2, .int a2), (3, .int v3), (4, .int v4), (5, .int v5), (6, .int v6)] → loopF (fun k q => bX10_beads_43 k32 k a1 q.1 q.2.1 q.2.2.1 q.2.2.2) n (v3, v4, v5, v6) = some q0 → WRi p l e rmX10_beads s m [.ref A_t, .int a1, .int a2] below meth c q0 (F0 m 43 ls []) := by
  obtain ⟨hx, hb, hr, hml, hown, hts, hlocks⟩ := id C
  intro n
  induction n with
  | zero =>
    intro v3 v4 v5 v6 ls hl hf
    cases hf
  | succ n ih =>
    intro v3 v4 v5 v6 ls hl hf
    have hf : bX10_beads_43 k32 (loopF (fun k q => bX10_beads_43 k32 k a1 q.1 q.2.1 q.2.2.1 q.2.2.2) n) a1 v3 v4 v5 v6 = some q0 := hf
    have hk43 := ih
    unfold bX10_beads_43 at hf
    refine lv_iconst (v := 5) hx hb dX10_beads_43 (by decide) ?_
    refine lv_iload hx hb dX10_beads_44 (lv_at hl 4 rfl) ?_
    refine lv_imul hx hb dX10_beads_46 ?_
    refine lv_bipush (v := 7) hx hb dX10_beads_47 (by decide) ?_
    refine lv_iload hx hb dX10_beads_49 (lv_at hl 5 rfl) ?_
    refine lv_imul hx hb dX10_beads_51 ?_
    refine lv_iadd hx hb dX10_beads_52 ?_
    refine lv_iload_n hx hb dX10_beads_53 rfl (lv_at hl 0 rfl) ?_
    refine lv_icmp_gt (tgt := 122) hx hb dX10_beads_54 (by decide) (fun hc => ?_) (fun hc => ?_)
    · have hf := ft hf hc
      refine lv_iinc (v := v5 + 1) (lv' := [(5, .int (v5 + 1)), (1, .int a1), (2, .int a2), (3, .int v3), (4, .int v4), (6, .int v6)]) hx hb dX10_beads_122 hl (k := 4) rfl rfl (by decide) rfl (fun ls hl => ?_)
      refine lv_goto (tgt := 32) hx hb dX10_beads_125 (by decide) ?_
      exact hk32 _ _ _ _ (lv_sub hl [1, 2, 3, 4, 0] rfl) hf
    · have hf := ff hf hc
      refine lv_iload_n hx hb dX10_beads_57 rfl (lv_at hl 0 rfl) ?_
      refine lv_iconst (v := 5) hx hb dX10_beads_58 (by decide) ?_
      refine lv_iload hx hb dX10_beads_59 (lv_at hl 4 rfl) ?_
      refine lv_imul hx hb dX10_beads_61 ?_
      refine lv_isub hx hb dX10_beads_62 ?_
      refine lv_bipush (v := 7) hx hb dX10_beads_63 (by decide) ?_
      refine lv_iload hx hb dX10_beads_65 (lv_at hl 5 rfl) ?_
      refine lv_imul hx hb dX10_beads_67 ?_
      refine lv_isub hx hb dX10_beads_68 ?_
      refine lv_istore (lv' := [(7, .int ((a1 - (5 * v5)) - (7 * v6))), (1, .int a1), (2, .int a2), (3, .int v3), (4, .int v4), (5, .int v5), (6, .int v6)]) hx hb dX10_beads_69 hl (by decide) rfl (fun ls hl => ?_)
      refine lv_iload hx hb dX10_beads_71 (lv_at hl 0 rfl) ?_
      refine lv_bipush (v := 12) hx hb dX10_beads_73 (by decide) ?_
      refine lv_irem hx hb dX10_beads_75 (by decide) ?_
      refine lv_if_ne (tgt := 116) hx hb dX10_beads_76 (by decide) (fun hc => ?_) (fun hc => ?_)
      · have hf := ff hf hc
        refine lv_iinc (v := v6 + 1) (lv' := [(6, .int (v6 + 1)), (7, .int ((a1 - (5 * v5)) - (7 * v6))), (1, .int a1), (2, .int a2), (3, .int v3), (4, .int v4), (5, .int v5)]) hx hb dX10_beads_116 hl (k := 6) rfl rfl (by decide) rfl (fun ls hl => ?_)
        refine lv_goto (tgt := 43) hx hb dX10_beads_119 (by decide) ?_
        exact hk43 _ _ _ _ _ (lv_sub hl [2, 3, 4, 5, 6, 0] rfl) hf
      · have hf := ft hf hc
        refine lv_iinc (v := v3 + 1) (lv' := [(3, .int (v3 + 1)), (7, .int ((a1 - (5 * v5)) - (7 * v6))), (1, .int a1), (2, .int a2), (4, .int v4), (5, .int v5), (6, .int v6)]) hx hb dX10_beads_79 hl (k := 3) rfl rfl (by decide) rfl (fun ls hl => ?_)
        refine lv_iload hx hb dX10_beads_82 (lv_at hl 5 rfl) ?_
        refine lv_iload hx hb dX10_beads_84 (lv_at hl 6 rfl) ?_
        refine lv_iadd hx hb dX10_beads_86 ?_
        refine lv_iload hx hb dX10_beads_87 (lv_at hl 1 rfl) ?_
        refine lv_bipush (v := 12) hx hb dX10_beads_89 (by decide) ?_
        refine lv_idiv hx hb dX10_beads_91 (by decide) ?_
        refine lv_iadd hx hb dX10_beads_92 ?_
        refine lv_iload hx hb dX10_beads_93 (lv_at hl 4 rfl) ?_
        refine lv_icmp_ge (tgt := 112) hx hb dX10_beads_95 (by decide) (fun hc => ?_) (fun hc => ?_)
        · have hf := ft hf hc
          refine lv_iload hx hb dX10_beads_112 (lv_at hl 4 rfl) ?_
          refine lv_istore (lv' := [(4, .int v4), (3, .int (v3 + 1)), (7, .int ((a1 - (5 * v5)) - (7 * v6))), (1, .int a1), (2, .int a2), (5, .int v5), (6, .int v6)]) hx hb dX10_beads_114 hl (by decide) rfl (fun ls hl => ?_)
          refine lv_iinc (v := v6 + 1) (lv' := [(6, .int (v6 + 1)), (4, .int v4), (3, .int (v3 + 1)), (7, .int ((a1 - (5 * v5)) - (7 * v6))), (1, .int a1), (2, .int a2), (5, .int v5)]) hx hb dX10_beads_116 hl (k := 6) rfl rfl (by decide) rfl (fun ls hl => ?_)
          refine lv_goto (tgt := 43) hx hb dX10_beads_119 (by decide) ?_
          exact hk43 _ _ _ _ _ (lv_sub hl [4, 5, 2, 1, 6, 0] rfl) hf
        · have hf := ff hf hc
          refine lv_iload hx hb dX10_beads_98 (lv_at hl 5 rfl) ?_
          refine lv_iload hx hb dX10_beads_100 (lv_at hl 6 rfl) ?_
          refine lv_iadd hx hb dX10_beads_102 ?_
          refine lv_iload hx hb dX10_beads_103 (lv_at hl 1 rfl) ?_
          refine lv_bipush (v := 12) hx hb dX10_beads_105 (by decide) ?_
          refine lv_idiv hx hb dX10_beads_107 (by decide) ?_
          refine lv_iadd hx hb dX10_beads_108 ?_
          refine lv_goto (tgt := 114) hx hb dX10_beads_109 (by decide) ?_
          refine lv_istore (lv' := [(4, .int ((v5 + v6) + (((a1 - (5 * v5)) - (7 * v6)) / 12))), (3, .int (v3 + 1)), (7, .int ((a1 - (5 * v5)) - (7 * v6))), (1, .int a1), (2, .int a2), (5, .int v5), (6, .int v6)]) hx hb dX10_beads_114 hl (by decide) rfl (fun ls hl => ?_)
          refine lv_iinc (v := v6 + 1) (lv' := [(6, .int (v6 + 1)), (4, .int ((v5 + v6) + (((a1 - (5 * v5)) - (7 * v6)) / 12))), (3, .int (v3 + 1)), (7, .int ((a1 - (5 * v5)) - (7 * v6))), (1, .int a1), (2, .int a2), (5, .int v5)]) hx hb dX10_beads_116 hl (k := 6) rfl rfl (by decide) rfl (fun ls hl => ?_)
          refine lv_goto (tgt := 43) hx hb dX10_beads_119 (by decide) ?_
          exact hk43 _ _ _ _ _ (lv_sub hl [4, 5, 2, 1, 6, 0] rfl) hf
def bX10_beads_32 (k32 : Int32 × Int32 × Int32 → Option (Int32)) (a1 : Int32) (a2 : Int32) (v3 : Int32) (v4 : Int32) (v5 : Int32) : Option (Int32) :=
  if a1 < (5 * v5) then if a2 = 1 then some v3 else if v4 = 100000000 then some (-6) else some v4 else loopF (fun k q => bX10_beads_43 k32 k a1 q.1 q.2.1 q.2.2.1 q.2.2.2) FU (v3, v4, v5, 0)
set_option maxRecDepth 100000 in
set_option maxHeartbeats 4000000 in
theorem BX10_beads_32 {p : Program} {l : Launch} {e : Env} {s : State} {m : MethodId} {below : List Frame} {meth : Method} {c : Code} {D : va_G} {ty : TY} {A_t A_t_count A_t_pace A_t_sight A_t_pad A_t_now A_t_image A_t_isKept : Nat} {t_there : Int32} {t_awake : Int32} {t_house : Int32} {t_sharp : Int32} {t_sights : Int32} {t_signs : Int32} {t_up : Int32} {t_reason : Int32} {t_acts : Int32} {t_breaths : Int32} {t_zeroAt : Int32} {t_noticedAt : Int32} {t_count : Nat → Int32} {t_pace : Nat → Int32} {t_sight : Nat → Int32} {t_pad : Nat → Int32} {t_now : Nat → Int32} {t_image : Nat → Int32} {t_isKept : Nat → Int32} {a1 : Int32} {a2 : Int32} {q0 : Int32} (C : cx p s m [.ref A_t, .int a1, .int a2] meth c cX10_beads 8 (some .int) RX10 wsX10_beads) (hK : KK D ty s) (hP : va_P D vwCl [(A_t, .inr (9, [.int t_there, .int t_awake, .ref A_t_count, .ref A_t_pace, .int t_house, .int t_sharp, .int t_sights, .ref A_t_sight, .int t_signs, .ref A_t_pad, .int t_up, .ref A_t_now, .int t_reason, .int t_acts, .int t_breaths, .int t_zeroAt, .int t_noticedAt, .ref A_t_image, .ref A_t_isKept])), (A_t_count, .inl (ty.1, 8, .inl t_count)), (A_t_pace, .inl (ty.1, 8, .inl t_pace)), (A_t_sight, .inl (ty.1, 24, .inl t_sight)), (A_t_pad, .inl (ty.1, 60, .inl t_pad)), (A_t_now, .inl (ty.1, 8, .inl t_now)), (A_t_image, .inl (ty.1, 120, .inl t_image)), (A_t_isKept, .inl (ty.2.2.1, 2, .inl t_isKept))] s.heap)   : ∀ (n : Nat) (v3 : Int32) (v4 : Int32) (v5 : Int32) (ls : Array Slot), lv_has ls 8 [(1, .int a1), (2, .int a2), (3, .int v3), (4, .int v4), (5, .int v5)] → loopF (fun k q => bX10_beads_32 k a1 a2 q.1 q.2.1 q.2.2) n (v3, v4, v5) = some q0 → WRi p l e rmX10_beads s m [.ref A_t, .int a1, .int a2] below meth c q0 (F0 m 32 ls []) := by
  obtain ⟨hx, hb, hr, hml, hown, hts, hlocks⟩ := id C
  intro n
  induction n with
  | zero =>
    intro v3 v4 v5 ls hl hf
    cases hf
  | succ n ih =>
    intro v3 v4 v5 ls hl hf
    have hf : bX10_beads_32 (loopF (fun k q => bX10_beads_32 k a1 a2 q.1 q.2.1 q.2.2) n) a1 a2 v3 v4 v5 = some q0 := hf
    have hk32 := ih
    unfold bX10_beads_32 at hf
    refine lv_iconst (v := 5) hx hb dX10_beads_32 (by decide) ?_
    refine lv_iload hx hb dX10_beads_33 (lv_at hl 4 rfl) ?_
    refine lv_imul hx hb dX10_beads_35 ?_
    refine lv_iload_n hx hb dX10_beads_36 rfl (lv_at hl 0 rfl) ?_
    refine lv_icmp_gt (tgt := 128) hx hb dX10_beads_37 (by decide) (fun hc => ?_) (fun hc => ?_)
    · have hf := ft hf hc
      refine lv_iload_n hx hb dX10_beads_128 rfl (lv_at hl 1 rfl) ?_
      refine lv_iconst (v := 1) hx hb dX10_beads_129 (by decide) ?_
      refine lv_icmp_ne (tgt := 137) hx hb dX10_beads_130 (by decide) (fun hc => ?_) (fun hc => ?_)
      · have hf := ff hf hc
        refine lv_iload hx hb dX10_beads_137 (lv_at hl 3 rfl) ?_
        refine lv_ldc (v := 100000000) hx hb hown (hts _ mX10_beads_k75) dX10_beads_139 ?_
        refine lv_icmp_ne (tgt := 149) hx hb dX10_beads_141 (by decide) (fun hc => ?_) (fun hc => ?_)
        · have hf := ff hf hc
          refine lv_iload hx hb dX10_beads_149 (lv_at hl 3 rfl) ?_
          exact ret_ri hx hb hr hlocks hf dX10_beads_151
        · have hf := ft hf hc
          refine lv_bipush (v := (-6)) hx hb dX10_beads_144 (by decide) ?_
          refine lv_goto (tgt := 151) hx hb dX10_beads_146 (by decide) ?_
          exact ret_ri hx hb hr hlocks hf dX10_beads_151
      · have hf := ft hf hc
        refine lv_iload_n hx hb dX10_beads_133 rfl (lv_at hl 2 rfl) ?_
        refine lv_goto (tgt := 151) hx hb dX10_beads_134 (by decide) ?_
        exact ret_ri hx hb hr hlocks hf dX10_beads_151
    · have hf := ff hf hc
      refine lv_iconst (v := 0) hx hb dX10_beads_40 (by decide) ?_
      refine lv_istore (lv' := [(6, .int 0), (1, .int a1), (2, .int a2), (3, .int v3), (4, .int v4), (5, .int v5)]) hx hb dX10_beads_41 hl (by decide) rfl (fun ls hl => ?_)
      exact BX10_beads_43 C hK hP hk32 FU _ _ _ _ _ (lv_sub hl [1, 2, 3, 4, 5, 0] rfl) hf
def fX10_beads (a1 : Int32) (a2 : Int32) : Option (Int32) :=
  (fX10_in a1 0 200).bind fun r5 => if r5 = 0 then some (-2) else (fX10_in a2 0 1).bind fun r14 => if r14 = 0 then some (-2) else loopF (fun k q => bX10_beads_32 k a1 a2 q.1 q.2.1 q.2.2) FU (0, 100000000, 0)
set_option maxRecDepth 100000 in
set_option maxHeartbeats 4000000 in
theorem CX10_beads (l : Launch) {D : va_G} {ty : TY} {A_t A_t_count A_t_pace A_t_sight A_t_pad A_t_now A_t_image A_t_isKept : Nat} {t_there : Int32} {t_awake : Int32} {t_house : Int32} {t_sharp : Int32} {t_sights : Int32} {t_signs : Int32} {t_up : Int32} {t_reason : Int32} {t_acts : Int32} {t_breaths : Int32} {t_zeroAt : Int32} {t_noticedAt : Int32} {t_count : Nat → Int32} {t_pace : Nat → Int32} {t_sight : Nat → Int32} {t_pad : Nat → Int32} {t_now : Nat → Int32} {t_image : Nat → Int32} {t_isKept : Nat → Int32} {a1 : Int32} {a2 : Int32} {q0 : Int32} (hf : fX10_beads a1 a2 = some q0) : ROi l yX10_beads wsX10_beads rmX10_beads D ty [.ref A_t, .int a1, .int a2] [(A_t, .inr (9, [.int t_there, .int t_awake, .ref A_t_count, .ref A_t_pace, .int t_house, .int t_sharp, .int t_sights, .ref A_t_sight, .int t_signs, .ref A_t_pad, .int t_up, .ref A_t_now, .int t_reason, .int t_acts, .int t_breaths, .int t_zeroAt, .int t_noticedAt, .ref A_t_image, .ref A_t_isKept])), (A_t_count, .inl (ty.1, 8, .inl t_count)), (A_t_pace, .inl (ty.1, 8, .inl t_pace)), (A_t_sight, .inl (ty.1, 24, .inl t_sight)), (A_t_pad, .inl (ty.1, 60, .inl t_pad)), (A_t_now, .inl (ty.1, 8, .inl t_now)), (A_t_image, .inl (ty.1, 120, .inl t_image)), (A_t_isKept, .inl (ty.2.2.1, 2, .inl t_isKept))] q0 := by
  refine ROi.start (cc := cX10_beads) (maxL := 8) (ret := (some .int)) (own := RX10) (by decide) rfl rfl (Nat.le_of_ble_eq_true rfl) ?_
  intro p e s m below meth c ls C hK hP hl
  obtain ⟨hx, hb, hr, hml, hown, hts, hlocks⟩ := id C
  have hl : lv_has ls 8 [(0, .ref A_t), (1, .int a1), (2, .int a2)] := hl
  unfold fX10_beads at hf
  refine lv_iload_n hx hb dX10_beads_0 rfl (lv_at hl 1 rfl) ?_
  refine lv_iconst (v := 0) hx hb dX10_beads_1 (by decide) ?_
  refine lv_sipush (v := 200) hx hb dX10_beads_2 (by decide) ?_
  obtain ⟨r5, hr5, hf⟩ := bnd hf
  have hPc : va_P D vwCl [] _ := hP.sub [] rfl
  refine callS_ri (As := [.int a1, .int 0, .int 200]) (rest := []) ⟨hx, hb, hml, hown, hts⟩ (CX10_in l hr5) (va_cwS 3 hts gX10_beads_X10_in rfl rfl rfl kkX10_in.2 ⟨Nat.le_of_ble_eq_true rfl, Nat.le_of_ble_eq_true rfl⟩) hK hPc hl.1 rfl (Nat.le_of_ble_eq_true rfl) dX10_beads_5 ⟨Nat.zero_le _, Nat.zero_le _⟩ ?_
  refine lv_if_eq (tgt := 20) hx hb dX10_beads_8 (by decide) (fun hc => ?_) (fun hc => ?_)
  · have hf := ft hf hc
    refine lv_bipush (v := (-2)) hx hb dX10_beads_20 (by decide) ?_
    exact ret_ri hx hb hr hlocks hf dX10_beads_22
  · have hf := ff hf hc
    refine lv_iload_n hx hb dX10_beads_11 rfl (lv_at hl 2 rfl) ?_
    refine lv_iconst (v := 0) hx hb dX10_beads_12 (by decide) ?_
    refine lv_iconst (v := 1) hx hb dX10_beads_13 (by decide) ?_
    obtain ⟨r14, hr14, hf⟩ := bnd hf
    have hPc : va_P D vwCl [] _ := hP.sub [] rfl
    refine callS_ri (As := [.int a2, .int 0, .int 1]) (rest := []) ⟨hx, hb, hml, hown, hts⟩ (CX10_in l hr14) (va_cwS 3 hts gX10_beads_X10_in rfl rfl rfl kkX10_in.2 ⟨Nat.le_of_ble_eq_true rfl, Nat.le_of_ble_eq_true rfl⟩) hK hPc hl.1 rfl (Nat.le_of_ble_eq_true rfl) dX10_beads_14 ⟨Nat.zero_le _, Nat.zero_le _⟩ ?_
    refine lv_if_ne (tgt := 23) hx hb dX10_beads_17 (by decide) (fun hc => ?_) (fun hc => ?_)
    · have hf := ff hf hc
      refine lv_iconst (v := 0) hx hb dX10_beads_23 (by decide) ?_
      refine lv_istore_n (lv' := [(3, .int 0), (0, .ref A_t), (1, .int a1), (2, .int a2)]) hx hb dX10_beads_24 rfl hl (by decide) rfl (fun ls hl => ?_)
      refine lv_ldc (v := 100000000) hx hb hown (hts _ mX10_beads_k75) dX10_beads_25 ?_
      refine lv_istore (lv' := [(4, .int 100000000), (3, .int 0), (0, .ref A_t), (1, .int a1), (2, .int a2)]) hx hb dX10_beads_27 hl (by decide) rfl (fun ls hl => ?_)
      refine lv_iconst (v := 0) hx hb dX10_beads_29 (by decide) ?_
      refine lv_istore (lv' := [(5, .int 0), (4, .int 100000000), (3, .int 0), (0, .ref A_t), (1, .int a1), (2, .int a2)]) hx hb dX10_beads_30 hl (by decide) rfl (fun ls hl => ?_)
      exact BX10_beads_32 C hK hP  FU _ _ _ _ (lv_sub hl [4, 5, 2, 1, 0] rfl) hf
    · have hf := ft hf hc
      refine lv_bipush (v := (-2)) hx hb dX10_beads_20 (by decide) ?_
      exact ret_ri hx hb hr hlocks hf dX10_beads_22
/-! ===== SilenceCountModel.bees(IIII)J ===== -/
abbrev rmX10_bees : Room := { frames := 2, cells := 0, slots := 0, locals := 43 }
theorem kkX10_bees : yX10_bees.cls = RX10 ∧ yX10_bees.cls ≠ "java/lang/invoke/MethodHandle" ∧ yX10_bees.cls ≠ "java/lang/invoke/VarHandle" ∧ (parseMethodDescriptor yX10_bees.desc).map (fun d => d.parameters.length) = some 4 := by decide +kernel
theorem mX10_bees_k168 : Cond.constantLong RX10 168 (-1000000000000000002) ∈ wsX10_bees := by decide +kernel
theorem mX10_bees_f55 : Cond.fieldLink RX10 55 "SilenceCountModel" "awake" "I" ∈ wsX10_bees := by decide +kernel
theorem mX10_bees_f7 : Cond.fieldLink RX10 7 "SilenceCountModel" "count" "[I" ∈ wsX10_bees := by decide +kernel
theorem mX10_bees_f13 : Cond.fieldLink RX10 13 "SilenceCountModel" "pace" "[I" ∈ wsX10_bees := by decide +kernel
theorem mX10_bees_f17 : Cond.fieldLink RX10 17 "SilenceCountModel" "house" "I" ∈ wsX10_bees := by decide +kernel
theorem mX10_bees_k172 : Cond.constantLong RX10 172 (10) ∈ wsX10_bees := by decide +kernel
theorem mX10_bees_k170 : Cond.constantLong RX10 170 (-1000000000000000003) ∈ wsX10_bees := by decide +kernel
theorem wX10_bees_X10 : ∀ w ∈ u_ws RX10 TX10 19, w ∈ wsX10_bees := by decide +kernel
def bX10_bees_244 (k244 : Int64 × Int64 × Int64 × Int64 × Int32 × (Nat → Int32) → Option (Int64 × Int32 × (Nat → Int32))) (a4 : Int32) (v6 : Int64) (v8 : Int64) (v10 : Int64) (v12 : Int64) (t_up : Int32) (t_now : Nat → Int32) : Option (Int64 × Int32 × (Nat → Int32)) :=
  if (lg_cmp v12 0) = 0 then if a4 = 0 then gNzL v10 (some (v6 / v10, t_up, t_now)) else gNzL v10 (some (v8 / v10, t_up, t_now)) else gNzL v12 (k244 (v6, v8, v12, v10 - v10 / v12 * v12, t_up, t_now))
set_option maxRecDepth 100000 in
set_option maxHeartbeats 4000000 in
theorem BX10_bees_244 {p : Program} {l : Launch} {e : Env} {s : State} {m : MethodId} {below : List Frame} {meth : Method} {c : Code} {D : va_G} {ty : TY} {A_t A_t_count A_t_pace A_t_sight A_t_pad A_t_now A_t_image A_t_isKept : Nat} {t_there : Int32} {t_awake : Int32} {t_house : Int32} {t_sharp : Int32} {t_sights : Int32} {t_signs : Int32} {t_reason : Int32} {t_acts : Int32} {t_breaths : Int32} {t_zeroAt : Int32} {t_noticedAt : Int32} {t_count : Nat → Int32} {t_pace : Nat → Int32} {t_sight : Nat → Int32} {t_pad : Nat → Int32} {t_image : Nat → Int32} {t_isKept : Nat → Int32} {a1 : Int32} {a2 : Int32} {a3 : Int32} {a4 : Int32} {q0 : Int64 × Int32 × (Nat → Int32)} {WC : va_W} (C : cx p s m [.ref A_t, .int a1, .int a2, .int a3, .int a4] meth c cX10_bees 16 (some .long) RX10 wsX10_bees) (hK : KK D ty s)   : ∀ (n : Nat) (v6 : Int64) (v8 : Int64) (v10 : Int64) (v12 : Int64) (t_up : Int32) (t_now : Nat → Int32) (H : Heap) (locs : List Loc) (ls : Array Slot), va_P D vwCl [(A_t, .inr (9, [.int t_there, .int t_awake, .ref A_t_count, .ref A_t_pace, .int t_house, .int t_sharp, .int t_sights, .ref A_t_sight, .int t_signs, .ref A_t_pad, .int t_up, .ref A_t_now, .int t_reason, .int t_acts, .int t_breaths, .int t_zeroAt, .int t_noticedAt, .ref A_t_image, .ref A_t_isKept])), (A_t_count, .inl (ty.1, 8, .inl t_count)), (A_t_pace, .inl (ty.1, 8, .inl t_pace)), (A_t_sight, .inl (ty.1, 24, .inl t_sight)), (A_t_pad, .inl (ty.1, 60, .inl t_pad)), (A_t_now, .inl (ty.1, 8, .inl t_now)), (A_t_image, .inl (ty.1, 120, .inl t_image)), (A_t_isKept, .inl (ty.2.2.1, 2, .inl t_isKept))] H → va_D (va_A WC s.heap.size) [(A_t, .inr (9, [.int t_there, .int t_awake, .ref A_t_count, .ref A_t_pace, .int t_house, .int t_sharp, .int t_sights, .ref A_t_sight, .int t_signs, .ref A_t_pad, .int t_up, .ref A_t_now, .int t_reason, .int t_acts, .int t_breaths, .int t_zeroAt, .int t_noticedAt, .ref A_t_image, .ref A_t_isKept])), (A_t_count, .inl (ty.1, 8, .inl t_count)), (A_t_pace, .inl (ty.1, 8, .inl t_pace)), (A_t_sight, .inl (ty.1, 24, .inl t_sight)), (A_t_pad, .inl (ty.1, 60, .inl t_pad)), (A_t_now, .inl (ty.1, 8, .inl t_now)), (A_t_image, .inl (ty.1, 120, .inl t_image)), (A_t_isKept, .inl (ty.2.2.1, 2, .inl t_isKept))] → va_S (va_A WC s.heap.size) s.heap H locs → lv_has ls 16 [(4, .int a4), (6, .long v6), (8, .long v8), (10, .long v10), (12, .long v12)] → loopF (fun k q => bX10_bees_244 k a4 q.1 q.2.1 q.2.2.1 q.2.2.2.1 q.2.2.2.2.1 q.2.2.2.2.2) n (v6, v8, v10, v12, t_up, t_now) = some q0 → WWl p l e rmX10_bees s m [.ref A_t, .int a1, .int a2, .int a3, .int a4] below meth c D WC [(A_t, .inr (9, [.int t_there, .int t_awake, .ref A_t_count, .ref A_t_pace, .int t_house, .int t_sharp, .int t_sights, .ref A_t_sight, .int t_signs, .ref A_t_pad, .int q0.2.1, .ref A_t_now, .int t_reason, .int t_acts, .int t_breaths, .int t_zeroAt, .int t_noticedAt, .ref A_t_image, .ref A_t_isKept])), (A_t_count, .inl (ty.1, 8, .inl t_count)), (A_t_pace, .inl (ty.1, 8, .inl t_pace)), (A_t_sight, .inl (ty.1, 24, .inl t_sight)), (A_t_pad, .inl (ty.1, 60, .inl t_pad)), (A_t_now, .inl (ty.1, 8, .inl q0.2.2)), (A_t_image, .inl (ty.1, 120, .inl t_image)), (A_t_isKept, .inl (ty.2.2.1, 2, .inl t_isKept))] q0.1 H locs (F0 m 244 ls []) := by
  obtain ⟨hx, hb, hr, hml, hown, hts, hlocks⟩ := id C
  intro n
  induction n with
  | zero =>
    intro v6 v8 v10 v12 t_up t_now H locs ls hP hD hS hl hf
    cases hf
  | succ n ih =>
    intro v6 v8 v10 v12 t_up t_now H locs ls hP hD hS hl hf
    have hf : bX10_bees_244 (loopF (fun k q => bX10_bees_244 k a4 q.1 q.2.1 q.2.2.1 q.2.2.2.1 q.2.2.2.2.1 q.2.2.2.2.2) n) a4 v6 v8 v10 v12 t_up t_now = some q0 := hf
    have hk244 := ih
    unfold bX10_bees_244 at hf
    refine lv_lload hx hb dX10_bees_244 (lv_at hl 4 rfl) ?_
    refine lv_lconst (v := 0) hx hb dX10_bees_246 (by decide) ?_
    refine W.lcmp hx hb dX10_bees_247 ?_
    refine lv_if_eq (tgt := 269) hx hb dX10_bees_248 (by decide) (fun hc => ?_) (fun hc => ?_)
    · have hf := ft hf hc
      refine lv_iload hx hb dX10_bees_269 (lv_at hl 0 rfl) ?_
      refine lv_if_ne (tgt := 282) hx hb dX10_bees_271 (by decide) (fun hc => ?_) (fun hc => ?_)
      · have hf := ff hf hc
        refine lv_lload hx hb dX10_bees_282 (lv_at hl 2 rfl) ?_
        refine lv_lload hx hb dX10_bees_284 (lv_at hl 3 rfl) ?_
        obtain ⟨hnz, hf⟩ := gNzL_some hf
        refine lv_ldiv hx hb dX10_bees_286 hnz ?_
        cases hf
        exact ret_wl hx hb hr hlocks hP hD hS dX10_bees_287
      · have hf := ft hf hc
        refine lv_lload hx hb dX10_bees_274 (lv_at hl 1 rfl) ?_
        refine lv_lload hx hb dX10_bees_276 (lv_at hl 3 rfl) ?_
        obtain ⟨hnz, hf⟩ := gNzL_some hf
        refine lv_ldiv hx hb dX10_bees_278 hnz ?_
        refine lv_goto (tgt := 287) hx hb dX10_bees_279 (by decide) ?_
        cases hf
        exact ret_wl hx hb hr hlocks hP hD hS dX10_bees_287
    · have hf := ff hf hc
      refine lv_lload hx hb dX10_bees_251 (lv_at hl 3 rfl) ?_
      refine lv_lload hx hb dX10_bees_253 (lv_at hl 4 rfl) ?_
      obtain ⟨hnz, hf⟩ := gNzL_some hf
      refine lv_lrem hx hb dX10_bees_255 hnz ?_
      refine lv_lstore (lv' := [(14, .long (v10 - v10 / v12 * v12)), (4, .int a4), (6, .long v6), (8, .long v8), (10, .long v10), (12, .long v12)]) hx hb dX10_bees_256 hl (by decide) rfl (fun ls hl => ?_)
      refine lv_lload hx hb dX10_bees_258 (lv_at hl 5 rfl) ?_
      refine lv_lstore (lv' := [(10, .long v12), (14, .long (v10 - v10 / v12 * v12)), (4, .int a4), (6, .long v6), (8, .long v8), (12, .long v12)]) hx hb dX10_bees_260 hl (by decide) rfl (fun ls hl => ?_)
      refine lv_lload hx hb dX10_bees_262 (lv_at hl 1 rfl) ?_
      refine lv_lstore (lv' := [(12, .long (v10 - v10 / v12 * v12)), (10, .long v12), (14, .long (v10 - v10 / v12 * v12)), (4, .int a4), (6, .long v6), (8, .long v8)]) hx hb dX10_bees_264 hl (by decide) rfl (fun ls hl => ?_)
      refine lv_goto (tgt := 244) hx hb dX10_bees_266 (by decide) ?_
      exact hk244 _ _ _ _ _ _ _ _ _ hP hD hS (lv_sub hl [3, 4, 5, 1, 0] rfl) hf
def bX10_bees_227 (k96 : Int32 × Int64 × Int64 × Int32 × Int32 × (Nat → Int32) → Option (Int64 × Int32 × (Nat → Int32))) (v5 : Int32) (v8 : Int64) (v10 : Int32) (s0 : Int64) (s1 : Int64) (t_up : Int32) (t_now : Nat → Int32) : Option (Int64 × Int32 × (Nat → Int32)) :=
  k96 (v5, s1 + s0, v8, v10 + 1, t_up, t_now)
set_option maxRecDepth 100000 in
set_option maxHeartbeats 4000000 in
theorem BX10_bees_227 {p : Program} {l : Launch} {e : Env} {s : State} {m : MethodId} {below : List Frame} {meth : Method} {c : Code} {D : va_G} {ty : TY} {A_t A_t_count A_t_pace A_t_sight A_t_pad A_t_now A_t_image A_t_isKept : Nat} {t_there : Int32} {t_awake : Int32} {t_house : Int32} {t_sharp : Int32} {t_sights : Int32} {t_signs : Int32} {t_reason : Int32} {t_acts : Int32} {t_breaths : Int32} {t_zeroAt : Int32} {t_noticedAt : Int32} {t_count : Nat → Int32} {t_pace : Nat → Int32} {t_sight : Nat → Int32} {t_pad : Nat → Int32} {t_image : Nat → Int32} {t_isKept : Nat → Int32} {a1 : Int32} {a2 : Int32} {a3 : Int32} {a4 : Int32} {q0 : Int64 × Int32 × (Nat → Int32)} {WC : va_W} (C : cx p s m [.ref A_t, .int a1, .int a2, .int a3, .int a4] meth c cX10_bees 16 (some .long) RX10 wsX10_bees) (hK : KK D ty s) {k96 : Int32 × Int64 × Int64 × Int32 × Int32 × (Nat → Int32) → Option (Int64 × Int32 × (Nat → Int32))} (hk96 : ∀ (v5 : Int32) (v6 : Int64) (v8 : Int64) (v10 : Int32) (t_up : Int32) (t_now : Nat → Int32) (H : Heap) (locs : List Loc) (ls : Array Slot), va_P D vwCl [(A_t, .inr (9, [.int t_there, .int t_awake, .ref A_t_count, .ref A_t_pace, .int t_house, .int t_sharp, .int t_sights, .ref A_t_sight, .int t_signs, .ref A_t_pad, .int t_up, .ref A_t_now, .int t_reason, .int t_acts, .int t_breaths, .int t_zeroAt, .int t_noticedAt, .ref A_t_image, .ref A_t_isKept])), (A_t_count, .inl (ty.1, 8, .inl t_count)), (A_t_pace, .inl (ty.1, 8, .inl t_pace)), (A_t_sight, .inl (ty.1, 24, .inl t_sight)), (A_t_pad, .inl (ty.1, 60, .inl t_pad)), (A_t_now, .inl (ty.1, 8, .inl t_now)), (A_t_image, .inl (ty.1, 120, .inl t_image)), (A_t_isKept, .inl (ty.2.2.1, 2, .inl t_isKept))] H → va_D (va_A WC s.heap.size) [(A_t, .inr (9, [.int t_there, .int t_awake, .ref A_t_count, .ref A_t_pace, .int t_house, .int t_sharp, .int t_sights, .ref A_t_sight, .int t_signs, .ref A_t_pad, .int t_up, .ref A_t_now, .int t_reason, .int t_acts, .int t_breaths, .int t_zeroAt, .int t_noticedAt, .ref A_t_image, .ref A_t_isKept])), (A_t_count, .inl (ty.1, 8, .inl t_count)), (A_t_pace, .inl (ty.1, 8, .inl t_pace)), (A_t_sight, .inl (ty.1, 24, .inl t_sight)), (A_t_pad, .inl (ty.1, 60, .inl t_pad)), (A_t_now, .inl (ty.1, 8, .inl t_now)), (A_t_image, .inl (ty.1, 120, .inl t_image)), (A_t_isKept, .inl (ty.2.2.1, 2, .inl t_isKept))] → va_S (va_A WC s.heap.size) s.heap H locs → lv_has ls 16 [(0, .ref A_t), (1, .int a1), (2, .int a2), (3, .int a3), (4, .int a4), (5, .int v5), (6, .long v6), (8, .long v8), (10, .int v10)] → k96 (v5, v6, v8, v10, t_up, t_now) = some q0 → WWl p l e rmX10_bees s m [.ref A_t, .int a1, .int a2, .int a3, .int a4] below meth c D WC [(A_t, .inr (9, [.int t_there, .int t_awake, .ref A_t_count, .ref A_t_pace, .int t_house, .int t_sharp, .int t_sights, .ref A_t_sight, .int t_signs, .ref A_t_pad, .int q0.2.1, .ref A_t_now, .int t_reason, .int t_acts, .int t_breaths, .int t_zeroAt, .int t_noticedAt, .ref A_t_image, .ref A_t_isKept])), (A_t_count, .inl (ty.1, 8, .inl t_count)), (A_t_pace, .inl (ty.1, 8, .inl t_pace)), (A_t_sight, .inl (ty.1, 24, .inl t_sight)), (A_t_pad, .inl (ty.1, 60, .inl t_pad)), (A_t_now, .inl (ty.1, 8, .inl q0.2.2)), (A_t_image, .inl (ty.1, 120, .inl t_image)), (A_t_isKept, .inl (ty.2.2.1, 2, .inl t_isKept))] q0.1 H locs (F0 m 96 ls [])) {v5 : Int32} {v8 : Int64} {v10 : Int32} {s0 : Int64} {s1 : Int64} {t_up : Int32} {t_now : Nat → Int32} {H : Heap} {locs : List Loc} {ls : Array Slot} (hP : va_P D vwCl [(A_t, .inr (9, [.int t_there, .int t_awake, .ref A_t_count, .ref A_t_pace, .int t_house, .int t_sharp, .int t_sights, .ref A_t_sight, .int t_signs, .ref A_t_pad, .int t_up, .ref A_t_now, .int t_reason, .int t_acts, .int t_breaths, .int t_zeroAt, .int t_noticedAt, .ref A_t_image, .ref A_t_isKept])), (A_t_count, .inl (ty.1, 8, .inl t_count)), (A_t_pace, .inl (ty.1, 8, .inl t_pace)), (A_t_sight, .inl (ty.1, 24, .inl t_sight)), (A_t_pad, .inl (ty.1, 60, .inl t_pad)), (A_t_now, .inl (ty.1, 8, .inl t_now)), (A_t_image, .inl (ty.1, 120, .inl t_image)), (A_t_isKept, .inl (ty.2.2.1, 2, .inl t_isKept))] H) (hD : va_D (va_A WC s.heap.size) [(A_t, .inr (9, [.int t_there, .int t_awake, .ref A_t_count, .ref A_t_pace, .int t_house, .int t_sharp, .int t_sights, .ref A_t_sight, .int t_signs, .ref A_t_pad, .int t_up, .ref A_t_now, .int t_reason, .int t_acts, .int t_breaths, .int t_zeroAt, .int t_noticedAt, .ref A_t_image, .ref A_t_isKept])), (A_t_count, .inl (ty.1, 8, .inl t_count)), (A_t_pace, .inl (ty.1, 8, .inl t_pace)), (A_t_sight, .inl (ty.1, 24, .inl t_sight)), (A_t_pad, .inl (ty.1, 60, .inl t_pad)), (A_t_now, .inl (ty.1, 8, .inl t_now)), (A_t_image, .inl (ty.1, 120, .inl t_image)), (A_t_isKept, .inl (ty.2.2.1, 2, .inl t_isKept))]) (hS : va_S (va_A WC s.heap.size) s.heap H locs) (hl : lv_has ls 16 [(0, .ref A_t), (1, .int a1), (2, .int a2), (3, .int a3), (4, .int a4), (5, .int v5), (8, .long v8), (10, .int v10)]) (hf : bX10_bees_227 k96 v5 v8 v10 s0 s1 t_up t_now = some q0) : WWl p l e rmX10_bees s m [.ref A_t, .int a1, .int a2, .int a3, .int a4] below meth c D WC [(A_t, .inr (9, [.int t_there, .int t_awake, .ref A_t_count, .ref A_t_pace, .int t_house, .int t_sharp, .int t_sights, .ref A_t_sight, .int t_signs, .ref A_t_pad, .int q0.2.1, .ref A_t_now, .int t_reason, .int t_acts, .int t_breaths, .int t_zeroAt, .int t_noticedAt, .ref A_t_image, .ref A_t_isKept])), (A_t_count, .inl (ty.1, 8, .inl t_count)), (A_t_pace, .inl (ty.1, 8, .inl t_pace)), (A_t_sight, .inl (ty.1, 24, .inl t_sight)), (A_t_pad, .inl (ty.1, 60, .inl t_pad)), (A_t_now, .inl (ty.1, 8, .inl q0.2.2)), (A_t_image, .inl (ty.1, 120, .inl t_image)), (A_t_isKept, .inl (ty.2.2.1, 2, .inl t_isKept))] q0.1 H locs (F0 m 227 ls [.long s0, .long s1]) := by
  obtain ⟨hx, hb, hr, hml, hown, hts, hlocks⟩ := id C
  unfold bX10_bees_227 at hf
  refine lv_ladd hx hb dX10_bees_227 ?_
  refine lv_lstore (lv' := [(6, .long (s1 + s0)), (0, .ref A_t), (1, .int a1), (2, .int a2), (3, .int a3), (4, .int a4), (5, .int v5), (8, .long v8), (10, .int v10)]) hx hb dX10_bees_228 hl (by decide) rfl (fun ls hl => ?_)
  refine lv_iinc (v := v10 + 1) (lv' := [(10, .int (v10 + 1)), (6, .long (s1 + s0)), (0, .ref A_t), (1, .int a1), (2, .int a2), (3, .int a3), (4, .int a4), (5, .int v5), (8, .long v8)]) hx hb dX10_bees_230 hl (k := 8) rfl rfl (by decide) rfl (fun ls hl => ?_)
  refine lv_goto (tgt := 96) hx hb dX10_bees_233 (by decide) ?_
  exact hk96 _ _ _ _ _ _ _ _ _ hP hD hS (lv_sub hl [2, 3, 4, 5, 6, 7, 1, 8, 0] rfl) hf
def bX10_bees_147 (k96 : Int32 × Int64 × Int64 × Int32 × Int32 × (Nat → Int32) → Option (Int64 × Int32 × (Nat → Int32))) (k119 : Int32 × Int64 × Int64 × Int32 × Int64 × Int32 × Int32 × Int32 × (Nat → Int32) → Option (Int64 × Int32 × (Nat → Int32))) (t_house : Int32) (t_pace : Nat → Int32) (v5 : Int32) (v6 : Int64) (v8 : Int64) (v10 : Int32) (v13 : Int32) (v14 : Int32) (s0 : Int64) (s1 : Int64) (t_up : Int32) (t_now : Nat → Int32) : Option (Int64 × Int32 × (Nat → Int32)) :=
  (fX10_has v10 v14).bind fun r154 => if r154 = 0 then gIn v5 8 (if v13 ≤ (t_pace (v5 : Int32).toNatClampNeg) then k119 (v5, v6, v8, v10, s1 * s0, 0, v14 + 1, t_up, t_now) else gIn v5 8 (k119 (v5, v6, v8, v10, s1 * s0, v13 - (t_pace (v5 : Int32).toNatClampNeg), v14 + 1, t_up, t_now))) else k119 (v5, v6, v8, v10, s1 * s0, t_house, v14 + 1, t_up, t_now)
set_option maxRecDepth 100000 in
set_option maxHeartbeats 4000000 in
theorem BX10_bees_147 {p : Program} {l : Launch} {e : Env} {s : State} {m : MethodId} {below : List Frame} {meth : Method} {c : Code} {D : va_G} {ty : TY} {A_t A_t_count A_t_pace A_t_sight A_t_pad A_t_now A_t_image A_t_isKept : Nat} {t_there : Int32} {t_awake : Int32} {t_house : Int32} {t_sharp : Int32} {t_sights : Int32} {t_signs : Int32} {t_reason : Int32} {t_acts : Int32} {t_breaths : Int32} {t_zeroAt : Int32} {t_noticedAt : Int32} {t_count : Nat → Int32} {t_pace : Nat → Int32} {t_sight : Nat → Int32} {t_pad : Nat → Int32} {t_image : Nat → Int32} {t_isKept : Nat → Int32} {a1 : Int32} {a2 : Int32} {a3 : Int32} {a4 : Int32} {q0 : Int64 × Int32 × (Nat → Int32)} {WC : va_W} (C : cx p s m [.ref A_t, .int a1, .int a2, .int a3, .int a4] meth c cX10_bees 16 (some .long) RX10 wsX10_bees) (hK : KK D ty s) {k96 : Int32 × Int64 × Int64 × Int32 × Int32 × (Nat → Int32) → Option (Int64 × Int32 × (Nat → Int32))} {k119 : Int32 × Int64 × Int64 × Int32 × Int64 × Int32 × Int32 × Int32 × (Nat → Int32) → Option (Int64 × Int32 × (Nat → Int32))} (hk96 : ∀ (v5 : Int32) (v6 : Int64) (v8 : Int64) (v10 : Int32) (t_up : Int32) (t_now : Nat → Int32) (H : Heap) (locs : List Loc) (ls : Array Slot), va_P D vwCl [(A_t, .inr (9, [.int t_there, .int t_awake, .ref A_t_count, .ref A_t_pace, .int t_house, .int t_sharp, .int t_sights, .ref A_t_sight, .int t_signs, .ref A_t_pad, .int t_up, .ref A_t_now, .int t_reason, .int t_acts, .int t_breaths, .int t_zeroAt, .int t_noticedAt, .ref A_t_image, .ref A_t_isKept])), (A_t_count, .inl (ty.1, 8, .inl t_count)), (A_t_pace, .inl (ty.1, 8, .inl t_pace)), (A_t_sight, .inl (ty.1, 24, .inl t_sight)), (A_t_pad, .inl (ty.1, 60, .inl t_pad)), (A_t_now, .inl (ty.1, 8, .inl t_now)), (A_t_image, .inl (ty.1, 120, .inl t_image)), (A_t_isKept, .inl (ty.2.2.1, 2, .inl t_isKept))] H → va_D (va_A WC s.heap.size) [(A_t, .inr (9, [.int t_there, .int t_awake, .ref A_t_count, .ref A_t_pace, .int t_house, .int t_sharp, .int t_sights, .ref A_t_sight, .int t_signs, .ref A_t_pad, .int t_up, .ref A_t_now, .int t_reason, .int t_acts, .int t_breaths, .int t_zeroAt, .int t_noticedAt, .ref A_t_image, .ref A_t_isKept])), (A_t_count, .inl (ty.1, 8, .inl t_count)), (A_t_pace, .inl (ty.1, 8, .inl t_pace)), (A_t_sight, .inl (ty.1, 24, .inl t_sight)), (A_t_pad, .inl (ty.1, 60, .inl t_pad)), (A_t_now, .inl (ty.1, 8, .inl t_now)), (A_t_image, .inl (ty.1, 120, .inl t_image)), (A_t_isKept, .inl (ty.2.2.1, 2, .inl t_isKept))] → va_S (va_A WC s.heap.size) s.heap H locs → lv_has ls 16 [(0, .ref A_t), (1, .int a1), (2, .int a2), (3, .int a3), (4, .int a4), (5, .int v5), (6, .long v6), (8, .long v8), (10, .int v10)] → k96 (v5, v6, v8, v10, t_up, t_now) = some q0 → WWl p l e rmX10_bees s m [.ref A_t, .int a1, .int a2, .int a3, .int a4] below meth c D WC [(A_t, .inr (9, [.int t_there, .int t_awake, .ref A_t_count, .ref A_t_pace, .int t_house, .int t_sharp, .int t_sights, .ref A_t_sight, .int t_signs, .ref A_t_pad, .int q0.2.1, .ref A_t_now, .int t_reason, .int t_acts, .int t_breaths, .int t_zeroAt, .int t_noticedAt, .ref A_t_image, .ref A_t_isKept])), (A_t_count, .inl (ty.1, 8, .inl t_count)), (A_t_pace, .inl (ty.1, 8, .inl t_pace)), (A_t_sight, .inl (ty.1, 24, .inl t_sight)), (A_t_pad, .inl (ty.1, 60, .inl t_pad)), (A_t_now, .inl (ty.1, 8, .inl q0.2.2)), (A_t_image, .inl (ty.1, 120, .inl t_image)), (A_t_isKept, .inl (ty.2.2.1, 2, .inl t_isKept))] q0.1 H locs (F0 m 96 ls [])) (hk119 : ∀ (v5 : Int32) (v6 : Int64) (v8 : Int64) (v10 : Int32) (v11 : Int64) (v13 : Int32) (v14 : Int32) (t_up : Int32) (t_now : Nat → Int32) (H : Heap) (locs : List Loc) (ls : Array Slot), va_P D vwCl [(A_t, .inr (9, [.int t_there, .int t_awake, .ref A_t_count, .ref A_t_pace, .int t_house, .int t_sharp, .int t_sights, .ref A_t_sight, .int t_signs, .ref A_t_pad, .int t_up, .ref A_t_now, .int t_reason, .int t_acts, .int t_breaths, .int t_zeroAt, .int t_noticedAt, .ref A_t_image, .ref A_t_isKept])), (A_t_count, .inl (ty.1, 8, .inl t_count)), (A_t_pace, .inl (ty.1, 8, .inl t_pace)), (A_t_sight, .inl (ty.1, 24, .inl t_sight)), (A_t_pad, .inl (ty.1, 60, .inl t_pad)), (A_t_now, .inl (ty.1, 8, .inl t_now)), (A_t_image, .inl (ty.1, 120, .inl t_image)), (A_t_isKept, .inl (ty.2.2.1, 2, .inl t_isKept))] H → va_D (va_A WC s.heap.size) [(A_t, .inr (9, [.int t_there, .int t_awake, .ref A_t_count, .ref A_t_pace, .int t_house, .int t_sharp, .int t_sights, .ref A_t_sight, .int t_signs, .ref A_t_pad, .int t_up, .ref A_t_now, .int t_reason, .int t_acts, .int t_breaths, .int t_zeroAt, .int t_noticedAt, .ref A_t_image, .ref A_t_isKept])), (A_t_count, .inl (ty.1, 8, .inl t_count)), (A_t_pace, .inl (ty.1, 8, .inl t_pace)), (A_t_sight, .inl (ty.1, 24, .inl t_sight)), (A_t_pad, .inl (ty.1, 60, .inl t_pad)), (A_t_now, .inl (ty.1, 8, .inl t_now)), (A_t_image, .inl (ty.1, 120, .inl t_image)), (A_t_isKept, .inl (ty.2.2.1, 2, .inl t_isKept))] → va_S (va_A WC s.heap.size) s.heap H locs → lv_has ls 16 [(0, .ref A_t), (1, .int a1), (2, .int a2), (3, .int a3), (4, .int a4), (5, .int v5), (6, .long v6), (8, .long v8), (10, .int v10), (11, .long v11), (13, .int v13), (14, .int v14)] → k119 (v5, v6, v8, v10, v11, v13, v14, t_up, t_now) = some q0 → WWl p l e rmX10_bees s m [.ref A_t, .int a1, .int a2, .int a3, .int a4] below meth c D WC [(A_t, .inr (9, [.int t_there, .int t_awake, .ref A_t_count, .ref A_t_pace, .int t_house, .int t_sharp, .int t_sights, .ref A_t_sight, .int t_signs, .ref A_t_pad, .int q0.2.1, .ref A_t_now, .int t_reason, .int t_acts, .int t_breaths, .int t_zeroAt, .int t_noticedAt, .ref A_t_image, .ref A_t_isKept])), (A_t_count, .inl (ty.1, 8, .inl t_count)), (A_t_pace, .inl (ty.1, 8, .inl t_pace)), (A_t_sight, .inl (ty.1, 24, .inl t_sight)), (A_t_pad, .inl (ty.1, 60, .inl t_pad)), (A_t_now, .inl (ty.1, 8, .inl q0.2.2)), (A_t_image, .inl (ty.1, 120, .inl t_image)), (A_t_isKept, .inl (ty.2.2.1, 2, .inl t_isKept))] q0.1 H locs (F0 m 119 ls [])) {v5 : Int32} {v6 : Int64} {v8 : Int64} {v10 : Int32} {v13 : Int32} {v14 : Int32} {s0 : Int64} {s1 : Int64} {t_up : Int32} {t_now : Nat → Int32} {H : Heap} {locs : List Loc} {ls : Array Slot} (hP : va_P D vwCl [(A_t, .inr (9, [.int t_there, .int t_awake, .ref A_t_count, .ref A_t_pace, .int t_house, .int t_sharp, .int t_sights, .ref A_t_sight, .int t_signs, .ref A_t_pad, .int t_up, .ref A_t_now, .int t_reason, .int t_acts, .int t_breaths, .int t_zeroAt, .int t_noticedAt, .ref A_t_image, .ref A_t_isKept])), (A_t_count, .inl (ty.1, 8, .inl t_count)), (A_t_pace, .inl (ty.1, 8, .inl t_pace)), (A_t_sight, .inl (ty.1, 24, .inl t_sight)), (A_t_pad, .inl (ty.1, 60, .inl t_pad)), (A_t_now, .inl (ty.1, 8, .inl t_now)), (A_t_image, .inl (ty.1, 120, .inl t_image)), (A_t_isKept, .inl (ty.2.2.1, 2, .inl t_isKept))] H) (hD : va_D (va_A WC s.heap.size) [(A_t, .inr (9, [.int t_there, .int t_awake, .ref A_t_count, .ref A_t_pace, .int t_house, .int t_sharp, .int t_sights, .ref A_t_sight, .int t_signs, .ref A_t_pad, .int t_up, .ref A_t_now, .int t_reason, .int t_acts, .int t_breaths, .int t_zeroAt, .int t_noticedAt, .ref A_t_image, .ref A_t_isKept])), (A_t_count, .inl (ty.1, 8, .inl t_count)), (A_t_pace, .inl (ty.1, 8, .inl t_pace)), (A_t_sight, .inl (ty.1, 24, .inl t_sight)), (A_t_pad, .inl (ty.1, 60, .inl t_pad)), (A_t_now, .inl (ty.1, 8, .inl t_now)), (A_t_image, .inl (ty.1, 120, .inl t_image)), (A_t_isKept, .inl (ty.2.2.1, 2, .inl t_isKept))]) (hS : va_S (va_A WC s.heap.size) s.heap H locs) (hl : lv_has ls 16 [(0, .ref A_t), (1, .int a1), (2, .int a2), (3, .int a3), (4, .int a4), (5, .int v5), (6, .long v6), (8, .long v8), (10, .int v10), (13, .int v13), (14, .int v14)]) (hf : bX10_bees_147 k96 k119 t_house t_pace v5 v6 v8 v10 v13 v14 s0 s1 t_up t_now = some q0) : WWl p l e rmX10_bees s m [.ref A_t, .int a1, .int a2, .int a3, .int a4] below meth c D WC [(A_t, .inr (9, [.int t_there, .int t_awake, .ref A_t_count, .ref A_t_pace, .int t_house, .int t_sharp, .int t_sights, .ref A_t_sight, .int t_signs, .ref A_t_pad, .int q0.2.1, .ref A_t_now, .int t_reason, .int t_acts, .int t_breaths, .int t_zeroAt, .int t_noticedAt, .ref A_t_image, .ref A_t_isKept])), (A_t_count, .inl (ty.1, 8, .inl t_count)), (A_t_pace, .inl (ty.1, 8, .inl t_pace)), (A_t_sight, .inl (ty.1, 24, .inl t_sight)), (A_t_pad, .inl (ty.1, 60, .inl t_pad)), (A_t_now, .inl (ty.1, 8, .inl q0.2.2)), (A_t_image, .inl (ty.1, 120, .inl t_image)), (A_t_isKept, .inl (ty.2.2.1, 2, .inl t_isKept))] q0.1 H locs (F0 m 147 ls [.long s0, .long s1]) := by
  obtain ⟨hx, hb, hr, hml, hown, hts, hlocks⟩ := id C
  unfold bX10_bees_147 at hf
  refine lv_lmul hx hb dX10_bees_147 ?_
  refine lv_lstore (lv' := [(11, .long (s1 * s0)), (0, .ref A_t), (1, .int a1), (2, .int a2), (3, .int a3), (4, .int a4), (5, .int v5), (6, .long v6), (8, .long v8), (10, .int v10), (13, .int v13), (14, .int v14)]) hx hb dX10_bees_148 hl (by decide) rfl (fun ls hl => ?_)
  refine lv_iload hx hb dX10_bees_150 (lv_at hl 9 rfl) ?_
  refine lv_iload hx hb dX10_bees_152 (lv_at hl 11 rfl) ?_
  obtain ⟨r154, hr154, hf⟩ := bnd hf
  have hPc : va_P D vwCl [] _ := hP.sub [] rfl
  refine callS_ri (As := [.int v10, .int v14]) (rest := []) ⟨hx, hb, hml, hown, hts⟩ (CX10_has l hr154) (va_cwS 2 hts gX10_bees_X10_has rfl rfl rfl kkX10_has.2 ⟨Nat.le_of_ble_eq_true rfl, Nat.le_of_ble_eq_true rfl⟩) hK hPc hl.1 rfl (Nat.le_of_ble_eq_true rfl) dX10_bees_154 ⟨Nat.zero_le _, Nat.zero_le _⟩ ?_
  refine lv_if_eq (tgt := 167) hx hb dX10_bees_157 (by decide) (fun hc => ?_) (fun hc => ?_)
  · have hf := ft hf hc
    refine lv_iload hx hb dX10_bees_167 (lv_at hl 10 rfl) ?_
    refine lv_aload_n hx hb dX10_bees_169 rfl (lv_at hl 1 rfl) ?_
    refine va_get (D := D) (ci := 9) (v := .ref A_t_pace) (C := RX10) (T := TX10) (N := 19) hx hb hts wX10_bees_X10 hown hK.1 hP 0 rfl rfl 3 (by decide) (hts _ mX10_bees_f13) (fun _ h9 => h9) rfl dX10_bees_170 ?_
    refine lv_iload hx hb dX10_bees_173 (lv_at hl 6 rfl) ?_
    obtain ⟨hin, hf⟩ := gIn_some hf
    refine va_iald hx hb hK.1 hP 2 0 rfl rfl hin dX10_bees_175 ?_
    refine lv_icmp_le (tgt := 192) hx hb dX10_bees_176 (by decide) (fun hc => ?_) (fun hc => ?_)
    · have hf := ft hf hc
      refine lv_iconst (v := 0) hx hb dX10_bees_192 (by decide) ?_
      refine lv_istore (lv' := [(13, .int 0), (11, .long (s1 * s0)), (0, .ref A_t), (1, .int a1), (2, .int a2), (3, .int a3), (4, .int a4), (5, .int v5), (6, .long v6), (8, .long v8), (10, .int v10), (14, .int v14)]) hx hb dX10_bees_193 hl (by decide) rfl (fun ls hl => ?_)
      refine lv_iinc (v := v14 + 1) (lv' := [(14, .int (v14 + 1)), (13, .int 0), (11, .long (s1 * s0)), (0, .ref A_t), (1, .int a1), (2, .int a2), (3, .int a3), (4, .int a4), (5, .int v5), (6, .long v6), (8, .long v8), (10, .int v10)]) hx hb dX10_bees_195 hl (k := 11) rfl rfl (by decide) rfl (fun ls hl => ?_)
      refine lv_goto (tgt := 119) hx hb dX10_bees_198 (by decide) ?_
      exact hk119 _ _ _ _ _ _ _ _ _ _ _ _ hP hD hS (lv_sub hl [3, 4, 5, 6, 7, 8, 9, 10, 11, 2, 1, 0] rfl) hf
    · have hf := ff hf hc
      refine lv_iload hx hb dX10_bees_179 (lv_at hl 10 rfl) ?_
      refine lv_aload_n hx hb dX10_bees_181 rfl (lv_at hl 1 rfl) ?_
      refine va_get (D := D) (ci := 9) (v := .ref A_t_pace) (C := RX10) (T := TX10) (N := 19) hx hb hts wX10_bees_X10 hown hK.1 hP 0 rfl rfl 3 (by decide) (hts _ mX10_bees_f13) (fun _ h9 => h9) rfl dX10_bees_182 ?_
      refine lv_iload hx hb dX10_bees_185 (lv_at hl 6 rfl) ?_
      obtain ⟨hin, hf⟩ := gIn_some hf
      refine va_iald hx hb hK.1 hP 2 0 rfl rfl hin dX10_bees_187 ?_
      refine lv_isub hx hb dX10_bees_188 ?_
      refine lv_goto (tgt := 193) hx hb dX10_bees_189 (by decide) ?_
      refine lv_istore (lv' := [(13, .int (v13 - (t_pace (v5 : Int32).toNatClampNeg))), (11, .long (s1 * s0)), (0, .ref A_t), (1, .int a1), (2, .int a2), (3, .int a3), (4, .int a4), (5, .int v5), (6, .long v6), (8, .long v8), (10, .int v10), (14, .int v14)]) hx hb dX10_bees_193 hl (by decide) rfl (fun ls hl => ?_)
      refine lv_iinc (v := v14 + 1) (lv' := [(14, .int (v14 + 1)), (13, .int (v13 - (t_pace (v5 : Int32).toNatClampNeg))), (11, .long (s1 * s0)), (0, .ref A_t), (1, .int a1), (2, .int a2), (3, .int a3), (4, .int a4), (5, .int v5), (6, .long v6), (8, .long v8), (10, .int v10)]) hx hb dX10_bees_195 hl (k := 11) rfl rfl (by decide) rfl (fun ls hl => ?_)
      refine lv_goto (tgt := 119) hx hb dX10_bees_198 (by decide) ?_
      exact hk119 _ _ _ _ _ _ _ _ _ _ _ _ hP hD hS (lv_sub hl [3, 4, 5, 6, 7, 8, 9, 10, 11, 2, 1, 0] rfl) hf
  · have hf := ff hf hc
    refine lv_aload_n hx hb dX10_bees_160 rfl (lv_at hl 1 rfl) ?_
    refine va_get (D := D) (ci := 9) (v := .int t_house) (C := RX10) (T := TX10) (N := 19) hx hb hts wX10_bees_X10 hown hK.1 hP 0 rfl rfl 4 (by decide) (hts _ mX10_bees_f17) (fun _ h9 => h9) rfl dX10_bees_161 ?_
    refine lv_goto (tgt := 193) hx hb dX10_bees_164 (by decide) ?_
    refine lv_istore (lv' := [(13, .int t_house), (11, .long (s1 * s0)), (0, .ref A_t), (1, .int a1), (2, .int a2), (3, .int a3), (4, .int a4), (5, .int v5), (6, .long v6), (8, .long v8), (10, .int v10), (14, .int v14)]) hx hb dX10_bees_193 hl (by decide) rfl (fun ls hl => ?_)
    refine lv_iinc (v := v14 + 1) (lv' := [(14, .int (v14 + 1)), (13, .int t_house), (11, .long (s1 * s0)), (0, .ref A_t), (1, .int a1), (2, .int a2), (3, .int a3), (4, .int a4), (5, .int v5), (6, .long v6), (8, .long v8), (10, .int v10)]) hx hb dX10_bees_195 hl (k := 11) rfl rfl (by decide) rfl (fun ls hl => ?_)
    refine lv_goto (tgt := 119) hx hb dX10_bees_198 (by decide) ?_
    exact hk119 _ _ _ _ _ _ _ _ _ _ _ _ hP hD hS (lv_sub hl [3, 4, 5, 6, 7, 8, 9, 10, 11, 2, 1, 0] rfl) hf
def bX10_bees_119 (k96 : Int32 × Int64 × Int64 × Int32 × Int32 × (Nat → Int32) → Option (Int64 × Int32 × (Nat → Int32))) (k119 : Int32 × Int64 × Int64 × Int32 × Int64 × Int32 × Int32 × Int32 × (Nat → Int32) → Option (Int64 × Int32 × (Nat → Int32))) (t_house : Int32) (t_pace : Nat → Int32) (a1 : Int32) (a2 : Int32) (a3 : Int32) (v5 : Int32) (v6 : Int64) (v8 : Int64) (v10 : Int32) (v11 : Int64) (v13 : Int32) (v14 : Int32) (t_up : Int32) (t_now : Nat → Int32) : Option (Int64 × Int32 × (Nat → Int32)) :=
  if a1 ≤ v14 then if a3 = 0 then bX10_bees_227 k96 v5 v8 v10 (v11 * ((v13 : Int32).toInt64)) v6 t_up t_now else if v13 = 0 then bX10_bees_227 k96 v5 v8 v10 v11 v6 t_up t_now else bX10_bees_227 k96 v5 v8 v10 0 v6 t_up t_now else (fX10_has v10 v14).bind fun r131 => if r131 = 0 then bX10_bees_147 k96 k119 t_house t_pace v5 v6 v8 v10 v13 v14 ((10 - a2 : Int32).toInt64) v11 t_up t_now else bX10_bees_147 k96 k119 t_house t_pace v5 v6 v8 v10 v13 v14 ((a2 : Int32).toInt64) v11 t_up t_now
set_option maxRecDepth 100000 in
set_option maxHeartbeats 4000000 in
theorem BX10_bees_119 {p : Program} {l : Launch} {e : Env} {s : State} {m : MethodId} {below : List Frame} {meth : Method} {c : Code} {D : va_G} {ty : TY} {A_t A_t_count A_t_pace A_t_sight A_t_pad A_t_now A_t_image A_t_isKept : Nat} {t_there : Int32} {t_awake : Int32} {t_house : Int32} {t_sharp : Int32} {t_sights : Int32} {t_signs : Int32} {t_reason : Int32} {t_acts : Int32} {t_breaths : Int32} {t_zeroAt : Int32} {t_noticedAt : Int32} {t_count : Nat → Int32} {t_pace : Nat → Int32} {t_sight : Nat → Int32} {t_pad : Nat → Int32} {t_image : Nat → Int32} {t_isKept : Nat → Int32} {a1 : Int32} {a2 : Int32} {a3 : Int32} {a4 : Int32} {q0 : Int64 × Int32 × (Nat → Int32)} {WC : va_W} (C : cx p s m [.ref A_t, .int a1, .int a2, .int a3, .int a4] meth c cX10_bees 16 (some .long) RX10 wsX10_bees) (hK : KK D ty s) {k96 : Int32 × Int64 × Int64 × Int32 × Int32 × (Nat → Int32) → Option (Int64 × Int32 × (Nat → Int32))} (hk96 : ∀ (v5 : Int32) (v6 : Int64) (v8 : Int64) (v10 : Int32) (t_up : Int32) (t_now : Nat → Int32) (H : Heap) (locs : List Loc) (ls : Array Slot), va_P D vwCl [(A_t, .inr (9, [.int t_there, .int t_awake, .ref A_t_count, .ref A_t_pace, .int t_house, .int t_sharp, .int t_sights, .ref A_t_sight, .int t_signs, .ref A_t_pad, .int t_up, .ref A_t_now, .int t_reason, .int t_acts, .int t_breaths, .int t_zeroAt, .int t_noticedAt, .ref A_t_image, .ref A_t_isKept])), (A_t_count, .inl (ty.1, 8, .inl t_count)), (A_t_pace, .inl (ty.1, 8, .inl t_pace)), (A_t_sight, .inl (ty.1, 24, .inl t_sight)), (A_t_pad, .inl (ty.1, 60, .inl t_pad)), (A_t_now, .inl (ty.1, 8, .inl t_now)), (A_t_image, .inl (ty.1, 120, .inl t_image)), (A_t_isKept, .inl (ty.2.2.1, 2, .inl t_isKept))] H → va_D (va_A WC s.heap.size) [(A_t, .inr (9, [.int t_there, .int t_awake, .ref A_t_count, .ref A_t_pace, .int t_house, .int t_sharp, .int t_sights, .ref A_t_sight, .int t_signs, .ref A_t_pad, .int t_up, .ref A_t_now, .int t_reason, .int t_acts, .int t_breaths, .int t_zeroAt, .int t_noticedAt, .ref A_t_image, .ref A_t_isKept])), (A_t_count, .inl (ty.1, 8, .inl t_count)), (A_t_pace, .inl (ty.1, 8, .inl t_pace)), (A_t_sight, .inl (ty.1, 24, .inl t_sight)), (A_t_pad, .inl (ty.1, 60, .inl t_pad)), (A_t_now, .inl (ty.1, 8, .inl t_now)), (A_t_image, .inl (ty.1, 120, .inl t_image)), (A_t_isKept, .inl (ty.2.2.1, 2, .inl t_isKept))] → va_S (va_A WC s.heap.size) s.heap H locs → lv_has ls 16 [(0, .ref A_t), (1, .int a1), (2, .int a2), (3, .int a3), (4, .int a4), (5, .int v5), (6, .long v6), (8, .long v8), (10, .int v10)] → k96 (v5, v6, v8, v10, t_up, t_now) = some q0 → WWl p l e rmX10_bees s m [.ref A_t, .int a1, .int a2, .int a3, .int a4] below meth c D WC [(A_t, .inr (9, [.int t_there, .int t_awake, .ref A_t_count, .ref A_t_pace, .int t_house, .int t_sharp, .int t_sights, .ref A_t_sight, .int t_signs, .ref A_t_pad, .int q0.2.1, .ref A_t_now, .int t_reason, .int t_acts, .int t_breaths, .int t_zeroAt, .int t_noticedAt, .ref A_t_image, .ref A_t_isKept])), (A_t_count, .inl (ty.1, 8, .inl t_count)), (A_t_pace, .inl (ty.1, 8, .inl t_pace)), (A_t_sight, .inl (ty.1, 24, .inl t_sight)), (A_t_pad, .inl (ty.1, 60, .inl t_pad)), (A_t_now, .inl (ty.1, 8, .inl q0.2.2)), (A_t_image, .inl (ty.1, 120, .inl t_image)), (A_t_isKept, .inl (ty.2.2.1, 2, .inl t_isKept))] q0.1 H locs (F0 m 96 ls [])) : ∀ (n : Nat) (v5 : Int32) (v6 : Int64) (v8 : Int64) (v10 : Int32) (v11 : Int64) (v13 : Int32) (v14 : Int32) (t_up : Int32) (t_now : Nat → Int32) (H : Heap) (locs : List Loc) (ls : Array Slot), va_P D vwCl [(A_t, .inr (9, [.int t_there, .int t_awake, .ref A_t_count, .ref A_t_pace, .int t_house, .int t_sharp, .int t_sights, .ref A_t_sight, .int t_signs, .ref A_t_pad, .int t_up, .ref A_t_now, .int t_reason, .int t_acts, .int t_breaths, .int t_zeroAt, .int t_noticedAt, .ref A_t_image, .ref A_t_isKept])), (A_t_count, .inl (ty.1, 8, .inl t_count)), (A_t_pace, .inl (ty.1, 8, .inl t_pace)), (A_t_sight, .inl (ty.1, 24, .inl t_sight)), (A_t_pad, .inl (ty.1, 60, .inl t_pad)), (A_t_now, .inl (ty.1, 8, .inl t_now)), (A_t_image, .inl (ty.1, 120, .inl t_image)), (A_t_isKept, .inl (ty.2.2.1, 2, .inl t_isKept))] H → va_D (va_A WC s.heap.size) [(A_t, .inr (9, [.int t_there, .int t_awake, .ref A_t_count, .ref A_t_pace, .int t_house, .int t_sharp, .int t_sights, .ref A_t_sight, .int t_signs, .ref A_t_pad, .int t_up, .ref A_t_now, .int t_reason, .int t_acts, .int t_breaths, .int t_zeroAt, .int t_noticedAt, .ref A_t_image, .ref A_t_isKept])), (A_t_count, .inl (ty.1, 8, .inl t_count)), (A_t_pace, .inl (ty.1, 8, .inl t_pace)), (A_t_sight, .inl (ty.1, 24, .inl t_sight)), (A_t_pad, .inl (ty.1, 60, .inl t_pad)), (A_t_now, .inl (ty.1, 8, .inl t_now)), (A_t_image, .inl (ty.1, 120, .inl t_image)), (A_t_isKept, .inl (ty.2.2.1, 2, .inl t_isKept))] → va_S (va_A WC s.heap.size) s.heap H locs → lv_has ls 16 [(0, .ref A_t), (1, .int a1), (2, .int a2), (3, .int a3), (4, .int a4), (5, .int v5), (6, .long v6), (8, .long v8), (10, .int v10), (11, .long v11), (13, .int v13), (14, .int v14)] → loopF (fun k q => bX10_bees_119 k96 k t_house t_pace a1 a2 a3 q.1 q.2.1 q.2.2.1 q.2.2.2.1 q.2.2.2.2.1 q.2.2.2.2.2.1 q.2.2.2.2.2.2.1 q.2.2.2.2.2.2.2.1 q.2.2.2.2.2.2.2.2) n (v5, v6, v8, v10, v11, v13, v14, t_up, t_now) = some q0 → WWl p l e rmX10_bees s m [.ref A_t, .int a1, .int a2, .int a3, .int a4] below meth c D WC [(A_t, .inr (9, [.int t_there, .int t_awake, .ref A_t_count, .ref A_t_pace, .int t_house, .int t_sharp, .int t_sights, .ref A_t_sight, .int t_signs, .ref A_t_pad, .int q0.2.1, .ref A_t_now, .int t_reason, .int t_acts, .int t_breaths, .int t_zeroAt, .int t_noticedAt, .ref A_t_image, .ref A_t_isKept])), (A_t_count, .inl (ty.1, 8, .inl t_count)), (A_t_pace, .inl (ty.1, 8, .inl t_pace)), (A_t_sight, .inl (ty.1, 24, .inl t_sight)), (A_t_pad, .inl (ty.1, 60, .inl t_pad)), (A_t_now, .inl (ty.1, 8, .inl q0.2.2)), (A_t_image, .inl (ty.1, 120, .inl t_image)), (A_t_isKept, .inl (ty.2.2.1, 2, .inl t_isKept))] q0.1 H locs (F0 m 119 ls []) := by
  obtain ⟨hx, hb, hr, hml, hown, hts, hlocks⟩ := id C
  intro n
  induction n with
  | zero =>
    intro v5 v6 v8 v10 v11 v13 v14 t_up t_now H locs ls hP hD hS hl hf
    cases hf
  | succ n ih =>
    intro v5 v6 v8 v10 v11 v13 v14 t_up t_now H locs ls hP hD hS hl hf
    have hf : bX10_bees_119 k96 (loopF (fun k q => bX10_bees_119 k96 k t_house t_pace a1 a2 a3 q.1 q.2.1 q.2.2.1 q.2.2.2.1 q.2.2.2.2.1 q.2.2.2.2.2.1 q.2.2.2.2.2.2.1 q.2.2.2.2.2.2.2.1 q.2.2.2.2.2.2.2.2) n) t_house t_pace a1 a2 a3 v5 v6 v8 v10 v11 v13 v14 t_up t_now = some q0 := hf
    have hk119 := ih
    unfold bX10_bees_119 at hf
    refine lv_iload hx hb dX10_bees_119 (lv_at hl 11 rfl) ?_
    refine lv_iload_n hx hb dX10_bees_121 rfl (lv_at hl 1 rfl) ?_
    refine lv_icmp_ge (tgt := 201) hx hb dX10_bees_122 (by decide) (fun hc => ?_) (fun hc => ?_)
    · have hf := ft hf hc
      refine lv_lload hx hb dX10_bees_201 (lv_at hl 6 rfl) ?_
      refine lv_iload_n hx hb dX10_bees_203 rfl (lv_at hl 3 rfl) ?_
      refine lv_if_ne (tgt := 216) hx hb dX10_bees_204 (by decide) (fun hc => ?_) (fun hc => ?_)
      · have hf := ff hf hc
        refine lv_iload hx hb dX10_bees_216 (lv_at hl 10 rfl) ?_
        refine lv_if_ne (tgt := 226) hx hb dX10_bees_218 (by decide) (fun hc => ?_) (fun hc => ?_)
        · have hf := ff hf hc
          refine lv_lconst (v := 0) hx hb dX10_bees_226 (by decide) ?_
          exact BX10_bees_227 C hK hk96 hP hD hS (lv_sub hl [0, 1, 2, 3, 4, 5, 7, 8] rfl) hf
        · have hf := ft hf hc
          refine lv_lload hx hb dX10_bees_221 (lv_at hl 9 rfl) ?_
          refine lv_goto (tgt := 227) hx hb dX10_bees_223 (by decide) ?_
          exact BX10_bees_227 C hK hk96 hP hD hS (lv_sub hl [0, 1, 2, 3, 4, 5, 7, 8] rfl) hf
      · have hf := ft hf hc
        refine lv_lload hx hb dX10_bees_207 (lv_at hl 9 rfl) ?_
        refine lv_iload hx hb dX10_bees_209 (lv_at hl 10 rfl) ?_
        refine lv_i2l hx hb dX10_bees_211 rfl ?_
        refine lv_lmul hx hb dX10_bees_212 ?_
        refine lv_goto (tgt := 227) hx hb dX10_bees_213 (by decide) ?_
        exact BX10_bees_227 C hK hk96 hP hD hS (lv_sub hl [0, 1, 2, 3, 4, 5, 7, 8] rfl) hf
    · have hf := ff hf hc
      refine lv_lload hx hb dX10_bees_125 (lv_at hl 9 rfl) ?_
      refine lv_iload hx hb dX10_bees_127 (lv_at hl 8 rfl) ?_
      refine lv_iload hx hb dX10_bees_129 (lv_at hl 11 rfl) ?_
      obtain ⟨r131, hr131, hf⟩ := bnd hf
      have hPc : va_P D vwCl [] _ := hP.sub [] rfl
      refine callS_ri (As := [.int v10, .int v14]) (rest := [.long v11]) ⟨hx, hb, hml, hown, hts⟩ (CX10_has l hr131) (va_cwS 2 hts gX10_bees_X10_has rfl rfl rfl kkX10_has.2 ⟨Nat.le_of_ble_eq_true rfl, Nat.le_of_ble_eq_true rfl⟩) hK hPc hl.1 rfl (Nat.le_of_ble_eq_true rfl) dX10_bees_131 ⟨Nat.zero_le _, Nat.zero_le _⟩ ?_
      refine lv_if_eq (tgt := 142) hx hb dX10_bees_134 (by decide) (fun hc => ?_) (fun hc => ?_)
      · have hf := ft hf hc
        refine lv_bipush (v := 10) hx hb dX10_bees_142 (by decide) ?_
        refine lv_iload_n hx hb dX10_bees_144 rfl (lv_at hl 2 rfl) ?_
        refine lv_isub hx hb dX10_bees_145 ?_
        refine lv_i2l hx hb dX10_bees_146 rfl ?_
        exact BX10_bees_147 C hK hk96 hk119 hP hD hS (lv_sub hl [0, 1, 2, 3, 4, 5, 6, 7, 8, 10, 11] rfl) hf
      · have hf := ff hf hc
        refine lv_iload_n hx hb dX10_bees_137 rfl (lv_at hl 2 rfl) ?_
        refine lv_i2l hx hb dX10_bees_138 rfl ?_
        refine lv_goto (tgt := 147) hx hb dX10_bees_139 (by decide) ?_
        exact BX10_bees_147 C hK hk96 hk119 hP hD hS (lv_sub hl [0, 1, 2, 3, 4, 5, 6, 7, 8, 10, 11] rfl) hf
def bX10_bees_96 (k96 : Int32 × Int64 × Int64 × Int32 × Int32 × (Nat → Int32) → Option (Int64 × Int32 × (Nat → Int32))) (t_house : Int32) (t_count : Nat → Int32) (t_pace : Nat → Int32) (a1 : Int32) (a2 : Int32) (a3 : Int32) (a4 : Int32) (v5 : Int32) (v6 : Int64) (v8 : Int64) (v10 : Int32) (t_up : Int32) (t_now : Nat → Int32) : Option (Int64 × Int32 × (Nat → Int32)) :=
  if (1 <<< (a1 &&& 31)) ≤ v10 then loopF (fun k q => bX10_bees_244 k a4 q.1 q.2.1 q.2.2.1 q.2.2.2.1 q.2.2.2.2.1 q.2.2.2.2.2) FU (v6, v8, v6, v8, t_up, t_now) else gIn v5 8 (loopF (fun k q => bX10_bees_119 k96 k t_house t_pace a1 a2 a3 q.1 q.2.1 q.2.2.1 q.2.2.2.1 q.2.2.2.2.1 q.2.2.2.2.2.1 q.2.2.2.2.2.2.1 q.2.2.2.2.2.2.2.1 q.2.2.2.2.2.2.2.2) FU (v5, v6, v8, v10, 1, t_count (v5 : Int32).toNatClampNeg, 0, t_up, t_now))
set_option maxRecDepth 100000 in
set_option maxHeartbeats 4000000 in
theorem BX10_bees_96 {p : Program} {l : Launch} {e : Env} {s : State} {m : MethodId} {below : List Frame} {meth : Method} {c : Code} {D : va_G} {ty : TY} {A_t A_t_count A_t_pace A_t_sight A_t_pad A_t_now A_t_image A_t_isKept : Nat} {t_there : Int32} {t_awake : Int32} {t_house : Int32} {t_sharp : Int32} {t_sights : Int32} {t_signs : Int32} {t_reason : Int32} {t_acts : Int32} {t_breaths : Int32} {t_zeroAt : Int32} {t_noticedAt : Int32} {t_count : Nat → Int32} {t_pace : Nat → Int32} {t_sight : Nat → Int32} {t_pad : Nat → Int32} {t_image : Nat → Int32} {t_isKept : Nat → Int32} {a1 : Int32} {a2 : Int32} {a3 : Int32} {a4 : Int32} {q0 : Int64 × Int32 × (Nat → Int32)} {WC : va_W} (C : cx p s m [.ref A_t, .int a1, .int a2, .int a3, .int a4] meth c cX10_bees 16 (some .long) RX10 wsX10_bees) (hK : KK D ty s)   : ∀ (n : Nat) (v5 : Int32) (v6 : Int64) (v8 : Int64) (v10 : Int32) (t_up : Int32) (t_now : Nat → Int32) (H : Heap) (locs : List Loc) (ls : Array Slot), va_P D vwCl [(A_t, .inr (9, [.int t_there, .int t_awake, .ref A_t_count, .ref A_t_pace, .int t_house, .int t_sharp, .int t_sights, .ref A_t_sight, .int t_signs, .ref A_t_pad, .int t_up, .ref A_t_now, .int t_reason, .int t_acts, .int t_breaths, .int t_zeroAt, .int t_noticedAt, .ref A_t_image, .ref A_t_isKept])), (A_t_count, .inl (ty.1, 8, .inl t_count)), (A_t_pace, .inl (ty.1, 8, .inl t_pace)), (A_t_sight, .inl (ty.1, 24, .inl t_sight)), (A_t_pad, .inl (ty.1, 60, .inl t_pad)), (A_t_now, .inl (ty.1, 8, .inl t_now)), (A_t_image, .inl (ty.1, 120, .inl t_image)), (A_t_isKept, .inl (ty.2.2.1, 2, .inl t_isKept))] H → va_D (va_A WC s.heap.size) [(A_t, .inr (9, [.int t_there, .int t_awake, .ref A_t_count, .ref A_t_pace, .int t_house, .int t_sharp, .int t_sights, .ref A_t_sight, .int t_signs, .ref A_t_pad, .int t_up, .ref A_t_now, .int t_reason, .int t_acts, .int t_breaths, .int t_zeroAt, .int t_noticedAt, .ref A_t_image, .ref A_t_isKept])), (A_t_count, .inl (ty.1, 8, .inl t_count)), (A_t_pace, .inl (ty.1, 8, .inl t_pace)), (A_t_sight, .inl (ty.1, 24, .inl t_sight)), (A_t_pad, .inl (ty.1, 60, .inl t_pad)), (A_t_now, .inl (ty.1, 8, .inl t_now)), (A_t_image, .inl (ty.1, 120, .inl t_image)), (A_t_isKept, .inl (ty.2.2.1, 2, .inl t_isKept))] → va_S (va_A WC s.heap.size) s.heap H locs → lv_has ls 16 [(0, .ref A_t), (1, .int a1), (2, .int a2), (3, .int a3), (4, .int a4), (5, .int v5), (6, .long v6), (8, .long v8), (10, .int v10)] → loopF (fun k q => bX10_bees_96 k t_house t_count t_pace a1 a2 a3 a4 q.1 q.2.1 q.2.2.1 q.2.2.2.1 q.2.2.2.2.1 q.2.2.2.2.2) n (v5, v6, v8, v10, t_up, t_now) = some q0 → WWl p l e rmX10_bees s m [.ref A_t, .int a1, .int a2, .int a3, .int a4] below meth c D WC [(A_t, .inr (9, [.int t_there, .int t_awake, .ref A_t_count, .ref A_t_pace, .int t_house, .int t_sharp, .int t_sights, .ref A_t_sight, .int t_signs, .ref A_t_pad, .int q0.2.1, .ref A_t_now, .int t_reason, .int t_acts, .int t_breaths, .int t_zeroAt, .int t_noticedAt, .ref A_t_image, .ref A_t_isKept])), (A_t_count, .inl (ty.1, 8, .inl t_count)), (A_t_pace, .inl (ty.1, 8, .inl t_pace)), (A_t_sight, .inl (ty.1, 24, .inl t_sight)), (A_t_pad, .inl (ty.1, 60, .inl t_pad)), (A_t_now, .inl (ty.1, 8, .inl q0.2.2)), (A_t_image, .inl (ty.1, 120, .inl t_image)), (A_t_isKept, .inl (ty.2.2.1, 2, .inl t_isKept))] q0.1 H locs (F0 m 96 ls []) := by
  obtain ⟨hx, hb, hr, hml, hown, hts, hlocks⟩ := id C
  intro n
  induction n with
  | zero =>
    intro v5 v6 v8 v10 t_up t_now H locs ls hP hD hS hl hf
    cases hf
  | succ n ih =>
    intro v5 v6 v8 v10 t_up t_now H locs ls hP hD hS hl hf
    have hf : bX10_bees_96 (loopF (fun k q => bX10_bees_96 k t_house t_count t_pace a1 a2 a3 a4 q.1 q.2.1 q.2.2.1 q.2.2.2.1 q.2.2.2.2.1 q.2.2.2.2.2) n) t_house t_count t_pace a1 a2 a3 a4 v5 v6 v8 v10 t_up t_now = some q0 := hf
    have hk96 := ih
    unfold bX10_bees_96 at hf
    refine lv_iload hx hb dX10_bees_96 (lv_at hl 8 rfl) ?_
    refine lv_iconst (v := 1) hx hb dX10_bees_98 (by decide) ?_
    refine lv_iload_n hx hb dX10_bees_99 rfl (lv_at hl 1 rfl) ?_
    refine lv_ishl hx hb dX10_bees_100 ?_
    refine lv_icmp_ge (tgt := 236) hx hb dX10_bees_101 (by decide) (fun hc => ?_) (fun hc => ?_)
    · have hf := ft hf hc
      refine lv_lload hx hb dX10_bees_236 (lv_at hl 6 rfl) ?_
      refine lv_lstore (lv' := [(10, .long v6), (0, .ref A_t), (1, .int a1), (2, .int a2), (3, .int a3), (4, .int a4), (5, .int v5), (6, .long v6), (8, .long v8)]) hx hb dX10_bees_238 hl (by decide) rfl (fun ls hl => ?_)
      refine lv_lload hx hb dX10_bees_240 (lv_at hl 8 rfl) ?_
      refine lv_lstore (lv' := [(12, .long v8), (10, .long v6), (0, .ref A_t), (1, .int a1), (2, .int a2), (3, .int a3), (4, .int a4), (5, .int v5), (6, .long v6), (8, .long v8)]) hx hb dX10_bees_242 hl (by decide) rfl (fun ls hl => ?_)
      exact BX10_bees_244 C hK  FU _ _ _ _ _ _ _ _ _ hP hD hS (lv_sub hl [6, 8, 9, 1, 0] rfl) hf
    · have hf := ff hf hc
      refine lv_lconst (v := 1) hx hb dX10_bees_104 (by decide) ?_
      refine lv_lstore (lv' := [(11, .long 1), (0, .ref A_t), (1, .int a1), (2, .int a2), (3, .int a3), (4, .int a4), (5, .int v5), (6, .long v6), (8, .long v8), (10, .int v10)]) hx hb dX10_bees_105 hl (by decide) rfl (fun ls hl => ?_)
      refine lv_aload_n hx hb dX10_bees_107 rfl (lv_at hl 1 rfl) ?_
      refine va_get (D := D) (ci := 9) (v := .ref A_t_count) (C := RX10) (T := TX10) (N := 19) hx hb hts wX10_bees_X10 hown hK.1 hP 0 rfl rfl 2 (by decide) (hts _ mX10_bees_f7) (fun _ h9 => h9) rfl dX10_bees_108 ?_
      refine lv_iload hx hb dX10_bees_111 (lv_at hl 6 rfl) ?_
      obtain ⟨hin, hf⟩ := gIn_some hf
      refine va_iald hx hb hK.1 hP 1 0 rfl rfl hin dX10_bees_113 ?_
      refine lv_istore (lv' := [(13, .int (t_count (v5 : Int32).toNatClampNeg)), (11, .long 1), (0, .ref A_t), (1, .int a1), (2, .int a2), (3, .int a3), (4, .int a4), (5, .int v5), (6, .long v6), (8, .long v8), (10, .int v10)]) hx hb dX10_bees_114 hl (by decide) rfl (fun ls hl => ?_)
      refine lv_iconst (v := 0) hx hb dX10_bees_116 (by decide) ?_
      refine lv_istore (lv' := [(14, .int 0), (13, .int (t_count (v5 : Int32).toNatClampNeg)), (11, .long 1), (0, .ref A_t), (1, .int a1), (2, .int a2), (3, .int a3), (4, .int a4), (5, .int v5), (6, .long v6), (8, .long v8), (10, .int v10)]) hx hb dX10_bees_117 hl (by decide) rfl (fun ls hl => ?_)
      exact BX10_bees_119 C hK hk96 FU _ _ _ _ _ _ _ _ _ _ _ _ hP hD hS (lv_sub hl [3, 4, 5, 6, 7, 8, 9, 10, 11, 2, 1, 0] rfl) hf
def bX10_bees_73 (k73 : Int32 × Int64 × Int64 × Int32 × Int32 × (Nat → Int32) → Option (Int64 × Int32 × (Nat → Int32))) (t_house : Int32) (t_count : Nat → Int32) (t_pace : Nat → Int32) (a1 : Int32) (a2 : Int32) (a3 : Int32) (a4 : Int32) (v5 : Int32) (v6 : Int64) (v8 : Int64) (v10 : Int32) (t_up : Int32) (t_now : Nat → Int32) : Option (Int64 × Int32 × (Nat → Int32)) :=
  if a1 ≤ v10 then loopF (fun k q => bX10_bees_96 k t_house t_count t_pace a1 a2 a3 a4 q.1 q.2.1 q.2.2.1 q.2.2.2.1 q.2.2.2.2.1 q.2.2.2.2.2) FU (v5, v6, v8, 0, t_up, t_now) else k73 (v5, v6, v8 * 10, v10 + 1, t_up, t_now)
set_option maxRecDepth 100000 in
set_option maxHeartbeats 4000000 in
theorem BX10_bees_73 {p : Program} {l : Launch} {e : Env} {s : State} {m : MethodId} {below : List Frame} {meth : Method} {c : Code} {D : va_G} {ty : TY} {A_t A_t_count A_t_pace A_t_sight A_t_pad A_t_now A_t_image A_t_isKept : Nat} {t_there : Int32} {t_awake : Int32} {t_house : Int32} {t_sharp : Int32} {t_sights : Int32} {t_signs : Int32} {t_reason : Int32} {t_acts : Int32} {t_breaths : Int32} {t_zeroAt : Int32} {t_noticedAt : Int32} {t_count : Nat → Int32} {t_pace : Nat → Int32} {t_sight : Nat → Int32} {t_pad : Nat → Int32} {t_image : Nat → Int32} {t_isKept : Nat → Int32} {a1 : Int32} {a2 : Int32} {a3 : Int32} {a4 : Int32} {q0 : Int64 × Int32 × (Nat → Int32)} {WC : va_W} (C : cx p s m [.ref A_t, .int a1, .int a2, .int a3, .int a4] meth c cX10_bees 16 (some .long) RX10 wsX10_bees) (hK : KK D ty s)   : ∀ (n : Nat) (v5 : Int32) (v6 : Int64) (v8 : Int64) (v10 : Int32) (t_up : Int32) (t_now : Nat → Int32) (H : Heap) (locs : List Loc) (ls : Array Slot), va_P D vwCl [(A_t, .inr (9, [.int t_there, .int t_awake, .ref A_t_count, .ref A_t_pace, .int t_house, .int t_sharp, .int t_sights, .ref A_t_sight, .int t_signs, .ref A_t_pad, .int t_up, .ref A_t_now, .int t_reason, .int t_acts, .int t_breaths, .int t_zeroAt, .int t_noticedAt, .ref A_t_image, .ref A_t_isKept])), (A_t_count, .inl (ty.1, 8, .inl t_count)), (A_t_pace, .inl (ty.1, 8, .inl t_pace)), (A_t_sight, .inl (ty.1, 24, .inl t_sight)), (A_t_pad, .inl (ty.1, 60, .inl t_pad)), (A_t_now, .inl (ty.1, 8, .inl t_now)), (A_t_image, .inl (ty.1, 120, .inl t_image)), (A_t_isKept, .inl (ty.2.2.1, 2, .inl t_isKept))] H → va_D (va_A WC s.heap.size) [(A_t, .inr (9, [.int t_there, .int t_awake, .ref A_t_count, .ref A_t_pace, .int t_house, .int t_sharp, .int t_sights, .ref A_t_sight, .int t_signs, .ref A_t_pad, .int t_up, .ref A_t_now, .int t_reason, .int t_acts, .int t_breaths, .int t_zeroAt, .int t_noticedAt, .ref A_t_image, .ref A_t_isKept])), (A_t_count, .inl (ty.1, 8, .inl t_count)), (A_t_pace, .inl (ty.1, 8, .inl t_pace)), (A_t_sight, .inl (ty.1, 24, .inl t_sight)), (A_t_pad, .inl (ty.1, 60, .inl t_pad)), (A_t_now, .inl (ty.1, 8, .inl t_now)), (A_t_image, .inl (ty.1, 120, .inl t_image)), (A_t_isKept, .inl (ty.2.2.1, 2, .inl t_isKept))] → va_S (va_A WC s.heap.size) s.heap H locs → lv_has ls 16 [(0, .ref A_t), (1, .int a1), (2, .int a2), (3, .int a3), (4, .int a4), (5, .int v5), (6, .long v6), (8, .long v8), (10, .int v10)] → loopF (fun k q => bX10_bees_73 k t_house t_count t_pace a1 a2 a3 a4 q.1 q.2.1 q.2.2.1 q.2.2.2.1 q.2.2.2.2.1 q.2.2.2.2.2) n (v5, v6, v8, v10, t_up, t_now) = some q0 → WWl p l e rmX10_bees s m [.ref A_t, .int a1, .int a2, .int a3, .int a4] below meth c D WC [(A_t, .inr (9, [.int t_there, .int t_awake, .ref A_t_count, .ref A_t_pace, .int t_house, .int t_sharp, .int t_sights, .ref A_t_sight, .int t_signs, .ref A_t_pad, .int q0.2.1, .ref A_t_now, .int t_reason, .int t_acts, .int t_breaths, .int t_zeroAt, .int t_noticedAt, .ref A_t_image, .ref A_t_isKept])), (A_t_count, .inl (ty.1, 8, .inl t_count)), (A_t_pace, .inl (ty.1, 8, .inl t_pace)), (A_t_sight, .inl (ty.1, 24, .inl t_sight)), (A_t_pad, .inl (ty.1, 60, .inl t_pad)), (A_t_now, .inl (ty.1, 8, .inl q0.2.2)), (A_t_image, .inl (ty.1, 120, .inl t_image)), (A_t_isKept, .inl (ty.2.2.1, 2, .inl t_isKept))] q0.1 H locs (F0 m 73 ls []) := by
  obtain ⟨hx, hb, hr, hml, hown, hts, hlocks⟩ := id C
  intro n
  induction n with
  | zero =>
    intro v5 v6 v8 v10 t_up t_now H locs ls hP hD hS hl hf
    cases hf
  | succ n ih =>
    intro v5 v6 v8 v10 t_up t_now H locs ls hP hD hS hl hf
    have hf : bX10_bees_73 (loopF (fun k q => bX10_bees_73 k t_house t_count t_pace a1 a2 a3 a4 q.1 q.2.1 q.2.2.1 q.2.2.2.1 q.2.2.2.2.1 q.2.2.2.2.2) n) t_house t_count t_pace a1 a2 a3 a4 v5 v6 v8 v10 t_up t_now = some q0 := hf
    have hk73 := ih
    unfold bX10_bees_73 at hf
    refine lv_iload hx hb dX10_bees_73 (lv_at hl 8 rfl) ?_
    refine lv_iload_n hx hb dX10_bees_75 rfl (lv_at hl 1 rfl) ?_
    refine lv_icmp_ge (tgt := 93) hx hb dX10_bees_76 (by decide) (fun hc => ?_) (fun hc => ?_)
    · have hf := ft hf hc
      refine lv_iconst (v := 0) hx hb dX10_bees_93 (by decide) ?_
      refine lv_istore (lv' := [(10, .int 0), (0, .ref A_t), (1, .int a1), (2, .int a2), (3, .int a3), (4, .int a4), (5, .int v5), (6, .long v6), (8, .long v8)]) hx hb dX10_bees_94 hl (by decide) rfl (fun ls hl => ?_)
      exact BX10_bees_96 C hK  FU _ _ _ _ _ _ _ _ _ hP hD hS (lv_sub hl [1, 2, 3, 4, 5, 6, 7, 8, 0] rfl) hf
    · have hf := ff hf hc
      refine lv_lload hx hb dX10_bees_79 (lv_at hl 7 rfl) ?_
      refine lv_ldc2 (v := 10) hx hb hown (hts _ mX10_bees_k172) dX10_bees_81 ?_
      refine lv_lmul hx hb dX10_bees_84 ?_
      refine lv_lstore (lv' := [(8, .long (v8 * 10)), (0, .ref A_t), (1, .int a1), (2, .int a2), (3, .int a3), (4, .int a4), (5, .int v5), (6, .long v6), (10, .int v10)]) hx hb dX10_bees_85 hl (by decide) rfl (fun ls hl => ?_)
      refine lv_iinc (v := v10 + 1) (lv' := [(10, .int (v10 + 1)), (8, .long (v8 * 10)), (0, .ref A_t), (1, .int a1), (2, .int a2), (3, .int a3), (4, .int a4), (5, .int v5), (6, .long v6)]) hx hb dX10_bees_87 hl (k := 8) rfl rfl (by decide) rfl (fun ls hl => ?_)
      refine lv_goto (tgt := 73) hx hb dX10_bees_90 (by decide) ?_
      exact hk73 _ _ _ _ _ _ _ _ _ hP hD hS (lv_sub hl [2, 3, 4, 5, 6, 7, 8, 1, 0] rfl) hf
def fX10_bees (t_awake : Int32) (t_house : Int32) (t_up : Int32) (t_count : Nat → Int32) (t_pace : Nat → Int32) (t_now : Nat → Int32) (a1 : Int32) (a2 : Int32) (a3 : Int32) (a4 : Int32) : Option (Int64 × Int32 × (Nat → Int32)) :=
  (fX10_in a1 0 10).bind fun r4 => if r4 = 0 then some ((-1000000000000000002), t_up, t_now) else (fX10_in a2 0 10).bind fun r14 => if r14 = 0 then some ((-1000000000000000002), t_up, t_now) else (fX10_in a3 0 1).bind fun r23 => if r23 = 0 then some ((-1000000000000000002), t_up, t_now) else (fX10_in a4 0 1).bind fun r33 => if r33 = 0 then some ((-1000000000000000002), t_up, t_now) else if t_awake = 0 then some ((-1000000000000000003), t_up, t_now) else (fX10_asNow t_awake t_up t_count t_now).bind fun r55 => (fX10_first r55.1 r55.2).bind fun r59 => loopF (fun k q => bX10_bees_73 k t_house t_count t_pace a1 a2 a3 a4 q.1 q.2.1 q.2.2.1 q.2.2.2.1 q.2.2.2.2.1 q.2.2.2.2.2) FU (r59, 0, 1, 0, r55.1, r55.2)
set_option maxRecDepth 100000 in
set_option maxHeartbeats 4000000 in
theorem CX10_bees (l : Launch) {D : va_G} {ty : TY} {A_t A_t_count A_t_pace A_t_sight A_t_pad A_t_now A_t_image A_t_isKept : Nat} {t_there : Int32} {t_awake : Int32} {t_house : Int32} {t_sharp : Int32} {t_sights : Int32} {t_signs : Int32} {t_up : Int32} {t_reason : Int32} {t_acts : Int32} {t_breaths : Int32} {t_zeroAt : Int32} {t_noticedAt : Int32} {t_count : Nat → Int32} {t_pace : Nat → Int32} {t_sight : Nat → Int32} {t_pad : Nat → Int32} {t_now : Nat → Int32} {t_image : Nat → Int32} {t_isKept : Nat → Int32} {a1 : Int32} {a2 : Int32} {a3 : Int32} {a4 : Int32} {q0 : Int64 × Int32 × (Nat → Int32)} (hf : fX10_bees t_awake t_house t_up t_count t_pace t_now a1 a2 a3 a4 = some q0) : RWl l yX10_bees wsX10_bees rmX10_bees D ty [.ref A_t, .int a1, .int a2, .int a3, .int a4] [(A_t, .inr (9, [.int t_there, .int t_awake, .ref A_t_count, .ref A_t_pace, .int t_house, .int t_sharp, .int t_sights, .ref A_t_sight, .int t_signs, .ref A_t_pad, .int t_up, .ref A_t_now, .int t_reason, .int t_acts, .int t_breaths, .int t_zeroAt, .int t_noticedAt, .ref A_t_image, .ref A_t_isKept])), (A_t_count, .inl (ty.1, 8, .inl t_count)), (A_t_pace, .inl (ty.1, 8, .inl t_pace)), (A_t_sight, .inl (ty.1, 24, .inl t_sight)), (A_t_pad, .inl (ty.1, 60, .inl t_pad)), (A_t_now, .inl (ty.1, 8, .inl t_now)), (A_t_image, .inl (ty.1, 120, .inl t_image)), (A_t_isKept, .inl (ty.2.2.1, 2, .inl t_isKept))] q0.1 [(A_t, .inr (9, [.int t_there, .int t_awake, .ref A_t_count, .ref A_t_pace, .int t_house, .int t_sharp, .int t_sights, .ref A_t_sight, .int t_signs, .ref A_t_pad, .int q0.2.1, .ref A_t_now, .int t_reason, .int t_acts, .int t_breaths, .int t_zeroAt, .int t_noticedAt, .ref A_t_image, .ref A_t_isKept])), (A_t_count, .inl (ty.1, 8, .inl t_count)), (A_t_pace, .inl (ty.1, 8, .inl t_pace)), (A_t_sight, .inl (ty.1, 24, .inl t_sight)), (A_t_pad, .inl (ty.1, 60, .inl t_pad)), (A_t_now, .inl (ty.1, 8, .inl q0.2.2)), (A_t_image, .inl (ty.1, 120, .inl t_image)), (A_t_isKept, .inl (ty.2.2.1, 2, .inl t_isKept))] := by
  refine RWl.start (cc := cX10_bees) (maxL := 16) (ret := (some .long)) (own := RX10) (by decide) rfl rfl (Nat.le_of_ble_eq_true rfl) ?_
  intro p e s m below meth c ls C hK hP hD hS hl
  obtain ⟨WC, hWC⟩ : ∃ w : va_W, w = [(A_t, .inr (9, [.int t_there, .int t_awake, .ref A_t_count, .ref A_t_pace, .int t_house, .int t_sharp, .int t_sights, .ref A_t_sight, .int t_signs, .ref A_t_pad, .int t_up, .ref A_t_now, .int t_reason, .int t_acts, .int t_breaths, .int t_zeroAt, .int t_noticedAt, .ref A_t_image, .ref A_t_isKept])), (A_t_count, .inl (ty.1, 8, .inl t_count)), (A_t_pace, .inl (ty.1, 8, .inl t_pace)), (A_t_sight, .inl (ty.1, 24, .inl t_sight)), (A_t_pad, .inl (ty.1, 60, .inl t_pad)), (A_t_now, .inl (ty.1, 8, .inl t_now)), (A_t_image, .inl (ty.1, 120, .inl t_image)), (A_t_isKept, .inl (ty.2.2.1, 2, .inl t_isKept))] := ⟨_, rfl⟩
  rw [← hWC] at hD hS ⊢
  have hD : va_D (va_A WC s.heap.size) [(A_t, .inr (9, [.int t_there, .int t_awake, .ref A_t_count, .ref A_t_pace, .int t_house, .int t_sharp, .int t_sights, .ref A_t_sight, .int t_signs, .ref A_t_pad, .int t_up, .ref A_t_now, .int t_reason, .int t_acts, .int t_breaths, .int t_zeroAt, .int t_noticedAt, .ref A_t_image, .ref A_t_isKept])), (A_t_count, .inl (ty.1, 8, .inl t_count)), (A_t_pace, .inl (ty.1, 8, .inl t_pace)), (A_t_sight, .inl (ty.1, 24, .inl t_sight)), (A_t_pad, .inl (ty.1, 60, .inl t_pad)), (A_t_now, .inl (ty.1, 8, .inl t_now)), (A_t_image, .inl (ty.1, 120, .inl t_image)), (A_t_isKept, .inl (ty.2.2.1, 2, .inl t_isKept))] := by rw [← hWC]; exact hD
  obtain ⟨hx, hb, hr, hml, hown, hts, hlocks⟩ := id C
  have hl : lv_has ls 16 [(0, .ref A_t), (1, .int a1), (2, .int a2), (3, .int a3), (4, .int a4)] := hl
  unfold fX10_bees at hf
  refine lv_iload_n hx hb dX10_bees_0 rfl (lv_at hl 1 rfl) ?_
  refine lv_iconst (v := 0) hx hb dX10_bees_1 (by decide) ?_
  refine lv_bipush (v := 10) hx hb dX10_bees_2 (by decide) ?_
  obtain ⟨r4, hr4, hf⟩ := bnd hf
  have hPc : va_P D vwCl [] _ := hP.sub [] rfl
  refine callS_ri (As := [.int a1, .int 0, .int 10]) (rest := []) ⟨hx, hb, hml, hown, hts⟩ (CX10_in l hr4) (va_cwS 3 hts gX10_bees_X10_in rfl rfl rfl kkX10_in.2 ⟨Nat.le_of_ble_eq_true rfl, Nat.le_of_ble_eq_true rfl⟩) hK hPc hl.1 rfl (Nat.le_of_ble_eq_true rfl) dX10_bees_4 ⟨Nat.zero_le _, Nat.zero_le _⟩ ?_
  refine lv_if_eq (tgt := 39) hx hb dX10_bees_7 (by decide) (fun hc => ?_) (fun hc => ?_)
  · have hf := ft hf hc
    refine lv_ldc2 (v := (-1000000000000000002)) hx hb hown (hts _ mX10_bees_k168) dX10_bees_39 ?_
    cases hf
    exact ret_wl hx hb hr hlocks hP hD hS dX10_bees_42
  · have hf := ff hf hc
    refine lv_iload_n hx hb dX10_bees_10 rfl (lv_at hl 2 rfl) ?_
    refine lv_iconst (v := 0) hx hb dX10_bees_11 (by decide) ?_
    refine lv_bipush (v := 10) hx hb dX10_bees_12 (by decide) ?_
    obtain ⟨r14, hr14, hf⟩ := bnd hf
    have hPc : va_P D vwCl [] _ := hP.sub [] rfl
    refine callS_ri (As := [.int a2, .int 0, .int 10]) (rest := []) ⟨hx, hb, hml, hown, hts⟩ (CX10_in l hr14) (va_cwS 3 hts gX10_bees_X10_in rfl rfl rfl kkX10_in.2 ⟨Nat.le_of_ble_eq_true rfl, Nat.le_of_ble_eq_true rfl⟩) hK hPc hl.1 rfl (Nat.le_of_ble_eq_true rfl) dX10_bees_14 ⟨Nat.zero_le _, Nat.zero_le _⟩ ?_
    refine lv_if_eq (tgt := 39) hx hb dX10_bees_17 (by decide) (fun hc => ?_) (fun hc => ?_)
    · have hf := ft hf hc
      refine lv_ldc2 (v := (-1000000000000000002)) hx hb hown (hts _ mX10_bees_k168) dX10_bees_39 ?_
      cases hf
      exact ret_wl hx hb hr hlocks hP hD hS dX10_bees_42
    · have hf := ff hf hc
      refine lv_iload_n hx hb dX10_bees_20 rfl (lv_at hl 3 rfl) ?_
      refine lv_iconst (v := 0) hx hb dX10_bees_21 (by decide) ?_
      refine lv_iconst (v := 1) hx hb dX10_bees_22 (by decide) ?_
      obtain ⟨r23, hr23, hf⟩ := bnd hf
      have hPc : va_P D vwCl [] _ := hP.sub [] rfl
      refine callS_ri (As := [.int a3, .int 0, .int 1]) (rest := []) ⟨hx, hb, hml, hown, hts⟩ (CX10_in l hr23) (va_cwS 3 hts gX10_bees_X10_in rfl rfl rfl kkX10_in.2 ⟨Nat.le_of_ble_eq_true rfl, Nat.le_of_ble_eq_true rfl⟩) hK hPc hl.1 rfl (Nat.le_of_ble_eq_true rfl) dX10_bees_23 ⟨Nat.zero_le _, Nat.zero_le _⟩ ?_
      refine lv_if_eq (tgt := 39) hx hb dX10_bees_26 (by decide) (fun hc => ?_) (fun hc => ?_)
      · have hf := ft hf hc
        refine lv_ldc2 (v := (-1000000000000000002)) hx hb hown (hts _ mX10_bees_k168) dX10_bees_39 ?_
        cases hf
        exact ret_wl hx hb hr hlocks hP hD hS dX10_bees_42
      · have hf := ff hf hc
        refine lv_iload hx hb dX10_bees_29 (lv_at hl 4 rfl) ?_
        refine lv_iconst (v := 0) hx hb dX10_bees_31 (by decide) ?_
        refine lv_iconst (v := 1) hx hb dX10_bees_32 (by decide) ?_
        obtain ⟨r33, hr33, hf⟩ := bnd hf
        have hPc : va_P D vwCl [] _ := hP.sub [] rfl
        refine callS_ri (As := [.int a4, .int 0, .int 1]) (rest := []) ⟨hx, hb, hml, hown, hts⟩ (CX10_in l hr33) (va_cwS 3 hts gX10_bees_X10_in rfl rfl rfl kkX10_in.2 ⟨Nat.le_of_ble_eq_true rfl, Nat.le_of_ble_eq_true rfl⟩) hK hPc hl.1 rfl (Nat.le_of_ble_eq_true rfl) dX10_bees_33 ⟨Nat.zero_le _, Nat.zero_le _⟩ ?_
        refine lv_if_ne (tgt := 43) hx hb dX10_bees_36 (by decide) (fun hc => ?_) (fun hc => ?_)
        · have hf := ff hf hc
          refine lv_aload_n hx hb dX10_bees_43 rfl (lv_at hl 0 rfl) ?_
          refine va_get (D := D) (ci := 9) (v := .int t_awake) (C := RX10) (T := TX10) (N := 19) hx hb hts wX10_bees_X10 hown hK.1 hP 0 rfl rfl 1 (by decide) (hts _ mX10_bees_f55) (fun _ h9 => h9) rfl dX10_bees_44 ?_
          refine lv_if_ne (tgt := 54) hx hb dX10_bees_47 (by decide) (fun hc => ?_) (fun hc => ?_)
          · have hf := ff hf hc
            refine lv_aload_n hx hb dX10_bees_54 rfl (lv_at hl 0 rfl) ?_
            obtain ⟨r55, hr55, hf⟩ := bnd hf
            refine callV_wv (As := []) (rest := []) ⟨hx, hb, hml, hown, hts⟩ (CX10_asNow l hr55) (cwV 0 hts gX10_bees_X10_asNow rfl rfl rfl kkX10_asNow ⟨Nat.le_of_ble_eq_true rfl, Nat.le_of_ble_eq_true rfl⟩) hK hP hD hS (fun _ h => Or.inr h) [0, 1, 2, 3, 4, 5, 6, 7] [] [0, 1, 2, 3, 4, 5, 6, 7] rfl (by decide) (by decide) rfl rfl 0 rfl rfl rfl hl.1 rfl (Nat.le_of_ble_eq_true rfl) dX10_bees_55 ⟨Nat.zero_le _, Nat.zero_le _⟩ (fun H locs hP hD hS => ?_)
            have hP : va_P D vwCl [(A_t, .inr (9, [.int t_there, .int t_awake, .ref A_t_count, .ref A_t_pace, .int t_house, .int t_sharp, .int t_sights, .ref A_t_sight, .int t_signs, .ref A_t_pad, .int r55.1, .ref A_t_now, .int t_reason, .int t_acts, .int t_breaths, .int t_zeroAt, .int t_noticedAt, .ref A_t_image, .ref A_t_isKept])), (A_t_count, .inl (ty.1, 8, .inl t_count)), (A_t_pace, .inl (ty.1, 8, .inl t_pace)), (A_t_sight, .inl (ty.1, 24, .inl t_sight)), (A_t_pad, .inl (ty.1, 60, .inl t_pad)), (A_t_now, .inl (ty.1, 8, .inl r55.2)), (A_t_image, .inl (ty.1, 120, .inl t_image)), (A_t_isKept, .inl (ty.2.2.1, 2, .inl t_isKept))] H := hP
            have hD : va_D (va_A WC s.heap.size) [(A_t, .inr (9, [.int t_there, .int t_awake, .ref A_t_count, .ref A_t_pace, .int t_house, .int t_sharp, .int t_sights, .ref A_t_sight, .int t_signs, .ref A_t_pad, .int r55.1, .ref A_t_now, .int t_reason, .int t_acts, .int t_breaths, .int t_zeroAt, .int t_noticedAt, .ref A_t_image, .ref A_t_isKept])), (A_t_count, .inl (ty.1, 8, .inl t_count)), (A_t_pace, .inl (ty.1, 8, .inl t_pace)), (A_t_sight, .inl (ty.1, 24, .inl t_sight)), (A_t_pad, .inl (ty.1, 60, .inl t_pad)), (A_t_now, .inl (ty.1, 8, .inl r55.2)), (A_t_image, .inl (ty.1, 120, .inl t_image)), (A_t_isKept, .inl (ty.2.2.1, 2, .inl t_isKept))] := hD
            refine lv_aload_n hx hb dX10_bees_58 rfl (lv_at hl 0 rfl) ?_
            obtain ⟨r59, hr59, hf⟩ := bnd hf
            refine callV_ri (As := []) (rest := []) ⟨hx, hb, hml, hown, hts⟩ (CX10_first l hr59) (cwV 0 hts gX10_bees_X10_first rfl rfl rfl kkX10_first ⟨Nat.le_of_ble_eq_true rfl, Nat.le_of_ble_eq_true rfl⟩) hK hP 0 rfl rfl rfl hl.1 rfl (Nat.le_of_ble_eq_true rfl) dX10_bees_59 ⟨Nat.zero_le _, Nat.zero_le _⟩ ?_
            refine lv_istore (lv' := [(5, .int r59), (0, .ref A_t), (1, .int a1), (2, .int a2), (3, .int a3), (4, .int a4)]) hx hb dX10_bees_62 hl (by decide) rfl (fun ls hl => ?_)
            refine lv_lconst (v := 0) hx hb dX10_bees_64 (by decide) ?_
            refine lv_lstore (lv' := [(6, .long 0), (5, .int r59), (0, .ref A_t), (1, .int a1), (2, .int a2), (3, .int a3), (4, .int a4)]) hx hb dX10_bees_65 hl (by decide) rfl (fun ls hl => ?_)
            refine lv_lconst (v := 1) hx hb dX10_bees_67 (by decide) ?_
            refine lv_lstore (lv' := [(8, .long 1), (6, .long 0), (5, .int r59), (0, .ref A_t), (1, .int a1), (2, .int a2), (3, .int a3), (4, .int a4)]) hx hb dX10_bees_68 hl (by decide) rfl (fun ls hl => ?_)
            refine lv_iconst (v := 0) hx hb dX10_bees_70 (by decide) ?_
            refine lv_istore (lv' := [(10, .int 0), (8, .long 1), (6, .long 0), (5, .int r59), (0, .ref A_t), (1, .int a1), (2, .int a2), (3, .int a3), (4, .int a4)]) hx hb dX10_bees_71 hl (by decide) rfl (fun ls hl => ?_)
            exact BX10_bees_73 C hK  FU _ _ _ _ _ _ _ _ _ hP hD hS (lv_sub hl [4, 5, 6, 7, 8, 3, 2, 1, 0] rfl) hf
          · have hf := ft hf hc
            refine lv_ldc2 (v := (-1000000000000000003)) hx hb hown (hts _ mX10_bees_k170) dX10_bees_50 ?_
            cases hf
            exact ret_wl hx hb hr hlocks hP hD hS dX10_bees_53
        · have hf := ft hf hc
          refine lv_ldc2 (v := (-1000000000000000002)) hx hb hown (hts _ mX10_bees_k168) dX10_bees_39 ?_
          cases hf
          exact ret_wl hx hb hr hlocks hP hD hS dX10_bees_42
/-! ===== SilenceCountModel.behind(II)I ===== -/
abbrev rmX10_behind : Room := { frames := 5, cells := 0, slots := 0, locals := 112 }
theorem kkX10_behind : yX10_behind.cls = RX10 ∧ yX10_behind.cls ≠ "java/lang/invoke/MethodHandle" ∧ yX10_behind.cls ≠ "java/lang/invoke/VarHandle" ∧ (parseMethodDescriptor yX10_behind.desc).map (fun d => d.parameters.length) = some 2 := by decide +kernel
theorem mX10_behind_f72 : Cond.fieldLink RX10 72 "SilenceCountModel" "up" "I" ∈ wsX10_behind := by decide +kernel
theorem mX10_behind_f30 : Cond.fieldLink RX10 30 "SilenceCountModel" "now" "[I" ∈ wsX10_behind := by decide +kernel
theorem wX10_behind_X10 : ∀ w ∈ u_ws RX10 TX10 19, w ∈ wsX10_behind := by decide +kernel
def fX10_behind (t_there : Int32) (t_awake : Int32) (t_house : Int32) (t_sharp : Int32) (t_signs : Int32) (t_up : Int32) (t_reason : Int32) (t_acts : Int32) (t_breaths : Int32) (t_zeroAt : Int32) (t_noticedAt : Int32) (t_count : Nat → Int32) (t_pace : Nat → Int32) (t_pad : Nat → Int32) (t_now : Nat → Int32) (a1 : Int32) (a2 : Int32) : Option (Int32 × Int32 × Int32 × Int32 × Int32 × Int32 × Int32 × (Nat → Int32)) :=
  (fX10_isThere t_there a1).bind fun r2 => if r2 = 0 then some ((-1), t_up, t_reason, t_acts, t_breaths, t_zeroAt, t_noticedAt, t_now) else (fX10_in a2 0 1).bind fun r13 => if r13 = 0 then some ((-2), t_up, t_reason, t_acts, t_breaths, t_zeroAt, t_noticedAt, t_now) else (fX10_barOfHours t_there t_awake t_house t_sharp t_signs t_up t_reason t_acts t_breaths t_zeroAt t_noticedAt t_count t_pace t_pad t_now).bind fun r23 => if 0 ≤ r23.1 then if a2 = 0 then gIn a1 8 (some (r23.2.2.2.2.2.2.2 (a1 : Int32).toNatClampNeg, r23.2.1, r23.2.2.1, r23.2.2.2.1, r23.2.2.2.2.1, r23.2.2.2.2.2.1, r23.2.2.2.2.2.2.1, r23.2.2.2.2.2.2.2)) else some ((r23.2.1 >>> (a1 &&& 31)) &&& 1, r23.2.1, r23.2.2.1, r23.2.2.2.1, r23.2.2.2.2.1, r23.2.2.2.2.2.1, r23.2.2.2.2.2.2.1, r23.2.2.2.2.2.2.2) else some ((-5), r23.2.1, r23.2.2.1, r23.2.2.2.1, r23.2.2.2.2.1, r23.2.2.2.2.2.1, r23.2.2.2.2.2.2.1, r23.2.2.2.2.2.2.2)
set_option maxRecDepth 100000 in
set_option maxHeartbeats 4000000 in
theorem CX10_behind (l : Launch) {D : va_G} {ty : TY} {A_t A_t_count A_t_pace A_t_sight A_t_pad A_t_now A_t_image A_t_isKept : Nat} {t_there : Int32} {t_awake : Int32} {t_house : Int32} {t_sharp : Int32} {t_sights : Int32} {t_signs : Int32} {t_up : Int32} {t_reason : Int32} {t_acts : Int32} {t_breaths : Int32} {t_zeroAt : Int32} {t_noticedAt : Int32} {t_count : Nat → Int32} {t_pace : Nat → Int32} {t_sight : Nat → Int32} {t_pad : Nat → Int32} {t_now : Nat → Int32} {t_image : Nat → Int32} {t_isKept : Nat → Int32} {a1 : Int32} {a2 : Int32} {q0 : Int32 × Int32 × Int32 × Int32 × Int32 × Int32 × Int32 × (Nat → Int32)} (hf : fX10_behind t_there t_awake t_house t_sharp t_signs t_up t_reason t_acts t_breaths t_zeroAt t_noticedAt t_count t_pace t_pad t_now a1 a2 = some q0) : RWi l yX10_behind wsX10_behind rmX10_behind D ty [.ref A_t, .int a1, .int a2] [(A_t, .inr (9, [.int t_there, .int t_awake, .ref A_t_count, .ref A_t_pace, .int t_house, .int t_sharp, .int t_sights, .ref A_t_sight, .int t_signs, .ref A_t_pad, .int t_up, .ref A_t_now, .int t_reason, .int t_acts, .int t_breaths, .int t_zeroAt, .int t_noticedAt, .ref A_t_image, .ref A_t_isKept])), (A_t_count, .inl (ty.1, 8, .inl t_count)), (A_t_pace, .inl (ty.1, 8, .inl t_pace)), (A_t_sight, .inl (ty.1, 24, .inl t_sight)), (A_t_pad, .inl (ty.1, 60, .inl t_pad)), (A_t_now, .inl (ty.1, 8, .inl t_now)), (A_t_image, .inl (ty.1, 120, .inl t_image)), (A_t_isKept, .inl (ty.2.2.1, 2, .inl t_isKept))] q0.1 [(A_t, .inr (9, [.int t_there, .int t_awake, .ref A_t_count, .ref A_t_pace, .int t_house, .int t_sharp, .int t_sights, .ref A_t_sight, .int t_signs, .ref A_t_pad, .int q0.2.1, .ref A_t_now, .int q0.2.2.1, .int q0.2.2.2.1, .int q0.2.2.2.2.1, .int q0.2.2.2.2.2.1, .int q0.2.2.2.2.2.2.1, .ref A_t_image, .ref A_t_isKept])), (A_t_count, .inl (ty.1, 8, .inl t_count)), (A_t_pace, .inl (ty.1, 8, .inl t_pace)), (A_t_sight, .inl (ty.1, 24, .inl t_sight)), (A_t_pad, .inl (ty.1, 60, .inl t_pad)), (A_t_now, .inl (ty.1, 8, .inl q0.2.2.2.2.2.2.2)), (A_t_image, .inl (ty.1, 120, .inl t_image)), (A_t_isKept, .inl (ty.2.2.1, 2, .inl t_isKept))] := by
  refine RWi.start (cc := cX10_behind) (maxL := 3) (ret := (some .int)) (own := RX10) (by decide) rfl rfl (Nat.le_of_ble_eq_true rfl) ?_
  intro p e s m below meth c ls C hK hP hD hS hl
  obtain ⟨WC, hWC⟩ : ∃ w : va_W, w = [(A_t, .inr (9, [.int t_there, .int t_awake, .ref A_t_count, .ref A_t_pace, .int t_house, .int t_sharp, .int t_sights, .ref A_t_sight, .int t_signs, .ref A_t_pad, .int t_up, .ref A_t_now, .int t_reason, .int t_acts, .int t_breaths, .int t_zeroAt, .int t_noticedAt, .ref A_t_image, .ref A_t_isKept])), (A_t_count, .inl (ty.1, 8, .inl t_count)), (A_t_pace, .inl (ty.1, 8, .inl t_pace)), (A_t_sight, .inl (ty.1, 24, .inl t_sight)), (A_t_pad, .inl (ty.1, 60, .inl t_pad)), (A_t_now, .inl (ty.1, 8, .inl t_now)), (A_t_image, .inl (ty.1, 120, .inl t_image)), (A_t_isKept, .inl (ty.2.2.1, 2, .inl t_isKept))] := ⟨_, rfl⟩
  rw [← hWC] at hD hS ⊢
  have hD : va_D (va_A WC s.heap.size) [(A_t, .inr (9, [.int t_there, .int t_awake, .ref A_t_count, .ref A_t_pace, .int t_house, .int t_sharp, .int t_sights, .ref A_t_sight, .int t_signs, .ref A_t_pad, .int t_up, .ref A_t_now, .int t_reason, .int t_acts, .int t_breaths, .int t_zeroAt, .int t_noticedAt, .ref A_t_image, .ref A_t_isKept])), (A_t_count, .inl (ty.1, 8, .inl t_count)), (A_t_pace, .inl (ty.1, 8, .inl t_pace)), (A_t_sight, .inl (ty.1, 24, .inl t_sight)), (A_t_pad, .inl (ty.1, 60, .inl t_pad)), (A_t_now, .inl (ty.1, 8, .inl t_now)), (A_t_image, .inl (ty.1, 120, .inl t_image)), (A_t_isKept, .inl (ty.2.2.1, 2, .inl t_isKept))] := by rw [← hWC]; exact hD
  obtain ⟨hx, hb, hr, hml, hown, hts, hlocks⟩ := id C
  have hl : lv_has ls 3 [(0, .ref A_t), (1, .int a1), (2, .int a2)] := hl
  unfold fX10_behind at hf
  refine lv_aload_n hx hb dX10_behind_0 rfl (lv_at hl 0 rfl) ?_
  refine lv_iload_n hx hb dX10_behind_1 rfl (lv_at hl 1 rfl) ?_
  obtain ⟨r2, hr2, hf⟩ := bnd hf
  refine callV_ri (As := [.int a1]) (rest := []) ⟨hx, hb, hml, hown, hts⟩ (CX10_isThere l hr2) (cwV 1 hts gX10_behind_X10_isThere rfl rfl rfl kkX10_isThere ⟨Nat.le_of_ble_eq_true rfl, Nat.le_of_ble_eq_true rfl⟩) hK hP 0 rfl rfl rfl hl.1 rfl (Nat.le_of_ble_eq_true rfl) dX10_behind_2 ⟨Nat.zero_le _, Nat.zero_le _⟩ ?_
  refine lv_if_ne (tgt := 10) hx hb dX10_behind_5 (by decide) (fun hc => ?_) (fun hc => ?_)
  · have hf := ff hf hc
    refine lv_iload_n hx hb dX10_behind_10 rfl (lv_at hl 2 rfl) ?_
    refine lv_iconst (v := 0) hx hb dX10_behind_11 (by decide) ?_
    refine lv_iconst (v := 1) hx hb dX10_behind_12 (by decide) ?_
    obtain ⟨r13, hr13, hf⟩ := bnd hf
    have hPc : va_P D vwCl [] _ := hP.sub [] rfl
    refine callS_ri (As := [.int a2, .int 0, .int 1]) (rest := []) ⟨hx, hb, hml, hown, hts⟩ (CX10_in l hr13) (va_cwS 3 hts gX10_behind_X10_in rfl rfl rfl kkX10_in.2 ⟨Nat.le_of_ble_eq_true rfl, Nat.le_of_ble_eq_true rfl⟩) hK hPc hl.1 rfl (Nat.le_of_ble_eq_true rfl) dX10_behind_13 ⟨Nat.zero_le _, Nat.zero_le _⟩ ?_
    refine lv_if_ne (tgt := 22) hx hb dX10_behind_16 (by decide) (fun hc => ?_) (fun hc => ?_)
    · have hf := ff hf hc
      refine lv_aload_n hx hb dX10_behind_22 rfl (lv_at hl 0 rfl) ?_
      obtain ⟨r23, hr23, hf⟩ := bnd hf
      refine callV_wi (As := []) (rest := []) ⟨hx, hb, hml, hown, hts⟩ (CX10_barOfHours l hr23) (cwV 0 hts gX10_behind_X10_barOfHours rfl rfl rfl kkX10_barOfHours ⟨Nat.le_of_ble_eq_true rfl, Nat.le_of_ble_eq_true rfl⟩) hK hP hD hS (fun _ h => Or.inr h) [0, 1, 2, 3, 4, 5, 6, 7] [] [0, 1, 2, 3, 4, 5, 6, 7] rfl (by decide) (by decide) rfl rfl 0 rfl rfl rfl hl.1 rfl (Nat.le_of_ble_eq_true rfl) dX10_behind_23 ⟨Nat.zero_le _, Nat.zero_le _⟩ (fun H locs hP hD hS => ?_)
      have hP : va_P D vwCl [(A_t, .inr (9, [.int t_there, .int t_awake, .ref A_t_count, .ref A_t_pace, .int t_house, .int t_sharp, .int t_sights, .ref A_t_sight, .int t_signs, .ref A_t_pad, .int r23.2.1, .ref A_t_now, .int r23.2.2.1, .int r23.2.2.2.1, .int r23.2.2.2.2.1, .int r23.2.2.2.2.2.1, .int r23.2.2.2.2.2.2.1, .ref A_t_image, .ref A_t_isKept])), (A_t_count, .inl (ty.1, 8, .inl t_count)), (A_t_pace, .inl (ty.1, 8, .inl t_pace)), (A_t_sight, .inl (ty.1, 24, .inl t_sight)), (A_t_pad, .inl (ty.1, 60, .inl t_pad)), (A_t_now, .inl (ty.1, 8, .inl r23.2.2.2.2.2.2.2)), (A_t_image, .inl (ty.1, 120, .inl t_image)), (A_t_isKept, .inl (ty.2.2.1, 2, .inl t_isKept))] H := hP
      have hD : va_D (va_A WC s.heap.size) [(A_t, .inr (9, [.int t_there, .int t_awake, .ref A_t_count, .ref A_t_pace, .int t_house, .int t_sharp, .int t_sights, .ref A_t_sight, .int t_signs, .ref A_t_pad, .int r23.2.1, .ref A_t_now, .int r23.2.2.1, .int r23.2.2.2.1, .int r23.2.2.2.2.1, .int r23.2.2.2.2.2.1, .int r23.2.2.2.2.2.2.1, .ref A_t_image, .ref A_t_isKept])), (A_t_count, .inl (ty.1, 8, .inl t_count)), (A_t_pace, .inl (ty.1, 8, .inl t_pace)), (A_t_sight, .inl (ty.1, 24, .inl t_sight)), (A_t_pad, .inl (ty.1, 60, .inl t_pad)), (A_t_now, .inl (ty.1, 8, .inl r23.2.2.2.2.2.2.2)), (A_t_image, .inl (ty.1, 120, .inl t_image)), (A_t_isKept, .inl (ty.2.2.1, 2, .inl t_isKept))] := hD
      refine lv_if_ge (tgt := 32) hx hb dX10_behind_26 (by decide) (fun hc => ?_) (fun hc => ?_)
      · have hf := ft hf hc
        refine lv_iload_n hx hb dX10_behind_32 rfl (lv_at hl 2 rfl) ?_
        refine lv_if_ne (tgt := 45) hx hb dX10_behind_33 (by decide) (fun hc => ?_) (fun hc => ?_)
        · have hf := ff hf hc
          refine lv_aload_n hx hb dX10_behind_45 rfl (lv_at hl 0 rfl) ?_
          refine va_get (D := D) (ci := 9) (v := .int r23.2.1) (C := RX10) (T := TX10) (N := 19) hx hb hts wX10_behind_X10 hown hK.1 hP 0 rfl rfl 10 (by decide) (hts _ mX10_behind_f72) (fun _ h9 => h9) rfl dX10_behind_46 ?_
          refine lv_iload_n hx hb dX10_behind_49 rfl (lv_at hl 1 rfl) ?_
          refine lv_ishr hx hb dX10_behind_50 ?_
          refine lv_iconst (v := 1) hx hb dX10_behind_51 (by decide) ?_
          refine lv_iand hx hb dX10_behind_52 ?_
          cases hf
          exact ret_wi hx hb hr hlocks hP hD hS dX10_behind_53
        · have hf := ft hf hc
          refine lv_aload_n hx hb dX10_behind_36 rfl (lv_at hl 0 rfl) ?_
          refine va_get (D := D) (ci := 9) (v := .ref A_t_now) (C := RX10) (T := TX10) (N := 19) hx hb hts wX10_behind_X10 hown hK.1 hP 0 rfl rfl 11 (by decide) (hts _ mX10_behind_f30) (fun _ h9 => h9) rfl dX10_behind_37 ?_
          refine lv_iload_n hx hb dX10_behind_40 rfl (lv_at hl 1 rfl) ?_
          obtain ⟨hin, hf⟩ := gIn_some hf
          refine va_iald hx hb hK.1 hP 5 0 rfl rfl hin dX10_behind_41 ?_
          refine lv_goto (tgt := 53) hx hb dX10_behind_42 (by decide) ?_
          cases hf
          exact ret_wi hx hb hr hlocks hP hD hS dX10_behind_53
      · have hf := ff hf hc
        refine lv_bipush (v := (-5)) hx hb dX10_behind_29 (by decide) ?_
        cases hf
        exact ret_wi hx hb hr hlocks hP hD hS dX10_behind_31
    · have hf := ft hf hc
      refine lv_bipush (v := (-2)) hx hb dX10_behind_19 (by decide) ?_
      cases hf
      exact ret_wi hx hb hr hlocks hP hD hS dX10_behind_21
  · have hf := ft hf hc
    refine lv_iconst (v := (-1)) hx hb dX10_behind_8 (by decide) ?_
    cases hf
    exact ret_wi hx hb hr hlocks hP hD hS dX10_behind_9
/-! ===== SilenceCountModel.bits(I)I ===== -/
abbrev rmX10_bits : Room := { frames := 0, cells := 0, slots := 0, locals := 0 }
theorem kkX10_bits : yX10_bits.cls = RX10 ∧ yX10_bits.cls ≠ "java/lang/invoke/MethodHandle" ∧ yX10_bits.cls ≠ "java/lang/invoke/VarHandle" ∧ (parseMethodDescriptor yX10_bits.desc).map (fun d => d.parameters.length) = some 1 := by decide +kernel
def bX10_bits_4 (k4 : Int32 × Int32 → Option (Int32)) (a0 : Int32) (v1 : Int32) (v2 : Int32) : Option (Int32) :=
  if 8 ≤ v2 then some v1 else k4 (v1 + ((a0 >>> (v2 &&& 31)) &&& 1), v2 + 1)
set_option maxRecDepth 100000 in
set_option maxHeartbeats 4000000 in
theorem BX10_bits_4 {p : Program} {l : Launch} {e : Env} {s : State} {m : MethodId} {below : List Frame} {meth : Method} {c : Code} {D : va_G} {ty : TY} {a0 : Int32} {q0 : Int32} (C : cx p s m [.int a0] meth c cX10_bits 3 (some .int) RX10 wsX10_bits) (hK : KK D ty s) (hP : va_P D vwCl [] s.heap)   : ∀ (n : Nat) (v1 : Int32) (v2 : Int32) (ls : Array Slot), lv_has ls 3 [(0, .int a0), (1, .int v1), (2, .int v2)] → loopF (fun k q => bX10_bits_4 k a0 q.1 q.2) n (v1, v2) = some q0 → WRi p l e rmX10_bits s m [.int a0] below meth c q0 (F0 m 4 ls []) := by
  obtain ⟨hx, hb, hr, hml, hown, hts, hlocks⟩ := id C
  intro n
  induction n with
  | zero =>
    intro v1 v2 ls hl hf
    cases hf
  | succ n ih =>
    intro v1 v2 ls hl hf
    have hf : bX10_bits_4 (loopF (fun k q => bX10_bits_4 k a0 q.1 q.2) n) a0 v1 v2 = some q0 := hf
    have hk4 := ih
    unfold bX10_bits_4 at hf
    refine lv_iload_n hx hb dX10_bits_4 rfl (lv_at hl 2 rfl) ?_
    refine lv_bipush (v := 8) hx hb dX10_bits_5 (by decide) ?_
    refine lv_icmp_ge (tgt := 24) hx hb dX10_bits_7 (by decide) (fun hc => ?_) (fun hc => ?_)
    · have hf := ft hf hc
      refine lv_iload_n hx hb dX10_bits_24 rfl (lv_at hl 1 rfl) ?_
      exact ret_ri hx hb hr hlocks hf dX10_bits_25
    · have hf := ff hf hc
      refine lv_iload_n hx hb dX10_bits_10 rfl (lv_at hl 1 rfl) ?_
      refine lv_iload_n hx hb dX10_bits_11 rfl (lv_at hl 0 rfl) ?_
      refine lv_iload_n hx hb dX10_bits_12 rfl (lv_at hl 2 rfl) ?_
      refine lv_ishr hx hb dX10_bits_13 ?_
      refine lv_iconst (v := 1) hx hb dX10_bits_14 (by decide) ?_
      refine lv_iand hx hb dX10_bits_15 ?_
      refine lv_iadd hx hb dX10_bits_16 ?_
      refine lv_istore_n (lv' := [(1, .int (v1 + ((a0 >>> (v2 &&& 31)) &&& 1))), (0, .int a0), (2, .int v2)]) hx hb dX10_bits_17 rfl hl (by decide) rfl (fun ls hl => ?_)
      refine lv_iinc (v := v2 + 1) (lv' := [(2, .int (v2 + 1)), (1, .int (v1 + ((a0 >>> (v2 &&& 31)) &&& 1))), (0, .int a0)]) hx hb dX10_bits_18 hl (k := 2) rfl rfl (by decide) rfl (fun ls hl => ?_)
      refine lv_goto (tgt := 4) hx hb dX10_bits_21 (by decide) ?_
      exact hk4 _ _ _ (lv_sub hl [2, 1, 0] rfl) hf
def fX10_bits (a0 : Int32) : Option (Int32) :=
  loopF (fun k q => bX10_bits_4 k a0 q.1 q.2) FU (0, 0)
set_option maxRecDepth 100000 in
set_option maxHeartbeats 4000000 in
theorem CX10_bits (l : Launch) {D : va_G} {ty : TY} {a0 : Int32} {q0 : Int32} (hf : fX10_bits a0 = some q0) : ROi l yX10_bits wsX10_bits rmX10_bits D ty [.int a0] [] q0 := by
  refine ROi.start (cc := cX10_bits) (maxL := 3) (ret := (some .int)) (own := RX10) (by decide) rfl rfl (Nat.le_of_ble_eq_true rfl) ?_
  intro p e s m below meth c ls C hK hP hl
  obtain ⟨hx, hb, hr, hml, hown, hts, hlocks⟩ := id C
  have hl : lv_has ls 3 [(0, .int a0)] := hl
  unfold fX10_bits at hf
  refine lv_iconst (v := 0) hx hb dX10_bits_0 (by decide) ?_
  refine lv_istore_n (lv' := [(1, .int 0), (0, .int a0)]) hx hb dX10_bits_1 rfl hl (by decide) rfl (fun ls hl => ?_)
  refine lv_iconst (v := 0) hx hb dX10_bits_2 (by decide) ?_
  refine lv_istore_n (lv' := [(2, .int 0), (1, .int 0), (0, .int a0)]) hx hb dX10_bits_3 rfl hl (by decide) rfl (fun ls hl => ?_)
  exact BX10_bits_4 C hK hP  FU _ _ _ (lv_sub hl [2, 1, 0] rfl) hf
/-! ===== SilenceCountModel.bows(III)I ===== -/
abbrev rmX10_bows : Room := { frames := 2, cells := 0, slots := 0, locals := 43 }
theorem kkX10_bows : yX10_bows.cls = RX10 ∧ yX10_bows.cls ≠ "java/lang/invoke/MethodHandle" ∧ yX10_bows.cls ≠ "java/lang/invoke/VarHandle" ∧ (parseMethodDescriptor yX10_bows.desc).map (fun d => d.parameters.length) = some 3 := by decide +kernel
theorem mX10_bows_k154 : Cond.constant RX10 154 (100000) ∈ wsX10_bows := by decide +kernel
def bX10_bows_60 (k38 : Int32 × Int32 → Option (Int32)) (v5 : Int32) (s0 : Int32) (s1 : Int32) : Option (Int32) :=
  k38 (s1 + s0, v5 + 1)
set_option maxRecDepth 100000 in
set_option maxHeartbeats 4000000 in
theorem BX10_bows_60 {p : Program} {l : Launch} {e : Env} {s : State} {m : MethodId} {below : List Frame} {meth : Method} {c : Code} {D : va_G} {ty : TY} {A_t A_t_count A_t_pace A_t_sight A_t_pad A_t_now A_t_image A_t_isKept : Nat} {t_there : Int32} {t_awake : Int32} {t_house : Int32} {t_sharp : Int32} {t_sights : Int32} {t_signs : Int32} {t_up : Int32} {t_reason : Int32} {t_acts : Int32} {t_breaths : Int32} {t_zeroAt : Int32} {t_noticedAt : Int32} {t_count : Nat → Int32} {t_pace : Nat → Int32} {t_sight : Nat → Int32} {t_pad : Nat → Int32} {t_now : Nat → Int32} {t_image : Nat → Int32} {t_isKept : Nat → Int32} {a1 : Int32} {a2 : Int32} {a3 : Int32} {q0 : Int32} (C : cx p s m [.ref A_t, .int a1, .int a2, .int a3] meth c cX10_bows 6 (some .int) RX10 wsX10_bows) (hK : KK D ty s) (hP : va_P D vwCl [(A_t, .inr (9, [.int t_there, .int t_awake, .ref A_t_count, .ref A_t_pace, .int t_house, .int t_sharp, .int t_sights, .ref A_t_sight, .int t_signs, .ref A_t_pad, .int t_up, .ref A_t_now, .int t_reason, .int t_acts, .int t_breaths, .int t_zeroAt, .int t_noticedAt, .ref A_t_image, .ref A_t_isKept])), (A_t_count, .inl (ty.1, 8, .inl t_count)), (A_t_pace, .inl (ty.1, 8, .inl t_pace)), (A_t_sight, .inl (ty.1, 24, .inl t_sight)), (A_t_pad, .inl (ty.1, 60, .inl t_pad)), (A_t_now, .inl (ty.1, 8, .inl t_now)), (A_t_image, .inl (ty.1, 120, .inl t_image)), (A_t_isKept, .inl (ty.2.2.1, 2, .inl t_isKept))] s.heap) {k38 : Int32 × Int32 → Option (Int32)} (hk38 : ∀ (v4 : Int32) (v5 : Int32) (ls : Array Slot), lv_has ls 6 [(1, .int a1), (3, .int a3), (4, .int v4), (5, .int v5)] → k38 (v4, v5) = some q0 → WRi p l e rmX10_bows s m [.ref A_t, .int a1, .int a2, .int a3] below meth c q0 (F0 m 38 ls [])) {v5 : Int32} {s0 : Int32} {s1 : Int32} {ls : Array Slot} (hl : lv_has ls 6 [(1, .int a1), (3, .int a3), (5, .int v5)]) (hf : bX10_bows_60 k38 v5 s0 s1 = some q0) : WRi p l e rmX10_bows s m [.ref A_t, .int a1, .int a2, .int a3] below meth c q0 (F0 m 60 ls [.int s0, .int s1]) := by
  obtain ⟨hx, hb, hr, hml, hown, hts, hlocks⟩ := id C
  unfold bX10_bows_60 at hf
  refine lv_iadd hx hb dX10_bows_60 ?_
  refine lv_istore (lv' := [(4, .int (s1 + s0)), (1, .int a1), (3, .int a3), (5, .int v5)]) hx hb dX10_bows_61 hl (by decide) rfl (fun ls hl => ?_)
  refine lv_iinc (v := v5 + 1) (lv' := [(5, .int (v5 + 1)), (4, .int (s1 + s0)), (1, .int a1), (3, .int a3)]) hx hb dX10_bows_63 hl (k := 3) rfl rfl (by decide) rfl (fun ls hl => ?_)
  refine lv_goto (tgt := 38) hx hb dX10_bows_66 (by decide) ?_
  exact hk38 _ _ _ (lv_sub hl [2, 3, 1, 0] rfl) hf
def bX10_bows_38 (k38 : Int32 × Int32 → Option (Int32)) (a1 : Int32) (a3 : Int32) (v4 : Int32) (v5 : Int32) : Option (Int32) :=
  if a3 < v5 then some v4 else (fX10_isLaw a1 v5).bind fun r49 => if r49 = 0 then bX10_bows_60 k38 v5 0 v4 else bX10_bows_60 k38 v5 1 v4
set_option maxRecDepth 100000 in
set_option maxHeartbeats 4000000 in
theorem BX10_bows_38 {p : Program} {l : Launch} {e : Env} {s : State} {m : MethodId} {below : List Frame} {meth : Method} {c : Code} {D : va_G} {ty : TY} {A_t A_t_count A_t_pace A_t_sight A_t_pad A_t_now A_t_image A_t_isKept : Nat} {t_there : Int32} {t_awake : Int32} {t_house : Int32} {t_sharp : Int32} {t_sights : Int32} {t_signs : Int32} {t_up : Int32} {t_reason : Int32} {t_acts : Int32} {t_breaths : Int32} {t_zeroAt : Int32} {t_noticedAt : Int32} {t_count : Nat → Int32} {t_pace : Nat → Int32} {t_sight : Nat → Int32} {t_pad : Nat → Int32} {t_now : Nat → Int32} {t_image : Nat → Int32} {t_isKept : Nat → Int32} {a1 : Int32} {a2 : Int32} {a3 : Int32} {q0 : Int32} (C : cx p s m [.ref A_t, .int a1, .int a2, .int a3] meth c cX10_bows 6 (some .int) RX10 wsX10_bows) (hK : KK D ty s) (hP : va_P D vwCl [(A_t, .inr (9, [.int t_there, .int t_awake, .ref A_t_count, .ref A_t_pace, .int t_house, .int t_sharp, .int t_sights, .ref A_t_sight, .int t_signs, .ref A_t_pad, .int t_up, .ref A_t_now, .int t_reason, .int t_acts, .int t_breaths, .int t_zeroAt, .int t_noticedAt, .ref A_t_image, .ref A_t_isKept])), (A_t_count, .inl (ty.1, 8, .inl t_count)), (A_t_pace, .inl (ty.1, 8, .inl t_pace)), (A_t_sight, .inl (ty.1, 24, .inl t_sight)), (A_t_pad, .inl (ty.1, 60, .inl t_pad)), (A_t_now, .inl (ty.1, 8, .inl t_now)), (A_t_image, .inl (ty.1, 120, .inl t_image)), (A_t_isKept, .inl (ty.2.2.1, 2, .inl t_isKept))] s.heap)   : ∀ (n : Nat) (v4 : Int32) (v5 : Int32) (ls : Array Slot), lv_has ls 6 [(1, .int a1), (3, .int a3), (4, .int v4), (5, .int v5)] → loopF (fun k q => bX10_bows_38 k a1 a3 q.1 q.2) n (v4, v5) = some q0 → WRi p l e rmX10_bows s m [.ref A_t, .int a1, .int a2, .int a3] below meth c q0 (F0 m 38 ls []) := by
  obtain ⟨hx, hb, hr, hml, hown, hts, hlocks⟩ := id C
  intro n
  induction n with
  | zero =>
    intro v4 v5 ls hl hf
    cases hf
  | succ n ih =>
    intro v4 v5 ls hl hf
    have hf : bX10_bows_38 (loopF (fun k q => bX10_bows_38 k a1 a3 q.1 q.2) n) a1 a3 v4 v5 = some q0 := hf
    have hk38 := ih
    unfold bX10_bows_38 at hf
    refine lv_iload hx hb dX10_bows_38 (lv_at hl 3 rfl) ?_
    refine lv_iload_n hx hb dX10_bows_40 rfl (lv_at hl 1 rfl) ?_
    refine lv_icmp_gt (tgt := 69) hx hb dX10_bows_41 (by decide) (fun hc => ?_) (fun hc => ?_)
    · have hf := ft hf hc
      refine lv_iload hx hb dX10_bows_69 (lv_at hl 2 rfl) ?_
      exact ret_ri hx hb hr hlocks hf dX10_bows_71
    · have hf := ff hf hc
      refine lv_iload hx hb dX10_bows_44 (lv_at hl 2 rfl) ?_
      refine lv_iload_n hx hb dX10_bows_46 rfl (lv_at hl 0 rfl) ?_
      refine lv_iload hx hb dX10_bows_47 (lv_at hl 3 rfl) ?_
      obtain ⟨r49, hr49, hf⟩ := bnd hf
      have hPc : va_P D vwCl [] _ := hP.sub [] rfl
      refine callS_ri (As := [.int a1, .int v5]) (rest := [.int v4]) ⟨hx, hb, hml, hown, hts⟩ (CX10_isLaw l hr49) (va_cwS 2 hts gX10_bows_X10_isLaw rfl rfl rfl kkX10_isLaw.2 ⟨Nat.le_of_ble_eq_true rfl, Nat.le_of_ble_eq_true rfl⟩) hK hPc hl.1 rfl (Nat.le_of_ble_eq_true rfl) dX10_bows_49 ⟨Nat.zero_le _, Nat.zero_le _⟩ ?_
      refine lv_if_eq (tgt := 59) hx hb dX10_bows_52 (by decide) (fun hc => ?_) (fun hc => ?_)
      · have hf := ft hf hc
        refine lv_iconst (v := 0) hx hb dX10_bows_59 (by decide) ?_
        exact BX10_bows_60 C hK hP hk38 (lv_sub hl [0, 1, 3] rfl) hf
      · have hf := ff hf hc
        refine lv_iconst (v := 1) hx hb dX10_bows_55 (by decide) ?_
        refine lv_goto (tgt := 60) hx hb dX10_bows_56 (by decide) ?_
        exact BX10_bows_60 C hK hP hk38 (lv_sub hl [0, 1, 3] rfl) hf
def fX10_bows (a1 : Int32) (a2 : Int32) (a3 : Int32) : Option (Int32) :=
  (fX10_in a1 0 4).bind fun r3 => if r3 = 0 then some (-2) else (fX10_in a2 1 100000).bind fun r13 => if r13 = 0 then some (-2) else (fX10_in a3 1 100000).bind fun r23 => if r23 = 0 then some (-2) else loopF (fun k q => bX10_bows_38 k a1 a3 q.1 q.2) FU (0, a2)
set_option maxRecDepth 100000 in
set_option maxHeartbeats 4000000 in
theorem CX10_bows (l : Launch) {D : va_G} {ty : TY} {A_t A_t_count A_t_pace A_t_sight A_t_pad A_t_now A_t_image A_t_isKept : Nat} {t_there : Int32} {t_awake : Int32} {t_house : Int32} {t_sharp : Int32} {t_sights : Int32} {t_signs : Int32} {t_up : Int32} {t_reason : Int32} {t_acts : Int32} {t_breaths : Int32} {t_zeroAt : Int32} {t_noticedAt : Int32} {t_count : Nat → Int32} {t_pace : Nat → Int32} {t_sight : Nat → Int32} {t_pad : Nat → Int32} {t_now : Nat → Int32} {t_image : Nat → Int32} {t_isKept : Nat → Int32} {a1 : Int32} {a2 : Int32} {a3 : Int32} {q0 : Int32} (hf : fX10_bows a1 a2 a3 = some q0) : ROi l yX10_bows wsX10_bows rmX10_bows D ty [.ref A_t, .int a1, .int a2, .int a3] [(A_t, .inr (9, [.int t_there, .int t_awake, .ref A_t_count, .ref A_t_pace, .int t_house, .int t_sharp, .int t_sights, .ref A_t_sight, .int t_signs, .ref A_t_pad, .int t_up, .ref A_t_now, .int t_reason, .int t_acts, .int t_breaths, .int t_zeroAt, .int t_noticedAt, .ref A_t_image, .ref A_t_isKept])), (A_t_count, .inl (ty.1, 8, .inl t_count)), (A_t_pace, .inl (ty.1, 8, .inl t_pace)), (A_t_sight, .inl (ty.1, 24, .inl t_sight)), (A_t_pad, .inl (ty.1, 60, .inl t_pad)), (A_t_now, .inl (ty.1, 8, .inl t_now)), (A_t_image, .inl (ty.1, 120, .inl t_image)), (A_t_isKept, .inl (ty.2.2.1, 2, .inl t_isKept))] q0 := by
  refine ROi.start (cc := cX10_bows) (maxL := 6) (ret := (some .int)) (own := RX10) (by decide) rfl rfl (Nat.le_of_ble_eq_true rfl) ?_
  intro p e s m below meth c ls C hK hP hl
  obtain ⟨hx, hb, hr, hml, hown, hts, hlocks⟩ := id C
  have hl : lv_has ls 6 [(0, .ref A_t), (1, .int a1), (2, .int a2), (3, .int a3)] := hl
  unfold fX10_bows at hf
  refine lv_iload_n hx hb dX10_bows_0 rfl (lv_at hl 1 rfl) ?_
  refine lv_iconst (v := 0) hx hb dX10_bows_1 (by decide) ?_
  refine lv_iconst (v := 4) hx hb dX10_bows_2 (by decide) ?_
  obtain ⟨r3, hr3, hf⟩ := bnd hf
  have hPc : va_P D vwCl [] _ := hP.sub [] rfl
  refine callS_ri (As := [.int a1, .int 0, .int 4]) (rest := []) ⟨hx, hb, hml, hown, hts⟩ (CX10_in l hr3) (va_cwS 3 hts gX10_bows_X10_in rfl rfl rfl kkX10_in.2 ⟨Nat.le_of_ble_eq_true rfl, Nat.le_of_ble_eq_true rfl⟩) hK hPc hl.1 rfl (Nat.le_of_ble_eq_true rfl) dX10_bows_3 ⟨Nat.zero_le _, Nat.zero_le _⟩ ?_
  refine lv_if_eq (tgt := 29) hx hb dX10_bows_6 (by decide) (fun hc => ?_) (fun hc => ?_)
  · have hf := ft hf hc
    refine lv_bipush (v := (-2)) hx hb dX10_bows_29 (by decide) ?_
    exact ret_ri hx hb hr hlocks hf dX10_bows_31
  · have hf := ff hf hc
    refine lv_iload_n hx hb dX10_bows_9 rfl (lv_at hl 2 rfl) ?_
    refine lv_iconst (v := 1) hx hb dX10_bows_10 (by decide) ?_
    refine lv_ldc (v := 100000) hx hb hown (hts _ mX10_bows_k154) dX10_bows_11 ?_
    obtain ⟨r13, hr13, hf⟩ := bnd hf
    have hPc : va_P D vwCl [] _ := hP.sub [] rfl
    refine callS_ri (As := [.int a2, .int 1, .int 100000]) (rest := []) ⟨hx, hb, hml, hown, hts⟩ (CX10_in l hr13) (va_cwS 3 hts gX10_bows_X10_in rfl rfl rfl kkX10_in.2 ⟨Nat.le_of_ble_eq_true rfl, Nat.le_of_ble_eq_true rfl⟩) hK hPc hl.1 rfl (Nat.le_of_ble_eq_true rfl) dX10_bows_13 ⟨Nat.zero_le _, Nat.zero_le _⟩ ?_
    refine lv_if_eq (tgt := 29) hx hb dX10_bows_16 (by decide) (fun hc => ?_) (fun hc => ?_)
    · have hf := ft hf hc
      refine lv_bipush (v := (-2)) hx hb dX10_bows_29 (by decide) ?_
      exact ret_ri hx hb hr hlocks hf dX10_bows_31
    · have hf := ff hf hc
      refine lv_iload_n hx hb dX10_bows_19 rfl (lv_at hl 3 rfl) ?_
      refine lv_iconst (v := 1) hx hb dX10_bows_20 (by decide) ?_
      refine lv_ldc (v := 100000) hx hb hown (hts _ mX10_bows_k154) dX10_bows_21 ?_
      obtain ⟨r23, hr23, hf⟩ := bnd hf
      have hPc : va_P D vwCl [] _ := hP.sub [] rfl
      refine callS_ri (As := [.int a3, .int 1, .int 100000]) (rest := []) ⟨hx, hb, hml, hown, hts⟩ (CX10_in l hr23) (va_cwS 3 hts gX10_bows_X10_in rfl rfl rfl kkX10_in.2 ⟨Nat.le_of_ble_eq_true rfl, Nat.le_of_ble_eq_true rfl⟩) hK hPc hl.1 rfl (Nat.le_of_ble_eq_true rfl) dX10_bows_23 ⟨Nat.zero_le _, Nat.zero_le _⟩ ?_
      refine lv_if_ne (tgt := 32) hx hb dX10_bows_26 (by decide) (fun hc => ?_) (fun hc => ?_)
      · have hf := ff hf hc
        refine lv_iconst (v := 0) hx hb dX10_bows_32 (by decide) ?_
        refine lv_istore (lv' := [(4, .int 0), (0, .ref A_t), (1, .int a1), (2, .int a2), (3, .int a3)]) hx hb dX10_bows_33 hl (by decide) rfl (fun ls hl => ?_)
        refine lv_iload_n hx hb dX10_bows_35 rfl (lv_at hl 3 rfl) ?_
        refine lv_istore (lv' := [(5, .int a2), (4, .int 0), (0, .ref A_t), (1, .int a1), (2, .int a2), (3, .int a3)]) hx hb dX10_bows_36 hl (by decide) rfl (fun ls hl => ?_)
        exact BX10_bows_38 C hK hP  FU _ _ _ (lv_sub hl [3, 5, 1, 0] rfl) hf
      · have hf := ft hf hc
        refine lv_bipush (v := (-2)) hx hb dX10_bows_29 (by decide) ?_
        exact ret_ri hx hb hr hlocks hf dX10_bows_31
/-! ===== SilenceCountModel.breaths(I)I ===== -/
abbrev rmX10_breaths : Room := { frames := 5, cells := 0, slots := 0, locals := 112 }
theorem kkX10_breaths : yX10_breaths.cls = RX10 ∧ yX10_breaths.cls ≠ "java/lang/invoke/MethodHandle" ∧ yX10_breaths.cls ≠ "java/lang/invoke/VarHandle" ∧ (parseMethodDescriptor yX10_breaths.desc).map (fun d => d.parameters.length) = some 1 := by decide +kernel
theorem mX10_breaths_f96 : Cond.fieldLink RX10 96 "SilenceCountModel" "zeroAt" "I" ∈ wsX10_breaths := by decide +kernel
theorem mX10_breaths_f89 : Cond.fieldLink RX10 89 "SilenceCountModel" "breaths" "I" ∈ wsX10_breaths := by decide +kernel
theorem wX10_breaths_X10 : ∀ w ∈ u_ws RX10 TX10 19, w ∈ wsX10_breaths := by decide +kernel
def fX10_breaths (t_there : Int32) (t_awake : Int32) (t_house : Int32) (t_sharp : Int32) (t_signs : Int32) (t_up : Int32) (t_reason : Int32) (t_acts : Int32) (t_breaths : Int32) (t_zeroAt : Int32) (t_noticedAt : Int32) (t_count : Nat → Int32) (t_pace : Nat → Int32) (t_pad : Nat → Int32) (t_now : Nat → Int32) (a1 : Int32) : Option (Int32 × Int32 × Int32 × Int32 × Int32 × Int32 × Int32 × (Nat → Int32)) :=
  (fX10_in a1 0 1).bind fun r3 => if r3 = 0 then some ((-2), t_up, t_reason, t_acts, t_breaths, t_zeroAt, t_noticedAt, t_now) else (fX10_barOfHours t_there t_awake t_house t_sharp t_signs t_up t_reason t_acts t_breaths t_zeroAt t_noticedAt t_count t_pace t_pad t_now).bind fun r13 => if 0 ≤ r13.1 then if a1 = 0 then some (r13.2.2.2.2.1, r13.2.1, r13.2.2.1, r13.2.2.2.1, r13.2.2.2.2.1, r13.2.2.2.2.2.1, r13.2.2.2.2.2.2.1, r13.2.2.2.2.2.2.2) else some (r13.2.2.2.2.2.1, r13.2.1, r13.2.2.1, r13.2.2.2.1, r13.2.2.2.2.1, r13.2.2.2.2.2.1, r13.2.2.2.2.2.2.1, r13.2.2.2.2.2.2.2) else some ((-5), r13.2.1, r13.2.2.1, r13.2.2.2.1, r13.2.2.2.2.1, r13.2.2.2.2.2.1, r13.2.2.2.2.2.2.1, r13.2.2.2.2.2.2.2)
set_option maxRecDepth 100000 in
set_option maxHeartbeats 4000000 in
theorem CX10_breaths (l : Launch) {D : va_G} {ty : TY} {A_t A_t_count A_t_pace A_t_sight A_t_pad A_t_now A_t_image A_t_isKept : Nat} {t_there : Int32} {t_awake : Int32} {t_house : Int32} {t_sharp : Int32} {t_sights : Int32} {t_signs : Int32} {t_up : Int32} {t_reason : Int32} {t_acts : Int32} {t_breaths : Int32} {t_zeroAt : Int32} {t_noticedAt : Int32} {t_count : Nat → Int32} {t_pace : Nat → Int32} {t_sight : Nat → Int32} {t_pad : Nat → Int32} {t_now : Nat → Int32} {t_image : Nat → Int32} {t_isKept : Nat → Int32} {a1 : Int32} {q0 : Int32 × Int32 × Int32 × Int32 × Int32 × Int32 × Int32 × (Nat → Int32)} (hf : fX10_breaths t_there t_awake t_house t_sharp t_signs t_up t_reason t_acts t_breaths t_zeroAt t_noticedAt t_count t_pace t_pad t_now a1 = some q0) : RWi l yX10_breaths wsX10_breaths rmX10_breaths D ty [.ref A_t, .int a1] [(A_t, .inr (9, [.int t_there, .int t_awake, .ref A_t_count, .ref A_t_pace, .int t_house, .int t_sharp, .int t_sights, .ref A_t_sight, .int t_signs, .ref A_t_pad, .int t_up, .ref A_t_now, .int t_reason, .int t_acts, .int t_breaths, .int t_zeroAt, .int t_noticedAt, .ref A_t_image, .ref A_t_isKept])), (A_t_count, .inl (ty.1, 8, .inl t_count)), (A_t_pace, .inl (ty.1, 8, .inl t_pace)), (A_t_sight, .inl (ty.1, 24, .inl t_sight)), (A_t_pad, .inl (ty.1, 60, .inl t_pad)), (A_t_now, .inl (ty.1, 8, .inl t_now)), (A_t_image, .inl (ty.1, 120, .inl t_image)), (A_t_isKept, .inl (ty.2.2.1, 2, .inl t_isKept))] q0.1 [(A_t, .inr (9, [.int t_there, .int t_awake, .ref A_t_count, .ref A_t_pace, .int t_house, .int t_sharp, .int t_sights, .ref A_t_sight, .int t_signs, .ref A_t_pad, .int q0.2.1, .ref A_t_now, .int q0.2.2.1, .int q0.2.2.2.1, .int q0.2.2.2.2.1, .int q0.2.2.2.2.2.1, .int q0.2.2.2.2.2.2.1, .ref A_t_image, .ref A_t_isKept])), (A_t_count, .inl (ty.1, 8, .inl t_count)), (A_t_pace, .inl (ty.1, 8, .inl t_pace)), (A_t_sight, .inl (ty.1, 24, .inl t_sight)), (A_t_pad, .inl (ty.1, 60, .inl t_pad)), (A_t_now, .inl (ty.1, 8, .inl q0.2.2.2.2.2.2.2)), (A_t_image, .inl (ty.1, 120, .inl t_image)), (A_t_isKept, .inl (ty.2.2.1, 2, .inl t_isKept))] := by
  refine RWi.start (cc := cX10_breaths) (maxL := 2) (ret := (some .int)) (own := RX10) (by decide) rfl rfl (Nat.le_of_ble_eq_true rfl) ?_
  intro p e s m below meth c ls C hK hP hD hS hl
  obtain ⟨WC, hWC⟩ : ∃ w : va_W, w = [(A_t, .inr (9, [.int t_there, .int t_awake, .ref A_t_count, .ref A_t_pace, .int t_house, .int t_sharp, .int t_sights, .ref A_t_sight, .int t_signs, .ref A_t_pad, .int t_up, .ref A_t_now, .int t_reason, .int t_acts, .int t_breaths, .int t_zeroAt, .int t_noticedAt, .ref A_t_image, .ref A_t_isKept])), (A_t_count, .inl (ty.1, 8, .inl t_count)), (A_t_pace, .inl (ty.1, 8, .inl t_pace)), (A_t_sight, .inl (ty.1, 24, .inl t_sight)), (A_t_pad, .inl (ty.1, 60, .inl t_pad)), (A_t_now, .inl (ty.1, 8, .inl t_now)), (A_t_image, .inl (ty.1, 120, .inl t_image)), (A_t_isKept, .inl (ty.2.2.1, 2, .inl t_isKept))] := ⟨_, rfl⟩
  rw [← hWC] at hD hS ⊢
  have hD : va_D (va_A WC s.heap.size) [(A_t, .inr (9, [.int t_there, .int t_awake, .ref A_t_count, .ref A_t_pace, .int t_house, .int t_sharp, .int t_sights, .ref A_t_sight, .int t_signs, .ref A_t_pad, .int t_up, .ref A_t_now, .int t_reason, .int t_acts, .int t_breaths, .int t_zeroAt, .int t_noticedAt, .ref A_t_image, .ref A_t_isKept])), (A_t_count, .inl (ty.1, 8, .inl t_count)), (A_t_pace, .inl (ty.1, 8, .inl t_pace)), (A_t_sight, .inl (ty.1, 24, .inl t_sight)), (A_t_pad, .inl (ty.1, 60, .inl t_pad)), (A_t_now, .inl (ty.1, 8, .inl t_now)), (A_t_image, .inl (ty.1, 120, .inl t_image)), (A_t_isKept, .inl (ty.2.2.1, 2, .inl t_isKept))] := by rw [← hWC]; exact hD
  obtain ⟨hx, hb, hr, hml, hown, hts, hlocks⟩ := id C
  have hl : lv_has ls 2 [(0, .ref A_t), (1, .int a1)] := hl
  unfold fX10_breaths at hf
  refine lv_iload_n hx hb dX10_breaths_0 rfl (lv_at hl 1 rfl) ?_
  refine lv_iconst (v := 0) hx hb dX10_breaths_1 (by decide) ?_
  refine lv_iconst (v := 1) hx hb dX10_breaths_2 (by decide) ?_
  obtain ⟨r3, hr3, hf⟩ := bnd hf
  have hPc : va_P D vwCl [] _ := hP.sub [] rfl
  refine callS_ri (As := [.int a1, .int 0, .int 1]) (rest := []) ⟨hx, hb, hml, hown, hts⟩ (CX10_in l hr3) (va_cwS 3 hts gX10_breaths_X10_in rfl rfl rfl kkX10_in.2 ⟨Nat.le_of_ble_eq_true rfl, Nat.le_of_ble_eq_true rfl⟩) hK hPc hl.1 rfl (Nat.le_of_ble_eq_true rfl) dX10_breaths_3 ⟨Nat.zero_le _, Nat.zero_le _⟩ ?_
  refine lv_if_ne (tgt := 12) hx hb dX10_breaths_6 (by decide) (fun hc => ?_) (fun hc => ?_)
  · have hf := ff hf hc
    refine lv_aload_n hx hb dX10_breaths_12 rfl (lv_at hl 0 rfl) ?_
    obtain ⟨r13, hr13, hf⟩ := bnd hf
    refine callV_wi (As := []) (rest := []) ⟨hx, hb, hml, hown, hts⟩ (CX10_barOfHours l hr13) (cwV 0 hts gX10_breaths_X10_barOfHours rfl rfl rfl kkX10_barOfHours ⟨Nat.le_of_ble_eq_true rfl, Nat.le_of_ble_eq_true rfl⟩) hK hP hD hS (fun _ h => Or.inr h) [0, 1, 2, 3, 4, 5, 6, 7] [] [0, 1, 2, 3, 4, 5, 6, 7] rfl (by decide) (by decide) rfl rfl 0 rfl rfl rfl hl.1 rfl (Nat.le_of_ble_eq_true rfl) dX10_breaths_13 ⟨Nat.zero_le _, Nat.zero_le _⟩ (fun H locs hP hD hS => ?_)
    have hP : va_P D vwCl [(A_t, .inr (9, [.int t_there, .int t_awake, .ref A_t_count, .ref A_t_pace, .int t_house, .int t_sharp, .int t_sights, .ref A_t_sight, .int t_signs, .ref A_t_pad, .int r13.2.1, .ref A_t_now, .int r13.2.2.1, .int r13.2.2.2.1, .int r13.2.2.2.2.1, .int r13.2.2.2.2.2.1, .int r13.2.2.2.2.2.2.1, .ref A_t_image, .ref A_t_isKept])), (A_t_count, .inl (ty.1, 8, .inl t_count)), (A_t_pace, .inl (ty.1, 8, .inl t_pace)), (A_t_sight, .inl (ty.1, 24, .inl t_sight)), (A_t_pad, .inl (ty.1, 60, .inl t_pad)), (A_t_now, .inl (ty.1, 8, .inl r13.2.2.2.2.2.2.2)), (A_t_image, .inl (ty.1, 120, .inl t_image)), (A_t_isKept, .inl (ty.2.2.1, 2, .inl t_isKept))] H := hP
    have hD : va_D (va_A WC s.heap.size) [(A_t, .inr (9, [.int t_there, .int t_awake, .ref A_t_count, .ref A_t_pace, .int t_house, .int t_sharp, .int t_sights, .ref A_t_sight, .int t_signs, .ref A_t_pad, .int r13.2.1, .ref A_t_now, .int r13.2.2.1, .int r13.2.2.2.1, .int r13.2.2.2.2.1, .int r13.2.2.2.2.2.1, .int r13.2.2.2.2.2.2.1, .ref A_t_image, .ref A_t_isKept])), (A_t_count, .inl (ty.1, 8, .inl t_count)), (A_t_pace, .inl (ty.1, 8, .inl t_pace)), (A_t_sight, .inl (ty.1, 24, .inl t_sight)), (A_t_pad, .inl (ty.1, 60, .inl t_pad)), (A_t_now, .inl (ty.1, 8, .inl r13.2.2.2.2.2.2.2)), (A_t_image, .inl (ty.1, 120, .inl t_image)), (A_t_isKept, .inl (ty.2.2.1, 2, .inl t_isKept))] := hD
    refine lv_if_ge (tgt := 22) hx hb dX10_breaths_16 (by decide) (fun hc => ?_) (fun hc => ?_)
    · have hf := ft hf hc
      refine lv_iload_n hx hb dX10_breaths_22 rfl (lv_at hl 1 rfl) ?_
      refine lv_if_ne (tgt := 33) hx hb dX10_breaths_23 (by decide) (fun hc => ?_) (fun hc => ?_)
      · have hf := ff hf hc
        refine lv_aload_n hx hb dX10_breaths_33 rfl (lv_at hl 0 rfl) ?_
        refine va_get (D := D) (ci := 9) (v := .int r13.2.2.2.2.2.1) (C := RX10) (T := TX10) (N := 19) hx hb hts wX10_breaths_X10 hown hK.1 hP 0 rfl rfl 15 (by decide) (hts _ mX10_breaths_f96) (fun _ h9 => h9) rfl dX10_breaths_34 ?_
        cases hf
        exact ret_wi hx hb hr hlocks hP hD hS dX10_breaths_37
      · have hf := ft hf hc
        refine lv_aload_n hx hb dX10_breaths_26 rfl (lv_at hl 0 rfl) ?_
        refine va_get (D := D) (ci := 9) (v := .int r13.2.2.2.2.1) (C := RX10) (T := TX10) (N := 19) hx hb hts wX10_breaths_X10 hown hK.1 hP 0 rfl rfl 14 (by decide) (hts _ mX10_breaths_f89) (fun _ h9 => h9) rfl dX10_breaths_27 ?_
        refine lv_goto (tgt := 37) hx hb dX10_breaths_30 (by decide) ?_
        cases hf
        exact ret_wi hx hb hr hlocks hP hD hS dX10_breaths_37
    · have hf := ff hf hc
      refine lv_bipush (v := (-5)) hx hb dX10_breaths_19 (by decide) ?_
      cases hf
      exact ret_wi hx hb hr hlocks hP hD hS dX10_breaths_21
  · have hf := ft hf hc
    refine lv_bipush (v := (-2)) hx hb dX10_breaths_9 (by decide) ?_
    cases hf
    exact ret_wi hx hb hr hlocks hP hD hS dX10_breaths_11
/-! ===== SilenceCountModel.differ()I ===== -/
abbrev rmX10_differ : Room := { frames := 2, cells := 0, slots := 0, locals := 44 }
theorem kkX10_differ : yX10_differ.cls = RX10 ∧ yX10_differ.cls ≠ "java/lang/invoke/MethodHandle" ∧ yX10_differ.cls ≠ "java/lang/invoke/VarHandle" ∧ (parseMethodDescriptor yX10_differ.desc).map (fun d => d.parameters.length) = some 0 := by decide +kernel
def fX10_differ (t_awake : Int32) (t_up : Int32) (t_count : Nat → Int32) (t_now : Nat → Int32) : Option (Int32 × Int32 × (Nat → Int32)) :=
  (fX10_asNow t_awake t_up t_count t_now).bind fun r1 => (fX10_spread r1.1 r1.2).bind fun r5 => some (r5, r1.1, r1.2)
set_option maxRecDepth 100000 in
set_option maxHeartbeats 4000000 in
theorem CX10_differ (l : Launch) {D : va_G} {ty : TY} {A_t A_t_count A_t_pace A_t_sight A_t_pad A_t_now A_t_image A_t_isKept : Nat} {t_there : Int32} {t_awake : Int32} {t_house : Int32} {t_sharp : Int32} {t_sights : Int32} {t_signs : Int32} {t_up : Int32} {t_reason : Int32} {t_acts : Int32} {t_breaths : Int32} {t_zeroAt : Int32} {t_noticedAt : Int32} {t_count : Nat → Int32} {t_pace : Nat → Int32} {t_sight : Nat → Int32} {t_pad : Nat → Int32} {t_now : Nat → Int32} {t_image : Nat → Int32} {t_isKept : Nat → Int32} {q0 : Int32 × Int32 × (Nat → Int32)} (hf : fX10_differ t_awake t_up t_count t_now = some q0) : RWi l yX10_differ wsX10_differ rmX10_differ D ty [.ref A_t] [(A_t, .inr (9, [.int t_there, .int t_awake, .ref A_t_count, .ref A_t_pace, .int t_house, .int t_sharp, .int t_sights, .ref A_t_sight, .int t_signs, .ref A_t_pad, .int t_up, .ref A_t_now, .int t_reason, .int t_acts, .int t_breaths, .int t_zeroAt, .int t_noticedAt, .ref A_t_image, .ref A_t_isKept])), (A_t_count, .inl (ty.1, 8, .inl t_count)), (A_t_pace, .inl (ty.1, 8, .inl t_pace)), (A_t_sight, .inl (ty.1, 24, .inl t_sight)), (A_t_pad, .inl (ty.1, 60, .inl t_pad)), (A_t_now, .inl (ty.1, 8, .inl t_now)), (A_t_image, .inl (ty.1, 120, .inl t_image)), (A_t_isKept, .inl (ty.2.2.1, 2, .inl t_isKept))] q0.1 [(A_t, .inr (9, [.int t_there, .int t_awake, .ref A_t_count, .ref A_t_pace, .int t_house, .int t_sharp, .int t_sights, .ref A_t_sight, .int t_signs, .ref A_t_pad, .int q0.2.1, .ref A_t_now, .int t_reason, .int t_acts, .int t_breaths, .int t_zeroAt, .int t_noticedAt, .ref A_t_image, .ref A_t_isKept])), (A_t_count, .inl (ty.1, 8, .inl t_count)), (A_t_pace, .inl (ty.1, 8, .inl t_pace)), (A_t_sight, .inl (ty.1, 24, .inl t_sight)), (A_t_pad, .inl (ty.1, 60, .inl t_pad)), (A_t_now, .inl (ty.1, 8, .inl q0.2.2)), (A_t_image, .inl (ty.1, 120, .inl t_image)), (A_t_isKept, .inl (ty.2.2.1, 2, .inl t_isKept))] := by
  refine RWi.start (cc := cX10_differ) (maxL := 1) (ret := (some .int)) (own := RX10) (by decide) rfl rfl (Nat.le_of_ble_eq_true rfl) ?_
  intro p e s m below meth c ls C hK hP hD hS hl
  obtain ⟨WC, hWC⟩ : ∃ w : va_W, w = [(A_t, .inr (9, [.int t_there, .int t_awake, .ref A_t_count, .ref A_t_pace, .int t_house, .int t_sharp, .int t_sights, .ref A_t_sight, .int t_signs, .ref A_t_pad, .int t_up, .ref A_t_now, .int t_reason, .int t_acts, .int t_breaths, .int t_zeroAt, .int t_noticedAt, .ref A_t_image, .ref A_t_isKept])), (A_t_count, .inl (ty.1, 8, .inl t_count)), (A_t_pace, .inl (ty.1, 8, .inl t_pace)), (A_t_sight, .inl (ty.1, 24, .inl t_sight)), (A_t_pad, .inl (ty.1, 60, .inl t_pad)), (A_t_now, .inl (ty.1, 8, .inl t_now)), (A_t_image, .inl (ty.1, 120, .inl t_image)), (A_t_isKept, .inl (ty.2.2.1, 2, .inl t_isKept))] := ⟨_, rfl⟩
  rw [← hWC] at hD hS ⊢
  have hD : va_D (va_A WC s.heap.size) [(A_t, .inr (9, [.int t_there, .int t_awake, .ref A_t_count, .ref A_t_pace, .int t_house, .int t_sharp, .int t_sights, .ref A_t_sight, .int t_signs, .ref A_t_pad, .int t_up, .ref A_t_now, .int t_reason, .int t_acts, .int t_breaths, .int t_zeroAt, .int t_noticedAt, .ref A_t_image, .ref A_t_isKept])), (A_t_count, .inl (ty.1, 8, .inl t_count)), (A_t_pace, .inl (ty.1, 8, .inl t_pace)), (A_t_sight, .inl (ty.1, 24, .inl t_sight)), (A_t_pad, .inl (ty.1, 60, .inl t_pad)), (A_t_now, .inl (ty.1, 8, .inl t_now)), (A_t_image, .inl (ty.1, 120, .inl t_image)), (A_t_isKept, .inl (ty.2.2.1, 2, .inl t_isKept))] := by rw [← hWC]; exact hD
  obtain ⟨hx, hb, hr, hml, hown, hts, hlocks⟩ := id C
  have hl : lv_has ls 1 [(0, .ref A_t)] := hl
  unfold fX10_differ at hf
  refine lv_aload_n hx hb dX10_differ_0 rfl (lv_at hl 0 rfl) ?_
  obtain ⟨r1, hr1, hf⟩ := bnd hf
  refine callV_wv (As := []) (rest := []) ⟨hx, hb, hml, hown, hts⟩ (CX10_asNow l hr1) (cwV 0 hts gX10_differ_X10_asNow rfl rfl rfl kkX10_asNow ⟨Nat.le_of_ble_eq_true rfl, Nat.le_of_ble_eq_true rfl⟩) hK hP hD hS (fun _ h => Or.inr h) [0, 1, 2, 3, 4, 5, 6, 7] [] [0, 1, 2, 3, 4, 5, 6, 7] rfl (by decide) (by decide) rfl rfl 0 rfl rfl rfl hl.1 rfl (Nat.le_of_ble_eq_true rfl) dX10_differ_1 ⟨Nat.zero_le _, Nat.zero_le _⟩ (fun H locs hP hD hS => ?_)
  have hP : va_P D vwCl [(A_t, .inr (9, [.int t_there, .int t_awake, .ref A_t_count, .ref A_t_pace, .int t_house, .int t_sharp, .int t_sights, .ref A_t_sight, .int t_signs, .ref A_t_pad, .int r1.1, .ref A_t_now, .int t_reason, .int t_acts, .int t_breaths, .int t_zeroAt, .int t_noticedAt, .ref A_t_image, .ref A_t_isKept])), (A_t_count, .inl (ty.1, 8, .inl t_count)), (A_t_pace, .inl (ty.1, 8, .inl t_pace)), (A_t_sight, .inl (ty.1, 24, .inl t_sight)), (A_t_pad, .inl (ty.1, 60, .inl t_pad)), (A_t_now, .inl (ty.1, 8, .inl r1.2)), (A_t_image, .inl (ty.1, 120, .inl t_image)), (A_t_isKept, .inl (ty.2.2.1, 2, .inl t_isKept))] H := hP
  have hD : va_D (va_A WC s.heap.size) [(A_t, .inr (9, [.int t_there, .int t_awake, .ref A_t_count, .ref A_t_pace, .int t_house, .int t_sharp, .int t_sights, .ref A_t_sight, .int t_signs, .ref A_t_pad, .int r1.1, .ref A_t_now, .int t_reason, .int t_acts, .int t_breaths, .int t_zeroAt, .int t_noticedAt, .ref A_t_image, .ref A_t_isKept])), (A_t_count, .inl (ty.1, 8, .inl t_count)), (A_t_pace, .inl (ty.1, 8, .inl t_pace)), (A_t_sight, .inl (ty.1, 24, .inl t_sight)), (A_t_pad, .inl (ty.1, 60, .inl t_pad)), (A_t_now, .inl (ty.1, 8, .inl r1.2)), (A_t_image, .inl (ty.1, 120, .inl t_image)), (A_t_isKept, .inl (ty.2.2.1, 2, .inl t_isKept))] := hD
  refine lv_aload_n hx hb dX10_differ_4 rfl (lv_at hl 0 rfl) ?_
  obtain ⟨r5, hr5, hf⟩ := bnd hf
  refine callV_ri (As := []) (rest := []) ⟨hx, hb, hml, hown, hts⟩ (CX10_spread l hr5) (cwV 0 hts gX10_differ_X10_spread rfl rfl rfl kkX10_spread ⟨Nat.le_of_ble_eq_true rfl, Nat.le_of_ble_eq_true rfl⟩) hK hP 0 rfl rfl rfl hl.1 rfl (Nat.le_of_ble_eq_true rfl) dX10_differ_5 ⟨Nat.zero_le _, Nat.zero_le _⟩ ?_
  cases hf
  exact ret_wi hx hb hr hlocks hP hD hS dX10_differ_8
/-! ===== SilenceCountModel.done()I ===== -/
abbrev rmX10_done : Room := { frames := 5, cells := 0, slots := 0, locals := 112 }
theorem kkX10_done : yX10_done.cls = RX10 ∧ yX10_done.cls ≠ "java/lang/invoke/MethodHandle" ∧ yX10_done.cls ≠ "java/lang/invoke/VarHandle" ∧ (parseMethodDescriptor yX10_done.desc).map (fun d => d.parameters.length) = some 0 := by decide +kernel
theorem mX10_done_f72 : Cond.fieldLink RX10 72 "SilenceCountModel" "up" "I" ∈ wsX10_done := by decide +kernel
theorem mX10_done_f86 : Cond.fieldLink RX10 86 "SilenceCountModel" "acts" "I" ∈ wsX10_done := by decide +kernel
theorem mX10_done_f62 : Cond.fieldLink RX10 62 "SilenceCountModel" "signs" "I" ∈ wsX10_done := by decide +kernel
theorem mX10_done_f7 : Cond.fieldLink RX10 7 "SilenceCountModel" "count" "[I" ∈ wsX10_done := by decide +kernel
theorem mX10_done_f30 : Cond.fieldLink RX10 30 "SilenceCountModel" "now" "[I" ∈ wsX10_done := by decide +kernel
theorem mX10_done_f55 : Cond.fieldLink RX10 55 "SilenceCountModel" "awake" "I" ∈ wsX10_done := by decide +kernel
theorem wX10_done_X10 : ∀ w ∈ u_ws RX10 TX10 19, w ∈ wsX10_done := by decide +kernel
def bX10_done_20 (k20 : Int32 × Int32 × Int32 × Int32 × Int32 × Int32 × Int32 × Int32 × Int32 × (Nat → Int32) × (Nat → Int32) → Option (Int32 × Int32 × Int32 × Int32 × Int32 × Int32 × Int32 × Int32 × Int32 × (Nat → Int32) × (Nat → Int32))) (v1 : Int32) (t_awake : Int32) (t_signs : Int32) (t_up : Int32) (t_reason : Int32) (t_acts : Int32) (t_breaths : Int32) (t_zeroAt : Int32) (t_noticedAt : Int32) (t_count : Nat → Int32) (t_now : Nat → Int32) : Option (Int32 × Int32 × Int32 × Int32 × Int32 × Int32 × Int32 × Int32 × Int32 × (Nat → Int32) × (Nat → Int32)) :=
  if 8 ≤ v1 then some (t_acts, t_awake, 0, t_up, t_reason, t_acts, t_breaths, t_zeroAt, t_noticedAt, t_count, t_now) else gIn v1 8 (gIn v1 8 (k20 (v1 + 1, t_awake, t_signs, t_up, t_reason, t_acts, t_breaths, t_zeroAt, t_noticedAt, upd t_count (v1 : Int32).toNatClampNeg (t_now (v1 : Int32).toNatClampNeg), t_now)))
set_option maxRecDepth 100000 in
set_option maxHeartbeats 4000000 in
theorem BX10_done_20 {p : Program} {l : Launch} {e : Env} {s : State} {m : MethodId} {below : List Frame} {meth : Method} {c : Code} {D : va_G} {ty : TY} {A_t A_t_count A_t_pace A_t_sight A_t_pad A_t_now A_t_image A_t_isKept : Nat} {t_there : Int32} {t_house : Int32} {t_sharp : Int32} {t_sights : Int32} {t_pace : Nat → Int32} {t_sight : Nat → Int32} {t_pad : Nat → Int32} {t_image : Nat → Int32} {t_isKept : Nat → Int32} {q0 : Int32 × Int32 × Int32 × Int32 × Int32 × Int32 × Int32 × Int32 × Int32 × (Nat → Int32) × (Nat → Int32)} {WC : va_W} (C : cx p s m [.ref A_t] meth c cX10_done 2 (some .int) RX10 wsX10_done) (hK : KK D ty s)   : ∀ (n : Nat) (v1 : Int32) (t_awake : Int32) (t_signs : Int32) (t_up : Int32) (t_reason : Int32) (t_acts : Int32) (t_breaths : Int32) (t_zeroAt : Int32) (t_noticedAt : Int32) (t_count : Nat → Int32) (t_now : Nat → Int32) (H : Heap) (locs : List Loc) (ls : Array Slot), va_P D vwCl [(A_t, .inr (9, [.int t_there, .int t_awake, .ref A_t_count, .ref A_t_pace, .int t_house, .int t_sharp, .int t_sights, .ref A_t_sight, .int t_signs, .ref A_t_pad, .int t_up, .ref A_t_now, .int t_reason, .int t_acts, .int t_breaths, .int t_zeroAt, .int t_noticedAt, .ref A_t_image, .ref A_t_isKept])), (A_t_count, .inl (ty.1, 8, .inl t_count)), (A_t_pace, .inl (ty.1, 8, .inl t_pace)), (A_t_sight, .inl (ty.1, 24, .inl t_sight)), (A_t_pad, .inl (ty.1, 60, .inl t_pad)), (A_t_now, .inl (ty.1, 8, .inl t_now)), (A_t_image, .inl (ty.1, 120, .inl t_image)), (A_t_isKept, .inl (ty.2.2.1, 2, .inl t_isKept))] H → va_D (va_A WC s.heap.size) [(A_t, .inr (9, [.int t_there, .int t_awake, .ref A_t_count, .ref A_t_pace, .int t_house, .int t_sharp, .int t_sights, .ref A_t_sight, .int t_signs, .ref A_t_pad, .int t_up, .ref A_t_now, .int t_reason, .int t_acts, .int t_breaths, .int t_zeroAt, .int t_noticedAt, .ref A_t_image, .ref A_t_isKept])), (A_t_count, .inl (ty.1, 8, .inl t_count)), (A_t_pace, .inl (ty.1, 8, .inl t_pace)), (A_t_sight, .inl (ty.1, 24, .inl t_sight)), (A_t_pad, .inl (ty.1, 60, .inl t_pad)), (A_t_now, .inl (ty.1, 8, .inl t_now)), (A_t_image, .inl (ty.1, 120, .inl t_image)), (A_t_isKept, .inl (ty.2.2.1, 2, .inl t_isKept))] → va_S (va_A WC s.heap.size) s.heap H locs → lv_has ls 2 [(0, .ref A_t), (1, .int v1)] → loopF (fun k q => bX10_done_20 k q.1 q.2.1 q.2.2.1 q.2.2.2.1 q.2.2.2.2.1 q.2.2.2.2.2.1 q.2.2.2.2.2.2.1 q.2.2.2.2.2.2.2.1 q.2.2.2.2.2.2.2.2.1 q.2.2.2.2.2.2.2.2.2.1 q.2.2.2.2.2.2.2.2.2.2) n (v1, t_awake, t_signs, t_up, t_reason, t_acts, t_breaths, t_zeroAt, t_noticedAt, t_count, t_now) = some q0 → WWi p l e rmX10_done s m [.ref A_t] below meth c D WC [(A_t, .inr (9, [.int t_there, .int q0.2.1, .ref A_t_count, .ref A_t_pace, .int t_house, .int t_sharp, .int t_sights, .ref A_t_sight, .int q0.2.2.1, .ref A_t_pad, .int q0.2.2.2.1, .ref A_t_now, .int q0.2.2.2.2.1, .int q0.2.2.2.2.2.1, .int q0.2.2.2.2.2.2.1, .int q0.2.2.2.2.2.2.2.1, .int q0.2.2.2.2.2.2.2.2.1, .ref A_t_image, .ref A_t_isKept])), (A_t_count, .inl (ty.1, 8, .inl q0.2.2.2.2.2.2.2.2.2.1)), (A_t_pace, .inl (ty.1, 8, .inl t_pace)), (A_t_sight, .inl (ty.1, 24, .inl t_sight)), (A_t_pad, .inl (ty.1, 60, .inl t_pad)), (A_t_now, .inl (ty.1, 8, .inl q0.2.2.2.2.2.2.2.2.2.2)), (A_t_image, .inl (ty.1, 120, .inl t_image)), (A_t_isKept, .inl (ty.2.2.1, 2, .inl t_isKept))] q0.1 H locs (F0 m 20 ls []) := by
  obtain ⟨hx, hb, hr, hml, hown, hts, hlocks⟩ := id C
  intro n
  induction n with
  | zero =>
    intro v1 t_awake t_signs t_up t_reason t_acts t_breaths t_zeroAt t_noticedAt t_count t_now H locs ls hP hD hS hl hf
    cases hf
  | succ n ih =>
    intro v1 t_awake t_signs t_up t_reason t_acts t_breaths t_zeroAt t_noticedAt t_count t_now H locs ls hP hD hS hl hf
    have hf : bX10_done_20 (loopF (fun k q => bX10_done_20 k q.1 q.2.1 q.2.2.1 q.2.2.2.1 q.2.2.2.2.1 q.2.2.2.2.2.1 q.2.2.2.2.2.2.1 q.2.2.2.2.2.2.2.1 q.2.2.2.2.2.2.2.2.1 q.2.2.2.2.2.2.2.2.2.1 q.2.2.2.2.2.2.2.2.2.2) n) v1 t_awake t_signs t_up t_reason t_acts t_breaths t_zeroAt t_noticedAt t_count t_now = some q0 := hf
    have hk20 := ih
    unfold bX10_done_20 at hf
    refine lv_iload_n hx hb dX10_done_20 rfl (lv_at hl 1 rfl) ?_
    refine lv_bipush (v := 8) hx hb dX10_done_21 (by decide) ?_
    refine lv_icmp_ge (tgt := 44) hx hb dX10_done_23 (by decide) (fun hc => ?_) (fun hc => ?_)
    · have hf := ft hf hc
      refine lv_aload_n hx hb dX10_done_44 rfl (lv_at hl 0 rfl) ?_
      refine lv_iconst (v := 0) hx hb dX10_done_45 (by decide) ?_
      refine va_put (D := D) (ci := 9) (v := .int 0) (ty := .int) (C := RX10) (T := TX10) (N := 19) hx hb hts wX10_done_X10 tyX10 tyX10_ok nmX10 hown hK.1 hP hD hS 0 rfl rfl 8 (by decide) (hts _ mX10_done_f62) (fun _ h9 => h9) rfl (by decide +kernel) rfl rfl (Nat.le_of_ble_eq_true rfl) dX10_done_46 (fun H locs hP hD hS => ?_)
      have hP : va_P D vwCl [(A_t, .inr (9, [.int t_there, .int t_awake, .ref A_t_count, .ref A_t_pace, .int t_house, .int t_sharp, .int t_sights, .ref A_t_sight, .int 0, .ref A_t_pad, .int t_up, .ref A_t_now, .int t_reason, .int t_acts, .int t_breaths, .int t_zeroAt, .int t_noticedAt, .ref A_t_image, .ref A_t_isKept])), (A_t_count, .inl (ty.1, 8, .inl t_count)), (A_t_pace, .inl (ty.1, 8, .inl t_pace)), (A_t_sight, .inl (ty.1, 24, .inl t_sight)), (A_t_pad, .inl (ty.1, 60, .inl t_pad)), (A_t_now, .inl (ty.1, 8, .inl t_now)), (A_t_image, .inl (ty.1, 120, .inl t_image)), (A_t_isKept, .inl (ty.2.2.1, 2, .inl t_isKept))] H := hP
      have hD : va_D (va_A WC s.heap.size) [(A_t, .inr (9, [.int t_there, .int t_awake, .ref A_t_count, .ref A_t_pace, .int t_house, .int t_sharp, .int t_sights, .ref A_t_sight, .int 0, .ref A_t_pad, .int t_up, .ref A_t_now, .int t_reason, .int t_acts, .int t_breaths, .int t_zeroAt, .int t_noticedAt, .ref A_t_image, .ref A_t_isKept])), (A_t_count, .inl (ty.1, 8, .inl t_count)), (A_t_pace, .inl (ty.1, 8, .inl t_pace)), (A_t_sight, .inl (ty.1, 24, .inl t_sight)), (A_t_pad, .inl (ty.1, 60, .inl t_pad)), (A_t_now, .inl (ty.1, 8, .inl t_now)), (A_t_image, .inl (ty.1, 120, .inl t_image)), (A_t_isKept, .inl (ty.2.2.1, 2, .inl t_isKept))] := hD
      refine lv_aload_n hx hb dX10_done_49 rfl (lv_at hl 0 rfl) ?_
      refine va_get (D := D) (ci := 9) (v := .int t_acts) (C := RX10) (T := TX10) (N := 19) hx hb hts wX10_done_X10 hown hK.1 hP 0 rfl rfl 13 (by decide) (hts _ mX10_done_f86) (fun _ h9 => h9) rfl dX10_done_50 ?_
      cases hf
      exact ret_wi hx hb hr hlocks hP hD hS dX10_done_53
    · have hf := ff hf hc
      refine lv_aload_n hx hb dX10_done_26 rfl (lv_at hl 0 rfl) ?_
      refine va_get (D := D) (ci := 9) (v := .ref A_t_count) (C := RX10) (T := TX10) (N := 19) hx hb hts wX10_done_X10 hown hK.1 hP 0 rfl rfl 2 (by decide) (hts _ mX10_done_f7) (fun _ h9 => h9) rfl dX10_done_27 ?_
      refine lv_iload_n hx hb dX10_done_30 rfl (lv_at hl 1 rfl) ?_
      refine lv_aload_n hx hb dX10_done_31 rfl (lv_at hl 0 rfl) ?_
      refine va_get (D := D) (ci := 9) (v := .ref A_t_now) (C := RX10) (T := TX10) (N := 19) hx hb hts wX10_done_X10 hown hK.1 hP 0 rfl rfl 11 (by decide) (hts _ mX10_done_f30) (fun _ h9 => h9) rfl dX10_done_32 ?_
      refine lv_iload_n hx hb dX10_done_35 rfl (lv_at hl 1 rfl) ?_
      obtain ⟨hin, hf⟩ := gIn_some hf
      refine va_iald hx hb hK.1 hP 5 0 rfl rfl hin dX10_done_36 ?_
      obtain ⟨hin, hf⟩ := gIn_some hf
      refine va_iast hx hb hK.1 hP hD hS 1 0 rfl rfl hin dX10_done_37 (fun H locs hP hD hS => ?_)
      have hP : va_P D vwCl [(A_t, .inr (9, [.int t_there, .int t_awake, .ref A_t_count, .ref A_t_pace, .int t_house, .int t_sharp, .int t_sights, .ref A_t_sight, .int t_signs, .ref A_t_pad, .int t_up, .ref A_t_now, .int t_reason, .int t_acts, .int t_breaths, .int t_zeroAt, .int t_noticedAt, .ref A_t_image, .ref A_t_isKept])), (A_t_count, .inl (ty.1, 8, .inl (upd t_count (v1 : Int32).toNatClampNeg (t_now (v1 : Int32).toNatClampNeg)))), (A_t_pace, .inl (ty.1, 8, .inl t_pace)), (A_t_sight, .inl (ty.1, 24, .inl t_sight)), (A_t_pad, .inl (ty.1, 60, .inl t_pad)), (A_t_now, .inl (ty.1, 8, .inl t_now)), (A_t_image, .inl (ty.1, 120, .inl t_image)), (A_t_isKept, .inl (ty.2.2.1, 2, .inl t_isKept))] H := hP
      have hD : va_D (va_A WC s.heap.size) [(A_t, .inr (9, [.int t_there, .int t_awake, .ref A_t_count, .ref A_t_pace, .int t_house, .int t_sharp, .int t_sights, .ref A_t_sight, .int t_signs, .ref A_t_pad, .int t_up, .ref A_t_now, .int t_reason, .int t_acts, .int t_breaths, .int t_zeroAt, .int t_noticedAt, .ref A_t_image, .ref A_t_isKept])), (A_t_count, .inl (ty.1, 8, .inl (upd t_count (v1 : Int32).toNatClampNeg (t_now (v1 : Int32).toNatClampNeg)))), (A_t_pace, .inl (ty.1, 8, .inl t_pace)), (A_t_sight, .inl (ty.1, 24, .inl t_sight)), (A_t_pad, .inl (ty.1, 60, .inl t_pad)), (A_t_now, .inl (ty.1, 8, .inl t_now)), (A_t_image, .inl (ty.1, 120, .inl t_image)), (A_t_isKept, .inl (ty.2.2.1, 2, .inl t_isKept))] := hD
      refine lv_iinc (v := v1 + 1) (lv' := [(1, .int (v1 + 1)), (0, .ref A_t)]) hx hb dX10_done_38 hl (k := 1) rfl rfl (by decide) rfl (fun ls hl => ?_)
      refine lv_goto (tgt := 20) hx hb dX10_done_41 (by decide) ?_
      exact hk20 _ _ _ _ _ _ _ _ _ _ _ _ _ _ hP hD hS (lv_sub hl [1, 0] rfl) hf
def fX10_done (t_there : Int32) (t_awake : Int32) (t_house : Int32) (t_sharp : Int32) (t_signs : Int32) (t_up : Int32) (t_reason : Int32) (t_acts : Int32) (t_breaths : Int32) (t_zeroAt : Int32) (t_noticedAt : Int32) (t_count : Nat → Int32) (t_pace : Nat → Int32) (t_pad : Nat → Int32) (t_now : Nat → Int32) : Option (Int32 × Int32 × Int32 × Int32 × Int32 × Int32 × Int32 × Int32 × Int32 × (Nat → Int32) × (Nat → Int32)) :=
  (fX10_barOfHours t_there t_awake t_house t_sharp t_signs t_up t_reason t_acts t_breaths t_zeroAt t_noticedAt t_count t_pace t_pad t_now).bind fun r1 => if 0 ≤ r1.1 then loopF (fun k q => bX10_done_20 k q.1 q.2.1 q.2.2.1 q.2.2.2.1 q.2.2.2.2.1 q.2.2.2.2.2.1 q.2.2.2.2.2.2.1 q.2.2.2.2.2.2.2.1 q.2.2.2.2.2.2.2.2.1 q.2.2.2.2.2.2.2.2.2.1 q.2.2.2.2.2.2.2.2.2.2) FU (0, r1.2.1, t_signs, r1.2.1, r1.2.2.1, r1.2.2.2.1, r1.2.2.2.2.1, r1.2.2.2.2.2.1, r1.2.2.2.2.2.2.1, t_count, r1.2.2.2.2.2.2.2) else some ((-5), t_awake, t_signs, r1.2.1, r1.2.2.1, r1.2.2.2.1, r1.2.2.2.2.1, r1.2.2.2.2.2.1, r1.2.2.2.2.2.2.1, t_count, r1.2.2.2.2.2.2.2)
set_option maxRecDepth 100000 in
set_option maxHeartbeats 4000000 in
theorem CX10_done (l : Launch) {D : va_G} {ty : TY} {A_t A_t_count A_t_pace A_t_sight A_t_pad A_t_now A_t_image A_t_isKept : Nat} {t_there : Int32} {t_awake : Int32} {t_house : Int32} {t_sharp : Int32} {t_sights : Int32} {t_signs : Int32} {t_up : Int32} {t_reason : Int32} {t_acts : Int32} {t_breaths : Int32} {t_zeroAt : Int32} {t_noticedAt : Int32} {t_count : Nat → Int32} {t_pace : Nat → Int32} {t_sight : Nat → Int32} {t_pad : Nat → Int32} {t_now : Nat → Int32} {t_image : Nat → Int32} {t_isKept : Nat → Int32} {q0 : Int32 × Int32 × Int32 × Int32 × Int32 × Int32 × Int32 × Int32 × Int32 × (Nat → Int32) × (Nat → Int32)} (hf : fX10_done t_there t_awake t_house t_sharp t_signs t_up t_reason t_acts t_breaths t_zeroAt t_noticedAt t_count t_pace t_pad t_now = some q0) : RWi l yX10_done wsX10_done rmX10_done D ty [.ref A_t] [(A_t, .inr (9, [.int t_there, .int t_awake, .ref A_t_count, .ref A_t_pace, .int t_house, .int t_sharp, .int t_sights, .ref A_t_sight, .int t_signs, .ref A_t_pad, .int t_up, .ref A_t_now, .int t_reason, .int t_acts, .int t_breaths, .int t_zeroAt, .int t_noticedAt, .ref A_t_image, .ref A_t_isKept])), (A_t_count, .inl (ty.1, 8, .inl t_count)), (A_t_pace, .inl (ty.1, 8, .inl t_pace)), (A_t_sight, .inl (ty.1, 24, .inl t_sight)), (A_t_pad, .inl (ty.1, 60, .inl t_pad)), (A_t_now, .inl (ty.1, 8, .inl t_now)), (A_t_image, .inl (ty.1, 120, .inl t_image)), (A_t_isKept, .inl (ty.2.2.1, 2, .inl t_isKept))] q0.1 [(A_t, .inr (9, [.int t_there, .int q0.2.1, .ref A_t_count, .ref A_t_pace, .int t_house, .int t_sharp, .int t_sights, .ref A_t_sight, .int q0.2.2.1, .ref A_t_pad, .int q0.2.2.2.1, .ref A_t_now, .int q0.2.2.2.2.1, .int q0.2.2.2.2.2.1, .int q0.2.2.2.2.2.2.1, .int q0.2.2.2.2.2.2.2.1, .int q0.2.2.2.2.2.2.2.2.1, .ref A_t_image, .ref A_t_isKept])), (A_t_count, .inl (ty.1, 8, .inl q0.2.2.2.2.2.2.2.2.2.1)), (A_t_pace, .inl (ty.1, 8, .inl t_pace)), (A_t_sight, .inl (ty.1, 24, .inl t_sight)), (A_t_pad, .inl (ty.1, 60, .inl t_pad)), (A_t_now, .inl (ty.1, 8, .inl q0.2.2.2.2.2.2.2.2.2.2)), (A_t_image, .inl (ty.1, 120, .inl t_image)), (A_t_isKept, .inl (ty.2.2.1, 2, .inl t_isKept))] := by
  refine RWi.start (cc := cX10_done) (maxL := 2) (ret := (some .int)) (own := RX10) (by decide) rfl rfl (Nat.le_of_ble_eq_true rfl) ?_
  intro p e s m below meth c ls C hK hP hD hS hl
  obtain ⟨WC, hWC⟩ : ∃ w : va_W, w = [(A_t, .inr (9, [.int t_there, .int t_awake, .ref A_t_count, .ref A_t_pace, .int t_house, .int t_sharp, .int t_sights, .ref A_t_sight, .int t_signs, .ref A_t_pad, .int t_up, .ref A_t_now, .int t_reason, .int t_acts, .int t_breaths, .int t_zeroAt, .int t_noticedAt, .ref A_t_image, .ref A_t_isKept])), (A_t_count, .inl (ty.1, 8, .inl t_count)), (A_t_pace, .inl (ty.1, 8, .inl t_pace)), (A_t_sight, .inl (ty.1, 24, .inl t_sight)), (A_t_pad, .inl (ty.1, 60, .inl t_pad)), (A_t_now, .inl (ty.1, 8, .inl t_now)), (A_t_image, .inl (ty.1, 120, .inl t_image)), (A_t_isKept, .inl (ty.2.2.1, 2, .inl t_isKept))] := ⟨_, rfl⟩
  rw [← hWC] at hD hS ⊢
  have hD : va_D (va_A WC s.heap.size) [(A_t, .inr (9, [.int t_there, .int t_awake, .ref A_t_count, .ref A_t_pace, .int t_house, .int t_sharp, .int t_sights, .ref A_t_sight, .int t_signs, .ref A_t_pad, .int t_up, .ref A_t_now, .int t_reason, .int t_acts, .int t_breaths, .int t_zeroAt, .int t_noticedAt, .ref A_t_image, .ref A_t_isKept])), (A_t_count, .inl (ty.1, 8, .inl t_count)), (A_t_pace, .inl (ty.1, 8, .inl t_pace)), (A_t_sight, .inl (ty.1, 24, .inl t_sight)), (A_t_pad, .inl (ty.1, 60, .inl t_pad)), (A_t_now, .inl (ty.1, 8, .inl t_now)), (A_t_image, .inl (ty.1, 120, .inl t_image)), (A_t_isKept, .inl (ty.2.2.1, 2, .inl t_isKept))] := by rw [← hWC]; exact hD
  obtain ⟨hx, hb, hr, hml, hown, hts, hlocks⟩ := id C
  have hl : lv_has ls 2 [(0, .ref A_t)] := hl
  unfold fX10_done at hf
  refine lv_aload_n hx hb dX10_done_0 rfl (lv_at hl 0 rfl) ?_
  obtain ⟨r1, hr1, hf⟩ := bnd hf
  refine callV_wi (As := []) (rest := []) ⟨hx, hb, hml, hown, hts⟩ (CX10_barOfHours l hr1) (cwV 0 hts gX10_done_X10_barOfHours rfl rfl rfl kkX10_barOfHours ⟨Nat.le_of_ble_eq_true rfl, Nat.le_of_ble_eq_true rfl⟩) hK hP hD hS (fun _ h => Or.inr h) [0, 1, 2, 3, 4, 5, 6, 7] [] [0, 1, 2, 3, 4, 5, 6, 7] rfl (by decide) (by decide) rfl rfl 0 rfl rfl rfl hl.1 rfl (Nat.le_of_ble_eq_true rfl) dX10_done_1 ⟨Nat.zero_le _, Nat.zero_le _⟩ (fun H locs hP hD hS => ?_)
  have hP : va_P D vwCl [(A_t, .inr (9, [.int t_there, .int t_awake, .ref A_t_count, .ref A_t_pace, .int t_house, .int t_sharp, .int t_sights, .ref A_t_sight, .int t_signs, .ref A_t_pad, .int r1.2.1, .ref A_t_now, .int r1.2.2.1, .int r1.2.2.2.1, .int r1.2.2.2.2.1, .int r1.2.2.2.2.2.1, .int r1.2.2.2.2.2.2.1, .ref A_t_image, .ref A_t_isKept])), (A_t_count, .inl (ty.1, 8, .inl t_count)), (A_t_pace, .inl (ty.1, 8, .inl t_pace)), (A_t_sight, .inl (ty.1, 24, .inl t_sight)), (A_t_pad, .inl (ty.1, 60, .inl t_pad)), (A_t_now, .inl (ty.1, 8, .inl r1.2.2.2.2.2.2.2)), (A_t_image, .inl (ty.1, 120, .inl t_image)), (A_t_isKept, .inl (ty.2.2.1, 2, .inl t_isKept))] H := hP
  have hD : va_D (va_A WC s.heap.size) [(A_t, .inr (9, [.int t_there, .int t_awake, .ref A_t_count, .ref A_t_pace, .int t_house, .int t_sharp, .int t_sights, .ref A_t_sight, .int t_signs, .ref A_t_pad, .int r1.2.1, .ref A_t_now, .int r1.2.2.1, .int r1.2.2.2.1, .int r1.2.2.2.2.1, .int r1.2.2.2.2.2.1, .int r1.2.2.2.2.2.2.1, .ref A_t_image, .ref A_t_isKept])), (A_t_count, .inl (ty.1, 8, .inl t_count)), (A_t_pace, .inl (ty.1, 8, .inl t_pace)), (A_t_sight, .inl (ty.1, 24, .inl t_sight)), (A_t_pad, .inl (ty.1, 60, .inl t_pad)), (A_t_now, .inl (ty.1, 8, .inl r1.2.2.2.2.2.2.2)), (A_t_image, .inl (ty.1, 120, .inl t_image)), (A_t_isKept, .inl (ty.2.2.1, 2, .inl t_isKept))] := hD
  refine lv_if_ge (tgt := 10) hx hb dX10_done_4 (by decide) (fun hc => ?_) (fun hc => ?_)
  · have hf := ft hf hc
    refine lv_aload_n hx hb dX10_done_10 rfl (lv_at hl 0 rfl) ?_
    refine lv_aload_n hx hb dX10_done_11 rfl (lv_at hl 0 rfl) ?_
    refine va_get (D := D) (ci := 9) (v := .int r1.2.1) (C := RX10) (T := TX10) (N := 19) hx hb hts wX10_done_X10 hown hK.1 hP 0 rfl rfl 10 (by decide) (hts _ mX10_done_f72) (fun _ h9 => h9) rfl dX10_done_12 ?_
    refine va_put (D := D) (ci := 9) (v := .int r1.2.1) (ty := .int) (C := RX10) (T := TX10) (N := 19) hx hb hts wX10_done_X10 tyX10 tyX10_ok nmX10 hown hK.1 hP hD hS 0 rfl rfl 1 (by decide) (hts _ mX10_done_f55) (fun _ h9 => h9) rfl (by decide +kernel) rfl rfl (Nat.le_of_ble_eq_true rfl) dX10_done_15 (fun H locs hP hD hS => ?_)
    have hP : va_P D vwCl [(A_t, .inr (9, [.int t_there, .int r1.2.1, .ref A_t_count, .ref A_t_pace, .int t_house, .int t_sharp, .int t_sights, .ref A_t_sight, .int t_signs, .ref A_t_pad, .int r1.2.1, .ref A_t_now, .int r1.2.2.1, .int r1.2.2.2.1, .int r1.2.2.2.2.1, .int r1.2.2.2.2.2.1, .int r1.2.2.2.2.2.2.1, .ref A_t_image, .ref A_t_isKept])), (A_t_count, .inl (ty.1, 8, .inl t_count)), (A_t_pace, .inl (ty.1, 8, .inl t_pace)), (A_t_sight, .inl (ty.1, 24, .inl t_sight)), (A_t_pad, .inl (ty.1, 60, .inl t_pad)), (A_t_now, .inl (ty.1, 8, .inl r1.2.2.2.2.2.2.2)), (A_t_image, .inl (ty.1, 120, .inl t_image)), (A_t_isKept, .inl (ty.2.2.1, 2, .inl t_isKept))] H := hP
    have hD : va_D (va_A WC s.heap.size) [(A_t, .inr (9, [.int t_there, .int r1.2.1, .ref A_t_count, .ref A_t_pace, .int t_house, .int t_sharp, .int t_sights, .ref A_t_sight, .int t_signs, .ref A_t_pad, .int r1.2.1, .ref A_t_now, .int r1.2.2.1, .int r1.2.2.2.1, .int r1.2.2.2.2.1, .int r1.2.2.2.2.2.1, .int r1.2.2.2.2.2.2.1, .ref A_t_image, .ref A_t_isKept])), (A_t_count, .inl (ty.1, 8, .inl t_count)), (A_t_pace, .inl (ty.1, 8, .inl t_pace)), (A_t_sight, .inl (ty.1, 24, .inl t_sight)), (A_t_pad, .inl (ty.1, 60, .inl t_pad)), (A_t_now, .inl (ty.1, 8, .inl r1.2.2.2.2.2.2.2)), (A_t_image, .inl (ty.1, 120, .inl t_image)), (A_t_isKept, .inl (ty.2.2.1, 2, .inl t_isKept))] := hD
    refine lv_iconst (v := 0) hx hb dX10_done_18 (by decide) ?_
    refine lv_istore_n (lv' := [(1, .int 0), (0, .ref A_t)]) hx hb dX10_done_19 rfl hl (by decide) rfl (fun ls hl => ?_)
    exact BX10_done_20 C hK  FU _ _ _ _ _ _ _ _ _ _ _ _ _ _ hP hD hS (lv_sub hl [1, 0] rfl) hf
  · have hf := ff hf hc
    refine lv_bipush (v := (-5)) hx hb dX10_done_7 (by decide) ?_
    cases hf
    exact ret_wi hx hb hr hlocks hP hD hS dX10_done_9
/-! ===== SilenceCountModel.elbows(I)I ===== -/
abbrev rmX10_elbows : Room := { frames := 2, cells := 0, slots := 0, locals := 46 }
theorem kkX10_elbows : yX10_elbows.cls = RX10 ∧ yX10_elbows.cls ≠ "java/lang/invoke/MethodHandle" ∧ yX10_elbows.cls ≠ "java/lang/invoke/VarHandle" ∧ (parseMethodDescriptor yX10_elbows.desc).map (fun d => d.parameters.length) = some 1 := by decide +kernel
theorem mX10_elbows_f55 : Cond.fieldLink RX10 55 "SilenceCountModel" "awake" "I" ∈ wsX10_elbows := by decide +kernel
theorem mX10_elbows_f72 : Cond.fieldLink RX10 72 "SilenceCountModel" "up" "I" ∈ wsX10_elbows := by decide +kernel
theorem mX10_elbows_f30 : Cond.fieldLink RX10 30 "SilenceCountModel" "now" "[I" ∈ wsX10_elbows := by decide +kernel
theorem wX10_elbows_X10 : ∀ w ∈ u_ws RX10 TX10 19, w ∈ wsX10_elbows := by decide +kernel
def bX10_elbows_72 (k36 : Int32 × Int32 × Int32 × Int32 × (Nat → Int32) → Option (Int32 × Int32 × (Nat → Int32))) (v2 : Int32) (v4 : Int32) (s0 : Int32) (s1 : Int32) (t_up : Int32) (t_now : Nat → Int32) : Option (Int32 × Int32 × (Nat → Int32)) :=
  k36 (v2, s1 + s0, v4 + 1, t_up, t_now)
set_option maxRecDepth 100000 in
set_option maxHeartbeats 4000000 in
theorem BX10_elbows_72 {p : Program} {l : Launch} {e : Env} {s : State} {m : MethodId} {below : List Frame} {meth : Method} {c : Code} {D : va_G} {ty : TY} {A_t A_t_count A_t_pace A_t_sight A_t_pad A_t_now A_t_image A_t_isKept : Nat} {t_there : Int32} {t_awake : Int32} {t_house : Int32} {t_sharp : Int32} {t_sights : Int32} {t_signs : Int32} {t_reason : Int32} {t_acts : Int32} {t_breaths : Int32} {t_zeroAt : Int32} {t_noticedAt : Int32} {t_count : Nat → Int32} {t_pace : Nat → Int32} {t_sight : Nat → Int32} {t_pad : Nat → Int32} {t_image : Nat → Int32} {t_isKept : Nat → Int32} {a1 : Int32} {q0 : Int32 × Int32 × (Nat → Int32)} {WC : va_W} (C : cx p s m [.ref A_t, .int a1] meth c cX10_elbows 5 (some .int) RX10 wsX10_elbows) (hK : KK D ty s) {k36 : Int32 × Int32 × Int32 × Int32 × (Nat → Int32) → Option (Int32 × Int32 × (Nat → Int32))} (hk36 : ∀ (v2 : Int32) (v3 : Int32) (v4 : Int32) (t_up : Int32) (t_now : Nat → Int32) (H : Heap) (locs : List Loc) (ls : Array Slot), va_P D vwCl [(A_t, .inr (9, [.int t_there, .int t_awake, .ref A_t_count, .ref A_t_pace, .int t_house, .int t_sharp, .int t_sights, .ref A_t_sight, .int t_signs, .ref A_t_pad, .int t_up, .ref A_t_now, .int t_reason, .int t_acts, .int t_breaths, .int t_zeroAt, .int t_noticedAt, .ref A_t_image, .ref A_t_isKept])), (A_t_count, .inl (ty.1, 8, .inl t_count)), (A_t_pace, .inl (ty.1, 8, .inl t_pace)), (A_t_sight, .inl (ty.1, 24, .inl t_sight)), (A_t_pad, .inl (ty.1, 60, .inl t_pad)), (A_t_now, .inl (ty.1, 8, .inl t_now)), (A_t_image, .inl (ty.1, 120, .inl t_image)), (A_t_isKept, .inl (ty.2.2.1, 2, .inl t_isKept))] H → va_D (va_A WC s.heap.size) [(A_t, .inr (9, [.int t_there, .int t_awake, .ref A_t_count, .ref A_t_pace, .int t_house, .int t_sharp, .int t_sights, .ref A_t_sight, .int t_signs, .ref A_t_pad, .int t_up, .ref A_t_now, .int t_reason, .int t_acts, .int t_breaths, .int t_zeroAt, .int t_noticedAt, .ref A_t_image, .ref A_t_isKept])), (A_t_count, .inl (ty.1, 8, .inl t_count)), (A_t_pace, .inl (ty.1, 8, .inl t_pace)), (A_t_sight, .inl (ty.1, 24, .inl t_sight)), (A_t_pad, .inl (ty.1, 60, .inl t_pad)), (A_t_now, .inl (ty.1, 8, .inl t_now)), (A_t_image, .inl (ty.1, 120, .inl t_image)), (A_t_isKept, .inl (ty.2.2.1, 2, .inl t_isKept))] → va_S (va_A WC s.heap.size) s.heap H locs → lv_has ls 5 [(0, .ref A_t), (1, .int a1), (2, .int v2), (3, .int v3), (4, .int v4)] → k36 (v2, v3, v4, t_up, t_now) = some q0 → WWi p l e rmX10_elbows s m [.ref A_t, .int a1] below meth c D WC [(A_t, .inr (9, [.int t_there, .int t_awake, .ref A_t_count, .ref A_t_pace, .int t_house, .int t_sharp, .int t_sights, .ref A_t_sight, .int t_signs, .ref A_t_pad, .int q0.2.1, .ref A_t_now, .int t_reason, .int t_acts, .int t_breaths, .int t_zeroAt, .int t_noticedAt, .ref A_t_image, .ref A_t_isKept])), (A_t_count, .inl (ty.1, 8, .inl t_count)), (A_t_pace, .inl (ty.1, 8, .inl t_pace)), (A_t_sight, .inl (ty.1, 24, .inl t_sight)), (A_t_pad, .inl (ty.1, 60, .inl t_pad)), (A_t_now, .inl (ty.1, 8, .inl q0.2.2)), (A_t_image, .inl (ty.1, 120, .inl t_image)), (A_t_isKept, .inl (ty.2.2.1, 2, .inl t_isKept))] q0.1 H locs (F0 m 36 ls [])) {v2 : Int32} {v4 : Int32} {s0 : Int32} {s1 : Int32} {t_up : Int32} {t_now : Nat → Int32} {H : Heap} {locs : List Loc} {ls : Array Slot} (hP : va_P D vwCl [(A_t, .inr (9, [.int t_there, .int t_awake, .ref A_t_count, .ref A_t_pace, .int t_house, .int t_sharp, .int t_sights, .ref A_t_sight, .int t_signs, .ref A_t_pad, .int t_up, .ref A_t_now, .int t_reason, .int t_acts, .int t_breaths, .int t_zeroAt, .int t_noticedAt, .ref A_t_image, .ref A_t_isKept])), (A_t_count, .inl (ty.1, 8, .inl t_count)), (A_t_pace, .inl (ty.1, 8, .inl t_pace)), (A_t_sight, .inl (ty.1, 24, .inl t_sight)), (A_t_pad, .inl (ty.1, 60, .inl t_pad)), (A_t_now, .inl (ty.1, 8, .inl t_now)), (A_t_image, .inl (ty.1, 120, .inl t_image)), (A_t_isKept, .inl (ty.2.2.1, 2, .inl t_isKept))] H) (hD : va_D (va_A WC s.heap.size) [(A_t, .inr (9, [.int t_there, .int t_awake, .ref A_t_count, .ref A_t_pace, .int t_house, .int t_sharp, .int t_sights, .ref A_t_sight, .int t_signs, .ref A_t_pad, .int t_up, .ref A_t_now, .int t_reason, .int t_acts, .int t_breaths, .int t_zeroAt, .int t_noticedAt, .ref A_t_image, .ref A_t_isKept])), (A_t_count, .inl (ty.1, 8, .inl t_count)), (A_t_pace, .inl (ty.1, 8, .inl t_pace)), (A_t_sight, .inl (ty.1, 24, .inl t_sight)), (A_t_pad, .inl (ty.1, 60, .inl t_pad)), (A_t_now, .inl (ty.1, 8, .inl t_now)), (A_t_image, .inl (ty.1, 120, .inl t_image)), (A_t_isKept, .inl (ty.2.2.1, 2, .inl t_isKept))]) (hS : va_S (va_A WC s.heap.size) s.heap H locs) (hl : lv_has ls 5 [(0, .ref A_t), (1, .int a1), (2, .int v2), (4, .int v4)]) (hf : bX10_elbows_72 k36 v2 v4 s0 s1 t_up t_now = some q0) : WWi p l e rmX10_elbows s m [.ref A_t, .int a1] below meth c D WC [(A_t, .inr (9, [.int t_there, .int t_awake, .ref A_t_count, .ref A_t_pace, .int t_house, .int t_sharp, .int t_sights, .ref A_t_sight, .int t_signs, .ref A_t_pad, .int q0.2.1, .ref A_t_now, .int t_reason, .int t_acts, .int t_breaths, .int t_zeroAt, .int t_noticedAt, .ref A_t_image, .ref A_t_isKept])), (A_t_count, .inl (ty.1, 8, .inl t_count)), (A_t_pace, .inl (ty.1, 8, .inl t_pace)), (A_t_sight, .inl (ty.1, 24, .inl t_sight)), (A_t_pad, .inl (ty.1, 60, .inl t_pad)), (A_t_now, .inl (ty.1, 8, .inl q0.2.2)), (A_t_image, .inl (ty.1, 120, .inl t_image)), (A_t_isKept, .inl (ty.2.2.1, 2, .inl t_isKept))] q0.1 H locs (F0 m 72 ls [.int s0, .int s1]) := by
  obtain ⟨hx, hb, hr, hml, hown, hts, hlocks⟩ := id C
  unfold bX10_elbows_72 at hf
  refine lv_iadd hx hb dX10_elbows_72 ?_
  refine lv_istore_n (lv' := [(3, .int (s1 + s0)), (0, .ref A_t), (1, .int a1), (2, .int v2), (4, .int v4)]) hx hb dX10_elbows_73 rfl hl (by decide) rfl (fun ls hl => ?_)
  refine lv_iinc (v := v4 + 1) (lv' := [(4, .int (v4 + 1)), (3, .int (s1 + s0)), (0, .ref A_t), (1, .int a1), (2, .int v2)]) hx hb dX10_elbows_74 hl (k := 4) rfl rfl (by decide) rfl (fun ls hl => ?_)
  refine lv_goto (tgt := 36) hx hb dX10_elbows_77 (by decide) ?_
  exact hk36 _ _ _ _ _ _ _ _ hP hD hS (lv_sub hl [2, 3, 4, 1, 0] rfl) hf
def bX10_elbows_36 (k36 : Int32 × Int32 × Int32 × Int32 × (Nat → Int32) → Option (Int32 × Int32 × (Nat → Int32))) (a1 : Int32) (v2 : Int32) (v3 : Int32) (v4 : Int32) (t_up : Int32) (t_now : Nat → Int32) : Option (Int32 × Int32 × (Nat → Int32)) :=
  if 8 ≤ v4 then if a1 = 0 then some (v3, t_up, t_now) else some (v2, t_up, t_now) else (fX10_has t_up v4).bind fun r50 => if r50 = 0 then bX10_elbows_72 k36 v2 v4 0 v3 t_up t_now else gIn v4 8 (if (t_now (v4 : Int32).toNatClampNeg) = v2 then bX10_elbows_72 k36 v2 v4 0 v3 t_up t_now else bX10_elbows_72 k36 v2 v4 1 v3 t_up t_now)
set_option maxRecDepth 100000 in
set_option maxHeartbeats 4000000 in
theorem BX10_elbows_36 {p : Program} {l : Launch} {e : Env} {s : State} {m : MethodId} {below : List Frame} {meth : Method} {c : Code} {D : va_G} {ty : TY} {A_t A_t_count A_t_pace A_t_sight A_t_pad A_t_now A_t_image A_t_isKept : Nat} {t_there : Int32} {t_awake : Int32} {t_house : Int32} {t_sharp : Int32} {t_sights : Int32} {t_signs : Int32} {t_reason : Int32} {t_acts : Int32} {t_breaths : Int32} {t_zeroAt : Int32} {t_noticedAt : Int32} {t_count : Nat → Int32} {t_pace : Nat → Int32} {t_sight : Nat → Int32} {t_pad : Nat → Int32} {t_image : Nat → Int32} {t_isKept : Nat → Int32} {a1 : Int32} {q0 : Int32 × Int32 × (Nat → Int32)} {WC : va_W} (C : cx p s m [.ref A_t, .int a1] meth c cX10_elbows 5 (some .int) RX10 wsX10_elbows) (hK : KK D ty s)   : ∀ (n : Nat) (v2 : Int32) (v3 : Int32) (v4 : Int32) (t_up : Int32) (t_now : Nat → Int32) (H : Heap) (locs : List Loc) (ls : Array Slot), va_P D vwCl [(A_t, .inr (9, [.int t_there, .int t_awake, .ref A_t_count, .ref A_t_pace, .int t_house, .int t_sharp, .int t_sights, .ref A_t_sight, .int t_signs, .ref A_t_pad, .int t_up, .ref A_t_now, .int t_reason, .int t_acts, .int t_breaths, .int t_zeroAt, .int t_noticedAt, .ref A_t_image, .ref A_t_isKept])), (A_t_count, .inl (ty.1, 8, .inl t_count)), (A_t_pace, .inl (ty.1, 8, .inl t_pace)), (A_t_sight, .inl (ty.1, 24, .inl t_sight)), (A_t_pad, .inl (ty.1, 60, .inl t_pad)), (A_t_now, .inl (ty.1, 8, .inl t_now)), (A_t_image, .inl (ty.1, 120, .inl t_image)), (A_t_isKept, .inl (ty.2.2.1, 2, .inl t_isKept))] H → va_D (va_A WC s.heap.size) [(A_t, .inr (9, [.int t_there, .int t_awake, .ref A_t_count, .ref A_t_pace, .int t_house, .int t_sharp, .int t_sights, .ref A_t_sight, .int t_signs, .ref A_t_pad, .int t_up, .ref A_t_now, .int t_reason, .int t_acts, .int t_breaths, .int t_zeroAt, .int t_noticedAt, .ref A_t_image, .ref A_t_isKept])), (A_t_count, .inl (ty.1, 8, .inl t_count)), (A_t_pace, .inl (ty.1, 8, .inl t_pace)), (A_t_sight, .inl (ty.1, 24, .inl t_sight)), (A_t_pad, .inl (ty.1, 60, .inl t_pad)), (A_t_now, .inl (ty.1, 8, .inl t_now)), (A_t_image, .inl (ty.1, 120, .inl t_image)), (A_t_isKept, .inl (ty.2.2.1, 2, .inl t_isKept))] → va_S (va_A WC s.heap.size) s.heap H locs → lv_has ls 5 [(0, .ref A_t), (1, .int a1), (2, .int v2), (3, .int v3), (4, .int v4)] → loopF (fun k q => bX10_elbows_36 k a1 q.1 q.2.1 q.2.2.1 q.2.2.2.1 q.2.2.2.2) n (v2, v3, v4, t_up, t_now) = some q0 → WWi p l e rmX10_elbows s m [.ref A_t, .int a1] below meth c D WC [(A_t, .inr (9, [.int t_there, .int t_awake, .ref A_t_count, .ref A_t_pace, .int t_house, .int t_sharp, .int t_sights, .ref A_t_sight, .int t_signs, .ref A_t_pad, .int q0.2.1, .ref A_t_now, .int t_reason, .int t_acts, .int t_breaths, .int t_zeroAt, .int t_noticedAt, .ref A_t_image, .ref A_t_isKept])), (A_t_count, .inl (ty.1, 8, .inl t_count)), (A_t_pace, .inl (ty.1, 8, .inl t_pace)), (A_t_sight, .inl (ty.1, 24, .inl t_sight)), (A_t_pad, .inl (ty.1, 60, .inl t_pad)), (A_t_now, .inl (ty.1, 8, .inl q0.2.2)), (A_t_image, .inl (ty.1, 120, .inl t_image)), (A_t_isKept, .inl (ty.2.2.1, 2, .inl t_isKept))] q0.1 H locs (F0 m 36 ls []) := by
  obtain ⟨hx, hb, hr, hml, hown, hts, hlocks⟩ := id C
  intro n
  induction n with
  | zero =>
    intro v2 v3 v4 t_up t_now H locs ls hP hD hS hl hf
    cases hf
  | succ n ih =>
    intro v2 v3 v4 t_up t_now H locs ls hP hD hS hl hf
    have hf : bX10_elbows_36 (loopF (fun k q => bX10_elbows_36 k a1 q.1 q.2.1 q.2.2.1 q.2.2.2.1 q.2.2.2.2) n) a1 v2 v3 v4 t_up t_now = some q0 := hf
    have hk36 := ih
    unfold bX10_elbows_36 at hf
    refine lv_iload hx hb dX10_elbows_36 (lv_at hl 4 rfl) ?_
    refine lv_bipush (v := 8) hx hb dX10_elbows_38 (by decide) ?_
    refine lv_icmp_ge (tgt := 80) hx hb dX10_elbows_40 (by decide) (fun hc => ?_) (fun hc => ?_)
    · have hf := ft hf hc
      refine lv_iload_n hx hb dX10_elbows_80 rfl (lv_at hl 1 rfl) ?_
      refine lv_if_ne (tgt := 88) hx hb dX10_elbows_81 (by decide) (fun hc => ?_) (fun hc => ?_)
      · have hf := ff hf hc
        refine lv_iload_n hx hb dX10_elbows_88 rfl (lv_at hl 2 rfl) ?_
        cases hf
        exact ret_wi hx hb hr hlocks hP hD hS dX10_elbows_89
      · have hf := ft hf hc
        refine lv_iload_n hx hb dX10_elbows_84 rfl (lv_at hl 3 rfl) ?_
        refine lv_goto (tgt := 89) hx hb dX10_elbows_85 (by decide) ?_
        cases hf
        exact ret_wi hx hb hr hlocks hP hD hS dX10_elbows_89
    · have hf := ff hf hc
      refine lv_iload_n hx hb dX10_elbows_43 rfl (lv_at hl 3 rfl) ?_
      refine lv_aload_n hx hb dX10_elbows_44 rfl (lv_at hl 0 rfl) ?_
      refine va_get (D := D) (ci := 9) (v := .int t_up) (C := RX10) (T := TX10) (N := 19) hx hb hts wX10_elbows_X10 hown hK.1 hP 0 rfl rfl 10 (by decide) (hts _ mX10_elbows_f72) (fun _ h9 => h9) rfl dX10_elbows_45 ?_
      refine lv_iload hx hb dX10_elbows_48 (lv_at hl 4 rfl) ?_
      obtain ⟨r50, hr50, hf⟩ := bnd hf
      have hPc : va_P D vwCl [] _ := hP.sub [] rfl
      refine callS_ri (As := [.int t_up, .int v4]) (rest := [.int v3]) ⟨hx, hb, hml, hown, hts⟩ (CX10_has l hr50) (va_cwS 2 hts gX10_elbows_X10_has rfl rfl rfl kkX10_has.2 ⟨Nat.le_of_ble_eq_true rfl, Nat.le_of_ble_eq_true rfl⟩) hK hPc hl.1 rfl (Nat.le_of_ble_eq_true rfl) dX10_elbows_50 ⟨Nat.zero_le _, Nat.zero_le _⟩ ?_
      refine lv_if_eq (tgt := 71) hx hb dX10_elbows_53 (by decide) (fun hc => ?_) (fun hc => ?_)
      · have hf := ft hf hc
        refine lv_iconst (v := 0) hx hb dX10_elbows_71 (by decide) ?_
        exact BX10_elbows_72 C hK hk36 hP hD hS (lv_sub hl [0, 1, 2, 4] rfl) hf
      · have hf := ff hf hc
        refine lv_aload_n hx hb dX10_elbows_56 rfl (lv_at hl 0 rfl) ?_
        refine va_get (D := D) (ci := 9) (v := .ref A_t_now) (C := RX10) (T := TX10) (N := 19) hx hb hts wX10_elbows_X10 hown hK.1 hP 0 rfl rfl 11 (by decide) (hts _ mX10_elbows_f30) (fun _ h9 => h9) rfl dX10_elbows_57 ?_
        refine lv_iload hx hb dX10_elbows_60 (lv_at hl 4 rfl) ?_
        obtain ⟨hin, hf⟩ := gIn_some hf
        refine va_iald hx hb hK.1 hP 5 0 rfl rfl hin dX10_elbows_62 ?_
        refine lv_iload_n hx hb dX10_elbows_63 rfl (lv_at hl 2 rfl) ?_
        refine lv_icmp_eq (tgt := 71) hx hb dX10_elbows_64 (by decide) (fun hc => ?_) (fun hc => ?_)
        · have hf := ft hf hc
          refine lv_iconst (v := 0) hx hb dX10_elbows_71 (by decide) ?_
          exact BX10_elbows_72 C hK hk36 hP hD hS (lv_sub hl [0, 1, 2, 4] rfl) hf
        · have hf := ff hf hc
          refine lv_iconst (v := 1) hx hb dX10_elbows_67 (by decide) ?_
          refine lv_goto (tgt := 72) hx hb dX10_elbows_68 (by decide) ?_
          exact BX10_elbows_72 C hK hk36 hP hD hS (lv_sub hl [0, 1, 2, 4] rfl) hf
def fX10_elbows (t_awake : Int32) (t_up : Int32) (t_count : Nat → Int32) (t_now : Nat → Int32) (a1 : Int32) : Option (Int32 × Int32 × (Nat → Int32)) :=
  (fX10_in a1 0 1).bind fun r3 => if r3 = 0 then some ((-2), t_up, t_now) else if t_awake = 0 then some ((-6), t_up, t_now) else (fX10_asNow t_awake t_up t_count t_now).bind fun r23 => (fX10_common r23.1 r23.2).bind fun r27 => loopF (fun k q => bX10_elbows_36 k a1 q.1 q.2.1 q.2.2.1 q.2.2.2.1 q.2.2.2.2) FU (r27, 0, 0, r23.1, r23.2)
set_option maxRecDepth 100000 in
set_option maxHeartbeats 4000000 in
theorem CX10_elbows (l : Launch) {D : va_G} {ty : TY} {A_t A_t_count A_t_pace A_t_sight A_t_pad A_t_now A_t_image A_t_isKept : Nat} {t_there : Int32} {t_awake : Int32} {t_house : Int32} {t_sharp : Int32} {t_sights : Int32} {t_signs : Int32} {t_up : Int32} {t_reason : Int32} {t_acts : Int32} {t_breaths : Int32} {t_zeroAt : Int32} {t_noticedAt : Int32} {t_count : Nat → Int32} {t_pace : Nat → Int32} {t_sight : Nat → Int32} {t_pad : Nat → Int32} {t_now : Nat → Int32} {t_image : Nat → Int32} {t_isKept : Nat → Int32} {a1 : Int32} {q0 : Int32 × Int32 × (Nat → Int32)} (hf : fX10_elbows t_awake t_up t_count t_now a1 = some q0) : RWi l yX10_elbows wsX10_elbows rmX10_elbows D ty [.ref A_t, .int a1] [(A_t, .inr (9, [.int t_there, .int t_awake, .ref A_t_count, .ref A_t_pace, .int t_house, .int t_sharp, .int t_sights, .ref A_t_sight, .int t_signs, .ref A_t_pad, .int t_up, .ref A_t_now, .int t_reason, .int t_acts, .int t_breaths, .int t_zeroAt, .int t_noticedAt, .ref A_t_image, .ref A_t_isKept])), (A_t_count, .inl (ty.1, 8, .inl t_count)), (A_t_pace, .inl (ty.1, 8, .inl t_pace)), (A_t_sight, .inl (ty.1, 24, .inl t_sight)), (A_t_pad, .inl (ty.1, 60, .inl t_pad)), (A_t_now, .inl (ty.1, 8, .inl t_now)), (A_t_image, .inl (ty.1, 120, .inl t_image)), (A_t_isKept, .inl (ty.2.2.1, 2, .inl t_isKept))] q0.1 [(A_t, .inr (9, [.int t_there, .int t_awake, .ref A_t_count, .ref A_t_pace, .int t_house, .int t_sharp, .int t_sights, .ref A_t_sight, .int t_signs, .ref A_t_pad, .int q0.2.1, .ref A_t_now, .int t_reason, .int t_acts, .int t_breaths, .int t_zeroAt, .int t_noticedAt, .ref A_t_image, .ref A_t_isKept])), (A_t_count, .inl (ty.1, 8, .inl t_count)), (A_t_pace, .inl (ty.1, 8, .inl t_pace)), (A_t_sight, .inl (ty.1, 24, .inl t_sight)), (A_t_pad, .inl (ty.1, 60, .inl t_pad)), (A_t_now, .inl (ty.1, 8, .inl q0.2.2)), (A_t_image, .inl (ty.1, 120, .inl t_image)), (A_t_isKept, .inl (ty.2.2.1, 2, .inl t_isKept))] := by
  refine RWi.start (cc := cX10_elbows) (maxL := 5) (ret := (some .int)) (own := RX10) (by decide) rfl rfl (Nat.le_of_ble_eq_true rfl) ?_
  intro p e s m below meth c ls C hK hP hD hS hl
  obtain ⟨WC, hWC⟩ : ∃ w : va_W, w = [(A_t, .inr (9, [.int t_there, .int t_awake, .ref A_t_count, .ref A_t_pace, .int t_house, .int t_sharp, .int t_sights, .ref A_t_sight, .int t_signs, .ref A_t_pad, .int t_up, .ref A_t_now, .int t_reason, .int t_acts, .int t_breaths, .int t_zeroAt, .int t_noticedAt, .ref A_t_image, .ref A_t_isKept])), (A_t_count, .inl (ty.1, 8, .inl t_count)), (A_t_pace, .inl (ty.1, 8, .inl t_pace)), (A_t_sight, .inl (ty.1, 24, .inl t_sight)), (A_t_pad, .inl (ty.1, 60, .inl t_pad)), (A_t_now, .inl (ty.1, 8, .inl t_now)), (A_t_image, .inl (ty.1, 120, .inl t_image)), (A_t_isKept, .inl (ty.2.2.1, 2, .inl t_isKept))] := ⟨_, rfl⟩
  rw [← hWC] at hD hS ⊢
  have hD : va_D (va_A WC s.heap.size) [(A_t, .inr (9, [.int t_there, .int t_awake, .ref A_t_count, .ref A_t_pace, .int t_house, .int t_sharp, .int t_sights, .ref A_t_sight, .int t_signs, .ref A_t_pad, .int t_up, .ref A_t_now, .int t_reason, .int t_acts, .int t_breaths, .int t_zeroAt, .int t_noticedAt, .ref A_t_image, .ref A_t_isKept])), (A_t_count, .inl (ty.1, 8, .inl t_count)), (A_t_pace, .inl (ty.1, 8, .inl t_pace)), (A_t_sight, .inl (ty.1, 24, .inl t_sight)), (A_t_pad, .inl (ty.1, 60, .inl t_pad)), (A_t_now, .inl (ty.1, 8, .inl t_now)), (A_t_image, .inl (ty.1, 120, .inl t_image)), (A_t_isKept, .inl (ty.2.2.1, 2, .inl t_isKept))] := by rw [← hWC]; exact hD
  obtain ⟨hx, hb, hr, hml, hown, hts, hlocks⟩ := id C
  have hl : lv_has ls 5 [(0, .ref A_t), (1, .int a1)] := hl
  unfold fX10_elbows at hf
  refine lv_iload_n hx hb dX10_elbows_0 rfl (lv_at hl 1 rfl) ?_
  refine lv_iconst (v := 0) hx hb dX10_elbows_1 (by decide) ?_
  refine lv_iconst (v := 1) hx hb dX10_elbows_2 (by decide) ?_
  obtain ⟨r3, hr3, hf⟩ := bnd hf
  have hPc : va_P D vwCl [] _ := hP.sub [] rfl
  refine callS_ri (As := [.int a1, .int 0, .int 1]) (rest := []) ⟨hx, hb, hml, hown, hts⟩ (CX10_in l hr3) (va_cwS 3 hts gX10_elbows_X10_in rfl rfl rfl kkX10_in.2 ⟨Nat.le_of_ble_eq_true rfl, Nat.le_of_ble_eq_true rfl⟩) hK hPc hl.1 rfl (Nat.le_of_ble_eq_true rfl) dX10_elbows_3 ⟨Nat.zero_le _, Nat.zero_le _⟩ ?_
  refine lv_if_ne (tgt := 12) hx hb dX10_elbows_6 (by decide) (fun hc => ?_) (fun hc => ?_)
  · have hf := ff hf hc
    refine lv_aload_n hx hb dX10_elbows_12 rfl (lv_at hl 0 rfl) ?_
    refine va_get (D := D) (ci := 9) (v := .int t_awake) (C := RX10) (T := TX10) (N := 19) hx hb hts wX10_elbows_X10 hown hK.1 hP 0 rfl rfl 1 (by decide) (hts _ mX10_elbows_f55) (fun _ h9 => h9) rfl dX10_elbows_13 ?_
    refine lv_if_ne (tgt := 22) hx hb dX10_elbows_16 (by decide) (fun hc => ?_) (fun hc => ?_)
    · have hf := ff hf hc
      refine lv_aload_n hx hb dX10_elbows_22 rfl (lv_at hl 0 rfl) ?_
      obtain ⟨r23, hr23, hf⟩ := bnd hf
      refine callV_wv (As := []) (rest := []) ⟨hx, hb, hml, hown, hts⟩ (CX10_asNow l hr23) (cwV 0 hts gX10_elbows_X10_asNow rfl rfl rfl kkX10_asNow ⟨Nat.le_of_ble_eq_true rfl, Nat.le_of_ble_eq_true rfl⟩) hK hP hD hS (fun _ h => Or.inr h) [0, 1, 2, 3, 4, 5, 6, 7] [] [0, 1, 2, 3, 4, 5, 6, 7] rfl (by decide) (by decide) rfl rfl 0 rfl rfl rfl hl.1 rfl (Nat.le_of_ble_eq_true rfl) dX10_elbows_23 ⟨Nat.zero_le _, Nat.zero_le _⟩ (fun H locs hP hD hS => ?_)
      have hP : va_P D vwCl [(A_t, .inr (9, [.int t_there, .int t_awake, .ref A_t_count, .ref A_t_pace, .int t_house, .int t_sharp, .int t_sights, .ref A_t_sight, .int t_signs, .ref A_t_pad, .int r23.1, .ref A_t_now, .int t_reason, .int t_acts, .int t_breaths, .int t_zeroAt, .int t_noticedAt, .ref A_t_image, .ref A_t_isKept])), (A_t_count, .inl (ty.1, 8, .inl t_count)), (A_t_pace, .inl (ty.1, 8, .inl t_pace)), (A_t_sight, .inl (ty.1, 24, .inl t_sight)), (A_t_pad, .inl (ty.1, 60, .inl t_pad)), (A_t_now, .inl (ty.1, 8, .inl r23.2)), (A_t_image, .inl (ty.1, 120, .inl t_image)), (A_t_isKept, .inl (ty.2.2.1, 2, .inl t_isKept))] H := hP
      have hD : va_D (va_A WC s.heap.size) [(A_t, .inr (9, [.int t_there, .int t_awake, .ref A_t_count, .ref A_t_pace, .int t_house, .int t_sharp, .int t_sights, .ref A_t_sight, .int t_signs, .ref A_t_pad, .int r23.1, .ref A_t_now, .int t_reason, .int t_acts, .int t_breaths, .int t_zeroAt, .int t_noticedAt, .ref A_t_image, .ref A_t_isKept])), (A_t_count, .inl (ty.1, 8, .inl t_count)), (A_t_pace, .inl (ty.1, 8, .inl t_pace)), (A_t_sight, .inl (ty.1, 24, .inl t_sight)), (A_t_pad, .inl (ty.1, 60, .inl t_pad)), (A_t_now, .inl (ty.1, 8, .inl r23.2)), (A_t_image, .inl (ty.1, 120, .inl t_image)), (A_t_isKept, .inl (ty.2.2.1, 2, .inl t_isKept))] := hD
      refine lv_aload_n hx hb dX10_elbows_26 rfl (lv_at hl 0 rfl) ?_
      obtain ⟨r27, hr27, hf⟩ := bnd hf
      refine callV_ri (As := []) (rest := []) ⟨hx, hb, hml, hown, hts⟩ (CX10_common l hr27) (cwV 0 hts gX10_elbows_X10_common rfl rfl rfl kkX10_common ⟨Nat.le_of_ble_eq_true rfl, Nat.le_of_ble_eq_true rfl⟩) hK hP 0 rfl rfl rfl hl.1 rfl (Nat.le_of_ble_eq_true rfl) dX10_elbows_27 ⟨Nat.zero_le _, Nat.zero_le _⟩ ?_
      refine lv_istore_n (lv' := [(2, .int r27), (0, .ref A_t), (1, .int a1)]) hx hb dX10_elbows_30 rfl hl (by decide) rfl (fun ls hl => ?_)
      refine lv_iconst (v := 0) hx hb dX10_elbows_31 (by decide) ?_
      refine lv_istore_n (lv' := [(3, .int 0), (2, .int r27), (0, .ref A_t), (1, .int a1)]) hx hb dX10_elbows_32 rfl hl (by decide) rfl (fun ls hl => ?_)
      refine lv_iconst (v := 0) hx hb dX10_elbows_33 (by decide) ?_
      refine lv_istore (lv' := [(4, .int 0), (3, .int 0), (2, .int r27), (0, .ref A_t), (1, .int a1)]) hx hb dX10_elbows_34 hl (by decide) rfl (fun ls hl => ?_)
      exact BX10_elbows_36 C hK  FU _ _ _ _ _ _ _ _ hP hD hS (lv_sub hl [3, 4, 2, 1, 0] rfl) hf
    · have hf := ft hf hc
      refine lv_bipush (v := (-6)) hx hb dX10_elbows_19 (by decide) ?_
      cases hf
      exact ret_wi hx hb hr hlocks hP hD hS dX10_elbows_21
  · have hf := ft hf hc
    refine lv_bipush (v := (-2)) hx hb dX10_elbows_9 (by decide) ?_
    cases hf
    exact ret_wi hx hb hr hlocks hP hD hS dX10_elbows_11
/-! ===== SilenceCountModel.endOf(I)I ===== -/
abbrev rmX10_endOf : Room := { frames := 0, cells := 0, slots := 0, locals := 0 }
theorem kkX10_endOf : yX10_endOf.cls = RX10 ∧ yX10_endOf.cls ≠ "java/lang/invoke/MethodHandle" ∧ yX10_endOf.cls ≠ "java/lang/invoke/VarHandle" ∧ (parseMethodDescriptor yX10_endOf.desc).map (fun d => d.parameters.length) = some 1 := by decide +kernel
theorem mX10_endOf_f7 : Cond.fieldLink RX10 7 "SilenceCountModel" "count" "[I" ∈ wsX10_endOf := by decide +kernel
theorem mX10_endOf_f13 : Cond.fieldLink RX10 13 "SilenceCountModel" "pace" "[I" ∈ wsX10_endOf := by decide +kernel
theorem wX10_endOf_X10 : ∀ w ∈ u_ws RX10 TX10 19, w ∈ wsX10_endOf := by decide +kernel
def fX10_endOf (t_count : Nat → Int32) (t_pace : Nat → Int32) (a1 : Int32) : Option (Int32) :=
  gIn a1 8 (gIn a1 8 (gIn a1 8 (gNz (t_pace (a1 : Int32).toNatClampNeg) (some ((((t_count (a1 : Int32).toNatClampNeg) + (t_pace (a1 : Int32).toNatClampNeg)) - 1) / (t_pace (a1 : Int32).toNatClampNeg))))))
set_option maxRecDepth 100000 in
set_option maxHeartbeats 4000000 in
theorem CX10_endOf (l : Launch) {D : va_G} {ty : TY} {A_t A_t_count A_t_pace A_t_sight A_t_pad A_t_now A_t_image A_t_isKept : Nat} {t_there : Int32} {t_awake : Int32} {t_house : Int32} {t_sharp : Int32} {t_sights : Int32} {t_signs : Int32} {t_up : Int32} {t_reason : Int32} {t_acts : Int32} {t_breaths : Int32} {t_zeroAt : Int32} {t_noticedAt : Int32} {t_count : Nat → Int32} {t_pace : Nat → Int32} {t_sight : Nat → Int32} {t_pad : Nat → Int32} {t_now : Nat → Int32} {t_image : Nat → Int32} {t_isKept : Nat → Int32} {a1 : Int32} {q0 : Int32} (hf : fX10_endOf t_count t_pace a1 = some q0) : ROi l yX10_endOf wsX10_endOf rmX10_endOf D ty [.ref A_t, .int a1] [(A_t, .inr (9, [.int t_there, .int t_awake, .ref A_t_count, .ref A_t_pace, .int t_house, .int t_sharp, .int t_sights, .ref A_t_sight, .int t_signs, .ref A_t_pad, .int t_up, .ref A_t_now, .int t_reason, .int t_acts, .int t_breaths, .int t_zeroAt, .int t_noticedAt, .ref A_t_image, .ref A_t_isKept])), (A_t_count, .inl (ty.1, 8, .inl t_count)), (A_t_pace, .inl (ty.1, 8, .inl t_pace)), (A_t_sight, .inl (ty.1, 24, .inl t_sight)), (A_t_pad, .inl (ty.1, 60, .inl t_pad)), (A_t_now, .inl (ty.1, 8, .inl t_now)), (A_t_image, .inl (ty.1, 120, .inl t_image)), (A_t_isKept, .inl (ty.2.2.1, 2, .inl t_isKept))] q0 := by
  refine ROi.start (cc := cX10_endOf) (maxL := 2) (ret := (some .int)) (own := RX10) (by decide) rfl rfl (Nat.le_of_ble_eq_true rfl) ?_
  intro p e s m below meth c ls C hK hP hl
  obtain ⟨hx, hb, hr, hml, hown, hts, hlocks⟩ := id C
  have hl : lv_has ls 2 [(0, .ref A_t), (1, .int a1)] := hl
  unfold fX10_endOf at hf
  refine lv_aload_n hx hb dX10_endOf_0 rfl (lv_at hl 0 rfl) ?_
  refine va_get (D := D) (ci := 9) (v := .ref A_t_count) (C := RX10) (T := TX10) (N := 19) hx hb hts wX10_endOf_X10 hown hK.1 hP 0 rfl rfl 2 (by decide) (hts _ mX10_endOf_f7) (fun _ h9 => h9) rfl dX10_endOf_1 ?_
  refine lv_iload_n hx hb dX10_endOf_4 rfl (lv_at hl 1 rfl) ?_
  obtain ⟨hin, hf⟩ := gIn_some hf
  refine va_iald hx hb hK.1 hP 1 0 rfl rfl hin dX10_endOf_5 ?_
  refine lv_aload_n hx hb dX10_endOf_6 rfl (lv_at hl 0 rfl) ?_
  refine va_get (D := D) (ci := 9) (v := .ref A_t_pace) (C := RX10) (T := TX10) (N := 19) hx hb hts wX10_endOf_X10 hown hK.1 hP 0 rfl rfl 3 (by decide) (hts _ mX10_endOf_f13) (fun _ h9 => h9) rfl dX10_endOf_7 ?_
  refine lv_iload_n hx hb dX10_endOf_10 rfl (lv_at hl 1 rfl) ?_
  obtain ⟨hin, hf⟩ := gIn_some hf
  refine va_iald hx hb hK.1 hP 2 0 rfl rfl hin dX10_endOf_11 ?_
  refine lv_iadd hx hb dX10_endOf_12 ?_
  refine lv_iconst (v := 1) hx hb dX10_endOf_13 (by decide) ?_
  refine lv_isub hx hb dX10_endOf_14 ?_
  refine lv_aload_n hx hb dX10_endOf_15 rfl (lv_at hl 0 rfl) ?_
  refine va_get (D := D) (ci := 9) (v := .ref A_t_pace) (C := RX10) (T := TX10) (N := 19) hx hb hts wX10_endOf_X10 hown hK.1 hP 0 rfl rfl 3 (by decide) (hts _ mX10_endOf_f13) (fun _ h9 => h9) rfl dX10_endOf_16 ?_
  refine lv_iload_n hx hb dX10_endOf_19 rfl (lv_at hl 1 rfl) ?_
  obtain ⟨hin, hf⟩ := gIn_some hf
  refine va_iald hx hb hK.1 hP 2 0 rfl rfl hin dX10_endOf_20 ?_
  obtain ⟨hnz, hf⟩ := gNz_some hf
  refine lv_idiv hx hb dX10_endOf_21 hnz ?_
  exact ret_ri hx hb hr hlocks hf dX10_endOf_22
/-! ===== SilenceCountModel.ends(I)I ===== -/
abbrev rmX10_ends : Room := { frames := 2, cells := 0, slots := 0, locals := 43 }
theorem kkX10_ends : yX10_ends.cls = RX10 ∧ yX10_ends.cls ≠ "java/lang/invoke/MethodHandle" ∧ yX10_ends.cls ≠ "java/lang/invoke/VarHandle" ∧ (parseMethodDescriptor yX10_ends.desc).map (fun d => d.parameters.length) = some 1 := by decide +kernel
theorem mX10_ends_f55 : Cond.fieldLink RX10 55 "SilenceCountModel" "awake" "I" ∈ wsX10_ends := by decide +kernel
theorem wX10_ends_X10 : ∀ w ∈ u_ws RX10 TX10 19, w ∈ wsX10_ends := by decide +kernel
def bX10_ends_63 (k20 : Int32 × Int32 → Option (Int32)) (v2 : Int32) (v3 : Int32) : Option (Int32) :=
  k20 (v2, v3 + 1)
set_option maxRecDepth 100000 in
set_option maxHeartbeats 4000000 in
theorem BX10_ends_63 {p : Program} {l : Launch} {e : Env} {s : State} {m : MethodId} {below : List Frame} {meth : Method} {c : Code} {D : va_G} {ty : TY} {A_t A_t_count A_t_pace A_t_sight A_t_pad A_t_now A_t_image A_t_isKept : Nat} {t_there : Int32} {t_awake : Int32} {t_house : Int32} {t_sharp : Int32} {t_sights : Int32} {t_signs : Int32} {t_up : Int32} {t_reason : Int32} {t_acts : Int32} {t_breaths : Int32} {t_zeroAt : Int32} {t_noticedAt : Int32} {t_count : Nat → Int32} {t_pace : Nat → Int32} {t_sight : Nat → Int32} {t_pad : Nat → Int32} {t_now : Nat → Int32} {t_image : Nat → Int32} {t_isKept : Nat → Int32} {a1 : Int32} {q0 : Int32} (C : cx p s m [.ref A_t, .int a1] meth c cX10_ends 4 (some .int) RX10 wsX10_ends) (hK : KK D ty s) (hP : va_P D vwCl [(A_t, .inr (9, [.int t_there, .int t_awake, .ref A_t_count, .ref A_t_pace, .int t_house, .int t_sharp, .int t_sights, .ref A_t_sight, .int t_signs, .ref A_t_pad, .int t_up, .ref A_t_now, .int t_reason, .int t_acts, .int t_breaths, .int t_zeroAt, .int t_noticedAt, .ref A_t_image, .ref A_t_isKept])), (A_t_count, .inl (ty.1, 8, .inl t_count)), (A_t_pace, .inl (ty.1, 8, .inl t_pace)), (A_t_sight, .inl (ty.1, 24, .inl t_sight)), (A_t_pad, .inl (ty.1, 60, .inl t_pad)), (A_t_now, .inl (ty.1, 8, .inl t_now)), (A_t_image, .inl (ty.1, 120, .inl t_image)), (A_t_isKept, .inl (ty.2.2.1, 2, .inl t_isKept))] s.heap) {k20 : Int32 × Int32 → Option (Int32)} (hk20 : ∀ (v2 : Int32) (v3 : Int32) (ls : Array Slot), lv_has ls 4 [(0, .ref A_t), (1, .int a1), (2, .int v2), (3, .int v3)] → k20 (v2, v3) = some q0 → WRi p l e rmX10_ends s m [.ref A_t, .int a1] below meth c q0 (F0 m 20 ls [])) {v2 : Int32} {v3 : Int32} {ls : Array Slot} (hl : lv_has ls 4 [(0, .ref A_t), (1, .int a1), (2, .int v2), (3, .int v3)]) (hf : bX10_ends_63 k20 v2 v3 = some q0) : WRi p l e rmX10_ends s m [.ref A_t, .int a1] below meth c q0 (F0 m 63 ls []) := by
  obtain ⟨hx, hb, hr, hml, hown, hts, hlocks⟩ := id C
  unfold bX10_ends_63 at hf
  refine lv_iload_n hx hb dX10_ends_63 rfl (lv_at hl 2 rfl) ?_
  refine lv_istore_n (lv' := [(2, .int v2), (0, .ref A_t), (1, .int a1), (3, .int v3)]) hx hb dX10_ends_64 rfl hl (by decide) rfl (fun ls hl => ?_)
  refine lv_iinc (v := v3 + 1) (lv' := [(3, .int (v3 + 1)), (2, .int v2), (0, .ref A_t), (1, .int a1)]) hx hb dX10_ends_65 hl (k := 3) rfl rfl (by decide) rfl (fun ls hl => ?_)
  refine lv_goto (tgt := 20) hx hb dX10_ends_68 (by decide) ?_
  exact hk20 _ _ _ (lv_sub hl [2, 3, 1, 0] rfl) hf
def bX10_ends_35 (k20 : Int32 × Int32 → Option (Int32)) (t_awake : Int32) (t_count : Nat → Int32) (t_pace : Nat → Int32) (v2 : Int32) (v3 : Int32) : Option (Int32) :=
  (fX10_has t_awake v3).bind fun r40 => if r40 = 0 then bX10_ends_63 k20 v2 v3 else (fX10_endOf t_count t_pace v3).bind fun r48 => if r48 ≤ v2 then bX10_ends_63 k20 v2 v3 else (fX10_endOf t_count t_pace v3).bind fun r57 => k20 (r57, v3 + 1)
set_option maxRecDepth 100000 in
set_option maxHeartbeats 4000000 in
theorem BX10_ends_35 {p : Program} {l : Launch} {e : Env} {s : State} {m : MethodId} {below : List Frame} {meth : Method} {c : Code} {D : va_G} {ty : TY} {A_t A_t_count A_t_pace A_t_sight A_t_pad A_t_now A_t_image A_t_isKept : Nat} {t_there : Int32} {t_awake : Int32} {t_house : Int32} {t_sharp : Int32} {t_sights : Int32} {t_signs : Int32} {t_up : Int32} {t_reason : Int32} {t_acts : Int32} {t_breaths : Int32} {t_zeroAt : Int32} {t_noticedAt : Int32} {t_count : Nat → Int32} {t_pace : Nat → Int32} {t_sight : Nat → Int32} {t_pad : Nat → Int32} {t_now : Nat → Int32} {t_image : Nat → Int32} {t_isKept : Nat → Int32} {a1 : Int32} {q0 : Int32} (C : cx p s m [.ref A_t, .int a1] meth c cX10_ends 4 (some .int) RX10 wsX10_ends) (hK : KK D ty s) (hP : va_P D vwCl [(A_t, .inr (9, [.int t_there, .int t_awake, .ref A_t_count, .ref A_t_pace, .int t_house, .int t_sharp, .int t_sights, .ref A_t_sight, .int t_signs, .ref A_t_pad, .int t_up, .ref A_t_now, .int t_reason, .int t_acts, .int t_breaths, .int t_zeroAt, .int t_noticedAt, .ref A_t_image, .ref A_t_isKept])), (A_t_count, .inl (ty.1, 8, .inl t_count)), (A_t_pace, .inl (ty.1, 8, .inl t_pace)), (A_t_sight, .inl (ty.1, 24, .inl t_sight)), (A_t_pad, .inl (ty.1, 60, .inl t_pad)), (A_t_now, .inl (ty.1, 8, .inl t_now)), (A_t_image, .inl (ty.1, 120, .inl t_image)), (A_t_isKept, .inl (ty.2.2.1, 2, .inl t_isKept))] s.heap) {k20 : Int32 × Int32 → Option (Int32)} (hk20 : ∀ (v2 : Int32) (v3 : Int32) (ls : Array Slot), lv_has ls 4 [(0, .ref A_t), (1, .int a1), (2, .int v2), (3, .int v3)] → k20 (v2, v3) = some q0 → WRi p l e rmX10_ends s m [.ref A_t, .int a1] below meth c q0 (F0 m 20 ls [])) {v2 : Int32} {v3 : Int32} {ls : Array Slot} (hl : lv_has ls 4 [(0, .ref A_t), (1, .int a1), (2, .int v2), (3, .int v3)]) (hf : bX10_ends_35 k20 t_awake t_count t_pace v2 v3 = some q0) : WRi p l e rmX10_ends s m [.ref A_t, .int a1] below meth c q0 (F0 m 35 ls []) := by
  obtain ⟨hx, hb, hr, hml, hown, hts, hlocks⟩ := id C
  unfold bX10_ends_35 at hf
  refine lv_aload_n hx hb dX10_ends_35 rfl (lv_at hl 0 rfl) ?_
  refine va_get (D := D) (ci := 9) (v := .int t_awake) (C := RX10) (T := TX10) (N := 19) hx hb hts wX10_ends_X10 hown hK.1 hP 0 rfl rfl 1 (by decide) (hts _ mX10_ends_f55) (fun _ h9 => h9) rfl dX10_ends_36 ?_
  refine lv_iload_n hx hb dX10_ends_39 rfl (lv_at hl 3 rfl) ?_
  obtain ⟨r40, hr40, hf⟩ := bnd hf
  have hPc : va_P D vwCl [] _ := hP.sub [] rfl
  refine callS_ri (As := [.int t_awake, .int v3]) (rest := []) ⟨hx, hb, hml, hown, hts⟩ (CX10_has l hr40) (va_cwS 2 hts gX10_ends_X10_has rfl rfl rfl kkX10_has.2 ⟨Nat.le_of_ble_eq_true rfl, Nat.le_of_ble_eq_true rfl⟩) hK hPc hl.1 rfl (Nat.le_of_ble_eq_true rfl) dX10_ends_40 ⟨Nat.zero_le _, Nat.zero_le _⟩ ?_
  refine lv_if_eq (tgt := 63) hx hb dX10_ends_43 (by decide) (fun hc => ?_) (fun hc => ?_)
  · have hf := ft hf hc
    exact BX10_ends_63 C hK hP hk20 (lv_sub hl [0, 1, 2, 3] rfl) hf
  · have hf := ff hf hc
    refine lv_aload_n hx hb dX10_ends_46 rfl (lv_at hl 0 rfl) ?_
    refine lv_iload_n hx hb dX10_ends_47 rfl (lv_at hl 3 rfl) ?_
    obtain ⟨r48, hr48, hf⟩ := bnd hf
    refine callV_ri (As := [.int v3]) (rest := []) ⟨hx, hb, hml, hown, hts⟩ (CX10_endOf l hr48) (cwV 1 hts gX10_ends_X10_endOf rfl rfl rfl kkX10_endOf ⟨Nat.le_of_ble_eq_true rfl, Nat.le_of_ble_eq_true rfl⟩) hK hP 0 rfl rfl rfl hl.1 rfl (Nat.le_of_ble_eq_true rfl) dX10_ends_48 ⟨Nat.zero_le _, Nat.zero_le _⟩ ?_
    refine lv_iload_n hx hb dX10_ends_51 rfl (lv_at hl 2 rfl) ?_
    refine lv_icmp_le (tgt := 63) hx hb dX10_ends_52 (by decide) (fun hc => ?_) (fun hc => ?_)
    · have hf := ft hf hc
      exact BX10_ends_63 C hK hP hk20 (lv_sub hl [0, 1, 2, 3] rfl) hf
    · have hf := ff hf hc
      refine lv_aload_n hx hb dX10_ends_55 rfl (lv_at hl 0 rfl) ?_
      refine lv_iload_n hx hb dX10_ends_56 rfl (lv_at hl 3 rfl) ?_
      obtain ⟨r57, hr57, hf⟩ := bnd hf
      refine callV_ri (As := [.int v3]) (rest := []) ⟨hx, hb, hml, hown, hts⟩ (CX10_endOf l hr57) (cwV 1 hts gX10_ends_X10_endOf rfl rfl rfl kkX10_endOf ⟨Nat.le_of_ble_eq_true rfl, Nat.le_of_ble_eq_true rfl⟩) hK hP 0 rfl rfl rfl hl.1 rfl (Nat.le_of_ble_eq_true rfl) dX10_ends_57 ⟨Nat.zero_le _, Nat.zero_le _⟩ ?_
      refine lv_goto (tgt := 64) hx hb dX10_ends_60 (by decide) ?_
      refine lv_istore_n (lv' := [(2, .int r57), (0, .ref A_t), (1, .int a1), (3, .int v3)]) hx hb dX10_ends_64 rfl hl (by decide) rfl (fun ls hl => ?_)
      refine lv_iinc (v := v3 + 1) (lv' := [(3, .int (v3 + 1)), (2, .int r57), (0, .ref A_t), (1, .int a1)]) hx hb dX10_ends_65 hl (k := 3) rfl rfl (by decide) rfl (fun ls hl => ?_)
      refine lv_goto (tgt := 20) hx hb dX10_ends_68 (by decide) ?_
      exact hk20 _ _ _ (lv_sub hl [2, 3, 1, 0] rfl) hf
def bX10_ends_20 (k20 : Int32 × Int32 → Option (Int32)) (t_awake : Int32) (t_count : Nat → Int32) (t_pace : Nat → Int32) (a1 : Int32) (v2 : Int32) (v3 : Int32) : Option (Int32) :=
  if 8 ≤ v3 then some v2 else if a1 < 0 then bX10_ends_35 k20 t_awake t_count t_pace v2 v3 else if v3 = a1 then bX10_ends_35 k20 t_awake t_count t_pace v2 v3 else bX10_ends_63 k20 v2 v3
set_option maxRecDepth 100000 in
set_option maxHeartbeats 4000000 in
theorem BX10_ends_20 {p : Program} {l : Launch} {e : Env} {s : State} {m : MethodId} {below : List Frame} {meth : Method} {c : Code} {D : va_G} {ty : TY} {A_t A_t_count A_t_pace A_t_sight A_t_pad A_t_now A_t_image A_t_isKept : Nat} {t_there : Int32} {t_awake : Int32} {t_house : Int32} {t_sharp : Int32} {t_sights : Int32} {t_signs : Int32} {t_up : Int32} {t_reason : Int32} {t_acts : Int32} {t_breaths : Int32} {t_zeroAt : Int32} {t_noticedAt : Int32} {t_count : Nat → Int32} {t_pace : Nat → Int32} {t_sight : Nat → Int32} {t_pad : Nat → Int32} {t_now : Nat → Int32} {t_image : Nat → Int32} {t_isKept : Nat → Int32} {a1 : Int32} {q0 : Int32} (C : cx p s m [.ref A_t, .int a1] meth c cX10_ends 4 (some .int) RX10 wsX10_ends) (hK : KK D ty s) (hP : va_P D vwCl [(A_t, .inr (9, [.int t_there, .int t_awake, .ref A_t_count, .ref A_t_pace, .int t_house, .int t_sharp, .int t_sights, .ref A_t_sight, .int t_signs, .ref A_t_pad, .int t_up, .ref A_t_now, .int t_reason, .int t_acts, .int t_breaths, .int t_zeroAt, .int t_noticedAt, .ref A_t_image, .ref A_t_isKept])), (A_t_count, .inl (ty.1, 8, .inl t_count)), (A_t_pace, .inl (ty.1, 8, .inl t_pace)), (A_t_sight, .inl (ty.1, 24, .inl t_sight)), (A_t_pad, .inl (ty.1, 60, .inl t_pad)), (A_t_now, .inl (ty.1, 8, .inl t_now)), (A_t_image, .inl (ty.1, 120, .inl t_image)), (A_t_isKept, .inl (ty.2.2.1, 2, .inl t_isKept))] s.heap)   : ∀ (n : Nat) (v2 : Int32) (v3 : Int32) (ls : Array Slot), lv_has ls 4 [(0, .ref A_t), (1, .int a1), (2, .int v2), (3, .int v3)] → loopF (fun k q => bX10_ends_20 k t_awake t_count t_pace a1 q.1 q.2) n (v2, v3) = some q0 → WRi p l e rmX10_ends s m [.ref A_t, .int a1] below meth c q0 (F0 m 20 ls []) := by
  obtain ⟨hx, hb, hr, hml, hown, hts, hlocks⟩ := id C
  intro n
  induction n with
  | zero =>
    intro v2 v3 ls hl hf
    cases hf
  | succ n ih =>
    intro v2 v3 ls hl hf
    have hf : bX10_ends_20 (loopF (fun k q => bX10_ends_20 k t_awake t_count t_pace a1 q.1 q.2) n) t_awake t_count t_pace a1 v2 v3 = some q0 := hf
    have hk20 := ih
    unfold bX10_ends_20 at hf
    refine lv_iload_n hx hb dX10_ends_20 rfl (lv_at hl 3 rfl) ?_
    refine lv_bipush (v := 8) hx hb dX10_ends_21 (by decide) ?_
    refine lv_icmp_ge (tgt := 71) hx hb dX10_ends_23 (by decide) (fun hc => ?_) (fun hc => ?_)
    · have hf := ft hf hc
      refine lv_iload_n hx hb dX10_ends_71 rfl (lv_at hl 2 rfl) ?_
      exact ret_ri hx hb hr hlocks hf dX10_ends_72
    · have hf := ff hf hc
      refine lv_iload_n hx hb dX10_ends_26 rfl (lv_at hl 1 rfl) ?_
      refine lv_if_lt (tgt := 35) hx hb dX10_ends_27 (by decide) (fun hc => ?_) (fun hc => ?_)
      · have hf := ft hf hc
        exact BX10_ends_35 C hK hP hk20 (lv_sub hl [0, 1, 2, 3] rfl) hf
      · have hf := ff hf hc
        refine lv_iload_n hx hb dX10_ends_30 rfl (lv_at hl 3 rfl) ?_
        refine lv_iload_n hx hb dX10_ends_31 rfl (lv_at hl 1 rfl) ?_
        refine lv_icmp_ne (tgt := 63) hx hb dX10_ends_32 (by decide) (fun hc => ?_) (fun hc => ?_)
        · have hf := ff hf hc
          exact BX10_ends_63 C hK hP hk20 (lv_sub hl [0, 1, 2, 3] rfl) hf
        · have hf := ft hf hc
          exact BX10_ends_35 C hK hP hk20 (lv_sub hl [0, 1, 2, 3] rfl) hf
def bX10_ends_15 (t_awake : Int32) (t_count : Nat → Int32) (t_pace : Nat → Int32) (a1 : Int32) : Option (Int32) :=
  loopF (fun k q => bX10_ends_20 k t_awake t_count t_pace a1 q.1 q.2) FU ((-6), 0)
set_option maxRecDepth 100000 in
set_option maxHeartbeats 4000000 in
theorem BX10_ends_15 {p : Program} {l : Launch} {e : Env} {s : State} {m : MethodId} {below : List Frame} {meth : Method} {c : Code} {D : va_G} {ty : TY} {A_t A_t_count A_t_pace A_t_sight A_t_pad A_t_now A_t_image A_t_isKept : Nat} {t_there : Int32} {t_awake : Int32} {t_house : Int32} {t_sharp : Int32} {t_sights : Int32} {t_signs : Int32} {t_up : Int32} {t_reason : Int32} {t_acts : Int32} {t_breaths : Int32} {t_zeroAt : Int32} {t_noticedAt : Int32} {t_count : Nat → Int32} {t_pace : Nat → Int32} {t_sight : Nat → Int32} {t_pad : Nat → Int32} {t_now : Nat → Int32} {t_image : Nat → Int32} {t_isKept : Nat → Int32} {a1 : Int32} {q0 : Int32} (C : cx p s m [.ref A_t, .int a1] meth c cX10_ends 4 (some .int) RX10 wsX10_ends) (hK : KK D ty s) (hP : va_P D vwCl [(A_t, .inr (9, [.int t_there, .int t_awake, .ref A_t_count, .ref A_t_pace, .int t_house, .int t_sharp, .int t_sights, .ref A_t_sight, .int t_signs, .ref A_t_pad, .int t_up, .ref A_t_now, .int t_reason, .int t_acts, .int t_breaths, .int t_zeroAt, .int t_noticedAt, .ref A_t_image, .ref A_t_isKept])), (A_t_count, .inl (ty.1, 8, .inl t_count)), (A_t_pace, .inl (ty.1, 8, .inl t_pace)), (A_t_sight, .inl (ty.1, 24, .inl t_sight)), (A_t_pad, .inl (ty.1, 60, .inl t_pad)), (A_t_now, .inl (ty.1, 8, .inl t_now)), (A_t_image, .inl (ty.1, 120, .inl t_image)), (A_t_isKept, .inl (ty.2.2.1, 2, .inl t_isKept))] s.heap)    {ls : Array Slot} (hl : lv_has ls 4 [(0, .ref A_t), (1, .int a1)]) (hf : bX10_ends_15 t_awake t_count t_pace a1 = some q0) : WRi p l e rmX10_ends s m [.ref A_t, .int a1] below meth c q0 (F0 m 15 ls []) := by
  obtain ⟨hx, hb, hr, hml, hown, hts, hlocks⟩ := id C
  unfold bX10_ends_15 at hf
  refine lv_bipush (v := (-6)) hx hb dX10_ends_15 (by decide) ?_
  refine lv_istore_n (lv' := [(2, .int (-6)), (0, .ref A_t), (1, .int a1)]) hx hb dX10_ends_17 rfl hl (by decide) rfl (fun ls hl => ?_)
  refine lv_iconst (v := 0) hx hb dX10_ends_18 (by decide) ?_
  refine lv_istore_n (lv' := [(3, .int 0), (2, .int (-6)), (0, .ref A_t), (1, .int a1)]) hx hb dX10_ends_19 rfl hl (by decide) rfl (fun ls hl => ?_)
  exact BX10_ends_20 C hK hP  FU _ _ _ (lv_sub hl [2, 3, 1, 0] rfl) hf
def fX10_ends (t_there : Int32) (t_awake : Int32) (t_count : Nat → Int32) (t_pace : Nat → Int32) (a1 : Int32) : Option (Int32) :=
  if a1 = (-1) then bX10_ends_15 t_awake t_count t_pace a1 else (fX10_isThere t_there a1).bind fun r7 => if r7 = 0 then some (-1) else bX10_ends_15 t_awake t_count t_pace a1
set_option maxRecDepth 100000 in
set_option maxHeartbeats 4000000 in
theorem CX10_ends (l : Launch) {D : va_G} {ty : TY} {A_t A_t_count A_t_pace A_t_sight A_t_pad A_t_now A_t_image A_t_isKept : Nat} {t_there : Int32} {t_awake : Int32} {t_house : Int32} {t_sharp : Int32} {t_sights : Int32} {t_signs : Int32} {t_up : Int32} {t_reason : Int32} {t_acts : Int32} {t_breaths : Int32} {t_zeroAt : Int32} {t_noticedAt : Int32} {t_count : Nat → Int32} {t_pace : Nat → Int32} {t_sight : Nat → Int32} {t_pad : Nat → Int32} {t_now : Nat → Int32} {t_image : Nat → Int32} {t_isKept : Nat → Int32} {a1 : Int32} {q0 : Int32} (hf : fX10_ends t_there t_awake t_count t_pace a1 = some q0) : ROi l yX10_ends wsX10_ends rmX10_ends D ty [.ref A_t, .int a1] [(A_t, .inr (9, [.int t_there, .int t_awake, .ref A_t_count, .ref A_t_pace, .int t_house, .int t_sharp, .int t_sights, .ref A_t_sight, .int t_signs, .ref A_t_pad, .int t_up, .ref A_t_now, .int t_reason, .int t_acts, .int t_breaths, .int t_zeroAt, .int t_noticedAt, .ref A_t_image, .ref A_t_isKept])), (A_t_count, .inl (ty.1, 8, .inl t_count)), (A_t_pace, .inl (ty.1, 8, .inl t_pace)), (A_t_sight, .inl (ty.1, 24, .inl t_sight)), (A_t_pad, .inl (ty.1, 60, .inl t_pad)), (A_t_now, .inl (ty.1, 8, .inl t_now)), (A_t_image, .inl (ty.1, 120, .inl t_image)), (A_t_isKept, .inl (ty.2.2.1, 2, .inl t_isKept))] q0 := by
  refine ROi.start (cc := cX10_ends) (maxL := 4) (ret := (some .int)) (own := RX10) (by decide) rfl rfl (Nat.le_of_ble_eq_true rfl) ?_
  intro p e s m below meth c ls C hK hP hl
  obtain ⟨hx, hb, hr, hml, hown, hts, hlocks⟩ := id C
  have hl : lv_has ls 4 [(0, .ref A_t), (1, .int a1)] := hl
  unfold fX10_ends at hf
  refine lv_iload_n hx hb dX10_ends_0 rfl (lv_at hl 1 rfl) ?_
  refine lv_iconst (v := (-1)) hx hb dX10_ends_1 (by decide) ?_
  refine lv_icmp_eq (tgt := 15) hx hb dX10_ends_2 (by decide) (fun hc => ?_) (fun hc => ?_)
  · have hf := ft hf hc
    exact BX10_ends_15 C hK hP  (lv_sub hl [0, 1] rfl) hf
  · have hf := ff hf hc
    refine lv_aload_n hx hb dX10_ends_5 rfl (lv_at hl 0 rfl) ?_
    refine lv_iload_n hx hb dX10_ends_6 rfl (lv_at hl 1 rfl) ?_
    obtain ⟨r7, hr7, hf⟩ := bnd hf
    refine callV_ri (As := [.int a1]) (rest := []) ⟨hx, hb, hml, hown, hts⟩ (CX10_isThere l hr7) (cwV 1 hts gX10_ends_X10_isThere rfl rfl rfl kkX10_isThere ⟨Nat.le_of_ble_eq_true rfl, Nat.le_of_ble_eq_true rfl⟩) hK hP 0 rfl rfl rfl hl.1 rfl (Nat.le_of_ble_eq_true rfl) dX10_ends_7 ⟨Nat.zero_le _, Nat.zero_le _⟩ ?_
    refine lv_if_ne (tgt := 15) hx hb dX10_ends_10 (by decide) (fun hc => ?_) (fun hc => ?_)
    · have hf := ff hf hc
      exact BX10_ends_15 C hK hP  (lv_sub hl [0, 1] rfl) hf
    · have hf := ft hf hc
      refine lv_iconst (v := (-1)) hx hb dX10_ends_13 (by decide) ?_
      exact ret_ri hx hb hr hlocks hf dX10_ends_14
/-! ===== SilenceCountModel.fault()I ===== -/
abbrev rmX10_fault : Room := { frames := 3, cells := 0, slots := 0, locals := 66 }
theorem kkX10_fault : yX10_fault.cls = RX10 ∧ yX10_fault.cls ≠ "java/lang/invoke/MethodHandle" ∧ yX10_fault.cls ≠ "java/lang/invoke/VarHandle" ∧ (parseMethodDescriptor yX10_fault.desc).map (fun d => d.parameters.length) = some 0 := by decide +kernel
def fX10_fault (t_signs : Int32) (t_pad : Nat → Int32) : Option (Int32) :=
  (fX10_faultOf t_signs t_pad).bind fun r1 => some r1
set_option maxRecDepth 100000 in
set_option maxHeartbeats 4000000 in
theorem CX10_fault (l : Launch) {D : va_G} {ty : TY} {A_t A_t_count A_t_pace A_t_sight A_t_pad A_t_now A_t_image A_t_isKept : Nat} {t_there : Int32} {t_awake : Int32} {t_house : Int32} {t_sharp : Int32} {t_sights : Int32} {t_signs : Int32} {t_up : Int32} {t_reason : Int32} {t_acts : Int32} {t_breaths : Int32} {t_zeroAt : Int32} {t_noticedAt : Int32} {t_count : Nat → Int32} {t_pace : Nat → Int32} {t_sight : Nat → Int32} {t_pad : Nat → Int32} {t_now : Nat → Int32} {t_image : Nat → Int32} {t_isKept : Nat → Int32} {q0 : Int32} (hf : fX10_fault t_signs t_pad = some q0) : ROi l yX10_fault wsX10_fault rmX10_fault D ty [.ref A_t] [(A_t, .inr (9, [.int t_there, .int t_awake, .ref A_t_count, .ref A_t_pace, .int t_house, .int t_sharp, .int t_sights, .ref A_t_sight, .int t_signs, .ref A_t_pad, .int t_up, .ref A_t_now, .int t_reason, .int t_acts, .int t_breaths, .int t_zeroAt, .int t_noticedAt, .ref A_t_image, .ref A_t_isKept])), (A_t_count, .inl (ty.1, 8, .inl t_count)), (A_t_pace, .inl (ty.1, 8, .inl t_pace)), (A_t_sight, .inl (ty.1, 24, .inl t_sight)), (A_t_pad, .inl (ty.1, 60, .inl t_pad)), (A_t_now, .inl (ty.1, 8, .inl t_now)), (A_t_image, .inl (ty.1, 120, .inl t_image)), (A_t_isKept, .inl (ty.2.2.1, 2, .inl t_isKept))] q0 := by
  refine ROi.start (cc := cX10_fault) (maxL := 1) (ret := (some .int)) (own := RX10) (by decide) rfl rfl (Nat.le_of_ble_eq_true rfl) ?_
  intro p e s m below meth c ls C hK hP hl
  obtain ⟨hx, hb, hr, hml, hown, hts, hlocks⟩ := id C
  have hl : lv_has ls 1 [(0, .ref A_t)] := hl
  unfold fX10_fault at hf
  refine lv_aload_n hx hb dX10_fault_0 rfl (lv_at hl 0 rfl) ?_
  obtain ⟨r1, hr1, hf⟩ := bnd hf
  refine callV_ri (As := []) (rest := []) ⟨hx, hb, hml, hown, hts⟩ (CX10_faultOf l hr1) (cwV 0 hts gX10_fault_X10_faultOf rfl rfl rfl kkX10_faultOf ⟨Nat.le_of_ble_eq_true rfl, Nat.le_of_ble_eq_true rfl⟩) hK hP 0 rfl rfl rfl hl.1 rfl (Nat.le_of_ble_eq_true rfl) dX10_fault_1 ⟨Nat.zero_le _, Nat.zero_le _⟩ ?_
  exact ret_ri hx hb hr hlocks hf dX10_fault_4
/-! ===== SilenceCountModel.forget()I ===== -/
abbrev rmX10_forget : Room := { frames := 0, cells := 0, slots := 0, locals := 0 }
theorem kkX10_forget : yX10_forget.cls = RX10 ∧ yX10_forget.cls ≠ "java/lang/invoke/MethodHandle" ∧ yX10_forget.cls ≠ "java/lang/invoke/VarHandle" ∧ (parseMethodDescriptor yX10_forget.desc).map (fun d => d.parameters.length) = some 0 := by decide +kernel
theorem mX10_forget_f158 : Cond.fieldLink RX10 158 "SilenceCountModel" "sights" "I" ∈ wsX10_forget := by decide +kernel
theorem wX10_forget_X10 : ∀ w ∈ u_ws RX10 TX10 19, w ∈ wsX10_forget := by decide +kernel
def fX10_forget (t_sights : Int32) : Option (Int32 × Int32) :=
  some (t_sights, 0)
set_option maxRecDepth 100000 in
set_option maxHeartbeats 4000000 in
theorem CX10_forget (l : Launch) {D : va_G} {ty : TY} {A_t A_t_count A_t_pace A_t_sight A_t_pad A_t_now A_t_image A_t_isKept : Nat} {t_there : Int32} {t_awake : Int32} {t_house : Int32} {t_sharp : Int32} {t_sights : Int32} {t_signs : Int32} {t_up : Int32} {t_reason : Int32} {t_acts : Int32} {t_breaths : Int32} {t_zeroAt : Int32} {t_noticedAt : Int32} {t_count : Nat → Int32} {t_pace : Nat → Int32} {t_sight : Nat → Int32} {t_pad : Nat → Int32} {t_now : Nat → Int32} {t_image : Nat → Int32} {t_isKept : Nat → Int32} {q0 : Int32 × Int32} (hf : fX10_forget t_sights = some q0) : RWi l yX10_forget wsX10_forget rmX10_forget D ty [.ref A_t] [(A_t, .inr (9, [.int t_there, .int t_awake, .ref A_t_count, .ref A_t_pace, .int t_house, .int t_sharp, .int t_sights, .ref A_t_sight, .int t_signs, .ref A_t_pad, .int t_up, .ref A_t_now, .int t_reason, .int t_acts, .int t_breaths, .int t_zeroAt, .int t_noticedAt, .ref A_t_image, .ref A_t_isKept])), (A_t_count, .inl (ty.1, 8, .inl t_count)), (A_t_pace, .inl (ty.1, 8, .inl t_pace)), (A_t_sight, .inl (ty.1, 24, .inl t_sight)), (A_t_pad, .inl (ty.1, 60, .inl t_pad)), (A_t_now, .inl (ty.1, 8, .inl t_now)), (A_t_image, .inl (ty.1, 120, .inl t_image)), (A_t_isKept, .inl (ty.2.2.1, 2, .inl t_isKept))] q0.1 [(A_t, .inr (9, [.int t_there, .int t_awake, .ref A_t_count, .ref A_t_pace, .int t_house, .int t_sharp, .int q0.2, .ref A_t_sight, .int t_signs, .ref A_t_pad, .int t_up, .ref A_t_now, .int t_reason, .int t_acts, .int t_breaths, .int t_zeroAt, .int t_noticedAt, .ref A_t_image, .ref A_t_isKept])), (A_t_count, .inl (ty.1, 8, .inl t_count)), (A_t_pace, .inl (ty.1, 8, .inl t_pace)), (A_t_sight, .inl (ty.1, 24, .inl t_sight)), (A_t_pad, .inl (ty.1, 60, .inl t_pad)), (A_t_now, .inl (ty.1, 8, .inl t_now)), (A_t_image, .inl (ty.1, 120, .inl t_image)), (A_t_isKept, .inl (ty.2.2.1, 2, .inl t_isKept))] := by
  refine RWi.start (cc := cX10_forget) (maxL := 2) (ret := (some .int)) (own := RX10) (by decide) rfl rfl (Nat.le_of_ble_eq_true rfl) ?_
  intro p e s m below meth c ls C hK hP hD hS hl
  obtain ⟨WC, hWC⟩ : ∃ w : va_W, w = [(A_t, .inr (9, [.int t_there, .int t_awake, .ref A_t_count, .ref A_t_pace, .int t_house, .int t_sharp, .int t_sights, .ref A_t_sight, .int t_signs, .ref A_t_pad, .int t_up, .ref A_t_now, .int t_reason, .int t_acts, .int t_breaths, .int t_zeroAt, .int t_noticedAt, .ref A_t_image, .ref A_t_isKept])), (A_t_count, .inl (ty.1, 8, .inl t_count)), (A_t_pace, .inl (ty.1, 8, .inl t_pace)), (A_t_sight, .inl (ty.1, 24, .inl t_sight)), (A_t_pad, .inl (ty.1, 60, .inl t_pad)), (A_t_now, .inl (ty.1, 8, .inl t_now)), (A_t_image, .inl (ty.1, 120, .inl t_image)), (A_t_isKept, .inl (ty.2.2.1, 2, .inl t_isKept))] := ⟨_, rfl⟩
  rw [← hWC] at hD hS ⊢
  have hD : va_D (va_A WC s.heap.size) [(A_t, .inr (9, [.int t_there, .int t_awake, .ref A_t_count, .ref A_t_pace, .int t_house, .int t_sharp, .int t_sights, .ref A_t_sight, .int t_signs, .ref A_t_pad, .int t_up, .ref A_t_now, .int t_reason, .int t_acts, .int t_breaths, .int t_zeroAt, .int t_noticedAt, .ref A_t_image, .ref A_t_isKept])), (A_t_count, .inl (ty.1, 8, .inl t_count)), (A_t_pace, .inl (ty.1, 8, .inl t_pace)), (A_t_sight, .inl (ty.1, 24, .inl t_sight)), (A_t_pad, .inl (ty.1, 60, .inl t_pad)), (A_t_now, .inl (ty.1, 8, .inl t_now)), (A_t_image, .inl (ty.1, 120, .inl t_image)), (A_t_isKept, .inl (ty.2.2.1, 2, .inl t_isKept))] := by rw [← hWC]; exact hD
  obtain ⟨hx, hb, hr, hml, hown, hts, hlocks⟩ := id C
  have hl : lv_has ls 2 [(0, .ref A_t)] := hl
  unfold fX10_forget at hf
  refine lv_aload_n hx hb dX10_forget_0 rfl (lv_at hl 0 rfl) ?_
  refine va_get (D := D) (ci := 9) (v := .int t_sights) (C := RX10) (T := TX10) (N := 19) hx hb hts wX10_forget_X10 hown hK.1 hP 0 rfl rfl 6 (by decide) (hts _ mX10_forget_f158) (fun _ h9 => h9) rfl dX10_forget_1 ?_
  refine lv_istore_n (lv' := [(1, .int t_sights), (0, .ref A_t)]) hx hb dX10_forget_4 rfl hl (by decide) rfl (fun ls hl => ?_)
  refine lv_aload_n hx hb dX10_forget_5 rfl (lv_at hl 1 rfl) ?_
  refine lv_iconst (v := 0) hx hb dX10_forget_6 (by decide) ?_
  refine va_put (D := D) (ci := 9) (v := .int 0) (ty := .int) (C := RX10) (T := TX10) (N := 19) hx hb hts wX10_forget_X10 tyX10 tyX10_ok nmX10 hown hK.1 hP hD hS 0 rfl rfl 6 (by decide) (hts _ mX10_forget_f158) (fun _ h9 => h9) rfl (by decide +kernel) rfl rfl (Nat.le_of_ble_eq_true rfl) dX10_forget_7 (fun H locs hP hD hS => ?_)
  have hP : va_P D vwCl [(A_t, .inr (9, [.int t_there, .int t_awake, .ref A_t_count, .ref A_t_pace, .int t_house, .int t_sharp, .int 0, .ref A_t_sight, .int t_signs, .ref A_t_pad, .int t_up, .ref A_t_now, .int t_reason, .int t_acts, .int t_breaths, .int t_zeroAt, .int t_noticedAt, .ref A_t_image, .ref A_t_isKept])), (A_t_count, .inl (ty.1, 8, .inl t_count)), (A_t_pace, .inl (ty.1, 8, .inl t_pace)), (A_t_sight, .inl (ty.1, 24, .inl t_sight)), (A_t_pad, .inl (ty.1, 60, .inl t_pad)), (A_t_now, .inl (ty.1, 8, .inl t_now)), (A_t_image, .inl (ty.1, 120, .inl t_image)), (A_t_isKept, .inl (ty.2.2.1, 2, .inl t_isKept))] H := hP
  have hD : va_D (va_A WC s.heap.size) [(A_t, .inr (9, [.int t_there, .int t_awake, .ref A_t_count, .ref A_t_pace, .int t_house, .int t_sharp, .int 0, .ref A_t_sight, .int t_signs, .ref A_t_pad, .int t_up, .ref A_t_now, .int t_reason, .int t_acts, .int t_breaths, .int t_zeroAt, .int t_noticedAt, .ref A_t_image, .ref A_t_isKept])), (A_t_count, .inl (ty.1, 8, .inl t_count)), (A_t_pace, .inl (ty.1, 8, .inl t_pace)), (A_t_sight, .inl (ty.1, 24, .inl t_sight)), (A_t_pad, .inl (ty.1, 60, .inl t_pad)), (A_t_now, .inl (ty.1, 8, .inl t_now)), (A_t_image, .inl (ty.1, 120, .inl t_image)), (A_t_isKept, .inl (ty.2.2.1, 2, .inl t_isKept))] := hD
  refine lv_iload_n hx hb dX10_forget_10 rfl (lv_at hl 0 rfl) ?_
  cases hf
  exact ret_wi hx hb hr hlocks hP hD hS dX10_forget_11
/-! ===== SilenceCountModel.image(I)I ===== -/
abbrev rmX10_image : Room := { frames := 1, cells := 0, slots := 0, locals := 22 }
theorem kkX10_image : yX10_image.cls = RX10 ∧ yX10_image.cls ≠ "java/lang/invoke/MethodHandle" ∧ yX10_image.cls ≠ "java/lang/invoke/VarHandle" ∧ (parseMethodDescriptor yX10_image.desc).map (fun d => d.parameters.length) = some 1 := by decide +kernel
theorem mX10_image_f33 : Cond.fieldLink RX10 33 "SilenceCountModel" "image" "[I" ∈ wsX10_image := by decide +kernel
theorem mX10_image_f40 : Cond.fieldLink RX10 40 "SilenceCountModel" "there" "I" ∈ wsX10_image := by decide +kernel
theorem mX10_image_f55 : Cond.fieldLink RX10 55 "SilenceCountModel" "awake" "I" ∈ wsX10_image := by decide +kernel
theorem mX10_image_f17 : Cond.fieldLink RX10 17 "SilenceCountModel" "house" "I" ∈ wsX10_image := by decide +kernel
theorem mX10_image_f21 : Cond.fieldLink RX10 21 "SilenceCountModel" "sharp" "I" ∈ wsX10_image := by decide +kernel
theorem mX10_image_f158 : Cond.fieldLink RX10 158 "SilenceCountModel" "sights" "I" ∈ wsX10_image := by decide +kernel
theorem mX10_image_f36 : Cond.fieldLink RX10 36 "SilenceCountModel" "isKept" "[Z" ∈ wsX10_image := by decide +kernel
theorem mX10_image_f24 : Cond.fieldLink RX10 24 "SilenceCountModel" "sight" "[I" ∈ wsX10_image := by decide +kernel
theorem mX10_image_f7 : Cond.fieldLink RX10 7 "SilenceCountModel" "count" "[I" ∈ wsX10_image := by decide +kernel
theorem mX10_image_f13 : Cond.fieldLink RX10 13 "SilenceCountModel" "pace" "[I" ∈ wsX10_image := by decide +kernel
theorem wX10_image_X10 : ∀ w ∈ u_ws RX10 TX10 19, w ∈ wsX10_image := by decide +kernel
def bX10_image_64 (k64 : Int32 × Int32 × (Nat → Int32) × (Nat → Int32) → Option (Int32 × (Nat → Int32) × (Nat → Int32))) (t_there : Int32) (t_awake : Int32) (t_house : Int32) (t_sharp : Int32) (t_sights : Int32) (t_sight : Nat → Int32) (a1 : Int32) (v2 : Int32) (v3 : Int32) (t_image : Nat → Int32) (t_isKept : Nat → Int32) : Option (Int32 × (Nat → Int32) × (Nat → Int32)) :=
  if 24 ≤ v3 then gIn (v2 + 50) 120 (gIn (v2 + 51) 120 (gIn (v2 + 52) 120 (gIn (v2 + 53) 120 (gIn (v2 + 54) 120 (gIn a1 2 (some (1, upd (upd (upd (upd (upd t_image (v2 + 50 : Int32).toNatClampNeg t_there) (v2 + 51 : Int32).toNatClampNeg t_awake) (v2 + 52 : Int32).toNatClampNeg t_house) (v2 + 53 : Int32).toNatClampNeg t_sharp) (v2 + 54 : Int32).toNatClampNeg t_sights, upd t_isKept (a1 : Int32).toNatClampNeg (vp_nar .boolean 1)))))))) else gIn v3 24 (gIn ((v2 + 16) + v3) 120 (k64 (v2, v3 + 1, upd t_image ((v2 + 16) + v3 : Int32).toNatClampNeg (t_sight (v3 : Int32).toNatClampNeg), t_isKept)))
set_option maxRecDepth 100000 in
set_option maxHeartbeats 4000000 in
theorem BX10_image_64 {p : Program} {l : Launch} {e : Env} {s : State} {m : MethodId} {below : List Frame} {meth : Method} {c : Code} {D : va_G} {ty : TY} {A_t A_t_count A_t_pace A_t_sight A_t_pad A_t_now A_t_image A_t_isKept : Nat} {t_there : Int32} {t_awake : Int32} {t_house : Int32} {t_sharp : Int32} {t_sights : Int32} {t_signs : Int32} {t_up : Int32} {t_reason : Int32} {t_acts : Int32} {t_breaths : Int32} {t_zeroAt : Int32} {t_noticedAt : Int32} {t_count : Nat → Int32} {t_pace : Nat → Int32} {t_sight : Nat → Int32} {t_pad : Nat → Int32} {t_now : Nat → Int32} {a1 : Int32} {q0 : Int32 × (Nat → Int32) × (Nat → Int32)} {WC : va_W} (C : cx p s m [.ref A_t, .int a1] meth c cX10_image 4 (some .int) RX10 wsX10_image) (hK : KK D ty s)   : ∀ (n : Nat) (v2 : Int32) (v3 : Int32) (t_image : Nat → Int32) (t_isKept : Nat → Int32) (H : Heap) (locs : List Loc) (ls : Array Slot), va_P D vwCl [(A_t, .inr (9, [.int t_there, .int t_awake, .ref A_t_count, .ref A_t_pace, .int t_house, .int t_sharp, .int t_sights, .ref A_t_sight, .int t_signs, .ref A_t_pad, .int t_up, .ref A_t_now, .int t_reason, .int t_acts, .int t_breaths, .int t_zeroAt, .int t_noticedAt, .ref A_t_image, .ref A_t_isKept])), (A_t_count, .inl (ty.1, 8, .inl t_count)), (A_t_pace, .inl (ty.1, 8, .inl t_pace)), (A_t_sight, .inl (ty.1, 24, .inl t_sight)), (A_t_pad, .inl (ty.1, 60, .inl t_pad)), (A_t_now, .inl (ty.1, 8, .inl t_now)), (A_t_image, .inl (ty.1, 120, .inl t_image)), (A_t_isKept, .inl (ty.2.2.1, 2, .inl t_isKept))] H → va_D (va_A WC s.heap.size) [(A_t, .inr (9, [.int t_there, .int t_awake, .ref A_t_count, .ref A_t_pace, .int t_house, .int t_sharp, .int t_sights, .ref A_t_sight, .int t_signs, .ref A_t_pad, .int t_up, .ref A_t_now, .int t_reason, .int t_acts, .int t_breaths, .int t_zeroAt, .int t_noticedAt, .ref A_t_image, .ref A_t_isKept])), (A_t_count, .inl (ty.1, 8, .inl t_count)), (A_t_pace, .inl (ty.1, 8, .inl t_pace)), (A_t_sight, .inl (ty.1, 24, .inl t_sight)), (A_t_pad, .inl (ty.1, 60, .inl t_pad)), (A_t_now, .inl (ty.1, 8, .inl t_now)), (A_t_image, .inl (ty.1, 120, .inl t_image)), (A_t_isKept, .inl (ty.2.2.1, 2, .inl t_isKept))] → va_S (va_A WC s.heap.size) s.heap H locs → lv_has ls 4 [(0, .ref A_t), (1, .int a1), (2, .int v2), (3, .int v3)] → loopF (fun k q => bX10_image_64 k t_there t_awake t_house t_sharp t_sights t_sight a1 q.1 q.2.1 q.2.2.1 q.2.2.2) n (v2, v3, t_image, t_isKept) = some q0 → WWi p l e rmX10_image s m [.ref A_t, .int a1] below meth c D WC [(A_t, .inr (9, [.int t_there, .int t_awake, .ref A_t_count, .ref A_t_pace, .int t_house, .int t_sharp, .int t_sights, .ref A_t_sight, .int t_signs, .ref A_t_pad, .int t_up, .ref A_t_now, .int t_reason, .int t_acts, .int t_breaths, .int t_zeroAt, .int t_noticedAt, .ref A_t_image, .ref A_t_isKept])), (A_t_count, .inl (ty.1, 8, .inl t_count)), (A_t_pace, .inl (ty.1, 8, .inl t_pace)), (A_t_sight, .inl (ty.1, 24, .inl t_sight)), (A_t_pad, .inl (ty.1, 60, .inl t_pad)), (A_t_now, .inl (ty.1, 8, .inl t_now)), (A_t_image, .inl (ty.1, 120, .inl q0.2.1)), (A_t_isKept, .inl (ty.2.2.1, 2, .inl q0.2.2))] q0.1 H locs (F0 m 64 ls []) := by
  obtain ⟨hx, hb, hr, hml, hown, hts, hlocks⟩ := id C
  intro n
  induction n with
  | zero =>
    intro v2 v3 t_image t_isKept H locs ls hP hD hS hl hf
    cases hf
  | succ n ih =>
    intro v2 v3 t_image t_isKept H locs ls hP hD hS hl hf
    have hf : bX10_image_64 (loopF (fun k q => bX10_image_64 k t_there t_awake t_house t_sharp t_sights t_sight a1 q.1 q.2.1 q.2.2.1 q.2.2.2) n) t_there t_awake t_house t_sharp t_sights t_sight a1 v2 v3 t_image t_isKept = some q0 := hf
    have hk64 := ih
    unfold bX10_image_64 at hf
    refine lv_iload_n hx hb dX10_image_64 rfl (lv_at hl 3 rfl) ?_
    refine lv_bipush (v := 24) hx hb dX10_image_65 (by decide) ?_
    refine lv_icmp_ge (tgt := 93) hx hb dX10_image_67 (by decide) (fun hc => ?_) (fun hc => ?_)
    · have hf := ft hf hc
      refine lv_aload_n hx hb dX10_image_93 rfl (lv_at hl 0 rfl) ?_
      refine va_get (D := D) (ci := 9) (v := .ref A_t_image) (C := RX10) (T := TX10) (N := 19) hx hb hts wX10_image_X10 hown hK.1 hP 0 rfl rfl 17 (by decide) (hts _ mX10_image_f33) (fun _ h9 => h9) rfl dX10_image_94 ?_
      refine lv_iload_n hx hb dX10_image_97 rfl (lv_at hl 2 rfl) ?_
      refine lv_bipush (v := 50) hx hb dX10_image_98 (by decide) ?_
      refine lv_iadd hx hb dX10_image_100 ?_
      refine lv_aload_n hx hb dX10_image_101 rfl (lv_at hl 0 rfl) ?_
      refine va_get (D := D) (ci := 9) (v := .int t_there) (C := RX10) (T := TX10) (N := 19) hx hb hts wX10_image_X10 hown hK.1 hP 0 rfl rfl 0 (by decide) (hts _ mX10_image_f40) (fun _ h9 => h9) rfl dX10_image_102 ?_
      obtain ⟨hin, hf⟩ := gIn_some hf
      refine va_iast hx hb hK.1 hP hD hS 6 0 rfl rfl hin dX10_image_105 (fun H locs hP hD hS => ?_)
      have hP : va_P D vwCl [(A_t, .inr (9, [.int t_there, .int t_awake, .ref A_t_count, .ref A_t_pace, .int t_house, .int t_sharp, .int t_sights, .ref A_t_sight, .int t_signs, .ref A_t_pad, .int t_up, .ref A_t_now, .int t_reason, .int t_acts, .int t_breaths, .int t_zeroAt, .int t_noticedAt, .ref A_t_image, .ref A_t_isKept])), (A_t_count, .inl (ty.1, 8, .inl t_count)), (A_t_pace, .inl (ty.1, 8, .inl t_pace)), (A_t_sight, .inl (ty.1, 24, .inl t_sight)), (A_t_pad, .inl (ty.1, 60, .inl t_pad)), (A_t_now, .inl (ty.1, 8, .inl t_now)), (A_t_image, .inl (ty.1, 120, .inl (upd t_image (v2 + 50 : Int32).toNatClampNeg t_there))), (A_t_isKept, .inl (ty.2.2.1, 2, .inl t_isKept))] H := hP
      have hD : va_D (va_A WC s.heap.size) [(A_t, .inr (9, [.int t_there, .int t_awake, .ref A_t_count, .ref A_t_pace, .int t_house, .int t_sharp, .int t_sights, .ref A_t_sight, .int t_signs, .ref A_t_pad, .int t_up, .ref A_t_now, .int t_reason, .int t_acts, .int t_breaths, .int t_zeroAt, .int t_noticedAt, .ref A_t_image, .ref A_t_isKept])), (A_t_count, .inl (ty.1, 8, .inl t_count)), (A_t_pace, .inl (ty.1, 8, .inl t_pace)), (A_t_sight, .inl (ty.1, 24, .inl t_sight)), (A_t_pad, .inl (ty.1, 60, .inl t_pad)), (A_t_now, .inl (ty.1, 8, .inl t_now)), (A_t_image, .inl (ty.1, 120, .inl (upd t_image (v2 + 50 : Int32).toNatClampNeg t_there))), (A_t_isKept, .inl (ty.2.2.1, 2, .inl t_isKept))] := hD
      refine lv_aload_n hx hb dX10_image_106 rfl (lv_at hl 0 rfl) ?_
      refine va_get (D := D) (ci := 9) (v := .ref A_t_image) (C := RX10) (T := TX10) (N := 19) hx hb hts wX10_image_X10 hown hK.1 hP 0 rfl rfl 17 (by decide) (hts _ mX10_image_f33) (fun _ h9 => h9) rfl dX10_image_107 ?_
      refine lv_iload_n hx hb dX10_image_110 rfl (lv_at hl 2 rfl) ?_
      refine lv_bipush (v := 51) hx hb dX10_image_111 (by decide) ?_
      refine lv_iadd hx hb dX10_image_113 ?_
      refine lv_aload_n hx hb dX10_image_114 rfl (lv_at hl 0 rfl) ?_
      refine va_get (D := D) (ci := 9) (v := .int t_awake) (C := RX10) (T := TX10) (N := 19) hx hb hts wX10_image_X10 hown hK.1 hP 0 rfl rfl 1 (by decide) (hts _ mX10_image_f55) (fun _ h9 => h9) rfl dX10_image_115 ?_
      obtain ⟨hin, hf⟩ := gIn_some hf
      refine va_iast hx hb hK.1 hP hD hS 6 0 rfl rfl hin dX10_image_118 (fun H locs hP hD hS => ?_)
      have hP : va_P D vwCl [(A_t, .inr (9, [.int t_there, .int t_awake, .ref A_t_count, .ref A_t_pace, .int t_house, .int t_sharp, .int t_sights, .ref A_t_sight, .int t_signs, .ref A_t_pad, .int t_up, .ref A_t_now, .int t_reason, .int t_acts, .int t_breaths, .int t_zeroAt, .int t_noticedAt, .ref A_t_image, .ref A_t_isKept])), (A_t_count, .inl (ty.1, 8, .inl t_count)), (A_t_pace, .inl (ty.1, 8, .inl t_pace)), (A_t_sight, .inl (ty.1, 24, .inl t_sight)), (A_t_pad, .inl (ty.1, 60, .inl t_pad)), (A_t_now, .inl (ty.1, 8, .inl t_now)), (A_t_image, .inl (ty.1, 120, .inl (upd (upd t_image (v2 + 50 : Int32).toNatClampNeg t_there) (v2 + 51 : Int32).toNatClampNeg t_awake))), (A_t_isKept, .inl (ty.2.2.1, 2, .inl t_isKept))] H := hP
      have hD : va_D (va_A WC s.heap.size) [(A_t, .inr (9, [.int t_there, .int t_awake, .ref A_t_count, .ref A_t_pace, .int t_house, .int t_sharp, .int t_sights, .ref A_t_sight, .int t_signs, .ref A_t_pad, .int t_up, .ref A_t_now, .int t_reason, .int t_acts, .int t_breaths, .int t_zeroAt, .int t_noticedAt, .ref A_t_image, .ref A_t_isKept])), (A_t_count, .inl (ty.1, 8, .inl t_count)), (A_t_pace, .inl (ty.1, 8, .inl t_pace)), (A_t_sight, .inl (ty.1, 24, .inl t_sight)), (A_t_pad, .inl (ty.1, 60, .inl t_pad)), (A_t_now, .inl (ty.1, 8, .inl t_now)), (A_t_image, .inl (ty.1, 120, .inl (upd (upd t_image (v2 + 50 : Int32).toNatClampNeg t_there) (v2 + 51 : Int32).toNatClampNeg t_awake))), (A_t_isKept, .inl (ty.2.2.1, 2, .inl t_isKept))] := hD
      refine lv_aload_n hx hb dX10_image_119 rfl (lv_at hl 0 rfl) ?_
      refine va_get (D := D) (ci := 9) (v := .ref A_t_image) (C := RX10) (T := TX10) (N := 19) hx hb hts wX10_image_X10 hown hK.1 hP 0 rfl rfl 17 (by decide) (hts _ mX10_image_f33) (fun _ h9 => h9) rfl dX10_image_120 ?_
      refine lv_iload_n hx hb dX10_image_123 rfl (lv_at hl 2 rfl) ?_
      refine lv_bipush (v := 52) hx hb dX10_image_124 (by decide) ?_
      refine lv_iadd hx hb dX10_image_126 ?_
      refine lv_aload_n hx hb dX10_image_127 rfl (lv_at hl 0 rfl) ?_
      refine va_get (D := D) (ci := 9) (v := .int t_house) (C := RX10) (T := TX10) (N := 19) hx hb hts wX10_image_X10 hown hK.1 hP 0 rfl rfl 4 (by decide) (hts _ mX10_image_f17) (fun _ h9 => h9) rfl dX10_image_128 ?_
      obtain ⟨hin, hf⟩ := gIn_some hf
      refine va_iast hx hb hK.1 hP hD hS 6 0 rfl rfl hin dX10_image_131 (fun H locs hP hD hS => ?_)
      have hP : va_P D vwCl [(A_t, .inr (9, [.int t_there, .int t_awake, .ref A_t_count, .ref A_t_pace, .int t_house, .int t_sharp, .int t_sights, .ref A_t_sight, .int t_signs, .ref A_t_pad, .int t_up, .ref A_t_now, .int t_reason, .int t_acts, .int t_breaths, .int t_zeroAt, .int t_noticedAt, .ref A_t_image, .ref A_t_isKept])), (A_t_count, .inl (ty.1, 8, .inl t_count)), (A_t_pace, .inl (ty.1, 8, .inl t_pace)), (A_t_sight, .inl (ty.1, 24, .inl t_sight)), (A_t_pad, .inl (ty.1, 60, .inl t_pad)), (A_t_now, .inl (ty.1, 8, .inl t_now)), (A_t_image, .inl (ty.1, 120, .inl (upd (upd (upd t_image (v2 + 50 : Int32).toNatClampNeg t_there) (v2 + 51 : Int32).toNatClampNeg t_awake) (v2 + 52 : Int32).toNatClampNeg t_house))), (A_t_isKept, .inl (ty.2.2.1, 2, .inl t_isKept))] H := hP
      have hD : va_D (va_A WC s.heap.size) [(A_t, .inr (9, [.int t_there, .int t_awake, .ref A_t_count, .ref A_t_pace, .int t_house, .int t_sharp, .int t_sights, .ref A_t_sight, .int t_signs, .ref A_t_pad, .int t_up, .ref A_t_now, .int t_reason, .int t_acts, .int t_breaths, .int t_zeroAt, .int t_noticedAt, .ref A_t_image, .ref A_t_isKept])), (A_t_count, .inl (ty.1, 8, .inl t_count)), (A_t_pace, .inl (ty.1, 8, .inl t_pace)), (A_t_sight, .inl (ty.1, 24, .inl t_sight)), (A_t_pad, .inl (ty.1, 60, .inl t_pad)), (A_t_now, .inl (ty.1, 8, .inl t_now)), (A_t_image, .inl (ty.1, 120, .inl (upd (upd (upd t_image (v2 + 50 : Int32).toNatClampNeg t_there) (v2 + 51 : Int32).toNatClampNeg t_awake) (v2 + 52 : Int32).toNatClampNeg t_house))), (A_t_isKept, .inl (ty.2.2.1, 2, .inl t_isKept))] := hD
      refine lv_aload_n hx hb dX10_image_132 rfl (lv_at hl 0 rfl) ?_
      refine va_get (D := D) (ci := 9) (v := .ref A_t_image) (C := RX10) (T := TX10) (N := 19) hx hb hts wX10_image_X10 hown hK.1 hP 0 rfl rfl 17 (by decide) (hts _ mX10_image_f33) (fun _ h9 => h9) rfl dX10_image_133 ?_
      refine lv_iload_n hx hb dX10_image_136 rfl (lv_at hl 2 rfl) ?_
      refine lv_bipush (v := 53) hx hb dX10_image_137 (by decide) ?_
      refine lv_iadd hx hb dX10_image_139 ?_
      refine lv_aload_n hx hb dX10_image_140 rfl (lv_at hl 0 rfl) ?_
      refine va_get (D := D) (ci := 9) (v := .int t_sharp) (C := RX10) (T := TX10) (N := 19) hx hb hts wX10_image_X10 hown hK.1 hP 0 rfl rfl 5 (by decide) (hts _ mX10_image_f21) (fun _ h9 => h9) rfl dX10_image_141 ?_
      obtain ⟨hin, hf⟩ := gIn_some hf
      refine va_iast hx hb hK.1 hP hD hS 6 0 rfl rfl hin dX10_image_144 (fun H locs hP hD hS => ?_)
      have hP : va_P D vwCl [(A_t, .inr (9, [.int t_there, .int t_awake, .ref A_t_count, .ref A_t_pace, .int t_house, .int t_sharp, .int t_sights, .ref A_t_sight, .int t_signs, .ref A_t_pad, .int t_up, .ref A_t_now, .int t_reason, .int t_acts, .int t_breaths, .int t_zeroAt, .int t_noticedAt, .ref A_t_image, .ref A_t_isKept])), (A_t_count, .inl (ty.1, 8, .inl t_count)), (A_t_pace, .inl (ty.1, 8, .inl t_pace)), (A_t_sight, .inl (ty.1, 24, .inl t_sight)), (A_t_pad, .inl (ty.1, 60, .inl t_pad)), (A_t_now, .inl (ty.1, 8, .inl t_now)), (A_t_image, .inl (ty.1, 120, .inl (upd (upd (upd (upd t_image (v2 + 50 : Int32).toNatClampNeg t_there) (v2 + 51 : Int32).toNatClampNeg t_awake) (v2 + 52 : Int32).toNatClampNeg t_house) (v2 + 53 : Int32).toNatClampNeg t_sharp))), (A_t_isKept, .inl (ty.2.2.1, 2, .inl t_isKept))] H := hP
      have hD : va_D (va_A WC s.heap.size) [(A_t, .inr (9, [.int t_there, .int t_awake, .ref A_t_count, .ref A_t_pace, .int t_house, .int t_sharp, .int t_sights, .ref A_t_sight, .int t_signs, .ref A_t_pad, .int t_up, .ref A_t_now, .int t_reason, .int t_acts, .int t_breaths, .int t_zeroAt, .int t_noticedAt, .ref A_t_image, .ref A_t_isKept])), (A_t_count, .inl (ty.1, 8, .inl t_count)), (A_t_pace, .inl (ty.1, 8, .inl t_pace)), (A_t_sight, .inl (ty.1, 24, .inl t_sight)), (A_t_pad, .inl (ty.1, 60, .inl t_pad)), (A_t_now, .inl (ty.1, 8, .inl t_now)), (A_t_image, .inl (ty.1, 120, .inl (upd (upd (upd (upd t_image (v2 + 50 : Int32).toNatClampNeg t_there) (v2 + 51 : Int32).toNatClampNeg t_awake) (v2 + 52 : Int32).toNatClampNeg t_house) (v2 + 53 : Int32).toNatClampNeg t_sharp))), (A_t_isKept, .inl (ty.2.2.1, 2, .inl t_isKept))] := hD
      refine lv_aload_n hx hb dX10_image_145 rfl (lv_at hl 0 rfl) ?_
      refine va_get (D := D) (ci := 9) (v := .ref A_t_image) (C := RX10) (T := TX10) (N := 19) hx hb hts wX10_image_X10 hown hK.1 hP 0 rfl rfl 17 (by decide) (hts _ mX10_image_f33) (fun _ h9 => h9) rfl dX10_image_146 ?_
      refine lv_iload_n hx hb dX10_image_149 rfl (lv_at hl 2 rfl) ?_
      refine lv_bipush (v := 54) hx hb dX10_image_150 (by decide) ?_
      refine lv_iadd hx hb dX10_image_152 ?_
      refine lv_aload_n hx hb dX10_image_153 rfl (lv_at hl 0 rfl) ?_
      refine va_get (D := D) (ci := 9) (v := .int t_sights) (C := RX10) (T := TX10) (N := 19) hx hb hts wX10_image_X10 hown hK.1 hP 0 rfl rfl 6 (by decide) (hts _ mX10_image_f158) (fun _ h9 => h9) rfl dX10_image_154 ?_
      obtain ⟨hin, hf⟩ := gIn_some hf
      refine va_iast hx hb hK.1 hP hD hS 6 0 rfl rfl hin dX10_image_157 (fun H locs hP hD hS => ?_)
      have hP : va_P D vwCl [(A_t, .inr (9, [.int t_there, .int t_awake, .ref A_t_count, .ref A_t_pace, .int t_house, .int t_sharp, .int t_sights, .ref A_t_sight, .int t_signs, .ref A_t_pad, .int t_up, .ref A_t_now, .int t_reason, .int t_acts, .int t_breaths, .int t_zeroAt, .int t_noticedAt, .ref A_t_image, .ref A_t_isKept])), (A_t_count, .inl (ty.1, 8, .inl t_count)), (A_t_pace, .inl (ty.1, 8, .inl t_pace)), (A_t_sight, .inl (ty.1, 24, .inl t_sight)), (A_t_pad, .inl (ty.1, 60, .inl t_pad)), (A_t_now, .inl (ty.1, 8, .inl t_now)), (A_t_image, .inl (ty.1, 120, .inl (upd (upd (upd (upd (upd t_image (v2 + 50 : Int32).toNatClampNeg t_there) (v2 + 51 : Int32).toNatClampNeg t_awake) (v2 + 52 : Int32).toNatClampNeg t_house) (v2 + 53 : Int32).toNatClampNeg t_sharp) (v2 + 54 : Int32).toNatClampNeg t_sights))), (A_t_isKept, .inl (ty.2.2.1, 2, .inl t_isKept))] H := hP
      have hD : va_D (va_A WC s.heap.size) [(A_t, .inr (9, [.int t_there, .int t_awake, .ref A_t_count, .ref A_t_pace, .int t_house, .int t_sharp, .int t_sights, .ref A_t_sight, .int t_signs, .ref A_t_pad, .int t_up, .ref A_t_now, .int t_reason, .int t_acts, .int t_breaths, .int t_zeroAt, .int t_noticedAt, .ref A_t_image, .ref A_t_isKept])), (A_t_count, .inl (ty.1, 8, .inl t_count)), (A_t_pace, .inl (ty.1, 8, .inl t_pace)), (A_t_sight, .inl (ty.1, 24, .inl t_sight)), (A_t_pad, .inl (ty.1, 60, .inl t_pad)), (A_t_now, .inl (ty.1, 8, .inl t_now)), (A_t_image, .inl (ty.1, 120, .inl (upd (upd (upd (upd (upd t_image (v2 + 50 : Int32).toNatClampNeg t_there) (v2 + 51 : Int32).toNatClampNeg t_awake) (v2 + 52 : Int32).toNatClampNeg t_house) (v2 + 53 : Int32).toNatClampNeg t_sharp) (v2 + 54 : Int32).toNatClampNeg t_sights))), (A_t_isKept, .inl (ty.2.2.1, 2, .inl t_isKept))] := hD
      refine lv_aload_n hx hb dX10_image_158 rfl (lv_at hl 0 rfl) ?_
      refine va_get (D := D) (ci := 9) (v := .ref A_t_isKept) (C := RX10) (T := TX10) (N := 19) hx hb hts wX10_image_X10 hown hK.1 hP 0 rfl rfl 18 (by decide) (hts _ mX10_image_f36) (fun _ h9 => h9) rfl dX10_image_159 ?_
      refine lv_iload_n hx hb dX10_image_162 rfl (lv_at hl 1 rfl) ?_
      refine lv_iconst (v := 1) hx hb dX10_image_163 (by decide) ?_
      obtain ⟨hin, hf⟩ := gIn_some hf
      refine va_zast hx hb hK.1 hP hD hS 7 2 rfl rfl hin dX10_image_164 (fun H locs hP hD hS => ?_)
      have hP : va_P D vwCl [(A_t, .inr (9, [.int t_there, .int t_awake, .ref A_t_count, .ref A_t_pace, .int t_house, .int t_sharp, .int t_sights, .ref A_t_sight, .int t_signs, .ref A_t_pad, .int t_up, .ref A_t_now, .int t_reason, .int t_acts, .int t_breaths, .int t_zeroAt, .int t_noticedAt, .ref A_t_image, .ref A_t_isKept])), (A_t_count, .inl (ty.1, 8, .inl t_count)), (A_t_pace, .inl (ty.1, 8, .inl t_pace)), (A_t_sight, .inl (ty.1, 24, .inl t_sight)), (A_t_pad, .inl (ty.1, 60, .inl t_pad)), (A_t_now, .inl (ty.1, 8, .inl t_now)), (A_t_image, .inl (ty.1, 120, .inl (upd (upd (upd (upd (upd t_image (v2 + 50 : Int32).toNatClampNeg t_there) (v2 + 51 : Int32).toNatClampNeg t_awake) (v2 + 52 : Int32).toNatClampNeg t_house) (v2 + 53 : Int32).toNatClampNeg t_sharp) (v2 + 54 : Int32).toNatClampNeg t_sights))), (A_t_isKept, .inl (ty.2.2.1, 2, .inl (upd t_isKept (a1 : Int32).toNatClampNeg (vp_nar .boolean 1))))] H := hP
      have hD : va_D (va_A WC s.heap.size) [(A_t, .inr (9, [.int t_there, .int t_awake, .ref A_t_count, .ref A_t_pace, .int t_house, .int t_sharp, .int t_sights, .ref A_t_sight, .int t_signs, .ref A_t_pad, .int t_up, .ref A_t_now, .int t_reason, .int t_acts, .int t_breaths, .int t_zeroAt, .int t_noticedAt, .ref A_t_image, .ref A_t_isKept])), (A_t_count, .inl (ty.1, 8, .inl t_count)), (A_t_pace, .inl (ty.1, 8, .inl t_pace)), (A_t_sight, .inl (ty.1, 24, .inl t_sight)), (A_t_pad, .inl (ty.1, 60, .inl t_pad)), (A_t_now, .inl (ty.1, 8, .inl t_now)), (A_t_image, .inl (ty.1, 120, .inl (upd (upd (upd (upd (upd t_image (v2 + 50 : Int32).toNatClampNeg t_there) (v2 + 51 : Int32).toNatClampNeg t_awake) (v2 + 52 : Int32).toNatClampNeg t_house) (v2 + 53 : Int32).toNatClampNeg t_sharp) (v2 + 54 : Int32).toNatClampNeg t_sights))), (A_t_isKept, .inl (ty.2.2.1, 2, .inl (upd t_isKept (a1 : Int32).toNatClampNeg (vp_nar .boolean 1))))] := hD
      refine lv_iconst (v := 1) hx hb dX10_image_165 (by decide) ?_
      cases hf
      exact ret_wi hx hb hr hlocks hP hD hS dX10_image_166
    · have hf := ff hf hc
      refine lv_aload_n hx hb dX10_image_70 rfl (lv_at hl 0 rfl) ?_
      refine va_get (D := D) (ci := 9) (v := .ref A_t_image) (C := RX10) (T := TX10) (N := 19) hx hb hts wX10_image_X10 hown hK.1 hP 0 rfl rfl 17 (by decide) (hts _ mX10_image_f33) (fun _ h9 => h9) rfl dX10_image_71 ?_
      refine lv_iload_n hx hb dX10_image_74 rfl (lv_at hl 2 rfl) ?_
      refine lv_bipush (v := 16) hx hb dX10_image_75 (by decide) ?_
      refine lv_iadd hx hb dX10_image_77 ?_
      refine lv_iload_n hx hb dX10_image_78 rfl (lv_at hl 3 rfl) ?_
      refine lv_iadd hx hb dX10_image_79 ?_
      refine lv_aload_n hx hb dX10_image_80 rfl (lv_at hl 0 rfl) ?_
      refine va_get (D := D) (ci := 9) (v := .ref A_t_sight) (C := RX10) (T := TX10) (N := 19) hx hb hts wX10_image_X10 hown hK.1 hP 0 rfl rfl 7 (by decide) (hts _ mX10_image_f24) (fun _ h9 => h9) rfl dX10_image_81 ?_
      refine lv_iload_n hx hb dX10_image_84 rfl (lv_at hl 3 rfl) ?_
      obtain ⟨hin, hf⟩ := gIn_some hf
      refine va_iald hx hb hK.1 hP 3 0 rfl rfl hin dX10_image_85 ?_
      obtain ⟨hin, hf⟩ := gIn_some hf
      refine va_iast hx hb hK.1 hP hD hS 6 0 rfl rfl hin dX10_image_86 (fun H locs hP hD hS => ?_)
      have hP : va_P D vwCl [(A_t, .inr (9, [.int t_there, .int t_awake, .ref A_t_count, .ref A_t_pace, .int t_house, .int t_sharp, .int t_sights, .ref A_t_sight, .int t_signs, .ref A_t_pad, .int t_up, .ref A_t_now, .int t_reason, .int t_acts, .int t_breaths, .int t_zeroAt, .int t_noticedAt, .ref A_t_image, .ref A_t_isKept])), (A_t_count, .inl (ty.1, 8, .inl t_count)), (A_t_pace, .inl (ty.1, 8, .inl t_pace)), (A_t_sight, .inl (ty.1, 24, .inl t_sight)), (A_t_pad, .inl (ty.1, 60, .inl t_pad)), (A_t_now, .inl (ty.1, 8, .inl t_now)), (A_t_image, .inl (ty.1, 120, .inl (upd t_image ((v2 + 16) + v3 : Int32).toNatClampNeg (t_sight (v3 : Int32).toNatClampNeg)))), (A_t_isKept, .inl (ty.2.2.1, 2, .inl t_isKept))] H := hP
      have hD : va_D (va_A WC s.heap.size) [(A_t, .inr (9, [.int t_there, .int t_awake, .ref A_t_count, .ref A_t_pace, .int t_house, .int t_sharp, .int t_sights, .ref A_t_sight, .int t_signs, .ref A_t_pad, .int t_up, .ref A_t_now, .int t_reason, .int t_acts, .int t_breaths, .int t_zeroAt, .int t_noticedAt, .ref A_t_image, .ref A_t_isKept])), (A_t_count, .inl (ty.1, 8, .inl t_count)), (A_t_pace, .inl (ty.1, 8, .inl t_pace)), (A_t_sight, .inl (ty.1, 24, .inl t_sight)), (A_t_pad, .inl (ty.1, 60, .inl t_pad)), (A_t_now, .inl (ty.1, 8, .inl t_now)), (A_t_image, .inl (ty.1, 120, .inl (upd t_image ((v2 + 16) + v3 : Int32).toNatClampNeg (t_sight (v3 : Int32).toNatClampNeg)))), (A_t_isKept, .inl (ty.2.2.1, 2, .inl t_isKept))] := hD
      refine lv_iinc (v := v3 + 1) (lv' := [(3, .int (v3 + 1)), (0, .ref A_t), (1, .int a1), (2, .int v2)]) hx hb dX10_image_87 hl (k := 3) rfl rfl (by decide) rfl (fun ls hl => ?_)
      refine lv_goto (tgt := 64) hx hb dX10_image_90 (by decide) ?_
      exact hk64 _ _ _ _ _ _ _ hP hD hS (lv_sub hl [1, 2, 3, 0] rfl) hf
def bX10_image_19 (k19 : Int32 × Int32 × (Nat → Int32) × (Nat → Int32) → Option (Int32 × (Nat → Int32) × (Nat → Int32))) (t_there : Int32) (t_awake : Int32) (t_house : Int32) (t_sharp : Int32) (t_sights : Int32) (t_count : Nat → Int32) (t_pace : Nat → Int32) (t_sight : Nat → Int32) (a1 : Int32) (v2 : Int32) (v3 : Int32) (t_image : Nat → Int32) (t_isKept : Nat → Int32) : Option (Int32 × (Nat → Int32) × (Nat → Int32)) :=
  if 8 ≤ v3 then loopF (fun k q => bX10_image_64 k t_there t_awake t_house t_sharp t_sights t_sight a1 q.1 q.2.1 q.2.2.1 q.2.2.2) FU (v2, 0, t_image, t_isKept) else gIn v3 8 (gIn (v2 + v3) 120 (gIn v3 8 (gIn ((v2 + 8) + v3) 120 (k19 (v2, v3 + 1, upd (upd t_image (v2 + v3 : Int32).toNatClampNeg (t_count (v3 : Int32).toNatClampNeg)) ((v2 + 8) + v3 : Int32).toNatClampNeg (t_pace (v3 : Int32).toNatClampNeg), t_isKept)))))
set_option maxRecDepth 100000 in
set_option maxHeartbeats 4000000 in
theorem BX10_image_19 {p : Program} {l : Launch} {e : Env} {s : State} {m : MethodId} {below : List Frame} {meth : Method} {c : Code} {D : va_G} {ty : TY} {A_t A_t_count A_t_pace A_t_sight A_t_pad A_t_now A_t_image A_t_isKept : Nat} {t_there : Int32} {t_awake : Int32} {t_house : Int32} {t_sharp : Int32} {t_sights : Int32} {t_signs : Int32} {t_up : Int32} {t_reason : Int32} {t_acts : Int32} {t_breaths : Int32} {t_zeroAt : Int32} {t_noticedAt : Int32} {t_count : Nat → Int32} {t_pace : Nat → Int32} {t_sight : Nat → Int32} {t_pad : Nat → Int32} {t_now : Nat → Int32} {a1 : Int32} {q0 : Int32 × (Nat → Int32) × (Nat → Int32)} {WC : va_W} (C : cx p s m [.ref A_t, .int a1] meth c cX10_image 4 (some .int) RX10 wsX10_image) (hK : KK D ty s)   : ∀ (n : Nat) (v2 : Int32) (v3 : Int32) (t_image : Nat → Int32) (t_isKept : Nat → Int32) (H : Heap) (locs : List Loc) (ls : Array Slot), va_P D vwCl [(A_t, .inr (9, [.int t_there, .int t_awake, .ref A_t_count, .ref A_t_pace, .int t_house, .int t_sharp, .int t_sights, .ref A_t_sight, .int t_signs, .ref A_t_pad, .int t_up, .ref A_t_now, .int t_reason, .int t_acts, .int t_breaths, .int t_zeroAt, .int t_noticedAt, .ref A_t_image, .ref A_t_isKept])), (A_t_count, .inl (ty.1, 8, .inl t_count)), (A_t_pace, .inl (ty.1, 8, .inl t_pace)), (A_t_sight, .inl (ty.1, 24, .inl t_sight)), (A_t_pad, .inl (ty.1, 60, .inl t_pad)), (A_t_now, .inl (ty.1, 8, .inl t_now)), (A_t_image, .inl (ty.1, 120, .inl t_image)), (A_t_isKept, .inl (ty.2.2.1, 2, .inl t_isKept))] H → va_D (va_A WC s.heap.size) [(A_t, .inr (9, [.int t_there, .int t_awake, .ref A_t_count, .ref A_t_pace, .int t_house, .int t_sharp, .int t_sights, .ref A_t_sight, .int t_signs, .ref A_t_pad, .int t_up, .ref A_t_now, .int t_reason, .int t_acts, .int t_breaths, .int t_zeroAt, .int t_noticedAt, .ref A_t_image, .ref A_t_isKept])), (A_t_count, .inl (ty.1, 8, .inl t_count)), (A_t_pace, .inl (ty.1, 8, .inl t_pace)), (A_t_sight, .inl (ty.1, 24, .inl t_sight)), (A_t_pad, .inl (ty.1, 60, .inl t_pad)), (A_t_now, .inl (ty.1, 8, .inl t_now)), (A_t_image, .inl (ty.1, 120, .inl t_image)), (A_t_isKept, .inl (ty.2.2.1, 2, .inl t_isKept))] → va_S (va_A WC s.heap.size) s.heap H locs → lv_has ls 4 [(0, .ref A_t), (1, .int a1), (2, .int v2), (3, .int v3)] → loopF (fun k q => bX10_image_19 k t_there t_awake t_house t_sharp t_sights t_count t_pace t_sight a1 q.1 q.2.1 q.2.2.1 q.2.2.2) n (v2, v3, t_image, t_isKept) = some q0 → WWi p l e rmX10_image s m [.ref A_t, .int a1] below meth c D WC [(A_t, .inr (9, [.int t_there, .int t_awake, .ref A_t_count, .ref A_t_pace, .int t_house, .int t_sharp, .int t_sights, .ref A_t_sight, .int t_signs, .ref A_t_pad, .int t_up, .ref A_t_now, .int t_reason, .int t_acts, .int t_breaths, .int t_zeroAt, .int t_noticedAt, .ref A_t_image, .ref A_t_isKept])), (A_t_count, .inl (ty.1, 8, .inl t_count)), (A_t_pace, .inl (ty.1, 8, .inl t_pace)), (A_t_sight, .inl (ty.1, 24, .inl t_sight)), (A_t_pad, .inl (ty.1, 60, .inl t_pad)), (A_t_now, .inl (ty.1, 8, .inl t_now)), (A_t_image, .inl (ty.1, 120, .inl q0.2.1)), (A_t_isKept, .inl (ty.2.2.1, 2, .inl q0.2.2))] q0.1 H locs (F0 m 19 ls []) := by
  obtain ⟨hx, hb, hr, hml, hown, hts, hlocks⟩ := id C
  intro n
  induction n with
  | zero =>
    intro v2 v3 t_image t_isKept H locs ls hP hD hS hl hf
    cases hf
  | succ n ih =>
    intro v2 v3 t_image t_isKept H locs ls hP hD hS hl hf
    have hf : bX10_image_19 (loopF (fun k q => bX10_image_19 k t_there t_awake t_house t_sharp t_sights t_count t_pace t_sight a1 q.1 q.2.1 q.2.2.1 q.2.2.2) n) t_there t_awake t_house t_sharp t_sights t_count t_pace t_sight a1 v2 v3 t_image t_isKept = some q0 := hf
    have hk19 := ih
    unfold bX10_image_19 at hf
    refine lv_iload_n hx hb dX10_image_19 rfl (lv_at hl 3 rfl) ?_
    refine lv_bipush (v := 8) hx hb dX10_image_20 (by decide) ?_
    refine lv_icmp_ge (tgt := 62) hx hb dX10_image_22 (by decide) (fun hc => ?_) (fun hc => ?_)
    · have hf := ft hf hc
      refine lv_iconst (v := 0) hx hb dX10_image_62 (by decide) ?_
      refine lv_istore_n (lv' := [(3, .int 0), (0, .ref A_t), (1, .int a1), (2, .int v2)]) hx hb dX10_image_63 rfl hl (by decide) rfl (fun ls hl => ?_)
      exact BX10_image_64 C hK  FU _ _ _ _ _ _ _ hP hD hS (lv_sub hl [1, 2, 3, 0] rfl) hf
    · have hf := ff hf hc
      refine lv_aload_n hx hb dX10_image_25 rfl (lv_at hl 0 rfl) ?_
      refine va_get (D := D) (ci := 9) (v := .ref A_t_image) (C := RX10) (T := TX10) (N := 19) hx hb hts wX10_image_X10 hown hK.1 hP 0 rfl rfl 17 (by decide) (hts _ mX10_image_f33) (fun _ h9 => h9) rfl dX10_image_26 ?_
      refine lv_iload_n hx hb dX10_image_29 rfl (lv_at hl 2 rfl) ?_
      refine lv_iload_n hx hb dX10_image_30 rfl (lv_at hl 3 rfl) ?_
      refine lv_iadd hx hb dX10_image_31 ?_
      refine lv_aload_n hx hb dX10_image_32 rfl (lv_at hl 0 rfl) ?_
      refine va_get (D := D) (ci := 9) (v := .ref A_t_count) (C := RX10) (T := TX10) (N := 19) hx hb hts wX10_image_X10 hown hK.1 hP 0 rfl rfl 2 (by decide) (hts _ mX10_image_f7) (fun _ h9 => h9) rfl dX10_image_33 ?_
      refine lv_iload_n hx hb dX10_image_36 rfl (lv_at hl 3 rfl) ?_
      obtain ⟨hin, hf⟩ := gIn_some hf
      refine va_iald hx hb hK.1 hP 1 0 rfl rfl hin dX10_image_37 ?_
      obtain ⟨hin, hf⟩ := gIn_some hf
      refine va_iast hx hb hK.1 hP hD hS 6 0 rfl rfl hin dX10_image_38 (fun H locs hP hD hS => ?_)
      have hP : va_P D vwCl [(A_t, .inr (9, [.int t_there, .int t_awake, .ref A_t_count, .ref A_t_pace, .int t_house, .int t_sharp, .int t_sights, .ref A_t_sight, .int t_signs, .ref A_t_pad, .int t_up, .ref A_t_now, .int t_reason, .int t_acts, .int t_breaths, .int t_zeroAt, .int t_noticedAt, .ref A_t_image, .ref A_t_isKept])), (A_t_count, .inl (ty.1, 8, .inl t_count)), (A_t_pace, .inl (ty.1, 8, .inl t_pace)), (A_t_sight, .inl (ty.1, 24, .inl t_sight)), (A_t_pad, .inl (ty.1, 60, .inl t_pad)), (A_t_now, .inl (ty.1, 8, .inl t_now)), (A_t_image, .inl (ty.1, 120, .inl (upd t_image (v2 + v3 : Int32).toNatClampNeg (t_count (v3 : Int32).toNatClampNeg)))), (A_t_isKept, .inl (ty.2.2.1, 2, .inl t_isKept))] H := hP
      have hD : va_D (va_A WC s.heap.size) [(A_t, .inr (9, [.int t_there, .int t_awake, .ref A_t_count, .ref A_t_pace, .int t_house, .int t_sharp, .int t_sights, .ref A_t_sight, .int t_signs, .ref A_t_pad, .int t_up, .ref A_t_now, .int t_reason, .int t_acts, .int t_breaths, .int t_zeroAt, .int t_noticedAt, .ref A_t_image, .ref A_t_isKept])), (A_t_count, .inl (ty.1, 8, .inl t_count)), (A_t_pace, .inl (ty.1, 8, .inl t_pace)), (A_t_sight, .inl (ty.1, 24, .inl t_sight)), (A_t_pad, .inl (ty.1, 60, .inl t_pad)), (A_t_now, .inl (ty.1, 8, .inl t_now)), (A_t_image, .inl (ty.1, 120, .inl (upd t_image (v2 + v3 : Int32).toNatClampNeg (t_count (v3 : Int32).toNatClampNeg)))), (A_t_isKept, .inl (ty.2.2.1, 2, .inl t_isKept))] := hD
      refine lv_aload_n hx hb dX10_image_39 rfl (lv_at hl 0 rfl) ?_
      refine va_get (D := D) (ci := 9) (v := .ref A_t_image) (C := RX10) (T := TX10) (N := 19) hx hb hts wX10_image_X10 hown hK.1 hP 0 rfl rfl 17 (by decide) (hts _ mX10_image_f33) (fun _ h9 => h9) rfl dX10_image_40 ?_
      refine lv_iload_n hx hb dX10_image_43 rfl (lv_at hl 2 rfl) ?_
      refine lv_bipush (v := 8) hx hb dX10_image_44 (by decide) ?_
      refine lv_iadd hx hb dX10_image_46 ?_
      refine lv_iload_n hx hb dX10_image_47 rfl (lv_at hl 3 rfl) ?_
      refine lv_iadd hx hb dX10_image_48 ?_
      refine lv_aload_n hx hb dX10_image_49 rfl (lv_at hl 0 rfl) ?_
      refine va_get (D := D) (ci := 9) (v := .ref A_t_pace) (C := RX10) (T := TX10) (N := 19) hx hb hts wX10_image_X10 hown hK.1 hP 0 rfl rfl 3 (by decide) (hts _ mX10_image_f13) (fun _ h9 => h9) rfl dX10_image_50 ?_
      refine lv_iload_n hx hb dX10_image_53 rfl (lv_at hl 3 rfl) ?_
      obtain ⟨hin, hf⟩ := gIn_some hf
      refine va_iald hx hb hK.1 hP 2 0 rfl rfl hin dX10_image_54 ?_
      obtain ⟨hin, hf⟩ := gIn_some hf
      refine va_iast hx hb hK.1 hP hD hS 6 0 rfl rfl hin dX10_image_55 (fun H locs hP hD hS => ?_)
      have hP : va_P D vwCl [(A_t, .inr (9, [.int t_there, .int t_awake, .ref A_t_count, .ref A_t_pace, .int t_house, .int t_sharp, .int t_sights, .ref A_t_sight, .int t_signs, .ref A_t_pad, .int t_up, .ref A_t_now, .int t_reason, .int t_acts, .int t_breaths, .int t_zeroAt, .int t_noticedAt, .ref A_t_image, .ref A_t_isKept])), (A_t_count, .inl (ty.1, 8, .inl t_count)), (A_t_pace, .inl (ty.1, 8, .inl t_pace)), (A_t_sight, .inl (ty.1, 24, .inl t_sight)), (A_t_pad, .inl (ty.1, 60, .inl t_pad)), (A_t_now, .inl (ty.1, 8, .inl t_now)), (A_t_image, .inl (ty.1, 120, .inl (upd (upd t_image (v2 + v3 : Int32).toNatClampNeg (t_count (v3 : Int32).toNatClampNeg)) ((v2 + 8) + v3 : Int32).toNatClampNeg (t_pace (v3 : Int32).toNatClampNeg)))), (A_t_isKept, .inl (ty.2.2.1, 2, .inl t_isKept))] H := hP
      have hD : va_D (va_A WC s.heap.size) [(A_t, .inr (9, [.int t_there, .int t_awake, .ref A_t_count, .ref A_t_pace, .int t_house, .int t_sharp, .int t_sights, .ref A_t_sight, .int t_signs, .ref A_t_pad, .int t_up, .ref A_t_now, .int t_reason, .int t_acts, .int t_breaths, .int t_zeroAt, .int t_noticedAt, .ref A_t_image, .ref A_t_isKept])), (A_t_count, .inl (ty.1, 8, .inl t_count)), (A_t_pace, .inl (ty.1, 8, .inl t_pace)), (A_t_sight, .inl (ty.1, 24, .inl t_sight)), (A_t_pad, .inl (ty.1, 60, .inl t_pad)), (A_t_now, .inl (ty.1, 8, .inl t_now)), (A_t_image, .inl (ty.1, 120, .inl (upd (upd t_image (v2 + v3 : Int32).toNatClampNeg (t_count (v3 : Int32).toNatClampNeg)) ((v2 + 8) + v3 : Int32).toNatClampNeg (t_pace (v3 : Int32).toNatClampNeg)))), (A_t_isKept, .inl (ty.2.2.1, 2, .inl t_isKept))] := hD
      refine lv_iinc (v := v3 + 1) (lv' := [(3, .int (v3 + 1)), (0, .ref A_t), (1, .int a1), (2, .int v2)]) hx hb dX10_image_56 hl (k := 3) rfl rfl (by decide) rfl (fun ls hl => ?_)
      refine lv_goto (tgt := 19) hx hb dX10_image_59 (by decide) ?_
      exact hk19 _ _ _ _ _ _ _ hP hD hS (lv_sub hl [1, 2, 3, 0] rfl) hf
def fX10_image (t_there : Int32) (t_awake : Int32) (t_house : Int32) (t_sharp : Int32) (t_sights : Int32) (t_count : Nat → Int32) (t_pace : Nat → Int32) (t_sight : Nat → Int32) (t_image : Nat → Int32) (t_isKept : Nat → Int32) (a1 : Int32) : Option (Int32 × (Nat → Int32) × (Nat → Int32)) :=
  (fX10_in a1 0 1).bind fun r3 => if r3 = 0 then some ((-2), t_image, t_isKept) else loopF (fun k q => bX10_image_19 k t_there t_awake t_house t_sharp t_sights t_count t_pace t_sight a1 q.1 q.2.1 q.2.2.1 q.2.2.2) FU (60 * a1, 0, t_image, t_isKept)
set_option maxRecDepth 100000 in
set_option maxHeartbeats 4000000 in
theorem CX10_image (l : Launch) {D : va_G} {ty : TY} {A_t A_t_count A_t_pace A_t_sight A_t_pad A_t_now A_t_image A_t_isKept : Nat} {t_there : Int32} {t_awake : Int32} {t_house : Int32} {t_sharp : Int32} {t_sights : Int32} {t_signs : Int32} {t_up : Int32} {t_reason : Int32} {t_acts : Int32} {t_breaths : Int32} {t_zeroAt : Int32} {t_noticedAt : Int32} {t_count : Nat → Int32} {t_pace : Nat → Int32} {t_sight : Nat → Int32} {t_pad : Nat → Int32} {t_now : Nat → Int32} {t_image : Nat → Int32} {t_isKept : Nat → Int32} {a1 : Int32} {q0 : Int32 × (Nat → Int32) × (Nat → Int32)} (hf : fX10_image t_there t_awake t_house t_sharp t_sights t_count t_pace t_sight t_image t_isKept a1 = some q0) : RWi l yX10_image wsX10_image rmX10_image D ty [.ref A_t, .int a1] [(A_t, .inr (9, [.int t_there, .int t_awake, .ref A_t_count, .ref A_t_pace, .int t_house, .int t_sharp, .int t_sights, .ref A_t_sight, .int t_signs, .ref A_t_pad, .int t_up, .ref A_t_now, .int t_reason, .int t_acts, .int t_breaths, .int t_zeroAt, .int t_noticedAt, .ref A_t_image, .ref A_t_isKept])), (A_t_count, .inl (ty.1, 8, .inl t_count)), (A_t_pace, .inl (ty.1, 8, .inl t_pace)), (A_t_sight, .inl (ty.1, 24, .inl t_sight)), (A_t_pad, .inl (ty.1, 60, .inl t_pad)), (A_t_now, .inl (ty.1, 8, .inl t_now)), (A_t_image, .inl (ty.1, 120, .inl t_image)), (A_t_isKept, .inl (ty.2.2.1, 2, .inl t_isKept))] q0.1 [(A_t, .inr (9, [.int t_there, .int t_awake, .ref A_t_count, .ref A_t_pace, .int t_house, .int t_sharp, .int t_sights, .ref A_t_sight, .int t_signs, .ref A_t_pad, .int t_up, .ref A_t_now, .int t_reason, .int t_acts, .int t_breaths, .int t_zeroAt, .int t_noticedAt, .ref A_t_image, .ref A_t_isKept])), (A_t_count, .inl (ty.1, 8, .inl t_count)), (A_t_pace, .inl (ty.1, 8, .inl t_pace)), (A_t_sight, .inl (ty.1, 24, .inl t_sight)), (A_t_pad, .inl (ty.1, 60, .inl t_pad)), (A_t_now, .inl (ty.1, 8, .inl t_now)), (A_t_image, .inl (ty.1, 120, .inl q0.2.1)), (A_t_isKept, .inl (ty.2.2.1, 2, .inl q0.2.2))] := by
  refine RWi.start (cc := cX10_image) (maxL := 4) (ret := (some .int)) (own := RX10) (by decide) rfl rfl (Nat.le_of_ble_eq_true rfl) ?_
  intro p e s m below meth c ls C hK hP hD hS hl
  obtain ⟨WC, hWC⟩ : ∃ w : va_W, w = [(A_t, .inr (9, [.int t_there, .int t_awake, .ref A_t_count, .ref A_t_pace, .int t_house, .int t_sharp, .int t_sights, .ref A_t_sight, .int t_signs, .ref A_t_pad, .int t_up, .ref A_t_now, .int t_reason, .int t_acts, .int t_breaths, .int t_zeroAt, .int t_noticedAt, .ref A_t_image, .ref A_t_isKept])), (A_t_count, .inl (ty.1, 8, .inl t_count)), (A_t_pace, .inl (ty.1, 8, .inl t_pace)), (A_t_sight, .inl (ty.1, 24, .inl t_sight)), (A_t_pad, .inl (ty.1, 60, .inl t_pad)), (A_t_now, .inl (ty.1, 8, .inl t_now)), (A_t_image, .inl (ty.1, 120, .inl t_image)), (A_t_isKept, .inl (ty.2.2.1, 2, .inl t_isKept))] := ⟨_, rfl⟩
  rw [← hWC] at hD hS ⊢
  have hD : va_D (va_A WC s.heap.size) [(A_t, .inr (9, [.int t_there, .int t_awake, .ref A_t_count, .ref A_t_pace, .int t_house, .int t_sharp, .int t_sights, .ref A_t_sight, .int t_signs, .ref A_t_pad, .int t_up, .ref A_t_now, .int t_reason, .int t_acts, .int t_breaths, .int t_zeroAt, .int t_noticedAt, .ref A_t_image, .ref A_t_isKept])), (A_t_count, .inl (ty.1, 8, .inl t_count)), (A_t_pace, .inl (ty.1, 8, .inl t_pace)), (A_t_sight, .inl (ty.1, 24, .inl t_sight)), (A_t_pad, .inl (ty.1, 60, .inl t_pad)), (A_t_now, .inl (ty.1, 8, .inl t_now)), (A_t_image, .inl (ty.1, 120, .inl t_image)), (A_t_isKept, .inl (ty.2.2.1, 2, .inl t_isKept))] := by rw [← hWC]; exact hD
  obtain ⟨hx, hb, hr, hml, hown, hts, hlocks⟩ := id C
  have hl : lv_has ls 4 [(0, .ref A_t), (1, .int a1)] := hl
  unfold fX10_image at hf
  refine lv_iload_n hx hb dX10_image_0 rfl (lv_at hl 1 rfl) ?_
  refine lv_iconst (v := 0) hx hb dX10_image_1 (by decide) ?_
  refine lv_iconst (v := 1) hx hb dX10_image_2 (by decide) ?_
  obtain ⟨r3, hr3, hf⟩ := bnd hf
  have hPc : va_P D vwCl [] _ := hP.sub [] rfl
  refine callS_ri (As := [.int a1, .int 0, .int 1]) (rest := []) ⟨hx, hb, hml, hown, hts⟩ (CX10_in l hr3) (va_cwS 3 hts gX10_image_X10_in rfl rfl rfl kkX10_in.2 ⟨Nat.le_of_ble_eq_true rfl, Nat.le_of_ble_eq_true rfl⟩) hK hPc hl.1 rfl (Nat.le_of_ble_eq_true rfl) dX10_image_3 ⟨Nat.zero_le _, Nat.zero_le _⟩ ?_
  refine lv_if_ne (tgt := 12) hx hb dX10_image_6 (by decide) (fun hc => ?_) (fun hc => ?_)
  · have hf := ff hf hc
    refine lv_bipush (v := 60) hx hb dX10_image_12 (by decide) ?_
    refine lv_iload_n hx hb dX10_image_14 rfl (lv_at hl 1 rfl) ?_
    refine lv_imul hx hb dX10_image_15 ?_
    refine lv_istore_n (lv' := [(2, .int (60 * a1)), (0, .ref A_t), (1, .int a1)]) hx hb dX10_image_16 rfl hl (by decide) rfl (fun ls hl => ?_)
    refine lv_iconst (v := 0) hx hb dX10_image_17 (by decide) ?_
    refine lv_istore_n (lv' := [(3, .int 0), (2, .int (60 * a1)), (0, .ref A_t), (1, .int a1)]) hx hb dX10_image_18 rfl hl (by decide) rfl (fun ls hl => ?_)
    exact BX10_image_19 C hK  FU _ _ _ _ _ _ _ hP hD hS (lv_sub hl [2, 3, 1, 0] rfl) hf
  · have hf := ft hf hc
    refine lv_bipush (v := (-2)) hx hb dX10_image_9 (by decide) ?_
    cases hf
    exact ret_wi hx hb hr hlocks hP hD hS dX10_image_11
