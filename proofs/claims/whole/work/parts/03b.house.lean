/-! ===== SilenceCount$House.copyFrom(LSilenceCount$House;)V ===== -/
abbrev rmX2_copyFrom : Room := { frames := 1, cells := 0, slots := 0, locals := 18 }
theorem kkX2_copyFrom : yX2_copyFrom.cls = RX2 ∧ yX2_copyFrom.cls ≠ "java/lang/invoke/MethodHandle" ∧ yX2_copyFrom.cls ≠ "java/lang/invoke/VarHandle" ∧ (parseMethodDescriptor yX2_copyFrom.desc).map (fun d => d.parameters.length) = some 1 := by decide +kernel
theorem mX2_copyFrom_f26 : Cond.fieldLink RX2 26 "SilenceCount$House" "there" "I" ∈ wsX2_copyFrom := by decide +kernel
theorem mX2_copyFrom_f29 : Cond.fieldLink RX2 29 "SilenceCount$House" "awake" "I" ∈ wsX2_copyFrom := by decide +kernel
theorem mX2_copyFrom_f10 : Cond.fieldLink RX2 10 "SilenceCount$House" "start" "I" ∈ wsX2_copyFrom := by decide +kernel
theorem mX2_copyFrom_f16 : Cond.fieldLink RX2 16 "SilenceCount$House" "sharp" "I" ∈ wsX2_copyFrom := by decide +kernel
theorem mX2_copyFrom_f19 : Cond.fieldLink RX2 19 "SilenceCount$House" "counts" "[I" ∈ wsX2_copyFrom := by decide +kernel
theorem mX2_copyFrom_c32 : Cond.methodLink RX2 32 arraycopyName ∈ wsX2_copyFrom := by decide +kernel
theorem mX2_copyFrom_nac : Cond.native arraycopyName ∈ wsX2_copyFrom := by decide +kernel
theorem mX2_copyFrom_sac : Cond.static arraycopyName ∈ wsX2_copyFrom := by decide +kernel
theorem mX2_copyFrom_iSys : Cond.initialized "java/lang/System" ∈ wsX2_copyFrom := by decide +kernel
theorem mX2_copyFrom_f23 : Cond.fieldLink RX2 23 "SilenceCount$House" "paces" "[I" ∈ wsX2_copyFrom := by decide +kernel
theorem wX2_copyFrom_X2 : ∀ w ∈ u_ws RX2 TX2 6, w ∈ wsX2_copyFrom := by decide +kernel
def fX2_copyFrom (t_there : Int32) (t_awake : Int32) (t_start : Int32) (t_sharp : Int32) (t_counts : Nat → Int32) (t_paces : Nat → Int32) (p1_there : Int32) (p1_awake : Int32) (p1_start : Int32) (p1_sharp : Int32) (p1_counts : Nat → Int32) (p1_paces : Nat → Int32) : Option (Int32 × Int32 × Int32 × Int32 × (Nat → Int32) × (Nat → Int32)) :=
  some (p1_there, p1_awake, p1_start, p1_sharp, va_cpy p1_counts t_counts 0 0 8, va_cpy p1_paces t_paces 0 0 8)
set_option maxRecDepth 100000 in
set_option maxHeartbeats 4000000 in
theorem CX2_copyFrom (l : Launch) {D : va_G} {ty : TY} {A_t A_t_counts A_t_paces A_p1 A_p1_counts A_p1_paces : Nat} {t_there : Int32} {t_awake : Int32} {t_start : Int32} {t_sharp : Int32} {t_counts : Nat → Int32} {t_paces : Nat → Int32} {p1_there : Int32} {p1_awake : Int32} {p1_start : Int32} {p1_sharp : Int32} {p1_counts : Nat → Int32} {p1_paces : Nat → Int32} {q0 : Int32 × Int32 × Int32 × Int32 × (Nat → Int32) × (Nat → Int32)} (hf : fX2_copyFrom t_there t_awake t_start t_sharp t_counts t_paces p1_there p1_awake p1_start p1_sharp p1_counts p1_paces = some q0) : RWv l yX2_copyFrom wsX2_copyFrom rmX2_copyFrom D ty [.ref A_t, .ref A_p1] [(A_t, .inr (1, [.int t_there, .int t_awake, .int t_start, .int t_sharp, .ref A_t_counts, .ref A_t_paces])), (A_t_counts, .inl (ty.1, 8, .inl t_counts)), (A_t_paces, .inl (ty.1, 8, .inl t_paces)), (A_p1, .inr (1, [.int p1_there, .int p1_awake, .int p1_start, .int p1_sharp, .ref A_p1_counts, .ref A_p1_paces])), (A_p1_counts, .inl (ty.1, 8, .inl p1_counts)), (A_p1_paces, .inl (ty.1, 8, .inl p1_paces))] [(A_t, .inr (1, [.int q0.1, .int q0.2.1, .int q0.2.2.1, .int q0.2.2.2.1, .ref A_t_counts, .ref A_t_paces])), (A_t_counts, .inl (ty.1, 8, .inl q0.2.2.2.2.1)), (A_t_paces, .inl (ty.1, 8, .inl q0.2.2.2.2.2)), (A_p1, .inr (1, [.int p1_there, .int p1_awake, .int p1_start, .int p1_sharp, .ref A_p1_counts, .ref A_p1_paces])), (A_p1_counts, .inl (ty.1, 8, .inl p1_counts)), (A_p1_paces, .inl (ty.1, 8, .inl p1_paces))] := by
  refine RWv.start (cc := cX2_copyFrom) (maxL := 2) (ret := none) (own := RX2) (by decide) rfl rfl (Nat.le_of_ble_eq_true rfl) ?_
  intro p e s m below meth c ls C hK hP hD hS hl
  obtain ⟨WC, hWC⟩ : ∃ w : va_W, w = [(A_t, .inr (1, [.int t_there, .int t_awake, .int t_start, .int t_sharp, .ref A_t_counts, .ref A_t_paces])), (A_t_counts, .inl (ty.1, 8, .inl t_counts)), (A_t_paces, .inl (ty.1, 8, .inl t_paces)), (A_p1, .inr (1, [.int p1_there, .int p1_awake, .int p1_start, .int p1_sharp, .ref A_p1_counts, .ref A_p1_paces])), (A_p1_counts, .inl (ty.1, 8, .inl p1_counts)), (A_p1_paces, .inl (ty.1, 8, .inl p1_paces))] := ⟨_, rfl⟩
  rw [← hWC] at hD hS ⊢
  have hD : va_D (va_A WC s.heap.size) [(A_t, .inr (1, [.int t_there, .int t_awake, .int t_start, .int t_sharp, .ref A_t_counts, .ref A_t_paces])), (A_t_counts, .inl (ty.1, 8, .inl t_counts)), (A_t_paces, .inl (ty.1, 8, .inl t_paces)), (A_p1, .inr (1, [.int p1_there, .int p1_awake, .int p1_start, .int p1_sharp, .ref A_p1_counts, .ref A_p1_paces])), (A_p1_counts, .inl (ty.1, 8, .inl p1_counts)), (A_p1_paces, .inl (ty.1, 8, .inl p1_paces))] := by rw [← hWC]; exact hD
  obtain ⟨hx, hb, hr, hml, hown, hts, hlocks⟩ := id C
  have hl : lv_has ls 2 [(0, .ref A_t), (1, .ref A_p1)] := hl
  unfold fX2_copyFrom at hf
  refine lv_aload_n hx hb dX2_copyFrom_0 rfl (lv_at hl 0 rfl) ?_
  refine lv_aload_n hx hb dX2_copyFrom_1 rfl (lv_at hl 1 rfl) ?_
  refine va_get (D := D) (ci := 1) (v := .int p1_there) (C := RX2) (T := TX2) (N := 6) hx hb hts wX2_copyFrom_X2 hown hK.1 hP 3 rfl rfl 0 (by decide) (hts _ mX2_copyFrom_f26) (fun _ h9 => h9) rfl dX2_copyFrom_2 ?_
  refine va_put (D := D) (ci := 1) (v := .int p1_there) (ty := .int) (C := RX2) (T := TX2) (N := 6) hx hb hts wX2_copyFrom_X2 tyX2 tyX2_ok nmX2 hown hK.1 hP hD hS 0 rfl rfl 0 (by decide) (hts _ mX2_copyFrom_f26) (fun _ h9 => h9) rfl (by decide +kernel) rfl rfl (Nat.le_of_ble_eq_true rfl) dX2_copyFrom_5 (fun H locs hP hD hS => ?_)
  have hP : va_P D vwCl [(A_t, .inr (1, [.int p1_there, .int t_awake, .int t_start, .int t_sharp, .ref A_t_counts, .ref A_t_paces])), (A_t_counts, .inl (ty.1, 8, .inl t_counts)), (A_t_paces, .inl (ty.1, 8, .inl t_paces)), (A_p1, .inr (1, [.int p1_there, .int p1_awake, .int p1_start, .int p1_sharp, .ref A_p1_counts, .ref A_p1_paces])), (A_p1_counts, .inl (ty.1, 8, .inl p1_counts)), (A_p1_paces, .inl (ty.1, 8, .inl p1_paces))] H := hP
  have hD : va_D (va_A WC s.heap.size) [(A_t, .inr (1, [.int p1_there, .int t_awake, .int t_start, .int t_sharp, .ref A_t_counts, .ref A_t_paces])), (A_t_counts, .inl (ty.1, 8, .inl t_counts)), (A_t_paces, .inl (ty.1, 8, .inl t_paces)), (A_p1, .inr (1, [.int p1_there, .int p1_awake, .int p1_start, .int p1_sharp, .ref A_p1_counts, .ref A_p1_paces])), (A_p1_counts, .inl (ty.1, 8, .inl p1_counts)), (A_p1_paces, .inl (ty.1, 8, .inl p1_paces))] := hD
  refine lv_aload_n hx hb dX2_copyFrom_8 rfl (lv_at hl 0 rfl) ?_
  refine lv_aload_n hx hb dX2_copyFrom_9 rfl (lv_at hl 1 rfl) ?_
  refine va_get (D := D) (ci := 1) (v := .int p1_awake) (C := RX2) (T := TX2) (N := 6) hx hb hts wX2_copyFrom_X2 hown hK.1 hP 3 rfl rfl 1 (by decide) (hts _ mX2_copyFrom_f29) (fun _ h9 => h9) rfl dX2_copyFrom_10 ?_
  refine va_put (D := D) (ci := 1) (v := .int p1_awake) (ty := .int) (C := RX2) (T := TX2) (N := 6) hx hb hts wX2_copyFrom_X2 tyX2 tyX2_ok nmX2 hown hK.1 hP hD hS 0 rfl rfl 1 (by decide) (hts _ mX2_copyFrom_f29) (fun _ h9 => h9) rfl (by decide +kernel) rfl rfl (Nat.le_of_ble_eq_true rfl) dX2_copyFrom_13 (fun H locs hP hD hS => ?_)
  have hP : va_P D vwCl [(A_t, .inr (1, [.int p1_there, .int p1_awake, .int t_start, .int t_sharp, .ref A_t_counts, .ref A_t_paces])), (A_t_counts, .inl (ty.1, 8, .inl t_counts)), (A_t_paces, .inl (ty.1, 8, .inl t_paces)), (A_p1, .inr (1, [.int p1_there, .int p1_awake, .int p1_start, .int p1_sharp, .ref A_p1_counts, .ref A_p1_paces])), (A_p1_counts, .inl (ty.1, 8, .inl p1_counts)), (A_p1_paces, .inl (ty.1, 8, .inl p1_paces))] H := hP
  have hD : va_D (va_A WC s.heap.size) [(A_t, .inr (1, [.int p1_there, .int p1_awake, .int t_start, .int t_sharp, .ref A_t_counts, .ref A_t_paces])), (A_t_counts, .inl (ty.1, 8, .inl t_counts)), (A_t_paces, .inl (ty.1, 8, .inl t_paces)), (A_p1, .inr (1, [.int p1_there, .int p1_awake, .int p1_start, .int p1_sharp, .ref A_p1_counts, .ref A_p1_paces])), (A_p1_counts, .inl (ty.1, 8, .inl p1_counts)), (A_p1_paces, .inl (ty.1, 8, .inl p1_paces))] := hD
  refine lv_aload_n hx hb dX2_copyFrom_16 rfl (lv_at hl 0 rfl) ?_
  refine lv_aload_n hx hb dX2_copyFrom_17 rfl (lv_at hl 1 rfl) ?_
  refine va_get (D := D) (ci := 1) (v := .int p1_start) (C := RX2) (T := TX2) (N := 6) hx hb hts wX2_copyFrom_X2 hown hK.1 hP 3 rfl rfl 2 (by decide) (hts _ mX2_copyFrom_f10) (fun _ h9 => h9) rfl dX2_copyFrom_18 ?_
  refine va_put (D := D) (ci := 1) (v := .int p1_start) (ty := .int) (C := RX2) (T := TX2) (N := 6) hx hb hts wX2_copyFrom_X2 tyX2 tyX2_ok nmX2 hown hK.1 hP hD hS 0 rfl rfl 2 (by decide) (hts _ mX2_copyFrom_f10) (fun _ h9 => h9) rfl (by decide +kernel) rfl rfl (Nat.le_of_ble_eq_true rfl) dX2_copyFrom_21 (fun H locs hP hD hS => ?_)
  have hP : va_P D vwCl [(A_t, .inr (1, [.int p1_there, .int p1_awake, .int p1_start, .int t_sharp, .ref A_t_counts, .ref A_t_paces])), (A_t_counts, .inl (ty.1, 8, .inl t_counts)), (A_t_paces, .inl (ty.1, 8, .inl t_paces)), (A_p1, .inr (1, [.int p1_there, .int p1_awake, .int p1_start, .int p1_sharp, .ref A_p1_counts, .ref A_p1_paces])), (A_p1_counts, .inl (ty.1, 8, .inl p1_counts)), (A_p1_paces, .inl (ty.1, 8, .inl p1_paces))] H := hP
  have hD : va_D (va_A WC s.heap.size) [(A_t, .inr (1, [.int p1_there, .int p1_awake, .int p1_start, .int t_sharp, .ref A_t_counts, .ref A_t_paces])), (A_t_counts, .inl (ty.1, 8, .inl t_counts)), (A_t_paces, .inl (ty.1, 8, .inl t_paces)), (A_p1, .inr (1, [.int p1_there, .int p1_awake, .int p1_start, .int p1_sharp, .ref A_p1_counts, .ref A_p1_paces])), (A_p1_counts, .inl (ty.1, 8, .inl p1_counts)), (A_p1_paces, .inl (ty.1, 8, .inl p1_paces))] := hD
  refine lv_aload_n hx hb dX2_copyFrom_24 rfl (lv_at hl 0 rfl) ?_
  refine lv_aload_n hx hb dX2_copyFrom_25 rfl (lv_at hl 1 rfl) ?_
  refine va_get (D := D) (ci := 1) (v := .int p1_sharp) (C := RX2) (T := TX2) (N := 6) hx hb hts wX2_copyFrom_X2 hown hK.1 hP 3 rfl rfl 3 (by decide) (hts _ mX2_copyFrom_f16) (fun _ h9 => h9) rfl dX2_copyFrom_26 ?_
  refine va_put (D := D) (ci := 1) (v := .int p1_sharp) (ty := .int) (C := RX2) (T := TX2) (N := 6) hx hb hts wX2_copyFrom_X2 tyX2 tyX2_ok nmX2 hown hK.1 hP hD hS 0 rfl rfl 3 (by decide) (hts _ mX2_copyFrom_f16) (fun _ h9 => h9) rfl (by decide +kernel) rfl rfl (Nat.le_of_ble_eq_true rfl) dX2_copyFrom_29 (fun H locs hP hD hS => ?_)
  have hP : va_P D vwCl [(A_t, .inr (1, [.int p1_there, .int p1_awake, .int p1_start, .int p1_sharp, .ref A_t_counts, .ref A_t_paces])), (A_t_counts, .inl (ty.1, 8, .inl t_counts)), (A_t_paces, .inl (ty.1, 8, .inl t_paces)), (A_p1, .inr (1, [.int p1_there, .int p1_awake, .int p1_start, .int p1_sharp, .ref A_p1_counts, .ref A_p1_paces])), (A_p1_counts, .inl (ty.1, 8, .inl p1_counts)), (A_p1_paces, .inl (ty.1, 8, .inl p1_paces))] H := hP
  have hD : va_D (va_A WC s.heap.size) [(A_t, .inr (1, [.int p1_there, .int p1_awake, .int p1_start, .int p1_sharp, .ref A_t_counts, .ref A_t_paces])), (A_t_counts, .inl (ty.1, 8, .inl t_counts)), (A_t_paces, .inl (ty.1, 8, .inl t_paces)), (A_p1, .inr (1, [.int p1_there, .int p1_awake, .int p1_start, .int p1_sharp, .ref A_p1_counts, .ref A_p1_paces])), (A_p1_counts, .inl (ty.1, 8, .inl p1_counts)), (A_p1_paces, .inl (ty.1, 8, .inl p1_paces))] := hD
  refine lv_aload_n hx hb dX2_copyFrom_32 rfl (lv_at hl 1 rfl) ?_
  refine va_get (D := D) (ci := 1) (v := .ref A_p1_counts) (C := RX2) (T := TX2) (N := 6) hx hb hts wX2_copyFrom_X2 hown hK.1 hP 3 rfl rfl 4 (by decide) (hts _ mX2_copyFrom_f19) (fun _ h9 => h9) rfl dX2_copyFrom_33 ?_
  refine lv_iconst (v := 0) hx hb dX2_copyFrom_36 (by decide) ?_
  refine lv_aload_n hx hb dX2_copyFrom_37 rfl (lv_at hl 0 rfl) ?_
  refine va_get (D := D) (ci := 1) (v := .ref A_t_counts) (C := RX2) (T := TX2) (N := 6) hx hb hts wX2_copyFrom_X2 hown hK.1 hP 0 rfl rfl 4 (by decide) (hts _ mX2_copyFrom_f19) (fun _ h9 => h9) rfl dX2_copyFrom_38 ?_
  refine lv_iconst (v := 0) hx hb dX2_copyFrom_41 (by decide) ?_
  refine lv_bipush (v := 8) hx hb dX2_copyFrom_42 (by decide) ?_
  refine va_copyi (ty := .int) (sp := 0) (dp := 0) (n := 8) hx hb (hml.trans hl.1.symm) hown (hts _ mX2_copyFrom_c32) (hts _ mX2_copyFrom_nac) (hts _ mX2_copyFrom_sac) (hts _ mX2_copyFrom_iSys) hK.1 hP hD hS 4 1 0 0 rfl rfl rfl rfl rfl (by decide) (by decide) (by decide) (by decide) (by decide) (fun _ _ => rfl) (Nat.le_of_ble_eq_true rfl) (Nat.le_of_ble_eq_true rfl) dX2_copyFrom_44 (fun H locs hP hD hS => ?_)
  have hP : va_P D vwCl [(A_t, .inr (1, [.int p1_there, .int p1_awake, .int p1_start, .int p1_sharp, .ref A_t_counts, .ref A_t_paces])), (A_t_counts, .inl (ty.1, 8, .inl (va_cpy p1_counts t_counts 0 0 8))), (A_t_paces, .inl (ty.1, 8, .inl t_paces)), (A_p1, .inr (1, [.int p1_there, .int p1_awake, .int p1_start, .int p1_sharp, .ref A_p1_counts, .ref A_p1_paces])), (A_p1_counts, .inl (ty.1, 8, .inl p1_counts)), (A_p1_paces, .inl (ty.1, 8, .inl p1_paces))] H := hP
  have hD : va_D (va_A WC s.heap.size) [(A_t, .inr (1, [.int p1_there, .int p1_awake, .int p1_start, .int p1_sharp, .ref A_t_counts, .ref A_t_paces])), (A_t_counts, .inl (ty.1, 8, .inl (va_cpy p1_counts t_counts 0 0 8))), (A_t_paces, .inl (ty.1, 8, .inl t_paces)), (A_p1, .inr (1, [.int p1_there, .int p1_awake, .int p1_start, .int p1_sharp, .ref A_p1_counts, .ref A_p1_paces])), (A_p1_counts, .inl (ty.1, 8, .inl p1_counts)), (A_p1_paces, .inl (ty.1, 8, .inl p1_paces))] := hD
  refine lv_aload_n hx hb dX2_copyFrom_47 rfl (lv_at hl 1 rfl) ?_
  refine va_get (D := D) (ci := 1) (v := .ref A_p1_paces) (C := RX2) (T := TX2) (N := 6) hx hb hts wX2_copyFrom_X2 hown hK.1 hP 3 rfl rfl 5 (by decide) (hts _ mX2_copyFrom_f23) (fun _ h9 => h9) rfl dX2_copyFrom_48 ?_
  refine lv_iconst (v := 0) hx hb dX2_copyFrom_51 (by decide) ?_
  refine lv_aload_n hx hb dX2_copyFrom_52 rfl (lv_at hl 0 rfl) ?_
  refine va_get (D := D) (ci := 1) (v := .ref A_t_paces) (C := RX2) (T := TX2) (N := 6) hx hb hts wX2_copyFrom_X2 hown hK.1 hP 0 rfl rfl 5 (by decide) (hts _ mX2_copyFrom_f23) (fun _ h9 => h9) rfl dX2_copyFrom_53 ?_
  refine lv_iconst (v := 0) hx hb dX2_copyFrom_56 (by decide) ?_
  refine lv_bipush (v := 8) hx hb dX2_copyFrom_57 (by decide) ?_
  refine va_copyi (ty := .int) (sp := 0) (dp := 0) (n := 8) hx hb (hml.trans hl.1.symm) hown (hts _ mX2_copyFrom_c32) (hts _ mX2_copyFrom_nac) (hts _ mX2_copyFrom_sac) (hts _ mX2_copyFrom_iSys) hK.1 hP hD hS 5 2 0 0 rfl rfl rfl rfl rfl (by decide) (by decide) (by decide) (by decide) (by decide) (fun _ _ => rfl) (Nat.le_of_ble_eq_true rfl) (Nat.le_of_ble_eq_true rfl) dX2_copyFrom_59 (fun H locs hP hD hS => ?_)
  have hP : va_P D vwCl [(A_t, .inr (1, [.int p1_there, .int p1_awake, .int p1_start, .int p1_sharp, .ref A_t_counts, .ref A_t_paces])), (A_t_counts, .inl (ty.1, 8, .inl (va_cpy p1_counts t_counts 0 0 8))), (A_t_paces, .inl (ty.1, 8, .inl (va_cpy p1_paces t_paces 0 0 8))), (A_p1, .inr (1, [.int p1_there, .int p1_awake, .int p1_start, .int p1_sharp, .ref A_p1_counts, .ref A_p1_paces])), (A_p1_counts, .inl (ty.1, 8, .inl p1_counts)), (A_p1_paces, .inl (ty.1, 8, .inl p1_paces))] H := hP
  have hD : va_D (va_A WC s.heap.size) [(A_t, .inr (1, [.int p1_there, .int p1_awake, .int p1_start, .int p1_sharp, .ref A_t_counts, .ref A_t_paces])), (A_t_counts, .inl (ty.1, 8, .inl (va_cpy p1_counts t_counts 0 0 8))), (A_t_paces, .inl (ty.1, 8, .inl (va_cpy p1_paces t_paces 0 0 8))), (A_p1, .inr (1, [.int p1_there, .int p1_awake, .int p1_start, .int p1_sharp, .ref A_p1_counts, .ref A_p1_paces])), (A_p1_counts, .inl (ty.1, 8, .inl p1_counts)), (A_p1_paces, .inl (ty.1, 8, .inl p1_paces))] := hD
  cases hf
  exact ret_wv hx hb hr hlocks hP hD hS dX2_copyFrom_62
/-! ===== SilenceCount$House.isThere(I)Z ===== -/
abbrev rmX2_isThere : Room := { frames := 0, cells := 0, slots := 0, locals := 0 }
theorem kkX2_isThere : yX2_isThere.cls = RX2 ∧ yX2_isThere.cls ≠ "java/lang/invoke/MethodHandle" ∧ yX2_isThere.cls ≠ "java/lang/invoke/VarHandle" ∧ (parseMethodDescriptor yX2_isThere.desc).map (fun d => d.parameters.length) = some 1 := by decide +kernel
theorem mX2_isThere_f26 : Cond.fieldLink RX2 26 "SilenceCount$House" "there" "I" ∈ wsX2_isThere := by decide +kernel
theorem wX2_isThere_X2 : ∀ w ∈ u_ws RX2 TX2 6, w ∈ wsX2_isThere := by decide +kernel
def fX2_isThere (t_there : Int32) (a1 : Int32) : Option (Int32) :=
  if a1 < 0 then some 0 else if 8 ≤ a1 then some 0 else if (t_there &&& (1 <<< (a1 &&& 31))) = 0 then some 0 else some 1
set_option maxRecDepth 100000 in
set_option maxHeartbeats 4000000 in
theorem CX2_isThere (l : Launch) {D : va_G} {ty : TY} {A_t A_t_counts A_t_paces : Nat} {t_there : Int32} {t_awake : Int32} {t_start : Int32} {t_sharp : Int32} {t_counts : Nat → Int32} {t_paces : Nat → Int32} {a1 : Int32} {q0 : Int32} (hf : fX2_isThere t_there a1 = some q0) : ROi l yX2_isThere wsX2_isThere rmX2_isThere D ty [.ref A_t, .int a1] [(A_t, .inr (1, [.int t_there, .int t_awake, .int t_start, .int t_sharp, .ref A_t_counts, .ref A_t_paces])), (A_t_counts, .inl (ty.1, 8, .inl t_counts)), (A_t_paces, .inl (ty.1, 8, .inl t_paces))] q0 := by
  refine ROi.start (cc := cX2_isThere) (maxL := 2) (ret := (some .boolean)) (own := RX2) (by decide) rfl rfl (Nat.le_of_ble_eq_true rfl) ?_
  intro p e s m below meth c ls C hK hP hl
  obtain ⟨hx, hb, hr, hml, hown, hts, hlocks⟩ := id C
  have hl : lv_has ls 2 [(0, .ref A_t), (1, .int a1)] := hl
  unfold fX2_isThere at hf
  refine lv_iload_n hx hb dX2_isThere_0 rfl (lv_at hl 1 rfl) ?_
  refine lv_if_lt (tgt := 25) hx hb dX2_isThere_1 (by decide) (fun hc => ?_) (fun hc => ?_)
  · have hf := ft hf hc
    refine lv_iconst (v := 0) hx hb dX2_isThere_25 (by decide) ?_
    exact ret_rz hx hb hr hlocks (Or.inl rfl) hf dX2_isThere_26
  · have hf := ff hf hc
    refine lv_iload_n hx hb dX2_isThere_4 rfl (lv_at hl 1 rfl) ?_
    refine lv_bipush (v := 8) hx hb dX2_isThere_5 (by decide) ?_
    refine lv_icmp_ge (tgt := 25) hx hb dX2_isThere_7 (by decide) (fun hc => ?_) (fun hc => ?_)
    · have hf := ft hf hc
      refine lv_iconst (v := 0) hx hb dX2_isThere_25 (by decide) ?_
      exact ret_rz hx hb hr hlocks (Or.inl rfl) hf dX2_isThere_26
    · have hf := ff hf hc
      refine lv_aload_n hx hb dX2_isThere_10 rfl (lv_at hl 0 rfl) ?_
      refine va_get (D := D) (ci := 1) (v := .int t_there) (C := RX2) (T := TX2) (N := 6) hx hb hts wX2_isThere_X2 hown hK.1 hP 0 rfl rfl 0 (by decide) (hts _ mX2_isThere_f26) (fun _ h9 => h9) rfl dX2_isThere_11 ?_
      refine lv_iconst (v := 1) hx hb dX2_isThere_14 (by decide) ?_
      refine lv_iload_n hx hb dX2_isThere_15 rfl (lv_at hl 1 rfl) ?_
      refine lv_ishl hx hb dX2_isThere_16 ?_
      refine lv_iand hx hb dX2_isThere_17 ?_
      refine lv_if_eq (tgt := 25) hx hb dX2_isThere_18 (by decide) (fun hc => ?_) (fun hc => ?_)
      · have hf := ft hf hc
        refine lv_iconst (v := 0) hx hb dX2_isThere_25 (by decide) ?_
        exact ret_rz hx hb hr hlocks (Or.inl rfl) hf dX2_isThere_26
      · have hf := ff hf hc
        refine lv_iconst (v := 1) hx hb dX2_isThere_21 (by decide) ?_
        refine lv_goto (tgt := 26) hx hb dX2_isThere_22 (by decide) ?_
        exact ret_rz hx hb hr hlocks (Or.inr rfl) hf dX2_isThere_26
/-! ===== SilenceCount$House.atNought()I ===== -/
abbrev rmX2_atNought : Room := { frames := 1, cells := 0, slots := 0, locals := 21 }
theorem kkX2_atNought : yX2_atNought.cls = RX2 ∧ yX2_atNought.cls ≠ "java/lang/invoke/MethodHandle" ∧ yX2_atNought.cls ≠ "java/lang/invoke/VarHandle" ∧ (parseMethodDescriptor yX2_atNought.desc).map (fun d => d.parameters.length) = some 0 := by decide +kernel
theorem mX2_atNought_f19 : Cond.fieldLink RX2 19 "SilenceCount$House" "counts" "[I" ∈ wsX2_atNought := by decide +kernel
theorem wX2_atNought_X2 : ∀ w ∈ u_ws RX2 TX2 6, w ∈ wsX2_atNought := by decide +kernel
def bX2_atNought_4 (k4 : Int32 × Int32 → Option (Int32)) (t_there : Int32) (t_counts : Nat → Int32) (v1 : Int32) (v2 : Int32) : Option (Int32) :=
  if 8 ≤ v2 then some v1 else (fX2_isThere t_there v2).bind fun r12 => if r12 = 0 then k4 (v1, v2 + 1) else gIn v2 8 (if (t_counts (v2 : Int32).toNatClampNeg) = 0 then k4 (v1 ||| (1 <<< (v2 &&& 31)), v2 + 1) else k4 (v1, v2 + 1))
set_option maxRecDepth 100000 in
set_option maxHeartbeats 4000000 in
theorem BX2_atNought_4 {p : Program} {l : Launch} {e : Env} {s : State} {m : MethodId} {below : List Frame} {meth : Method} {c : Code} {D : va_G} {ty : TY} {A_t A_t_counts A_t_paces : Nat} {t_there : Int32} {t_awake : Int32} {t_start : Int32} {t_sharp : Int32} {t_counts : Nat → Int32} {t_paces : Nat → Int32} {q0 : Int32} (C : cx p s m [.ref A_t] meth c cX2_atNought 3 (some .int) RX2 wsX2_atNought) (hK : KK D ty s) (hP : va_P D vwCl [(A_t, .inr (1, [.int t_there, .int t_awake, .int t_start, .int t_sharp, .ref A_t_counts, .ref A_t_paces])), (A_t_counts, .inl (ty.1, 8, .inl t_counts)), (A_t_paces, .inl (ty.1, 8, .inl t_paces))] s.heap)   : ∀ (n : Nat) (v1 : Int32) (v2 : Int32) (ls : Array Slot), lv_has ls 3 [(0, .ref A_t), (1, .int v1), (2, .int v2)] → loopF (fun k q => bX2_atNought_4 k t_there t_counts q.1 q.2) n (v1, v2) = some q0 → WRi p l e rmX2_atNought s m [.ref A_t] below meth c q0 (F0 m 4 ls []) := by
  obtain ⟨hx, hb, hr, hml, hown, hts, hlocks⟩ := id C
  intro n
  induction n with
  | zero =>
    intro v1 v2 ls hl hf
    cases hf
  | succ n ih =>
    intro v1 v2 ls hl hf
    have hf : bX2_atNought_4 (loopF (fun k q => bX2_atNought_4 k t_there t_counts q.1 q.2) n) t_there t_counts v1 v2 = some q0 := hf
    have hk4 := ih
    unfold bX2_atNought_4 at hf
    refine lv_iload_n hx hb dX2_atNought_4 rfl (lv_at hl 2 rfl) ?_
    refine lv_bipush (v := 8) hx hb dX2_atNought_5 (by decide) ?_
    refine lv_icmp_ge (tgt := 39) hx hb dX2_atNought_7 (by decide) (fun hc => ?_) (fun hc => ?_)
    · have hf := ft hf hc
      refine lv_iload_n hx hb dX2_atNought_39 rfl (lv_at hl 1 rfl) ?_
      exact ret_ri hx hb hr hlocks hf dX2_atNought_40
    · have hf := ff hf hc
      refine lv_aload_n hx hb dX2_atNought_10 rfl (lv_at hl 0 rfl) ?_
      refine lv_iload_n hx hb dX2_atNought_11 rfl (lv_at hl 2 rfl) ?_
      obtain ⟨r12, hr12, hf⟩ := bnd hf
      refine callV_ri (As := [.int v2]) (rest := []) ⟨hx, hb, hml, hown, hts⟩ (CX2_isThere l hr12) (cwV 1 hts gX2_atNought_X2_isThere rfl rfl rfl kkX2_isThere ⟨Nat.le_of_ble_eq_true rfl, Nat.le_of_ble_eq_true rfl⟩) hK hP 0 rfl rfl rfl hl.1 rfl (Nat.le_of_ble_eq_true rfl) dX2_atNought_12 ⟨Nat.zero_le _, Nat.zero_le _⟩ ?_
      refine lv_if_eq (tgt := 33) hx hb dX2_atNought_15 (by decide) (fun hc => ?_) (fun hc => ?_)
      · have hf := ft hf hc
        refine lv_iinc (v := v2 + 1) (lv' := [(2, .int (v2 + 1)), (0, .ref A_t), (1, .int v1)]) hx hb dX2_atNought_33 hl (k := 2) rfl rfl (by decide) rfl (fun ls hl => ?_)
        refine lv_goto (tgt := 4) hx hb dX2_atNought_36 (by decide) ?_
        exact hk4 _ _ _ (lv_sub hl [1, 2, 0] rfl) hf
      · have hf := ff hf hc
        refine lv_aload_n hx hb dX2_atNought_18 rfl (lv_at hl 0 rfl) ?_
        refine va_get (D := D) (ci := 1) (v := .ref A_t_counts) (C := RX2) (T := TX2) (N := 6) hx hb hts wX2_atNought_X2 hown hK.1 hP 0 rfl rfl 4 (by decide) (hts _ mX2_atNought_f19) (fun _ h9 => h9) rfl dX2_atNought_19 ?_
        refine lv_iload_n hx hb dX2_atNought_22 rfl (lv_at hl 2 rfl) ?_
        obtain ⟨hin, hf⟩ := gIn_some hf
        refine va_iald hx hb hK.1 hP 1 0 rfl rfl hin dX2_atNought_23 ?_
        refine lv_if_ne (tgt := 33) hx hb dX2_atNought_24 (by decide) (fun hc => ?_) (fun hc => ?_)
        · have hf := ff hf hc
          refine lv_iinc (v := v2 + 1) (lv' := [(2, .int (v2 + 1)), (0, .ref A_t), (1, .int v1)]) hx hb dX2_atNought_33 hl (k := 2) rfl rfl (by decide) rfl (fun ls hl => ?_)
          refine lv_goto (tgt := 4) hx hb dX2_atNought_36 (by decide) ?_
          exact hk4 _ _ _ (lv_sub hl [1, 2, 0] rfl) hf
        · have hf := ft hf hc
          refine lv_iload_n hx hb dX2_atNought_27 rfl (lv_at hl 1 rfl) ?_
          refine lv_iconst (v := 1) hx hb dX2_atNought_28 (by decide) ?_
          refine lv_iload_n hx hb dX2_atNought_29 rfl (lv_at hl 2 rfl) ?_
          refine lv_ishl hx hb dX2_atNought_30 ?_
          refine lv_ior hx hb dX2_atNought_31 ?_
          refine lv_istore_n (lv' := [(1, .int (v1 ||| (1 <<< (v2 &&& 31)))), (0, .ref A_t), (2, .int v2)]) hx hb dX2_atNought_32 rfl hl (by decide) rfl (fun ls hl => ?_)
          refine lv_iinc (v := v2 + 1) (lv' := [(2, .int (v2 + 1)), (1, .int (v1 ||| (1 <<< (v2 &&& 31)))), (0, .ref A_t)]) hx hb dX2_atNought_33 hl (k := 2) rfl rfl (by decide) rfl (fun ls hl => ?_)
          refine lv_goto (tgt := 4) hx hb dX2_atNought_36 (by decide) ?_
          exact hk4 _ _ _ (lv_sub hl [2, 1, 0] rfl) hf
def fX2_atNought (t_there : Int32) (t_counts : Nat → Int32) : Option (Int32) :=
  loopF (fun k q => bX2_atNought_4 k t_there t_counts q.1 q.2) FU (0, 0)
set_option maxRecDepth 100000 in
set_option maxHeartbeats 4000000 in
theorem CX2_atNought (l : Launch) {D : va_G} {ty : TY} {A_t A_t_counts A_t_paces : Nat} {t_there : Int32} {t_awake : Int32} {t_start : Int32} {t_sharp : Int32} {t_counts : Nat → Int32} {t_paces : Nat → Int32} {q0 : Int32} (hf : fX2_atNought t_there t_counts = some q0) : ROi l yX2_atNought wsX2_atNought rmX2_atNought D ty [.ref A_t] [(A_t, .inr (1, [.int t_there, .int t_awake, .int t_start, .int t_sharp, .ref A_t_counts, .ref A_t_paces])), (A_t_counts, .inl (ty.1, 8, .inl t_counts)), (A_t_paces, .inl (ty.1, 8, .inl t_paces))] q0 := by
  refine ROi.start (cc := cX2_atNought) (maxL := 3) (ret := (some .int)) (own := RX2) (by decide) rfl rfl (Nat.le_of_ble_eq_true rfl) ?_
  intro p e s m below meth c ls C hK hP hl
  obtain ⟨hx, hb, hr, hml, hown, hts, hlocks⟩ := id C
  have hl : lv_has ls 3 [(0, .ref A_t)] := hl
  unfold fX2_atNought at hf
  refine lv_iconst (v := 0) hx hb dX2_atNought_0 (by decide) ?_
  refine lv_istore_n (lv' := [(1, .int 0), (0, .ref A_t)]) hx hb dX2_atNought_1 rfl hl (by decide) rfl (fun ls hl => ?_)
  refine lv_iconst (v := 0) hx hb dX2_atNought_2 (by decide) ?_
  refine lv_istore_n (lv' := [(2, .int 0), (1, .int 0), (0, .ref A_t)]) hx hb dX2_atNought_3 rfl hl (by decide) rfl (fun ls hl => ?_)
  exact BX2_atNought_4 C hK hP  FU _ _ _ (lv_sub hl [2, 1, 0] rfl) hf
/-! ===== SilenceCount$House.isAwake(I)Z ===== -/
abbrev rmX2_isAwake : Room := { frames := 0, cells := 0, slots := 0, locals := 0 }
theorem kkX2_isAwake : yX2_isAwake.cls = RX2 ∧ yX2_isAwake.cls ≠ "java/lang/invoke/MethodHandle" ∧ yX2_isAwake.cls ≠ "java/lang/invoke/VarHandle" ∧ (parseMethodDescriptor yX2_isAwake.desc).map (fun d => d.parameters.length) = some 1 := by decide +kernel
theorem mX2_isAwake_f29 : Cond.fieldLink RX2 29 "SilenceCount$House" "awake" "I" ∈ wsX2_isAwake := by decide +kernel
theorem wX2_isAwake_X2 : ∀ w ∈ u_ws RX2 TX2 6, w ∈ wsX2_isAwake := by decide +kernel
def fX2_isAwake (t_awake : Int32) (a1 : Int32) : Option (Int32) :=
  if a1 < 0 then some 0 else if 8 ≤ a1 then some 0 else if (t_awake &&& (1 <<< (a1 &&& 31))) = 0 then some 0 else some 1
set_option maxRecDepth 100000 in
set_option maxHeartbeats 4000000 in
theorem CX2_isAwake (l : Launch) {D : va_G} {ty : TY} {A_t A_t_counts A_t_paces : Nat} {t_there : Int32} {t_awake : Int32} {t_start : Int32} {t_sharp : Int32} {t_counts : Nat → Int32} {t_paces : Nat → Int32} {a1 : Int32} {q0 : Int32} (hf : fX2_isAwake t_awake a1 = some q0) : ROi l yX2_isAwake wsX2_isAwake rmX2_isAwake D ty [.ref A_t, .int a1] [(A_t, .inr (1, [.int t_there, .int t_awake, .int t_start, .int t_sharp, .ref A_t_counts, .ref A_t_paces])), (A_t_counts, .inl (ty.1, 8, .inl t_counts)), (A_t_paces, .inl (ty.1, 8, .inl t_paces))] q0 := by
  refine ROi.start (cc := cX2_isAwake) (maxL := 2) (ret := (some .boolean)) (own := RX2) (by decide) rfl rfl (Nat.le_of_ble_eq_true rfl) ?_
  intro p e s m below meth c ls C hK hP hl
  obtain ⟨hx, hb, hr, hml, hown, hts, hlocks⟩ := id C
  have hl : lv_has ls 2 [(0, .ref A_t), (1, .int a1)] := hl
  unfold fX2_isAwake at hf
  refine lv_iload_n hx hb dX2_isAwake_0 rfl (lv_at hl 1 rfl) ?_
  refine lv_if_lt (tgt := 25) hx hb dX2_isAwake_1 (by decide) (fun hc => ?_) (fun hc => ?_)
  · have hf := ft hf hc
    refine lv_iconst (v := 0) hx hb dX2_isAwake_25 (by decide) ?_
    exact ret_rz hx hb hr hlocks (Or.inl rfl) hf dX2_isAwake_26
  · have hf := ff hf hc
    refine lv_iload_n hx hb dX2_isAwake_4 rfl (lv_at hl 1 rfl) ?_
    refine lv_bipush (v := 8) hx hb dX2_isAwake_5 (by decide) ?_
    refine lv_icmp_ge (tgt := 25) hx hb dX2_isAwake_7 (by decide) (fun hc => ?_) (fun hc => ?_)
    · have hf := ft hf hc
      refine lv_iconst (v := 0) hx hb dX2_isAwake_25 (by decide) ?_
      exact ret_rz hx hb hr hlocks (Or.inl rfl) hf dX2_isAwake_26
    · have hf := ff hf hc
      refine lv_aload_n hx hb dX2_isAwake_10 rfl (lv_at hl 0 rfl) ?_
      refine va_get (D := D) (ci := 1) (v := .int t_awake) (C := RX2) (T := TX2) (N := 6) hx hb hts wX2_isAwake_X2 hown hK.1 hP 0 rfl rfl 1 (by decide) (hts _ mX2_isAwake_f29) (fun _ h9 => h9) rfl dX2_isAwake_11 ?_
      refine lv_iconst (v := 1) hx hb dX2_isAwake_14 (by decide) ?_
      refine lv_iload_n hx hb dX2_isAwake_15 rfl (lv_at hl 1 rfl) ?_
      refine lv_ishl hx hb dX2_isAwake_16 ?_
      refine lv_iand hx hb dX2_isAwake_17 ?_
      refine lv_if_eq (tgt := 25) hx hb dX2_isAwake_18 (by decide) (fun hc => ?_) (fun hc => ?_)
      · have hf := ft hf hc
        refine lv_iconst (v := 0) hx hb dX2_isAwake_25 (by decide) ?_
        exact ret_rz hx hb hr hlocks (Or.inl rfl) hf dX2_isAwake_26
      · have hf := ff hf hc
        refine lv_iconst (v := 1) hx hb dX2_isAwake_21 (by decide) ?_
        refine lv_goto (tgt := 26) hx hb dX2_isAwake_22 (by decide) ?_
        exact ret_rz hx hb hr hlocks (Or.inr rfl) hf dX2_isAwake_26
/-! ===== SilenceCount$House.whyNoHandOver(II)I ===== -/
abbrev rmX2_whyNoHandOver : Room := { frames := 1, cells := 0, slots := 0, locals := 21 }
theorem kkX2_whyNoHandOver : yX2_whyNoHandOver.cls = RX2 ∧ yX2_whyNoHandOver.cls ≠ "java/lang/invoke/MethodHandle" ∧ yX2_whyNoHandOver.cls ≠ "java/lang/invoke/VarHandle" ∧ (parseMethodDescriptor yX2_whyNoHandOver.desc).map (fun d => d.parameters.length) = some 2 := by decide +kernel
def fX2_whyNoHandOver (t_there : Int32) (t_awake : Int32) (a1 : Int32) (a2 : Int32) : Option (Int32) :=
  (fX2_isThere t_there a2).bind fun r2 => if r2 = 0 then some 1 else if a1 = a2 then some 2 else (fX2_isAwake t_awake a1).bind fun r19 => if r19 = 0 then some 3 else (fX2_isAwake t_awake a2).bind fun r27 => if r27 = 0 then some 3 else some 0
set_option maxRecDepth 100000 in
set_option maxHeartbeats 4000000 in
theorem CX2_whyNoHandOver (l : Launch) {D : va_G} {ty : TY} {A_t A_t_counts A_t_paces : Nat} {t_there : Int32} {t_awake : Int32} {t_start : Int32} {t_sharp : Int32} {t_counts : Nat → Int32} {t_paces : Nat → Int32} {a1 : Int32} {a2 : Int32} {q0 : Int32} (hf : fX2_whyNoHandOver t_there t_awake a1 a2 = some q0) : ROi l yX2_whyNoHandOver wsX2_whyNoHandOver rmX2_whyNoHandOver D ty [.ref A_t, .int a1, .int a2] [(A_t, .inr (1, [.int t_there, .int t_awake, .int t_start, .int t_sharp, .ref A_t_counts, .ref A_t_paces])), (A_t_counts, .inl (ty.1, 8, .inl t_counts)), (A_t_paces, .inl (ty.1, 8, .inl t_paces))] q0 := by
  refine ROi.start (cc := cX2_whyNoHandOver) (maxL := 3) (ret := (some .int)) (own := RX2) (by decide) rfl rfl (Nat.le_of_ble_eq_true rfl) ?_
  intro p e s m below meth c ls C hK hP hl
  obtain ⟨hx, hb, hr, hml, hown, hts, hlocks⟩ := id C
  have hl : lv_has ls 3 [(0, .ref A_t), (1, .int a1), (2, .int a2)] := hl
  unfold fX2_whyNoHandOver at hf
  refine lv_aload_n hx hb dX2_whyNoHandOver_0 rfl (lv_at hl 0 rfl) ?_
  refine lv_iload_n hx hb dX2_whyNoHandOver_1 rfl (lv_at hl 2 rfl) ?_
  obtain ⟨r2, hr2, hf⟩ := bnd hf
  refine callV_ri (As := [.int a2]) (rest := []) ⟨hx, hb, hml, hown, hts⟩ (CX2_isThere l hr2) (cwV 1 hts gX2_whyNoHandOver_X2_isThere rfl rfl rfl kkX2_isThere ⟨Nat.le_of_ble_eq_true rfl, Nat.le_of_ble_eq_true rfl⟩) hK hP 0 rfl rfl rfl hl.1 rfl (Nat.le_of_ble_eq_true rfl) dX2_whyNoHandOver_2 ⟨Nat.zero_le _, Nat.zero_le _⟩ ?_
  refine lv_if_ne (tgt := 10) hx hb dX2_whyNoHandOver_5 (by decide) (fun hc => ?_) (fun hc => ?_)
  · have hf := ff hf hc
    refine lv_iload_n hx hb dX2_whyNoHandOver_10 rfl (lv_at hl 1 rfl) ?_
    refine lv_iload_n hx hb dX2_whyNoHandOver_11 rfl (lv_at hl 2 rfl) ?_
    refine lv_icmp_ne (tgt := 17) hx hb dX2_whyNoHandOver_12 (by decide) (fun hc => ?_) (fun hc => ?_)
    · have hf := ff hf hc
      refine lv_aload_n hx hb dX2_whyNoHandOver_17 rfl (lv_at hl 0 rfl) ?_
      refine lv_iload_n hx hb dX2_whyNoHandOver_18 rfl (lv_at hl 1 rfl) ?_
      obtain ⟨r19, hr19, hf⟩ := bnd hf
      refine callV_ri (As := [.int a1]) (rest := []) ⟨hx, hb, hml, hown, hts⟩ (CX2_isAwake l hr19) (cwV 1 hts gX2_whyNoHandOver_X2_isAwake rfl rfl rfl kkX2_isAwake ⟨Nat.le_of_ble_eq_true rfl, Nat.le_of_ble_eq_true rfl⟩) hK hP 0 rfl rfl rfl hl.1 rfl (Nat.le_of_ble_eq_true rfl) dX2_whyNoHandOver_19 ⟨Nat.zero_le _, Nat.zero_le _⟩ ?_
      refine lv_if_eq (tgt := 37) hx hb dX2_whyNoHandOver_22 (by decide) (fun hc => ?_) (fun hc => ?_)
      · have hf := ft hf hc
        refine lv_iconst (v := 3) hx hb dX2_whyNoHandOver_37 (by decide) ?_
        exact ret_ri hx hb hr hlocks hf dX2_whyNoHandOver_38
      · have hf := ff hf hc
        refine lv_aload_n hx hb dX2_whyNoHandOver_25 rfl (lv_at hl 0 rfl) ?_
        refine lv_iload_n hx hb dX2_whyNoHandOver_26 rfl (lv_at hl 2 rfl) ?_
        obtain ⟨r27, hr27, hf⟩ := bnd hf
        refine callV_ri (As := [.int a2]) (rest := []) ⟨hx, hb, hml, hown, hts⟩ (CX2_isAwake l hr27) (cwV 1 hts gX2_whyNoHandOver_X2_isAwake rfl rfl rfl kkX2_isAwake ⟨Nat.le_of_ble_eq_true rfl, Nat.le_of_ble_eq_true rfl⟩) hK hP 0 rfl rfl rfl hl.1 rfl (Nat.le_of_ble_eq_true rfl) dX2_whyNoHandOver_27 ⟨Nat.zero_le _, Nat.zero_le _⟩ ?_
        refine lv_if_eq (tgt := 37) hx hb dX2_whyNoHandOver_30 (by decide) (fun hc => ?_) (fun hc => ?_)
        · have hf := ft hf hc
          refine lv_iconst (v := 3) hx hb dX2_whyNoHandOver_37 (by decide) ?_
          exact ret_ri hx hb hr hlocks hf dX2_whyNoHandOver_38
        · have hf := ff hf hc
          refine lv_iconst (v := 0) hx hb dX2_whyNoHandOver_33 (by decide) ?_
          refine lv_goto (tgt := 38) hx hb dX2_whyNoHandOver_34 (by decide) ?_
          exact ret_ri hx hb hr hlocks hf dX2_whyNoHandOver_38
    · have hf := ft hf hc
      refine lv_iconst (v := 2) hx hb dX2_whyNoHandOver_15 (by decide) ?_
      exact ret_ri hx hb hr hlocks hf dX2_whyNoHandOver_16
  · have hf := ft hf hc
    refine lv_iconst (v := 1) hx hb dX2_whyNoHandOver_8 (by decide) ?_
    exact ret_ri hx hb hr hlocks hf dX2_whyNoHandOver_9
/-! ===== SilenceCount$House.whyNot(II)I ===== -/
abbrev rmX2_whyNot : Room := { frames := 2, cells := 0, slots := 0, locals := 43 }
theorem kkX2_whyNot : yX2_whyNot.cls = RX2 ∧ yX2_whyNot.cls ≠ "java/lang/invoke/MethodHandle" ∧ yX2_whyNot.cls ≠ "java/lang/invoke/VarHandle" ∧ (parseMethodDescriptor yX2_whyNot.desc).map (fun d => d.parameters.length) = some 2 := by decide +kernel
theorem mX2_whyNot_f29 : Cond.fieldLink RX2 29 "SilenceCount$House" "awake" "I" ∈ wsX2_whyNot := by decide +kernel
theorem wX2_whyNot_X2 : ∀ w ∈ u_ws RX2 TX2 6, w ∈ wsX2_whyNot := by decide +kernel
def fX2_whyNot (t_there : Int32) (t_awake : Int32) (a1 : Int32) (a2 : Int32) : Option (Int32) :=
  if a1 = (-1) then if t_awake = 0 then some 5 else some 0 else (fX2_isThere t_there a1).bind fun r20 => if r20 = 0 then some 1 else (fX5_isLetter a2).bind fun r29 => if r29 = 0 then if a2 = 119 then (fX2_isAwake t_awake a1).bind fun r53 => if r53 = 0 then some 0 else some 4 else (fX2_isAwake t_awake a1).bind fun r67 => if r67 = 0 then some 3 else some 0 else (fX2_whyNoHandOver t_there t_awake a1 (a2 - 65)).bind fun r41 => some r41
set_option maxRecDepth 100000 in
set_option maxHeartbeats 4000000 in
theorem CX2_whyNot (l : Launch) {D : va_G} {ty : TY} {A_t A_t_counts A_t_paces : Nat} {t_there : Int32} {t_awake : Int32} {t_start : Int32} {t_sharp : Int32} {t_counts : Nat → Int32} {t_paces : Nat → Int32} {a1 : Int32} {a2 : Int32} {q0 : Int32} (hf : fX2_whyNot t_there t_awake a1 a2 = some q0) : ROi l yX2_whyNot wsX2_whyNot rmX2_whyNot D ty [.ref A_t, .int a1, .int a2] [(A_t, .inr (1, [.int t_there, .int t_awake, .int t_start, .int t_sharp, .ref A_t_counts, .ref A_t_paces])), (A_t_counts, .inl (ty.1, 8, .inl t_counts)), (A_t_paces, .inl (ty.1, 8, .inl t_paces))] q0 := by
  refine ROi.start (cc := cX2_whyNot) (maxL := 3) (ret := (some .int)) (own := RX2) (by decide) rfl rfl (Nat.le_of_ble_eq_true rfl) ?_
  intro p e s m below meth c ls C hK hP hl
  obtain ⟨hx, hb, hr, hml, hown, hts, hlocks⟩ := id C
  have hl : lv_has ls 3 [(0, .ref A_t), (1, .int a1), (2, .int a2)] := hl
  unfold fX2_whyNot at hf
  refine lv_iload_n hx hb dX2_whyNot_0 rfl (lv_at hl 1 rfl) ?_
  refine lv_iconst (v := (-1)) hx hb dX2_whyNot_1 (by decide) ?_
  refine lv_icmp_ne (tgt := 18) hx hb dX2_whyNot_2 (by decide) (fun hc => ?_) (fun hc => ?_)
  · have hf := ff hf hc
    refine lv_aload_n hx hb dX2_whyNot_18 rfl (lv_at hl 0 rfl) ?_
    refine lv_iload_n hx hb dX2_whyNot_19 rfl (lv_at hl 1 rfl) ?_
    obtain ⟨r20, hr20, hf⟩ := bnd hf
    refine callV_ri (As := [.int a1]) (rest := []) ⟨hx, hb, hml, hown, hts⟩ (CX2_isThere l hr20) (cwV 1 hts gX2_whyNot_X2_isThere rfl rfl rfl kkX2_isThere ⟨Nat.le_of_ble_eq_true rfl, Nat.le_of_ble_eq_true rfl⟩) hK hP 0 rfl rfl rfl hl.1 rfl (Nat.le_of_ble_eq_true rfl) dX2_whyNot_20 ⟨Nat.zero_le _, Nat.zero_le _⟩ ?_
    refine lv_if_ne (tgt := 28) hx hb dX2_whyNot_23 (by decide) (fun hc => ?_) (fun hc => ?_)
    · have hf := ff hf hc
      refine lv_iload_n hx hb dX2_whyNot_28 rfl (lv_at hl 2 rfl) ?_
      obtain ⟨r29, hr29, hf⟩ := bnd hf
      have hPc : va_P D vwCl [] _ := hP.sub [] rfl
      refine callS_ri (As := [.int a2]) (rest := []) ⟨hx, hb, hml, hown, hts⟩ (CX5_isLetter l hr29) (va_cwS 1 hts gX2_whyNot_X5_isLetter rfl rfl rfl kkX5_isLetter.2 ⟨Nat.le_of_ble_eq_true rfl, Nat.le_of_ble_eq_true rfl⟩) hK hPc hl.1 rfl (Nat.le_of_ble_eq_true rfl) dX2_whyNot_29 ⟨Nat.zero_le _, Nat.zero_le _⟩ ?_
      refine lv_if_eq (tgt := 45) hx hb dX2_whyNot_32 (by decide) (fun hc => ?_) (fun hc => ?_)
      · have hf := ft hf hc
        refine lv_iload_n hx hb dX2_whyNot_45 rfl (lv_at hl 2 rfl) ?_
        refine lv_bipush (v := 119) hx hb dX2_whyNot_46 (by decide) ?_
        refine lv_icmp_ne (tgt := 65) hx hb dX2_whyNot_48 (by decide) (fun hc => ?_) (fun hc => ?_)
        · have hf := ff hf hc
          refine lv_aload_n hx hb dX2_whyNot_65 rfl (lv_at hl 0 rfl) ?_
          refine lv_iload_n hx hb dX2_whyNot_66 rfl (lv_at hl 1 rfl) ?_
          obtain ⟨r67, hr67, hf⟩ := bnd hf
          refine callV_ri (As := [.int a1]) (rest := []) ⟨hx, hb, hml, hown, hts⟩ (CX2_isAwake l hr67) (cwV 1 hts gX2_whyNot_X2_isAwake rfl rfl rfl kkX2_isAwake ⟨Nat.le_of_ble_eq_true rfl, Nat.le_of_ble_eq_true rfl⟩) hK hP 0 rfl rfl rfl hl.1 rfl (Nat.le_of_ble_eq_true rfl) dX2_whyNot_67 ⟨Nat.zero_le _, Nat.zero_le _⟩ ?_
          refine lv_if_eq (tgt := 77) hx hb dX2_whyNot_70 (by decide) (fun hc => ?_) (fun hc => ?_)
          · have hf := ft hf hc
            refine lv_iconst (v := 3) hx hb dX2_whyNot_77 (by decide) ?_
            exact ret_ri hx hb hr hlocks hf dX2_whyNot_78
          · have hf := ff hf hc
            refine lv_iconst (v := 0) hx hb dX2_whyNot_73 (by decide) ?_
            refine lv_goto (tgt := 78) hx hb dX2_whyNot_74 (by decide) ?_
            exact ret_ri hx hb hr hlocks hf dX2_whyNot_78
        · have hf := ft hf hc
          refine lv_aload_n hx hb dX2_whyNot_51 rfl (lv_at hl 0 rfl) ?_
          refine lv_iload_n hx hb dX2_whyNot_52 rfl (lv_at hl 1 rfl) ?_
          obtain ⟨r53, hr53, hf⟩ := bnd hf
          refine callV_ri (As := [.int a1]) (rest := []) ⟨hx, hb, hml, hown, hts⟩ (CX2_isAwake l hr53) (cwV 1 hts gX2_whyNot_X2_isAwake rfl rfl rfl kkX2_isAwake ⟨Nat.le_of_ble_eq_true rfl, Nat.le_of_ble_eq_true rfl⟩) hK hP 0 rfl rfl rfl hl.1 rfl (Nat.le_of_ble_eq_true rfl) dX2_whyNot_53 ⟨Nat.zero_le _, Nat.zero_le _⟩ ?_
          refine lv_if_eq (tgt := 63) hx hb dX2_whyNot_56 (by decide) (fun hc => ?_) (fun hc => ?_)
          · have hf := ft hf hc
            refine lv_iconst (v := 0) hx hb dX2_whyNot_63 (by decide) ?_
            exact ret_ri hx hb hr hlocks hf dX2_whyNot_64
          · have hf := ff hf hc
            refine lv_iconst (v := 4) hx hb dX2_whyNot_59 (by decide) ?_
            refine lv_goto (tgt := 64) hx hb dX2_whyNot_60 (by decide) ?_
            exact ret_ri hx hb hr hlocks hf dX2_whyNot_64
      · have hf := ff hf hc
        refine lv_aload_n hx hb dX2_whyNot_35 rfl (lv_at hl 0 rfl) ?_
        refine lv_iload_n hx hb dX2_whyNot_36 rfl (lv_at hl 1 rfl) ?_
        refine lv_iload_n hx hb dX2_whyNot_37 rfl (lv_at hl 2 rfl) ?_
        refine lv_bipush (v := 65) hx hb dX2_whyNot_38 (by decide) ?_
        refine lv_isub hx hb dX2_whyNot_40 ?_
        obtain ⟨r41, hr41, hf⟩ := bnd hf
        refine callV_ri (As := [.int a1, .int (a2 - 65)]) (rest := []) ⟨hx, hb, hml, hown, hts⟩ (CX2_whyNoHandOver l hr41) (cwV 2 hts gX2_whyNot_X2_whyNoHandOver rfl rfl rfl kkX2_whyNoHandOver ⟨Nat.le_of_ble_eq_true rfl, Nat.le_of_ble_eq_true rfl⟩) hK hP 0 rfl rfl rfl hl.1 rfl (Nat.le_of_ble_eq_true rfl) dX2_whyNot_41 ⟨Nat.zero_le _, Nat.zero_le _⟩ ?_
        exact ret_ri hx hb hr hlocks hf dX2_whyNot_44
    · have hf := ft hf hc
      refine lv_iconst (v := 1) hx hb dX2_whyNot_26 (by decide) ?_
      exact ret_ri hx hb hr hlocks hf dX2_whyNot_27
  · have hf := ft hf hc
    refine lv_aload_n hx hb dX2_whyNot_5 rfl (lv_at hl 0 rfl) ?_
    refine va_get (D := D) (ci := 1) (v := .int t_awake) (C := RX2) (T := TX2) (N := 6) hx hb hts wX2_whyNot_X2 hown hK.1 hP 0 rfl rfl 1 (by decide) (hts _ mX2_whyNot_f29) (fun _ h9 => h9) rfl dX2_whyNot_6 ?_
    refine lv_if_ne (tgt := 16) hx hb dX2_whyNot_9 (by decide) (fun hc => ?_) (fun hc => ?_)
    · have hf := ff hf hc
      refine lv_iconst (v := 0) hx hb dX2_whyNot_16 (by decide) ?_
      exact ret_ri hx hb hr hlocks hf dX2_whyNot_17
    · have hf := ft hf hc
      refine lv_iconst (v := 5) hx hb dX2_whyNot_12 (by decide) ?_
      refine lv_goto (tgt := 17) hx hb dX2_whyNot_13 (by decide) ?_
      exact ret_ri hx hb hr hlocks hf dX2_whyNot_17
/-! ===== SilenceCount$House.countBehind(III)I ===== -/
abbrev rmX2_countBehind : Room := { frames := 1, cells := 0, slots := 0, locals := 13 }
theorem kkX2_countBehind : yX2_countBehind.cls = RX2 ∧ yX2_countBehind.cls ≠ "java/lang/invoke/MethodHandle" ∧ yX2_countBehind.cls ≠ "java/lang/invoke/VarHandle" ∧ (parseMethodDescriptor yX2_countBehind.desc).map (fun d => d.parameters.length) = some 3 := by decide +kernel
theorem mX2_countBehind_f19 : Cond.fieldLink RX2 19 "SilenceCount$House" "counts" "[I" ∈ wsX2_countBehind := by decide +kernel
theorem mX2_countBehind_f23 : Cond.fieldLink RX2 23 "SilenceCount$House" "paces" "[I" ∈ wsX2_countBehind := by decide +kernel
theorem mX2_countBehind_c84 : Cond.methodLink RX2 84 Lib.Math.max.name ∈ wsX2_countBehind := by decide +kernel
theorem mX2_countBehind_smax : Cond.static Lib.Math.max.name ∈ wsX2_countBehind := by decide +kernel
theorem mX2_countBehind_iMath : Cond.initialized "java/lang/Math" ∈ wsX2_countBehind := by decide +kernel
theorem mX2_countBehind_cdmax : Cond.code Lib.Math.max.name Lib.Math.max.code 2 (some .int) ∈ wsX2_countBehind := by decide +kernel
theorem wX2_countBehind_X2 : ∀ w ∈ u_ws RX2 TX2 6, w ∈ wsX2_countBehind := by decide +kernel
def fX2_countBehind (t_counts : Nat → Int32) (t_paces : Nat → Int32) (a1 : Int32) (a2 : Int32) (a3 : Int32) : Option (Int32) :=
  gIn a1 8 (gIn a1 8 (some (if (0 : Int32) < (((t_counts (a1 : Int32).toNatClampNeg) - a2) - (a3 * (t_paces (a1 : Int32).toNatClampNeg))) then (((t_counts (a1 : Int32).toNatClampNeg) - a2) - (a3 * (t_paces (a1 : Int32).toNatClampNeg))) else 0)))
set_option maxRecDepth 100000 in
set_option maxHeartbeats 4000000 in
theorem CX2_countBehind (l : Launch) {D : va_G} {ty : TY} {A_t A_t_counts A_t_paces : Nat} {t_there : Int32} {t_awake : Int32} {t_start : Int32} {t_sharp : Int32} {t_counts : Nat → Int32} {t_paces : Nat → Int32} {a1 : Int32} {a2 : Int32} {a3 : Int32} {q0 : Int32} (hf : fX2_countBehind t_counts t_paces a1 a2 a3 = some q0) : ROi l yX2_countBehind wsX2_countBehind rmX2_countBehind D ty [.ref A_t, .int a1, .int a2, .int a3] [(A_t, .inr (1, [.int t_there, .int t_awake, .int t_start, .int t_sharp, .ref A_t_counts, .ref A_t_paces])), (A_t_counts, .inl (ty.1, 8, .inl t_counts)), (A_t_paces, .inl (ty.1, 8, .inl t_paces))] q0 := by
  refine ROi.start (cc := cX2_countBehind) (maxL := 4) (ret := (some .int)) (own := RX2) (by decide) rfl rfl (Nat.le_of_ble_eq_true rfl) ?_
  intro p e s m below meth c ls C hK hP hl
  obtain ⟨hx, hb, hr, hml, hown, hts, hlocks⟩ := id C
  have hl : lv_has ls 4 [(0, .ref A_t), (1, .int a1), (2, .int a2), (3, .int a3)] := hl
  unfold fX2_countBehind at hf
  refine lv_iconst (v := 0) hx hb dX2_countBehind_0 (by decide) ?_
  refine lv_aload_n hx hb dX2_countBehind_1 rfl (lv_at hl 0 rfl) ?_
  refine va_get (D := D) (ci := 1) (v := .ref A_t_counts) (C := RX2) (T := TX2) (N := 6) hx hb hts wX2_countBehind_X2 hown hK.1 hP 0 rfl rfl 4 (by decide) (hts _ mX2_countBehind_f19) (fun _ h9 => h9) rfl dX2_countBehind_2 ?_
  refine lv_iload_n hx hb dX2_countBehind_5 rfl (lv_at hl 1 rfl) ?_
  obtain ⟨hin, hf⟩ := gIn_some hf
  refine va_iald hx hb hK.1 hP 1 0 rfl rfl hin dX2_countBehind_6 ?_
  refine lv_iload_n hx hb dX2_countBehind_7 rfl (lv_at hl 2 rfl) ?_
  refine lv_isub hx hb dX2_countBehind_8 ?_
  refine lv_iload_n hx hb dX2_countBehind_9 rfl (lv_at hl 3 rfl) ?_
  refine lv_aload_n hx hb dX2_countBehind_10 rfl (lv_at hl 0 rfl) ?_
  refine va_get (D := D) (ci := 1) (v := .ref A_t_paces) (C := RX2) (T := TX2) (N := 6) hx hb hts wX2_countBehind_X2 hown hK.1 hP 0 rfl rfl 5 (by decide) (hts _ mX2_countBehind_f23) (fun _ h9 => h9) rfl dX2_countBehind_11 ?_
  refine lv_iload_n hx hb dX2_countBehind_14 rfl (lv_at hl 1 rfl) ?_
  obtain ⟨hin, hf⟩ := gIn_some hf
  refine va_iald hx hb hK.1 hP 2 0 rfl rfl hin dX2_countBehind_15 ?_
  refine lv_imul hx hb dX2_countBehind_16 ?_
  refine lv_isub hx hb dX2_countBehind_17 ?_
  refine va_mmax hx hb (hml.trans hl.1.symm) hown (hts _ mX2_countBehind_c84) (hts _ mX2_countBehind_smax) (hts _ mX2_countBehind_iMath) (hts _ mX2_countBehind_cdmax) (Nat.le_of_ble_eq_true rfl) (Nat.le_of_ble_eq_true rfl) (Nat.zero_le _) (Nat.zero_le _) dX2_countBehind_18 ?_
  exact ret_ri hx hb hr hlocks hf dX2_countBehind_21
/-! ===== SilenceCount$House.breathe(I)V ===== -/
abbrev rmX2_breathe : Room := { frames := 2, cells := 0, slots := 0, locals := 36 }
theorem kkX2_breathe : yX2_breathe.cls = RX2 ∧ yX2_breathe.cls ≠ "java/lang/invoke/MethodHandle" ∧ yX2_breathe.cls ≠ "java/lang/invoke/VarHandle" ∧ (parseMethodDescriptor yX2_breathe.desc).map (fun d => d.parameters.length) = some 1 := by decide +kernel
theorem mX2_breathe_f19 : Cond.fieldLink RX2 19 "SilenceCount$House" "counts" "[I" ∈ wsX2_breathe := by decide +kernel
theorem wX2_breathe_X2 : ∀ w ∈ u_ws RX2 TX2 6, w ∈ wsX2_breathe := by decide +kernel
def bX2_breathe_2 (k2 : Int32 × (Nat → Int32) → Option ((Nat → Int32))) (t_awake : Int32) (t_paces : Nat → Int32) (a1 : Int32) (v2 : Int32) (t_counts : Nat → Int32) : Option ((Nat → Int32)) :=
  if 8 ≤ v2 then some t_counts else (fX2_isAwake t_awake v2).bind fun r10 => if r10 = 0 then k2 (v2 + 1, t_counts) else (fX2_countBehind t_counts t_paces v2 0 a1).bind fun r25 => gIn v2 8 (k2 (v2 + 1, upd t_counts (v2 : Int32).toNatClampNeg r25))
set_option maxRecDepth 100000 in
set_option maxHeartbeats 4000000 in
theorem BX2_breathe_2 {p : Program} {l : Launch} {e : Env} {s : State} {m : MethodId} {below : List Frame} {meth : Method} {c : Code} {D : va_G} {ty : TY} {A_t A_t_counts A_t_paces : Nat} {t_there : Int32} {t_awake : Int32} {t_start : Int32} {t_sharp : Int32} {t_paces : Nat → Int32} {a1 : Int32} {q0 : (Nat → Int32)} {WC : va_W} (C : cx p s m [.ref A_t, .int a1] meth c cX2_breathe 3 none RX2 wsX2_breathe) (hK : KK D ty s)   : ∀ (n : Nat) (v2 : Int32) (t_counts : Nat → Int32) (H : Heap) (locs : List Loc) (ls : Array Slot), va_P D vwCl [(A_t, .inr (1, [.int t_there, .int t_awake, .int t_start, .int t_sharp, .ref A_t_counts, .ref A_t_paces])), (A_t_counts, .inl (ty.1, 8, .inl t_counts)), (A_t_paces, .inl (ty.1, 8, .inl t_paces))] H → va_D (va_A WC s.heap.size) [(A_t, .inr (1, [.int t_there, .int t_awake, .int t_start, .int t_sharp, .ref A_t_counts, .ref A_t_paces])), (A_t_counts, .inl (ty.1, 8, .inl t_counts)), (A_t_paces, .inl (ty.1, 8, .inl t_paces))] → va_S (va_A WC s.heap.size) s.heap H locs → lv_has ls 3 [(0, .ref A_t), (1, .int a1), (2, .int v2)] → loopF (fun k q => bX2_breathe_2 k t_awake t_paces a1 q.1 q.2) n (v2, t_counts) = some q0 → WWv p l e rmX2_breathe s m [.ref A_t, .int a1] below meth c D WC [(A_t, .inr (1, [.int t_there, .int t_awake, .int t_start, .int t_sharp, .ref A_t_counts, .ref A_t_paces])), (A_t_counts, .inl (ty.1, 8, .inl q0)), (A_t_paces, .inl (ty.1, 8, .inl t_paces))] H locs (F0 m 2 ls []) := by
  obtain ⟨hx, hb, hr, hml, hown, hts, hlocks⟩ := id C
  intro n
  induction n with
  | zero =>
    intro v2 t_counts H locs ls hP hD hS hl hf
    cases hf
  | succ n ih =>
    intro v2 t_counts H locs ls hP hD hS hl hf
    have hf : bX2_breathe_2 (loopF (fun k q => bX2_breathe_2 k t_awake t_paces a1 q.1 q.2) n) t_awake t_paces a1 v2 t_counts = some q0 := hf
    have hk2 := ih
    unfold bX2_breathe_2 at hf
    refine lv_iload_n hx hb dX2_breathe_2 rfl (lv_at hl 2 rfl) ?_
    refine lv_bipush (v := 8) hx hb dX2_breathe_3 (by decide) ?_
    refine lv_icmp_ge (tgt := 35) hx hb dX2_breathe_5 (by decide) (fun hc => ?_) (fun hc => ?_)
    · have hf := ft hf hc
      cases hf
      exact ret_wv hx hb hr hlocks hP hD hS dX2_breathe_35
    · have hf := ff hf hc
      refine lv_aload_n hx hb dX2_breathe_8 rfl (lv_at hl 0 rfl) ?_
      refine lv_iload_n hx hb dX2_breathe_9 rfl (lv_at hl 2 rfl) ?_
      obtain ⟨r10, hr10, hf⟩ := bnd hf
      refine callV_ri (As := [.int v2]) (rest := []) ⟨hx, hb, hml, hown, hts⟩ (CX2_isAwake l hr10) (cwV 1 hts gX2_breathe_X2_isAwake rfl rfl rfl kkX2_isAwake ⟨Nat.le_of_ble_eq_true rfl, Nat.le_of_ble_eq_true rfl⟩) hK hP 0 rfl rfl rfl hl.1 rfl (Nat.le_of_ble_eq_true rfl) dX2_breathe_10 ⟨Nat.zero_le _, Nat.zero_le _⟩ ?_
      refine lv_if_eq (tgt := 29) hx hb dX2_breathe_13 (by decide) (fun hc => ?_) (fun hc => ?_)
      · have hf := ft hf hc
        refine lv_iinc (v := v2 + 1) (lv' := [(2, .int (v2 + 1)), (0, .ref A_t), (1, .int a1)]) hx hb dX2_breathe_29 hl (k := 2) rfl rfl (by decide) rfl (fun ls hl => ?_)
        refine lv_goto (tgt := 2) hx hb dX2_breathe_32 (by decide) ?_
        exact hk2 _ _ _ _ _ hP hD hS (lv_sub hl [1, 2, 0] rfl) hf
      · have hf := ff hf hc
        refine lv_aload_n hx hb dX2_breathe_16 rfl (lv_at hl 0 rfl) ?_
        refine va_get (D := D) (ci := 1) (v := .ref A_t_counts) (C := RX2) (T := TX2) (N := 6) hx hb hts wX2_breathe_X2 hown hK.1 hP 0 rfl rfl 4 (by decide) (hts _ mX2_breathe_f19) (fun _ h9 => h9) rfl dX2_breathe_17 ?_
        refine lv_iload_n hx hb dX2_breathe_20 rfl (lv_at hl 2 rfl) ?_
        refine lv_aload_n hx hb dX2_breathe_21 rfl (lv_at hl 0 rfl) ?_
        refine lv_iload_n hx hb dX2_breathe_22 rfl (lv_at hl 2 rfl) ?_
        refine lv_iconst (v := 0) hx hb dX2_breathe_23 (by decide) ?_
        refine lv_iload_n hx hb dX2_breathe_24 rfl (lv_at hl 1 rfl) ?_
        obtain ⟨r25, hr25, hf⟩ := bnd hf
        refine callV_ri (As := [.int v2, .int 0, .int a1]) (rest := [.int v2, .ref A_t_counts]) ⟨hx, hb, hml, hown, hts⟩ (CX2_countBehind l hr25) (cwV 3 hts gX2_breathe_X2_countBehind rfl rfl rfl kkX2_countBehind ⟨Nat.le_of_ble_eq_true rfl, Nat.le_of_ble_eq_true rfl⟩) hK hP 0 rfl rfl rfl hl.1 rfl (Nat.le_of_ble_eq_true rfl) dX2_breathe_25 ⟨Nat.zero_le _, Nat.zero_le _⟩ ?_
        obtain ⟨hin, hf⟩ := gIn_some hf
        refine va_iast hx hb hK.1 hP hD hS 1 0 rfl rfl hin dX2_breathe_28 (fun H locs hP hD hS => ?_)
        have hP : va_P D vwCl [(A_t, .inr (1, [.int t_there, .int t_awake, .int t_start, .int t_sharp, .ref A_t_counts, .ref A_t_paces])), (A_t_counts, .inl (ty.1, 8, .inl (upd t_counts (v2 : Int32).toNatClampNeg r25))), (A_t_paces, .inl (ty.1, 8, .inl t_paces))] H := hP
        have hD : va_D (va_A WC s.heap.size) [(A_t, .inr (1, [.int t_there, .int t_awake, .int t_start, .int t_sharp, .ref A_t_counts, .ref A_t_paces])), (A_t_counts, .inl (ty.1, 8, .inl (upd t_counts (v2 : Int32).toNatClampNeg r25))), (A_t_paces, .inl (ty.1, 8, .inl t_paces))] := hD
        refine lv_iinc (v := v2 + 1) (lv' := [(2, .int (v2 + 1)), (0, .ref A_t), (1, .int a1)]) hx hb dX2_breathe_29 hl (k := 2) rfl rfl (by decide) rfl (fun ls hl => ?_)
        refine lv_goto (tgt := 2) hx hb dX2_breathe_32 (by decide) ?_
        exact hk2 _ _ _ _ _ hP hD hS (lv_sub hl [1, 2, 0] rfl) hf
def fX2_breathe (t_awake : Int32) (t_counts : Nat → Int32) (t_paces : Nat → Int32) (a1 : Int32) : Option ((Nat → Int32)) :=
  loopF (fun k q => bX2_breathe_2 k t_awake t_paces a1 q.1 q.2) FU (0, t_counts)
set_option maxRecDepth 100000 in
set_option maxHeartbeats 4000000 in
theorem CX2_breathe (l : Launch) {D : va_G} {ty : TY} {A_t A_t_counts A_t_paces : Nat} {t_there : Int32} {t_awake : Int32} {t_start : Int32} {t_sharp : Int32} {t_counts : Nat → Int32} {t_paces : Nat → Int32} {a1 : Int32} {q0 : (Nat → Int32)} (hf : fX2_breathe t_awake t_counts t_paces a1 = some q0) : RWv l yX2_breathe wsX2_breathe rmX2_breathe D ty [.ref A_t, .int a1] [(A_t, .inr (1, [.int t_there, .int t_awake, .int t_start, .int t_sharp, .ref A_t_counts, .ref A_t_paces])), (A_t_counts, .inl (ty.1, 8, .inl t_counts)), (A_t_paces, .inl (ty.1, 8, .inl t_paces))] [(A_t, .inr (1, [.int t_there, .int t_awake, .int t_start, .int t_sharp, .ref A_t_counts, .ref A_t_paces])), (A_t_counts, .inl (ty.1, 8, .inl q0)), (A_t_paces, .inl (ty.1, 8, .inl t_paces))] := by
  refine RWv.start (cc := cX2_breathe) (maxL := 3) (ret := none) (own := RX2) (by decide) rfl rfl (Nat.le_of_ble_eq_true rfl) ?_
  intro p e s m below meth c ls C hK hP hD hS hl
  obtain ⟨WC, hWC⟩ : ∃ w : va_W, w = [(A_t, .inr (1, [.int t_there, .int t_awake, .int t_start, .int t_sharp, .ref A_t_counts, .ref A_t_paces])), (A_t_counts, .inl (ty.1, 8, .inl t_counts)), (A_t_paces, .inl (ty.1, 8, .inl t_paces))] := ⟨_, rfl⟩
  rw [← hWC] at hD hS ⊢
  have hD : va_D (va_A WC s.heap.size) [(A_t, .inr (1, [.int t_there, .int t_awake, .int t_start, .int t_sharp, .ref A_t_counts, .ref A_t_paces])), (A_t_counts, .inl (ty.1, 8, .inl t_counts)), (A_t_paces, .inl (ty.1, 8, .inl t_paces))] := by rw [← hWC]; exact hD
  obtain ⟨hx, hb, hr, hml, hown, hts, hlocks⟩ := id C
  have hl : lv_has ls 3 [(0, .ref A_t), (1, .int a1)] := hl
  unfold fX2_breathe at hf
  refine lv_iconst (v := 0) hx hb dX2_breathe_0 (by decide) ?_
  refine lv_istore_n (lv' := [(2, .int 0), (0, .ref A_t), (1, .int a1)]) hx hb dX2_breathe_1 rfl hl (by decide) rfl (fun ls hl => ?_)
  exact BX2_breathe_2 C hK  FU _ _ _ _ _ hP hD hS (lv_sub hl [1, 2, 0] rfl) hf
/-! ===== SilenceCount$House.ring()V ===== -/
abbrev rmX2_ring : Room := { frames := 1, cells := 0, slots := 0, locals := 21 }
theorem kkX2_ring : yX2_ring.cls = RX2 ∧ yX2_ring.cls ≠ "java/lang/invoke/MethodHandle" ∧ yX2_ring.cls ≠ "java/lang/invoke/VarHandle" ∧ (parseMethodDescriptor yX2_ring.desc).map (fun d => d.parameters.length) = some 0 := by decide +kernel
theorem mX2_ring_f19 : Cond.fieldLink RX2 19 "SilenceCount$House" "counts" "[I" ∈ wsX2_ring := by decide +kernel
theorem mX2_ring_f10 : Cond.fieldLink RX2 10 "SilenceCount$House" "start" "I" ∈ wsX2_ring := by decide +kernel
theorem mX2_ring_c64 : Cond.methodLink RX2 64 Lib.Math.min.name ∈ wsX2_ring := by decide +kernel
theorem mX2_ring_smin : Cond.static Lib.Math.min.name ∈ wsX2_ring := by decide +kernel
theorem mX2_ring_iMath : Cond.initialized "java/lang/Math" ∈ wsX2_ring := by decide +kernel
theorem mX2_ring_cdmin : Cond.code Lib.Math.min.name Lib.Math.min.code 2 (some .int) ∈ wsX2_ring := by decide +kernel
theorem wX2_ring_X2 : ∀ w ∈ u_ws RX2 TX2 6, w ∈ wsX2_ring := by decide +kernel
def bX2_ring_2 (k2 : Int32 × (Nat → Int32) → Option ((Nat → Int32))) (t_awake : Int32) (t_start : Int32) (v1 : Int32) (t_counts : Nat → Int32) : Option ((Nat → Int32)) :=
  if 8 ≤ v1 then some t_counts else (fX2_isAwake t_awake v1).bind fun r10 => if r10 = 0 then k2 (v1 + 1, t_counts) else gIn v1 8 (gIn v1 8 (k2 (v1 + 1, upd t_counts (v1 : Int32).toNatClampNeg (if ((t_counts (v1 : Int32).toNatClampNeg) + 1) < t_start then ((t_counts (v1 : Int32).toNatClampNeg) + 1) else t_start))))
set_option maxRecDepth 100000 in
set_option maxHeartbeats 4000000 in
theorem BX2_ring_2 {p : Program} {l : Launch} {e : Env} {s : State} {m : MethodId} {below : List Frame} {meth : Method} {c : Code} {D : va_G} {ty : TY} {A_t A_t_counts A_t_paces : Nat} {t_there : Int32} {t_awake : Int32} {t_start : Int32} {t_sharp : Int32} {t_paces : Nat → Int32} {q0 : (Nat → Int32)} {WC : va_W} (C : cx p s m [.ref A_t] meth c cX2_ring 2 none RX2 wsX2_ring) (hK : KK D ty s)   : ∀ (n : Nat) (v1 : Int32) (t_counts : Nat → Int32) (H : Heap) (locs : List Loc) (ls : Array Slot), va_P D vwCl [(A_t, .inr (1, [.int t_there, .int t_awake, .int t_start, .int t_sharp, .ref A_t_counts, .ref A_t_paces])), (A_t_counts, .inl (ty.1, 8, .inl t_counts)), (A_t_paces, .inl (ty.1, 8, .inl t_paces))] H → va_D (va_A WC s.heap.size) [(A_t, .inr (1, [.int t_there, .int t_awake, .int t_start, .int t_sharp, .ref A_t_counts, .ref A_t_paces])), (A_t_counts, .inl (ty.1, 8, .inl t_counts)), (A_t_paces, .inl (ty.1, 8, .inl t_paces))] → va_S (va_A WC s.heap.size) s.heap H locs → lv_has ls 2 [(0, .ref A_t), (1, .int v1)] → loopF (fun k q => bX2_ring_2 k t_awake t_start q.1 q.2) n (v1, t_counts) = some q0 → WWv p l e rmX2_ring s m [.ref A_t] below meth c D WC [(A_t, .inr (1, [.int t_there, .int t_awake, .int t_start, .int t_sharp, .ref A_t_counts, .ref A_t_paces])), (A_t_counts, .inl (ty.1, 8, .inl q0)), (A_t_paces, .inl (ty.1, 8, .inl t_paces))] H locs (F0 m 2 ls []) := by
  obtain ⟨hx, hb, hr, hml, hown, hts, hlocks⟩ := id C
  intro n
  induction n with
  | zero =>
    intro v1 t_counts H locs ls hP hD hS hl hf
    cases hf
  | succ n ih =>
    intro v1 t_counts H locs ls hP hD hS hl hf
    have hf : bX2_ring_2 (loopF (fun k q => bX2_ring_2 k t_awake t_start q.1 q.2) n) t_awake t_start v1 t_counts = some q0 := hf
    have hk2 := ih
    unfold bX2_ring_2 at hf
    refine lv_iload_n hx hb dX2_ring_2 rfl (lv_at hl 1 rfl) ?_
    refine lv_bipush (v := 8) hx hb dX2_ring_3 (by decide) ?_
    refine lv_icmp_ge (tgt := 43) hx hb dX2_ring_5 (by decide) (fun hc => ?_) (fun hc => ?_)
    · have hf := ft hf hc
      cases hf
      exact ret_wv hx hb hr hlocks hP hD hS dX2_ring_43
    · have hf := ff hf hc
      refine lv_aload_n hx hb dX2_ring_8 rfl (lv_at hl 0 rfl) ?_
      refine lv_iload_n hx hb dX2_ring_9 rfl (lv_at hl 1 rfl) ?_
      obtain ⟨r10, hr10, hf⟩ := bnd hf
      refine callV_ri (As := [.int v1]) (rest := []) ⟨hx, hb, hml, hown, hts⟩ (CX2_isAwake l hr10) (cwV 1 hts gX2_ring_X2_isAwake rfl rfl rfl kkX2_isAwake ⟨Nat.le_of_ble_eq_true rfl, Nat.le_of_ble_eq_true rfl⟩) hK hP 0 rfl rfl rfl hl.1 rfl (Nat.le_of_ble_eq_true rfl) dX2_ring_10 ⟨Nat.zero_le _, Nat.zero_le _⟩ ?_
      refine lv_if_eq (tgt := 37) hx hb dX2_ring_13 (by decide) (fun hc => ?_) (fun hc => ?_)
      · have hf := ft hf hc
        refine lv_iinc (v := v1 + 1) (lv' := [(1, .int (v1 + 1)), (0, .ref A_t)]) hx hb dX2_ring_37 hl (k := 1) rfl rfl (by decide) rfl (fun ls hl => ?_)
        refine lv_goto (tgt := 2) hx hb dX2_ring_40 (by decide) ?_
        exact hk2 _ _ _ _ _ hP hD hS (lv_sub hl [1, 0] rfl) hf
      · have hf := ff hf hc
        refine lv_aload_n hx hb dX2_ring_16 rfl (lv_at hl 0 rfl) ?_
        refine va_get (D := D) (ci := 1) (v := .ref A_t_counts) (C := RX2) (T := TX2) (N := 6) hx hb hts wX2_ring_X2 hown hK.1 hP 0 rfl rfl 4 (by decide) (hts _ mX2_ring_f19) (fun _ h9 => h9) rfl dX2_ring_17 ?_
        refine lv_iload_n hx hb dX2_ring_20 rfl (lv_at hl 1 rfl) ?_
        refine lv_aload_n hx hb dX2_ring_21 rfl (lv_at hl 0 rfl) ?_
        refine va_get (D := D) (ci := 1) (v := .int t_start) (C := RX2) (T := TX2) (N := 6) hx hb hts wX2_ring_X2 hown hK.1 hP 0 rfl rfl 2 (by decide) (hts _ mX2_ring_f10) (fun _ h9 => h9) rfl dX2_ring_22 ?_
        refine lv_aload_n hx hb dX2_ring_25 rfl (lv_at hl 0 rfl) ?_
        refine va_get (D := D) (ci := 1) (v := .ref A_t_counts) (C := RX2) (T := TX2) (N := 6) hx hb hts wX2_ring_X2 hown hK.1 hP 0 rfl rfl 4 (by decide) (hts _ mX2_ring_f19) (fun _ h9 => h9) rfl dX2_ring_26 ?_
        refine lv_iload_n hx hb dX2_ring_29 rfl (lv_at hl 1 rfl) ?_
        obtain ⟨hin, hf⟩ := gIn_some hf
        refine va_iald hx hb hK.1 hP 1 0 rfl rfl hin dX2_ring_30 ?_
        refine lv_iconst (v := 1) hx hb dX2_ring_31 (by decide) ?_
        refine lv_iadd hx hb dX2_ring_32 ?_
        refine va_mmin hx hb (hml.trans hl.1.symm) hown (hts _ mX2_ring_c64) (hts _ mX2_ring_smin) (hts _ mX2_ring_iMath) (hts _ mX2_ring_cdmin) (Nat.le_of_ble_eq_true rfl) (Nat.le_of_ble_eq_true rfl) (Nat.zero_le _) (Nat.zero_le _) dX2_ring_33 ?_
        obtain ⟨hin, hf⟩ := gIn_some hf
        refine va_iast hx hb hK.1 hP hD hS 1 0 rfl rfl hin dX2_ring_36 (fun H locs hP hD hS => ?_)
        have hP : va_P D vwCl [(A_t, .inr (1, [.int t_there, .int t_awake, .int t_start, .int t_sharp, .ref A_t_counts, .ref A_t_paces])), (A_t_counts, .inl (ty.1, 8, .inl (upd t_counts (v1 : Int32).toNatClampNeg (if ((t_counts (v1 : Int32).toNatClampNeg) + 1) < t_start then ((t_counts (v1 : Int32).toNatClampNeg) + 1) else t_start)))), (A_t_paces, .inl (ty.1, 8, .inl t_paces))] H := hP
        have hD : va_D (va_A WC s.heap.size) [(A_t, .inr (1, [.int t_there, .int t_awake, .int t_start, .int t_sharp, .ref A_t_counts, .ref A_t_paces])), (A_t_counts, .inl (ty.1, 8, .inl (upd t_counts (v1 : Int32).toNatClampNeg (if ((t_counts (v1 : Int32).toNatClampNeg) + 1) < t_start then ((t_counts (v1 : Int32).toNatClampNeg) + 1) else t_start)))), (A_t_paces, .inl (ty.1, 8, .inl t_paces))] := hD
        refine lv_iinc (v := v1 + 1) (lv' := [(1, .int (v1 + 1)), (0, .ref A_t)]) hx hb dX2_ring_37 hl (k := 1) rfl rfl (by decide) rfl (fun ls hl => ?_)
        refine lv_goto (tgt := 2) hx hb dX2_ring_40 (by decide) ?_
        exact hk2 _ _ _ _ _ hP hD hS (lv_sub hl [1, 0] rfl) hf
def fX2_ring (t_awake : Int32) (t_start : Int32) (t_counts : Nat → Int32) : Option ((Nat → Int32)) :=
  loopF (fun k q => bX2_ring_2 k t_awake t_start q.1 q.2) FU (0, t_counts)
set_option maxRecDepth 100000 in
set_option maxHeartbeats 4000000 in
theorem CX2_ring (l : Launch) {D : va_G} {ty : TY} {A_t A_t_counts A_t_paces : Nat} {t_there : Int32} {t_awake : Int32} {t_start : Int32} {t_sharp : Int32} {t_counts : Nat → Int32} {t_paces : Nat → Int32} {q0 : (Nat → Int32)} (hf : fX2_ring t_awake t_start t_counts = some q0) : RWv l yX2_ring wsX2_ring rmX2_ring D ty [.ref A_t] [(A_t, .inr (1, [.int t_there, .int t_awake, .int t_start, .int t_sharp, .ref A_t_counts, .ref A_t_paces])), (A_t_counts, .inl (ty.1, 8, .inl t_counts)), (A_t_paces, .inl (ty.1, 8, .inl t_paces))] [(A_t, .inr (1, [.int t_there, .int t_awake, .int t_start, .int t_sharp, .ref A_t_counts, .ref A_t_paces])), (A_t_counts, .inl (ty.1, 8, .inl q0)), (A_t_paces, .inl (ty.1, 8, .inl t_paces))] := by
  refine RWv.start (cc := cX2_ring) (maxL := 2) (ret := none) (own := RX2) (by decide) rfl rfl (Nat.le_of_ble_eq_true rfl) ?_
  intro p e s m below meth c ls C hK hP hD hS hl
  obtain ⟨WC, hWC⟩ : ∃ w : va_W, w = [(A_t, .inr (1, [.int t_there, .int t_awake, .int t_start, .int t_sharp, .ref A_t_counts, .ref A_t_paces])), (A_t_counts, .inl (ty.1, 8, .inl t_counts)), (A_t_paces, .inl (ty.1, 8, .inl t_paces))] := ⟨_, rfl⟩
  rw [← hWC] at hD hS ⊢
  have hD : va_D (va_A WC s.heap.size) [(A_t, .inr (1, [.int t_there, .int t_awake, .int t_start, .int t_sharp, .ref A_t_counts, .ref A_t_paces])), (A_t_counts, .inl (ty.1, 8, .inl t_counts)), (A_t_paces, .inl (ty.1, 8, .inl t_paces))] := by rw [← hWC]; exact hD
  obtain ⟨hx, hb, hr, hml, hown, hts, hlocks⟩ := id C
  have hl : lv_has ls 2 [(0, .ref A_t)] := hl
  unfold fX2_ring at hf
  refine lv_iconst (v := 0) hx hb dX2_ring_0 (by decide) ?_
  refine lv_istore_n (lv' := [(1, .int 0), (0, .ref A_t)]) hx hb dX2_ring_1 rfl hl (by decide) rfl (fun ls hl => ?_)
  exact BX2_ring_2 C hK  FU _ _ _ _ _ hP hD hS (lv_sub hl [1, 0] rfl) hf
/-! ===== SilenceCount$House.foremost()I ===== -/
abbrev rmX2_foremost : Room := { frames := 1, cells := 0, slots := 0, locals := 21 }
theorem kkX2_foremost : yX2_foremost.cls = RX2 ∧ yX2_foremost.cls ≠ "java/lang/invoke/MethodHandle" ∧ yX2_foremost.cls ≠ "java/lang/invoke/VarHandle" ∧ (parseMethodDescriptor yX2_foremost.desc).map (fun d => d.parameters.length) = some 0 := by decide +kernel
theorem mX2_foremost_f19 : Cond.fieldLink RX2 19 "SilenceCount$House" "counts" "[I" ∈ wsX2_foremost := by decide +kernel
theorem wX2_foremost_X2 : ∀ w ∈ u_ws RX2 TX2 6, w ∈ wsX2_foremost := by decide +kernel
def bX2_foremost_38 (k4 : Int32 × Int32 → Option (Int32)) (v2 : Int32) : Option (Int32) :=
  k4 (v2, v2 + 1)
set_option maxRecDepth 100000 in
set_option maxHeartbeats 4000000 in
theorem BX2_foremost_38 {p : Program} {l : Launch} {e : Env} {s : State} {m : MethodId} {below : List Frame} {meth : Method} {c : Code} {D : va_G} {ty : TY} {A_t A_t_counts A_t_paces : Nat} {t_there : Int32} {t_awake : Int32} {t_start : Int32} {t_sharp : Int32} {t_counts : Nat → Int32} {t_paces : Nat → Int32} {q0 : Int32} (C : cx p s m [.ref A_t] meth c cX2_foremost 3 (some .int) RX2 wsX2_foremost) (hK : KK D ty s) (hP : va_P D vwCl [(A_t, .inr (1, [.int t_there, .int t_awake, .int t_start, .int t_sharp, .ref A_t_counts, .ref A_t_paces])), (A_t_counts, .inl (ty.1, 8, .inl t_counts)), (A_t_paces, .inl (ty.1, 8, .inl t_paces))] s.heap) {k4 : Int32 × Int32 → Option (Int32)} (hk4 : ∀ (v1 : Int32) (v2 : Int32) (ls : Array Slot), lv_has ls 3 [(0, .ref A_t), (1, .int v1), (2, .int v2)] → k4 (v1, v2) = some q0 → WRi p l e rmX2_foremost s m [.ref A_t] below meth c q0 (F0 m 4 ls [])) {v2 : Int32} {ls : Array Slot} (hl : lv_has ls 3 [(0, .ref A_t), (2, .int v2)]) (hf : bX2_foremost_38 k4 v2 = some q0) : WRi p l e rmX2_foremost s m [.ref A_t] below meth c q0 (F0 m 38 ls []) := by
  obtain ⟨hx, hb, hr, hml, hown, hts, hlocks⟩ := id C
  unfold bX2_foremost_38 at hf
  refine lv_iload_n hx hb dX2_foremost_38 rfl (lv_at hl 1 rfl) ?_
  refine lv_istore_n (lv' := [(1, .int v2), (0, .ref A_t), (2, .int v2)]) hx hb dX2_foremost_39 rfl hl (by decide) rfl (fun ls hl => ?_)
  refine lv_iinc (v := v2 + 1) (lv' := [(2, .int (v2 + 1)), (1, .int v2), (0, .ref A_t)]) hx hb dX2_foremost_40 hl (k := 2) rfl rfl (by decide) rfl (fun ls hl => ?_)
  refine lv_goto (tgt := 4) hx hb dX2_foremost_43 (by decide) ?_
  exact hk4 _ _ _ (lv_sub hl [2, 1, 0] rfl) hf
def bX2_foremost_4 (k4 : Int32 × Int32 → Option (Int32)) (t_awake : Int32) (t_counts : Nat → Int32) (v1 : Int32) (v2 : Int32) : Option (Int32) :=
  if 8 ≤ v2 then some v1 else (fX2_isAwake t_awake v2).bind fun r12 => if r12 = 0 then k4 (v1, v2 + 1) else if v1 = (-1) then bX2_foremost_38 k4 v2 else gIn v2 8 (gIn v1 8 (if (t_counts (v1 : Int32).toNatClampNeg) ≤ (t_counts (v2 : Int32).toNatClampNeg) then k4 (v1, v2 + 1) else bX2_foremost_38 k4 v2))
set_option maxRecDepth 100000 in
set_option maxHeartbeats 4000000 in
theorem BX2_foremost_4 {p : Program} {l : Launch} {e : Env} {s : State} {m : MethodId} {below : List Frame} {meth : Method} {c : Code} {D : va_G} {ty : TY} {A_t A_t_counts A_t_paces : Nat} {t_there : Int32} {t_awake : Int32} {t_start : Int32} {t_sharp : Int32} {t_counts : Nat → Int32} {t_paces : Nat → Int32} {q0 : Int32} (C : cx p s m [.ref A_t] meth c cX2_foremost 3 (some .int) RX2 wsX2_foremost) (hK : KK D ty s) (hP : va_P D vwCl [(A_t, .inr (1, [.int t_there, .int t_awake, .int t_start, .int t_sharp, .ref A_t_counts, .ref A_t_paces])), (A_t_counts, .inl (ty.1, 8, .inl t_counts)), (A_t_paces, .inl (ty.1, 8, .inl t_paces))] s.heap)   : ∀ (n : Nat) (v1 : Int32) (v2 : Int32) (ls : Array Slot), lv_has ls 3 [(0, .ref A_t), (1, .int v1), (2, .int v2)] → loopF (fun k q => bX2_foremost_4 k t_awake t_counts q.1 q.2) n (v1, v2) = some q0 → WRi p l e rmX2_foremost s m [.ref A_t] below meth c q0 (F0 m 4 ls []) := by
  obtain ⟨hx, hb, hr, hml, hown, hts, hlocks⟩ := id C
  intro n
  induction n with
  | zero =>
    intro v1 v2 ls hl hf
    cases hf
  | succ n ih =>
    intro v1 v2 ls hl hf
    have hf : bX2_foremost_4 (loopF (fun k q => bX2_foremost_4 k t_awake t_counts q.1 q.2) n) t_awake t_counts v1 v2 = some q0 := hf
    have hk4 := ih
    unfold bX2_foremost_4 at hf
    refine lv_iload_n hx hb dX2_foremost_4 rfl (lv_at hl 2 rfl) ?_
    refine lv_bipush (v := 8) hx hb dX2_foremost_5 (by decide) ?_
    refine lv_icmp_ge (tgt := 46) hx hb dX2_foremost_7 (by decide) (fun hc => ?_) (fun hc => ?_)
    · have hf := ft hf hc
      refine lv_iload_n hx hb dX2_foremost_46 rfl (lv_at hl 1 rfl) ?_
      exact ret_ri hx hb hr hlocks hf dX2_foremost_47
    · have hf := ff hf hc
      refine lv_aload_n hx hb dX2_foremost_10 rfl (lv_at hl 0 rfl) ?_
      refine lv_iload_n hx hb dX2_foremost_11 rfl (lv_at hl 2 rfl) ?_
      obtain ⟨r12, hr12, hf⟩ := bnd hf
      refine callV_ri (As := [.int v2]) (rest := []) ⟨hx, hb, hml, hown, hts⟩ (CX2_isAwake l hr12) (cwV 1 hts gX2_foremost_X2_isAwake rfl rfl rfl kkX2_isAwake ⟨Nat.le_of_ble_eq_true rfl, Nat.le_of_ble_eq_true rfl⟩) hK hP 0 rfl rfl rfl hl.1 rfl (Nat.le_of_ble_eq_true rfl) dX2_foremost_12 ⟨Nat.zero_le _, Nat.zero_le _⟩ ?_
      refine lv_if_eq (tgt := 40) hx hb dX2_foremost_15 (by decide) (fun hc => ?_) (fun hc => ?_)
      · have hf := ft hf hc
        refine lv_iinc (v := v2 + 1) (lv' := [(2, .int (v2 + 1)), (0, .ref A_t), (1, .int v1)]) hx hb dX2_foremost_40 hl (k := 2) rfl rfl (by decide) rfl (fun ls hl => ?_)
        refine lv_goto (tgt := 4) hx hb dX2_foremost_43 (by decide) ?_
        exact hk4 _ _ _ (lv_sub hl [1, 2, 0] rfl) hf
      · have hf := ff hf hc
        refine lv_iload_n hx hb dX2_foremost_18 rfl (lv_at hl 1 rfl) ?_
        refine lv_iconst (v := (-1)) hx hb dX2_foremost_19 (by decide) ?_
        refine lv_icmp_eq (tgt := 38) hx hb dX2_foremost_20 (by decide) (fun hc => ?_) (fun hc => ?_)
        · have hf := ft hf hc
          exact BX2_foremost_38 C hK hP hk4 (lv_sub hl [0, 2] rfl) hf
        · have hf := ff hf hc
          refine lv_aload_n hx hb dX2_foremost_23 rfl (lv_at hl 0 rfl) ?_
          refine va_get (D := D) (ci := 1) (v := .ref A_t_counts) (C := RX2) (T := TX2) (N := 6) hx hb hts wX2_foremost_X2 hown hK.1 hP 0 rfl rfl 4 (by decide) (hts _ mX2_foremost_f19) (fun _ h9 => h9) rfl dX2_foremost_24 ?_
          refine lv_iload_n hx hb dX2_foremost_27 rfl (lv_at hl 2 rfl) ?_
          obtain ⟨hin, hf⟩ := gIn_some hf
          refine va_iald hx hb hK.1 hP 1 0 rfl rfl hin dX2_foremost_28 ?_
          refine lv_aload_n hx hb dX2_foremost_29 rfl (lv_at hl 0 rfl) ?_
          refine va_get (D := D) (ci := 1) (v := .ref A_t_counts) (C := RX2) (T := TX2) (N := 6) hx hb hts wX2_foremost_X2 hown hK.1 hP 0 rfl rfl 4 (by decide) (hts _ mX2_foremost_f19) (fun _ h9 => h9) rfl dX2_foremost_30 ?_
          refine lv_iload_n hx hb dX2_foremost_33 rfl (lv_at hl 1 rfl) ?_
          obtain ⟨hin, hf⟩ := gIn_some hf
          refine va_iald hx hb hK.1 hP 1 0 rfl rfl hin dX2_foremost_34 ?_
          refine lv_icmp_ge (tgt := 40) hx hb dX2_foremost_35 (by decide) (fun hc => ?_) (fun hc => ?_)
          · have hf := ft hf hc
            refine lv_iinc (v := v2 + 1) (lv' := [(2, .int (v2 + 1)), (0, .ref A_t), (1, .int v1)]) hx hb dX2_foremost_40 hl (k := 2) rfl rfl (by decide) rfl (fun ls hl => ?_)
            refine lv_goto (tgt := 4) hx hb dX2_foremost_43 (by decide) ?_
            exact hk4 _ _ _ (lv_sub hl [1, 2, 0] rfl) hf
          · have hf := ff hf hc
            exact BX2_foremost_38 C hK hP hk4 (lv_sub hl [0, 2] rfl) hf
def fX2_foremost (t_awake : Int32) (t_counts : Nat → Int32) : Option (Int32) :=
  loopF (fun k q => bX2_foremost_4 k t_awake t_counts q.1 q.2) FU ((-1), 0)
set_option maxRecDepth 100000 in
set_option maxHeartbeats 4000000 in
theorem CX2_foremost (l : Launch) {D : va_G} {ty : TY} {A_t A_t_counts A_t_paces : Nat} {t_there : Int32} {t_awake : Int32} {t_start : Int32} {t_sharp : Int32} {t_counts : Nat → Int32} {t_paces : Nat → Int32} {q0 : Int32} (hf : fX2_foremost t_awake t_counts = some q0) : ROi l yX2_foremost wsX2_foremost rmX2_foremost D ty [.ref A_t] [(A_t, .inr (1, [.int t_there, .int t_awake, .int t_start, .int t_sharp, .ref A_t_counts, .ref A_t_paces])), (A_t_counts, .inl (ty.1, 8, .inl t_counts)), (A_t_paces, .inl (ty.1, 8, .inl t_paces))] q0 := by
  refine ROi.start (cc := cX2_foremost) (maxL := 3) (ret := (some .int)) (own := RX2) (by decide) rfl rfl (Nat.le_of_ble_eq_true rfl) ?_
  intro p e s m below meth c ls C hK hP hl
  obtain ⟨hx, hb, hr, hml, hown, hts, hlocks⟩ := id C
  have hl : lv_has ls 3 [(0, .ref A_t)] := hl
  unfold fX2_foremost at hf
  refine lv_iconst (v := (-1)) hx hb dX2_foremost_0 (by decide) ?_
  refine lv_istore_n (lv' := [(1, .int (-1)), (0, .ref A_t)]) hx hb dX2_foremost_1 rfl hl (by decide) rfl (fun ls hl => ?_)
  refine lv_iconst (v := 0) hx hb dX2_foremost_2 (by decide) ?_
  refine lv_istore_n (lv' := [(2, .int 0), (1, .int (-1)), (0, .ref A_t)]) hx hb dX2_foremost_3 rfl hl (by decide) rfl (fun ls hl => ?_)
  exact BX2_foremost_4 C hK hP  FU _ _ _ (lv_sub hl [2, 1, 0] rfl) hf
/-! ===== SilenceCount$House.sting()V ===== -/
abbrev rmX2_sting : Room := { frames := 2, cells := 0, slots := 0, locals := 43 }
theorem kkX2_sting : yX2_sting.cls = RX2 ∧ yX2_sting.cls ≠ "java/lang/invoke/MethodHandle" ∧ yX2_sting.cls ≠ "java/lang/invoke/VarHandle" ∧ (parseMethodDescriptor yX2_sting.desc).map (fun d => d.parameters.length) = some 0 := by decide +kernel
theorem mX2_sting_f19 : Cond.fieldLink RX2 19 "SilenceCount$House" "counts" "[I" ∈ wsX2_sting := by decide +kernel
theorem mX2_sting_f10 : Cond.fieldLink RX2 10 "SilenceCount$House" "start" "I" ∈ wsX2_sting := by decide +kernel
theorem wX2_sting_X2 : ∀ w ∈ u_ws RX2 TX2 6, w ∈ wsX2_sting := by decide +kernel
def fX2_sting (t_awake : Int32) (t_start : Int32) (t_counts : Nat → Int32) : Option ((Nat → Int32)) :=
  (fX2_foremost t_awake t_counts).bind fun r1 => if r1 = (-1) then some t_counts else gIn r1 8 (some (upd t_counts (r1 : Int32).toNatClampNeg t_start))
set_option maxRecDepth 100000 in
set_option maxHeartbeats 4000000 in
theorem CX2_sting (l : Launch) {D : va_G} {ty : TY} {A_t A_t_counts A_t_paces : Nat} {t_there : Int32} {t_awake : Int32} {t_start : Int32} {t_sharp : Int32} {t_counts : Nat → Int32} {t_paces : Nat → Int32} {q0 : (Nat → Int32)} (hf : fX2_sting t_awake t_start t_counts = some q0) : RWv l yX2_sting wsX2_sting rmX2_sting D ty [.ref A_t] [(A_t, .inr (1, [.int t_there, .int t_awake, .int t_start, .int t_sharp, .ref A_t_counts, .ref A_t_paces])), (A_t_counts, .inl (ty.1, 8, .inl t_counts)), (A_t_paces, .inl (ty.1, 8, .inl t_paces))] [(A_t, .inr (1, [.int t_there, .int t_awake, .int t_start, .int t_sharp, .ref A_t_counts, .ref A_t_paces])), (A_t_counts, .inl (ty.1, 8, .inl q0)), (A_t_paces, .inl (ty.1, 8, .inl t_paces))] := by
  refine RWv.start (cc := cX2_sting) (maxL := 2) (ret := none) (own := RX2) (by decide) rfl rfl (Nat.le_of_ble_eq_true rfl) ?_
  intro p e s m below meth c ls C hK hP hD hS hl
  obtain ⟨WC, hWC⟩ : ∃ w : va_W, w = [(A_t, .inr (1, [.int t_there, .int t_awake, .int t_start, .int t_sharp, .ref A_t_counts, .ref A_t_paces])), (A_t_counts, .inl (ty.1, 8, .inl t_counts)), (A_t_paces, .inl (ty.1, 8, .inl t_paces))] := ⟨_, rfl⟩
  rw [← hWC] at hD hS ⊢
  have hD : va_D (va_A WC s.heap.size) [(A_t, .inr (1, [.int t_there, .int t_awake, .int t_start, .int t_sharp, .ref A_t_counts, .ref A_t_paces])), (A_t_counts, .inl (ty.1, 8, .inl t_counts)), (A_t_paces, .inl (ty.1, 8, .inl t_paces))] := by rw [← hWC]; exact hD
  obtain ⟨hx, hb, hr, hml, hown, hts, hlocks⟩ := id C
  have hl : lv_has ls 2 [(0, .ref A_t)] := hl
  unfold fX2_sting at hf
  refine lv_aload_n hx hb dX2_sting_0 rfl (lv_at hl 0 rfl) ?_
  obtain ⟨r1, hr1, hf⟩ := bnd hf
  refine callV_ri (As := []) (rest := []) ⟨hx, hb, hml, hown, hts⟩ (CX2_foremost l hr1) (cwV 0 hts gX2_sting_X2_foremost rfl rfl rfl kkX2_foremost ⟨Nat.le_of_ble_eq_true rfl, Nat.le_of_ble_eq_true rfl⟩) hK hP 0 rfl rfl rfl hl.1 rfl (Nat.le_of_ble_eq_true rfl) dX2_sting_1 ⟨Nat.zero_le _, Nat.zero_le _⟩ ?_
  refine lv_istore_n (lv' := [(1, .int r1), (0, .ref A_t)]) hx hb dX2_sting_4 rfl hl (by decide) rfl (fun ls hl => ?_)
  refine lv_iload_n hx hb dX2_sting_5 rfl (lv_at hl 0 rfl) ?_
  refine lv_iconst (v := (-1)) hx hb dX2_sting_6 (by decide) ?_
  refine lv_icmp_eq (tgt := 20) hx hb dX2_sting_7 (by decide) (fun hc => ?_) (fun hc => ?_)
  · have hf := ft hf hc
    cases hf
    exact ret_wv hx hb hr hlocks hP hD hS dX2_sting_20
  · have hf := ff hf hc
    refine lv_aload_n hx hb dX2_sting_10 rfl (lv_at hl 1 rfl) ?_
    refine va_get (D := D) (ci := 1) (v := .ref A_t_counts) (C := RX2) (T := TX2) (N := 6) hx hb hts wX2_sting_X2 hown hK.1 hP 0 rfl rfl 4 (by decide) (hts _ mX2_sting_f19) (fun _ h9 => h9) rfl dX2_sting_11 ?_
    refine lv_iload_n hx hb dX2_sting_14 rfl (lv_at hl 0 rfl) ?_
    refine lv_aload_n hx hb dX2_sting_15 rfl (lv_at hl 1 rfl) ?_
    refine va_get (D := D) (ci := 1) (v := .int t_start) (C := RX2) (T := TX2) (N := 6) hx hb hts wX2_sting_X2 hown hK.1 hP 0 rfl rfl 2 (by decide) (hts _ mX2_sting_f10) (fun _ h9 => h9) rfl dX2_sting_16 ?_
    obtain ⟨hin, hf⟩ := gIn_some hf
    refine va_iast hx hb hK.1 hP hD hS 1 0 rfl rfl hin dX2_sting_19 (fun H locs hP hD hS => ?_)
    have hP : va_P D vwCl [(A_t, .inr (1, [.int t_there, .int t_awake, .int t_start, .int t_sharp, .ref A_t_counts, .ref A_t_paces])), (A_t_counts, .inl (ty.1, 8, .inl (upd t_counts (r1 : Int32).toNatClampNeg t_start))), (A_t_paces, .inl (ty.1, 8, .inl t_paces))] H := hP
    have hD : va_D (va_A WC s.heap.size) [(A_t, .inr (1, [.int t_there, .int t_awake, .int t_start, .int t_sharp, .ref A_t_counts, .ref A_t_paces])), (A_t_counts, .inl (ty.1, 8, .inl (upd t_counts (r1 : Int32).toNatClampNeg t_start))), (A_t_paces, .inl (ty.1, 8, .inl t_paces))] := hD
    cases hf
    exact ret_wv hx hb hr hlocks hP hD hS dX2_sting_20
/-! ===== SilenceCount$House.howManyAwakeAt(I)I ===== -/
abbrev rmX2_howManyAwakeAt : Room := { frames := 1, cells := 0, slots := 0, locals := 21 }
theorem kkX2_howManyAwakeAt : yX2_howManyAwakeAt.cls = RX2 ∧ yX2_howManyAwakeAt.cls ≠ "java/lang/invoke/MethodHandle" ∧ yX2_howManyAwakeAt.cls ≠ "java/lang/invoke/VarHandle" ∧ (parseMethodDescriptor yX2_howManyAwakeAt.desc).map (fun d => d.parameters.length) = some 1 := by decide +kernel
theorem mX2_howManyAwakeAt_f19 : Cond.fieldLink RX2 19 "SilenceCount$House" "counts" "[I" ∈ wsX2_howManyAwakeAt := by decide +kernel
theorem wX2_howManyAwakeAt_X2 : ∀ w ∈ u_ws RX2 TX2 6, w ∈ wsX2_howManyAwakeAt := by decide +kernel
def bX2_howManyAwakeAt_4 (k4 : Int32 × Int32 → Option (Int32)) (t_awake : Int32) (t_counts : Nat → Int32) (a1 : Int32) (v2 : Int32) (v3 : Int32) : Option (Int32) :=
  if 8 ≤ v3 then some v2 else (fX2_isAwake t_awake v3).bind fun r12 => if r12 = 0 then k4 (v2, v3 + 1) else gIn v3 8 (if (t_counts (v3 : Int32).toNatClampNeg) = a1 then k4 (v2 + 1, v3 + 1) else k4 (v2, v3 + 1))
set_option maxRecDepth 100000 in
set_option maxHeartbeats 4000000 in
theorem BX2_howManyAwakeAt_4 {p : Program} {l : Launch} {e : Env} {s : State} {m : MethodId} {below : List Frame} {meth : Method} {c : Code} {D : va_G} {ty : TY} {A_t A_t_counts A_t_paces : Nat} {t_there : Int32} {t_awake : Int32} {t_start : Int32} {t_sharp : Int32} {t_counts : Nat → Int32} {t_paces : Nat → Int32} {a1 : Int32} {q0 : Int32} (C : cx p s m [.ref A_t, .int a1] meth c cX2_howManyAwakeAt 4 (some .int) RX2 wsX2_howManyAwakeAt) (hK : KK D ty s) (hP : va_P D vwCl [(A_t, .inr (1, [.int t_there, .int t_awake, .int t_start, .int t_sharp, .ref A_t_counts, .ref A_t_paces])), (A_t_counts, .inl (ty.1, 8, .inl t_counts)), (A_t_paces, .inl (ty.1, 8, .inl t_paces))] s.heap)   : ∀ (n : Nat) (v2 : Int32) (v3 : Int32) (ls : Array Slot), lv_has ls 4 [(0, .ref A_t), (1, .int a1), (2, .int v2), (3, .int v3)] → loopF (fun k q => bX2_howManyAwakeAt_4 k t_awake t_counts a1 q.1 q.2) n (v2, v3) = some q0 → WRi p l e rmX2_howManyAwakeAt s m [.ref A_t, .int a1] below meth c q0 (F0 m 4 ls []) := by
  obtain ⟨hx, hb, hr, hml, hown, hts, hlocks⟩ := id C
  intro n
  induction n with
  | zero =>
    intro v2 v3 ls hl hf
    cases hf
  | succ n ih =>
    intro v2 v3 ls hl hf
    have hf : bX2_howManyAwakeAt_4 (loopF (fun k q => bX2_howManyAwakeAt_4 k t_awake t_counts a1 q.1 q.2) n) t_awake t_counts a1 v2 v3 = some q0 := hf
    have hk4 := ih
    unfold bX2_howManyAwakeAt_4 at hf
    refine lv_iload_n hx hb dX2_howManyAwakeAt_4 rfl (lv_at hl 3 rfl) ?_
    refine lv_bipush (v := 8) hx hb dX2_howManyAwakeAt_5 (by decide) ?_
    refine lv_icmp_ge (tgt := 37) hx hb dX2_howManyAwakeAt_7 (by decide) (fun hc => ?_) (fun hc => ?_)
    · have hf := ft hf hc
      refine lv_iload_n hx hb dX2_howManyAwakeAt_37 rfl (lv_at hl 2 rfl) ?_
      exact ret_ri hx hb hr hlocks hf dX2_howManyAwakeAt_38
    · have hf := ff hf hc
      refine lv_aload_n hx hb dX2_howManyAwakeAt_10 rfl (lv_at hl 0 rfl) ?_
      refine lv_iload_n hx hb dX2_howManyAwakeAt_11 rfl (lv_at hl 3 rfl) ?_
      obtain ⟨r12, hr12, hf⟩ := bnd hf
      refine callV_ri (As := [.int v3]) (rest := []) ⟨hx, hb, hml, hown, hts⟩ (CX2_isAwake l hr12) (cwV 1 hts gX2_howManyAwakeAt_X2_isAwake rfl rfl rfl kkX2_isAwake ⟨Nat.le_of_ble_eq_true rfl, Nat.le_of_ble_eq_true rfl⟩) hK hP 0 rfl rfl rfl hl.1 rfl (Nat.le_of_ble_eq_true rfl) dX2_howManyAwakeAt_12 ⟨Nat.zero_le _, Nat.zero_le _⟩ ?_
      refine lv_if_eq (tgt := 31) hx hb dX2_howManyAwakeAt_15 (by decide) (fun hc => ?_) (fun hc => ?_)
      · have hf := ft hf hc
        refine lv_iinc (v := v3 + 1) (lv' := [(3, .int (v3 + 1)), (0, .ref A_t), (1, .int a1), (2, .int v2)]) hx hb dX2_howManyAwakeAt_31 hl (k := 3) rfl rfl (by decide) rfl (fun ls hl => ?_)
        refine lv_goto (tgt := 4) hx hb dX2_howManyAwakeAt_34 (by decide) ?_
        exact hk4 _ _ _ (lv_sub hl [1, 2, 3, 0] rfl) hf
      · have hf := ff hf hc
        refine lv_aload_n hx hb dX2_howManyAwakeAt_18 rfl (lv_at hl 0 rfl) ?_
        refine va_get (D := D) (ci := 1) (v := .ref A_t_counts) (C := RX2) (T := TX2) (N := 6) hx hb hts wX2_howManyAwakeAt_X2 hown hK.1 hP 0 rfl rfl 4 (by decide) (hts _ mX2_howManyAwakeAt_f19) (fun _ h9 => h9) rfl dX2_howManyAwakeAt_19 ?_
        refine lv_iload_n hx hb dX2_howManyAwakeAt_22 rfl (lv_at hl 3 rfl) ?_
        obtain ⟨hin, hf⟩ := gIn_some hf
        refine va_iald hx hb hK.1 hP 1 0 rfl rfl hin dX2_howManyAwakeAt_23 ?_
        refine lv_iload_n hx hb dX2_howManyAwakeAt_24 rfl (lv_at hl 1 rfl) ?_
        refine lv_icmp_ne (tgt := 31) hx hb dX2_howManyAwakeAt_25 (by decide) (fun hc => ?_) (fun hc => ?_)
        · have hf := ff hf hc
          refine lv_iinc (v := v3 + 1) (lv' := [(3, .int (v3 + 1)), (0, .ref A_t), (1, .int a1), (2, .int v2)]) hx hb dX2_howManyAwakeAt_31 hl (k := 3) rfl rfl (by decide) rfl (fun ls hl => ?_)
          refine lv_goto (tgt := 4) hx hb dX2_howManyAwakeAt_34 (by decide) ?_
          exact hk4 _ _ _ (lv_sub hl [1, 2, 3, 0] rfl) hf
        · have hf := ft hf hc
          refine lv_iinc (v := v2 + 1) (lv' := [(2, .int (v2 + 1)), (0, .ref A_t), (1, .int a1), (3, .int v3)]) hx hb dX2_howManyAwakeAt_28 hl (k := 2) rfl rfl (by decide) rfl (fun ls hl => ?_)
          refine lv_iinc (v := v3 + 1) (lv' := [(3, .int (v3 + 1)), (2, .int (v2 + 1)), (0, .ref A_t), (1, .int a1)]) hx hb dX2_howManyAwakeAt_31 hl (k := 3) rfl rfl (by decide) rfl (fun ls hl => ?_)
          refine lv_goto (tgt := 4) hx hb dX2_howManyAwakeAt_34 (by decide) ?_
          exact hk4 _ _ _ (lv_sub hl [2, 3, 1, 0] rfl) hf
def fX2_howManyAwakeAt (t_awake : Int32) (t_counts : Nat → Int32) (a1 : Int32) : Option (Int32) :=
  loopF (fun k q => bX2_howManyAwakeAt_4 k t_awake t_counts a1 q.1 q.2) FU (0, 0)
set_option maxRecDepth 100000 in
set_option maxHeartbeats 4000000 in
theorem CX2_howManyAwakeAt (l : Launch) {D : va_G} {ty : TY} {A_t A_t_counts A_t_paces : Nat} {t_there : Int32} {t_awake : Int32} {t_start : Int32} {t_sharp : Int32} {t_counts : Nat → Int32} {t_paces : Nat → Int32} {a1 : Int32} {q0 : Int32} (hf : fX2_howManyAwakeAt t_awake t_counts a1 = some q0) : ROi l yX2_howManyAwakeAt wsX2_howManyAwakeAt rmX2_howManyAwakeAt D ty [.ref A_t, .int a1] [(A_t, .inr (1, [.int t_there, .int t_awake, .int t_start, .int t_sharp, .ref A_t_counts, .ref A_t_paces])), (A_t_counts, .inl (ty.1, 8, .inl t_counts)), (A_t_paces, .inl (ty.1, 8, .inl t_paces))] q0 := by
  refine ROi.start (cc := cX2_howManyAwakeAt) (maxL := 4) (ret := (some .int)) (own := RX2) (by decide) rfl rfl (Nat.le_of_ble_eq_true rfl) ?_
  intro p e s m below meth c ls C hK hP hl
  obtain ⟨hx, hb, hr, hml, hown, hts, hlocks⟩ := id C
  have hl : lv_has ls 4 [(0, .ref A_t), (1, .int a1)] := hl
  unfold fX2_howManyAwakeAt at hf
  refine lv_iconst (v := 0) hx hb dX2_howManyAwakeAt_0 (by decide) ?_
  refine lv_istore_n (lv' := [(2, .int 0), (0, .ref A_t), (1, .int a1)]) hx hb dX2_howManyAwakeAt_1 rfl hl (by decide) rfl (fun ls hl => ?_)
  refine lv_iconst (v := 0) hx hb dX2_howManyAwakeAt_2 (by decide) ?_
  refine lv_istore_n (lv' := [(3, .int 0), (2, .int 0), (0, .ref A_t), (1, .int a1)]) hx hb dX2_howManyAwakeAt_3 rfl hl (by decide) rfl (fun ls hl => ?_)
  exact BX2_howManyAwakeAt_4 C hK hP  FU _ _ _ (lv_sub hl [2, 3, 1, 0] rfl) hf
/-! ===== SilenceCount$House.commonestCount()I ===== -/
abbrev rmX2_commonestCount : Room := { frames := 2, cells := 0, slots := 0, locals := 44 }
theorem kkX2_commonestCount : yX2_commonestCount.cls = RX2 ∧ yX2_commonestCount.cls ≠ "java/lang/invoke/MethodHandle" ∧ yX2_commonestCount.cls ≠ "java/lang/invoke/VarHandle" ∧ (parseMethodDescriptor yX2_commonestCount.desc).map (fun d => d.parameters.length) = some 0 := by decide +kernel
theorem mX2_commonestCount_f19 : Cond.fieldLink RX2 19 "SilenceCount$House" "counts" "[I" ∈ wsX2_commonestCount := by decide +kernel
theorem wX2_commonestCount_X2 : ∀ w ∈ u_ws RX2 TX2 6, w ∈ wsX2_commonestCount := by decide +kernel
def bX2_commonestCount_57 (k6 : Int32 × Int32 × Int32 → Option (Int32)) (t_counts : Nat → Int32) (v3 : Int32) (v4 : Int32) : Option (Int32) :=
  gIn v3 8 (k6 (t_counts (v3 : Int32).toNatClampNeg, v4, v3 + 1))
set_option maxRecDepth 100000 in
set_option maxHeartbeats 4000000 in
theorem BX2_commonestCount_57 {p : Program} {l : Launch} {e : Env} {s : State} {m : MethodId} {below : List Frame} {meth : Method} {c : Code} {D : va_G} {ty : TY} {A_t A_t_counts A_t_paces : Nat} {t_there : Int32} {t_awake : Int32} {t_start : Int32} {t_sharp : Int32} {t_counts : Nat → Int32} {t_paces : Nat → Int32} {q0 : Int32} (C : cx p s m [.ref A_t] meth c cX2_commonestCount 5 (some .int) RX2 wsX2_commonestCount) (hK : KK D ty s) (hP : va_P D vwCl [(A_t, .inr (1, [.int t_there, .int t_awake, .int t_start, .int t_sharp, .ref A_t_counts, .ref A_t_paces])), (A_t_counts, .inl (ty.1, 8, .inl t_counts)), (A_t_paces, .inl (ty.1, 8, .inl t_paces))] s.heap) {k6 : Int32 × Int32 × Int32 → Option (Int32)} (hk6 : ∀ (v1 : Int32) (v2 : Int32) (v3 : Int32) (ls : Array Slot), lv_has ls 5 [(0, .ref A_t), (1, .int v1), (2, .int v2), (3, .int v3)] → k6 (v1, v2, v3) = some q0 → WRi p l e rmX2_commonestCount s m [.ref A_t] below meth c q0 (F0 m 6 ls [])) {v3 : Int32} {v4 : Int32} {ls : Array Slot} (hl : lv_has ls 5 [(0, .ref A_t), (3, .int v3), (4, .int v4)]) (hf : bX2_commonestCount_57 k6 t_counts v3 v4 = some q0) : WRi p l e rmX2_commonestCount s m [.ref A_t] below meth c q0 (F0 m 57 ls []) := by
  obtain ⟨hx, hb, hr, hml, hown, hts, hlocks⟩ := id C
  unfold bX2_commonestCount_57 at hf
  refine lv_aload_n hx hb dX2_commonestCount_57 rfl (lv_at hl 0 rfl) ?_
  refine va_get (D := D) (ci := 1) (v := .ref A_t_counts) (C := RX2) (T := TX2) (N := 6) hx hb hts wX2_commonestCount_X2 hown hK.1 hP 0 rfl rfl 4 (by decide) (hts _ mX2_commonestCount_f19) (fun _ h9 => h9) rfl dX2_commonestCount_58 ?_
  refine lv_iload_n hx hb dX2_commonestCount_61 rfl (lv_at hl 1 rfl) ?_
  obtain ⟨hin, hf⟩ := gIn_some hf
  refine va_iald hx hb hK.1 hP 1 0 rfl rfl hin dX2_commonestCount_62 ?_
  refine lv_istore_n (lv' := [(1, .int (t_counts (v3 : Int32).toNatClampNeg)), (0, .ref A_t), (3, .int v3), (4, .int v4)]) hx hb dX2_commonestCount_63 rfl hl (by decide) rfl (fun ls hl => ?_)
  refine lv_iload hx hb dX2_commonestCount_64 (lv_at hl 3 rfl) ?_
  refine lv_istore_n (lv' := [(2, .int v4), (1, .int (t_counts (v3 : Int32).toNatClampNeg)), (0, .ref A_t), (3, .int v3), (4, .int v4)]) hx hb dX2_commonestCount_66 rfl hl (by decide) rfl (fun ls hl => ?_)
  refine lv_iinc (v := v3 + 1) (lv' := [(3, .int (v3 + 1)), (2, .int v4), (1, .int (t_counts (v3 : Int32).toNatClampNeg)), (0, .ref A_t), (4, .int v4)]) hx hb dX2_commonestCount_67 hl (k := 3) rfl rfl (by decide) rfl (fun ls hl => ?_)
  refine lv_goto (tgt := 6) hx hb dX2_commonestCount_70 (by decide) ?_
  exact hk6 _ _ _ _ (lv_sub hl [3, 2, 1, 0] rfl) hf
def bX2_commonestCount_6 (k6 : Int32 × Int32 × Int32 → Option (Int32)) (t_awake : Int32) (t_counts : Nat → Int32) (v1 : Int32) (v2 : Int32) (v3 : Int32) : Option (Int32) :=
  if 8 ≤ v3 then some v1 else (fX2_isAwake t_awake v3).bind fun r14 => if r14 = 0 then k6 (v1, v2, v3 + 1) else gIn v3 8 ((fX2_howManyAwakeAt t_awake t_counts (t_counts (v3 : Int32).toNatClampNeg)).bind fun r30 => if v2 < r30 then bX2_commonestCount_57 k6 t_counts v3 r30 else if r30 = v2 then gIn v3 8 (if v1 ≤ (t_counts (v3 : Int32).toNatClampNeg) then k6 (v1, v2, v3 + 1) else bX2_commonestCount_57 k6 t_counts v3 r30) else k6 (v1, v2, v3 + 1))
set_option maxRecDepth 100000 in
set_option maxHeartbeats 4000000 in
theorem BX2_commonestCount_6 {p : Program} {l : Launch} {e : Env} {s : State} {m : MethodId} {below : List Frame} {meth : Method} {c : Code} {D : va_G} {ty : TY} {A_t A_t_counts A_t_paces : Nat} {t_there : Int32} {t_awake : Int32} {t_start : Int32} {t_sharp : Int32} {t_counts : Nat → Int32} {t_paces : Nat → Int32} {q0 : Int32} (C : cx p s m [.ref A_t] meth c cX2_commonestCount 5 (some .int) RX2 wsX2_commonestCount) (hK : KK D ty s) (hP : va_P D vwCl [(A_t, .inr (1, [.int t_there, .int t_awake, .int t_start, .int t_sharp, .ref A_t_counts, .ref A_t_paces])), (A_t_counts, .inl (ty.1, 8, .inl t_counts)), (A_t_paces, .inl (ty.1, 8, .inl t_paces))] s.heap)   : ∀ (n : Nat) (v1 : Int32) (v2 : Int32) (v3 : Int32) (ls : Array Slot), lv_has ls 5 [(0, .ref A_t), (1, .int v1), (2, .int v2), (3, .int v3)] → loopF (fun k q => bX2_commonestCount_6 k t_awake t_counts q.1 q.2.1 q.2.2) n (v1, v2, v3) = some q0 → WRi p l e rmX2_commonestCount s m [.ref A_t] below meth c q0 (F0 m 6 ls []) := by
  obtain ⟨hx, hb, hr, hml, hown, hts, hlocks⟩ := id C
  intro n
  induction n with
  | zero =>
    intro v1 v2 v3 ls hl hf
    cases hf
  | succ n ih =>
    intro v1 v2 v3 ls hl hf
    have hf : bX2_commonestCount_6 (loopF (fun k q => bX2_commonestCount_6 k t_awake t_counts q.1 q.2.1 q.2.2) n) t_awake t_counts v1 v2 v3 = some q0 := hf
    have hk6 := ih
    unfold bX2_commonestCount_6 at hf
    refine lv_iload_n hx hb dX2_commonestCount_6 rfl (lv_at hl 3 rfl) ?_
    refine lv_bipush (v := 8) hx hb dX2_commonestCount_7 (by decide) ?_
    refine lv_icmp_ge (tgt := 73) hx hb dX2_commonestCount_9 (by decide) (fun hc => ?_) (fun hc => ?_)
    · have hf := ft hf hc
      refine lv_iload_n hx hb dX2_commonestCount_73 rfl (lv_at hl 1 rfl) ?_
      exact ret_ri hx hb hr hlocks hf dX2_commonestCount_74
    · have hf := ff hf hc
      refine lv_aload_n hx hb dX2_commonestCount_12 rfl (lv_at hl 0 rfl) ?_
      refine lv_iload_n hx hb dX2_commonestCount_13 rfl (lv_at hl 3 rfl) ?_
      obtain ⟨r14, hr14, hf⟩ := bnd hf
      refine callV_ri (As := [.int v3]) (rest := []) ⟨hx, hb, hml, hown, hts⟩ (CX2_isAwake l hr14) (cwV 1 hts gX2_commonestCount_X2_isAwake rfl rfl rfl kkX2_isAwake ⟨Nat.le_of_ble_eq_true rfl, Nat.le_of_ble_eq_true rfl⟩) hK hP 0 rfl rfl rfl hl.1 rfl (Nat.le_of_ble_eq_true rfl) dX2_commonestCount_14 ⟨Nat.zero_le _, Nat.zero_le _⟩ ?_
      refine lv_if_ne (tgt := 23) hx hb dX2_commonestCount_17 (by decide) (fun hc => ?_) (fun hc => ?_)
      · have hf := ff hf hc
        refine lv_aload_n hx hb dX2_commonestCount_23 rfl (lv_at hl 0 rfl) ?_
        refine lv_aload_n hx hb dX2_commonestCount_24 rfl (lv_at hl 0 rfl) ?_
        refine va_get (D := D) (ci := 1) (v := .ref A_t_counts) (C := RX2) (T := TX2) (N := 6) hx hb hts wX2_commonestCount_X2 hown hK.1 hP 0 rfl rfl 4 (by decide) (hts _ mX2_commonestCount_f19) (fun _ h9 => h9) rfl dX2_commonestCount_25 ?_
        refine lv_iload_n hx hb dX2_commonestCount_28 rfl (lv_at hl 3 rfl) ?_
        obtain ⟨hin, hf⟩ := gIn_some hf
        refine va_iald hx hb hK.1 hP 1 0 rfl rfl hin dX2_commonestCount_29 ?_
        obtain ⟨r30, hr30, hf⟩ := bnd hf
        refine callV_ri (As := [.int (t_counts (v3 : Int32).toNatClampNeg)]) (rest := []) ⟨hx, hb, hml, hown, hts⟩ (CX2_howManyAwakeAt l hr30) (cwV 1 hts gX2_commonestCount_X2_howManyAwakeAt rfl rfl rfl kkX2_howManyAwakeAt ⟨Nat.le_of_ble_eq_true rfl, Nat.le_of_ble_eq_true rfl⟩) hK hP 0 rfl rfl rfl hl.1 rfl (Nat.le_of_ble_eq_true rfl) dX2_commonestCount_30 ⟨Nat.zero_le _, Nat.zero_le _⟩ ?_
        refine lv_istore (lv' := [(4, .int r30), (0, .ref A_t), (1, .int v1), (2, .int v2), (3, .int v3)]) hx hb dX2_commonestCount_33 hl (by decide) rfl (fun ls hl => ?_)
        refine lv_iload hx hb dX2_commonestCount_35 (lv_at hl 0 rfl) ?_
        refine lv_iload_n hx hb dX2_commonestCount_37 rfl (lv_at hl 3 rfl) ?_
        refine lv_icmp_gt (tgt := 57) hx hb dX2_commonestCount_38 (by decide) (fun hc => ?_) (fun hc => ?_)
        · have hf := ft hf hc
          exact BX2_commonestCount_57 C hK hP hk6 (lv_sub hl [1, 4, 0] rfl) hf
        · have hf := ff hf hc
          refine lv_iload hx hb dX2_commonestCount_41 (lv_at hl 0 rfl) ?_
          refine lv_iload_n hx hb dX2_commonestCount_43 rfl (lv_at hl 3 rfl) ?_
          refine lv_icmp_ne (tgt := 67) hx hb dX2_commonestCount_44 (by decide) (fun hc => ?_) (fun hc => ?_)
          · have hf := ff hf hc
            refine lv_iinc (v := v3 + 1) (lv' := [(3, .int (v3 + 1)), (4, .int r30), (0, .ref A_t), (1, .int v1), (2, .int v2)]) hx hb dX2_commonestCount_67 hl (k := 4) rfl rfl (by decide) rfl (fun ls hl => ?_)
            refine lv_goto (tgt := 6) hx hb dX2_commonestCount_70 (by decide) ?_
            exact hk6 _ _ _ _ (lv_sub hl [2, 3, 4, 0] rfl) hf
          · have hf := ft hf hc
            refine lv_aload_n hx hb dX2_commonestCount_47 rfl (lv_at hl 1 rfl) ?_
            refine va_get (D := D) (ci := 1) (v := .ref A_t_counts) (C := RX2) (T := TX2) (N := 6) hx hb hts wX2_commonestCount_X2 hown hK.1 hP 0 rfl rfl 4 (by decide) (hts _ mX2_commonestCount_f19) (fun _ h9 => h9) rfl dX2_commonestCount_48 ?_
            refine lv_iload_n hx hb dX2_commonestCount_51 rfl (lv_at hl 4 rfl) ?_
            obtain ⟨hin, hf⟩ := gIn_some hf
            refine va_iald hx hb hK.1 hP 1 0 rfl rfl hin dX2_commonestCount_52 ?_
            refine lv_iload_n hx hb dX2_commonestCount_53 rfl (lv_at hl 2 rfl) ?_
            refine lv_icmp_ge (tgt := 67) hx hb dX2_commonestCount_54 (by decide) (fun hc => ?_) (fun hc => ?_)
            · have hf := ft hf hc
              refine lv_iinc (v := v3 + 1) (lv' := [(3, .int (v3 + 1)), (4, .int r30), (0, .ref A_t), (1, .int v1), (2, .int v2)]) hx hb dX2_commonestCount_67 hl (k := 4) rfl rfl (by decide) rfl (fun ls hl => ?_)
              refine lv_goto (tgt := 6) hx hb dX2_commonestCount_70 (by decide) ?_
              exact hk6 _ _ _ _ (lv_sub hl [2, 3, 4, 0] rfl) hf
            · have hf := ff hf hc
              exact BX2_commonestCount_57 C hK hP hk6 (lv_sub hl [1, 4, 0] rfl) hf
      · have hf := ft hf hc
        refine lv_goto (tgt := 67) hx hb dX2_commonestCount_20 (by decide) ?_
        refine lv_iinc (v := v3 + 1) (lv' := [(3, .int (v3 + 1)), (0, .ref A_t), (1, .int v1), (2, .int v2)]) hx hb dX2_commonestCount_67 hl (k := 3) rfl rfl (by decide) rfl (fun ls hl => ?_)
        refine lv_goto (tgt := 6) hx hb dX2_commonestCount_70 (by decide) ?_
        exact hk6 _ _ _ _ (lv_sub hl [1, 2, 3, 0] rfl) hf
def fX2_commonestCount (t_awake : Int32) (t_counts : Nat → Int32) : Option (Int32) :=
  loopF (fun k q => bX2_commonestCount_6 k t_awake t_counts q.1 q.2.1 q.2.2) FU (0, 0, 0)
set_option maxRecDepth 100000 in
set_option maxHeartbeats 4000000 in
theorem CX2_commonestCount (l : Launch) {D : va_G} {ty : TY} {A_t A_t_counts A_t_paces : Nat} {t_there : Int32} {t_awake : Int32} {t_start : Int32} {t_sharp : Int32} {t_counts : Nat → Int32} {t_paces : Nat → Int32} {q0 : Int32} (hf : fX2_commonestCount t_awake t_counts = some q0) : ROi l yX2_commonestCount wsX2_commonestCount rmX2_commonestCount D ty [.ref A_t] [(A_t, .inr (1, [.int t_there, .int t_awake, .int t_start, .int t_sharp, .ref A_t_counts, .ref A_t_paces])), (A_t_counts, .inl (ty.1, 8, .inl t_counts)), (A_t_paces, .inl (ty.1, 8, .inl t_paces))] q0 := by
  refine ROi.start (cc := cX2_commonestCount) (maxL := 5) (ret := (some .int)) (own := RX2) (by decide) rfl rfl (Nat.le_of_ble_eq_true rfl) ?_
  intro p e s m below meth c ls C hK hP hl
  obtain ⟨hx, hb, hr, hml, hown, hts, hlocks⟩ := id C
  have hl : lv_has ls 5 [(0, .ref A_t)] := hl
  unfold fX2_commonestCount at hf
  refine lv_iconst (v := 0) hx hb dX2_commonestCount_0 (by decide) ?_
  refine lv_istore_n (lv' := [(1, .int 0), (0, .ref A_t)]) hx hb dX2_commonestCount_1 rfl hl (by decide) rfl (fun ls hl => ?_)
  refine lv_iconst (v := 0) hx hb dX2_commonestCount_2 (by decide) ?_
  refine lv_istore_n (lv' := [(2, .int 0), (1, .int 0), (0, .ref A_t)]) hx hb dX2_commonestCount_3 rfl hl (by decide) rfl (fun ls hl => ?_)
  refine lv_iconst (v := 0) hx hb dX2_commonestCount_4 (by decide) ?_
  refine lv_istore_n (lv' := [(3, .int 0), (2, .int 0), (1, .int 0), (0, .ref A_t)]) hx hb dX2_commonestCount_5 rfl hl (by decide) rfl (fun ls hl => ?_)
  exact BX2_commonestCount_6 C hK hP  FU _ _ _ _ (lv_sub hl [3, 2, 1, 0] rfl) hf
/-! ===== SilenceCount$House.handOver(II)V ===== -/
abbrev rmX2_handOver : Room := { frames := 0, cells := 0, slots := 0, locals := 0 }
theorem kkX2_handOver : yX2_handOver.cls = RX2 ∧ yX2_handOver.cls ≠ "java/lang/invoke/MethodHandle" ∧ yX2_handOver.cls ≠ "java/lang/invoke/VarHandle" ∧ (parseMethodDescriptor yX2_handOver.desc).map (fun d => d.parameters.length) = some 2 := by decide +kernel
theorem mX2_handOver_f29 : Cond.fieldLink RX2 29 "SilenceCount$House" "awake" "I" ∈ wsX2_handOver := by decide +kernel
theorem mX2_handOver_f19 : Cond.fieldLink RX2 19 "SilenceCount$House" "counts" "[I" ∈ wsX2_handOver := by decide +kernel
theorem wX2_handOver_X2 : ∀ w ∈ u_ws RX2 TX2 6, w ∈ wsX2_handOver := by decide +kernel
def fX2_handOver (t_awake : Int32) (t_counts : Nat → Int32) (a1 : Int32) (a2 : Int32) : Option (Int32 × (Nat → Int32)) :=
  gIn a1 8 (gIn a2 8 (gIn a2 8 (some (t_awake &&& ((1 <<< (a1 &&& 31)) ^^^ (-1)), upd t_counts (a2 : Int32).toNatClampNeg (((t_counts (a1 : Int32).toNatClampNeg) + (t_counts (a2 : Int32).toNatClampNeg)) / 2)))))
set_option maxRecDepth 100000 in
set_option maxHeartbeats 4000000 in
theorem CX2_handOver (l : Launch) {D : va_G} {ty : TY} {A_t A_t_counts A_t_paces : Nat} {t_there : Int32} {t_awake : Int32} {t_start : Int32} {t_sharp : Int32} {t_counts : Nat → Int32} {t_paces : Nat → Int32} {a1 : Int32} {a2 : Int32} {q0 : Int32 × (Nat → Int32)} (hf : fX2_handOver t_awake t_counts a1 a2 = some q0) : RWv l yX2_handOver wsX2_handOver rmX2_handOver D ty [.ref A_t, .int a1, .int a2] [(A_t, .inr (1, [.int t_there, .int t_awake, .int t_start, .int t_sharp, .ref A_t_counts, .ref A_t_paces])), (A_t_counts, .inl (ty.1, 8, .inl t_counts)), (A_t_paces, .inl (ty.1, 8, .inl t_paces))] [(A_t, .inr (1, [.int t_there, .int q0.1, .int t_start, .int t_sharp, .ref A_t_counts, .ref A_t_paces])), (A_t_counts, .inl (ty.1, 8, .inl q0.2)), (A_t_paces, .inl (ty.1, 8, .inl t_paces))] := by
  refine RWv.start (cc := cX2_handOver) (maxL := 3) (ret := none) (own := RX2) (by decide) rfl rfl (Nat.le_of_ble_eq_true rfl) ?_
  intro p e s m below meth c ls C hK hP hD hS hl
  obtain ⟨WC, hWC⟩ : ∃ w : va_W, w = [(A_t, .inr (1, [.int t_there, .int t_awake, .int t_start, .int t_sharp, .ref A_t_counts, .ref A_t_paces])), (A_t_counts, .inl (ty.1, 8, .inl t_counts)), (A_t_paces, .inl (ty.1, 8, .inl t_paces))] := ⟨_, rfl⟩
  rw [← hWC] at hD hS ⊢
  have hD : va_D (va_A WC s.heap.size) [(A_t, .inr (1, [.int t_there, .int t_awake, .int t_start, .int t_sharp, .ref A_t_counts, .ref A_t_paces])), (A_t_counts, .inl (ty.1, 8, .inl t_counts)), (A_t_paces, .inl (ty.1, 8, .inl t_paces))] := by rw [← hWC]; exact hD
  obtain ⟨hx, hb, hr, hml, hown, hts, hlocks⟩ := id C
  have hl : lv_has ls 3 [(0, .ref A_t), (1, .int a1), (2, .int a2)] := hl
  unfold fX2_handOver at hf
  refine lv_aload_n hx hb dX2_handOver_0 rfl (lv_at hl 0 rfl) ?_
  refine lv_dup hx hb dX2_handOver_1 rfl ?_
  refine va_get (D := D) (ci := 1) (v := .int t_awake) (C := RX2) (T := TX2) (N := 6) hx hb hts wX2_handOver_X2 hown hK.1 hP 0 rfl rfl 1 (by decide) (hts _ mX2_handOver_f29) (fun _ h9 => h9) rfl dX2_handOver_2 ?_
  refine lv_iconst (v := 1) hx hb dX2_handOver_5 (by decide) ?_
  refine lv_iload_n hx hb dX2_handOver_6 rfl (lv_at hl 1 rfl) ?_
  refine lv_ishl hx hb dX2_handOver_7 ?_
  refine lv_iconst (v := (-1)) hx hb dX2_handOver_8 (by decide) ?_
  refine lv_ixor hx hb dX2_handOver_9 ?_
  refine lv_iand hx hb dX2_handOver_10 ?_
  refine va_put (D := D) (ci := 1) (v := .int (t_awake &&& ((1 <<< (a1 &&& 31)) ^^^ (-1)))) (ty := .int) (C := RX2) (T := TX2) (N := 6) hx hb hts wX2_handOver_X2 tyX2 tyX2_ok nmX2 hown hK.1 hP hD hS 0 rfl rfl 1 (by decide) (hts _ mX2_handOver_f29) (fun _ h9 => h9) rfl (by decide +kernel) rfl rfl (Nat.le_of_ble_eq_true rfl) dX2_handOver_11 (fun H locs hP hD hS => ?_)
  have hP : va_P D vwCl [(A_t, .inr (1, [.int t_there, .int (t_awake &&& ((1 <<< (a1 &&& 31)) ^^^ (-1))), .int t_start, .int t_sharp, .ref A_t_counts, .ref A_t_paces])), (A_t_counts, .inl (ty.1, 8, .inl t_counts)), (A_t_paces, .inl (ty.1, 8, .inl t_paces))] H := hP
  have hD : va_D (va_A WC s.heap.size) [(A_t, .inr (1, [.int t_there, .int (t_awake &&& ((1 <<< (a1 &&& 31)) ^^^ (-1))), .int t_start, .int t_sharp, .ref A_t_counts, .ref A_t_paces])), (A_t_counts, .inl (ty.1, 8, .inl t_counts)), (A_t_paces, .inl (ty.1, 8, .inl t_paces))] := hD
  refine lv_aload_n hx hb dX2_handOver_14 rfl (lv_at hl 0 rfl) ?_
  refine va_get (D := D) (ci := 1) (v := .ref A_t_counts) (C := RX2) (T := TX2) (N := 6) hx hb hts wX2_handOver_X2 hown hK.1 hP 0 rfl rfl 4 (by decide) (hts _ mX2_handOver_f19) (fun _ h9 => h9) rfl dX2_handOver_15 ?_
  refine lv_iload_n hx hb dX2_handOver_18 rfl (lv_at hl 2 rfl) ?_
  refine lv_aload_n hx hb dX2_handOver_19 rfl (lv_at hl 0 rfl) ?_
  refine va_get (D := D) (ci := 1) (v := .ref A_t_counts) (C := RX2) (T := TX2) (N := 6) hx hb hts wX2_handOver_X2 hown hK.1 hP 0 rfl rfl 4 (by decide) (hts _ mX2_handOver_f19) (fun _ h9 => h9) rfl dX2_handOver_20 ?_
  refine lv_iload_n hx hb dX2_handOver_23 rfl (lv_at hl 1 rfl) ?_
  obtain ⟨hin, hf⟩ := gIn_some hf
  refine va_iald hx hb hK.1 hP 1 0 rfl rfl hin dX2_handOver_24 ?_
  refine lv_aload_n hx hb dX2_handOver_25 rfl (lv_at hl 0 rfl) ?_
  refine va_get (D := D) (ci := 1) (v := .ref A_t_counts) (C := RX2) (T := TX2) (N := 6) hx hb hts wX2_handOver_X2 hown hK.1 hP 0 rfl rfl 4 (by decide) (hts _ mX2_handOver_f19) (fun _ h9 => h9) rfl dX2_handOver_26 ?_
  refine lv_iload_n hx hb dX2_handOver_29 rfl (lv_at hl 2 rfl) ?_
  obtain ⟨hin, hf⟩ := gIn_some hf
  refine va_iald hx hb hK.1 hP 1 0 rfl rfl hin dX2_handOver_30 ?_
  refine lv_iadd hx hb dX2_handOver_31 ?_
  refine lv_iconst (v := 2) hx hb dX2_handOver_32 (by decide) ?_
  refine lv_idiv hx hb dX2_handOver_33 (by decide) ?_
  obtain ⟨hin, hf⟩ := gIn_some hf
  refine va_iast hx hb hK.1 hP hD hS 1 0 rfl rfl hin dX2_handOver_34 (fun H locs hP hD hS => ?_)
  have hP : va_P D vwCl [(A_t, .inr (1, [.int t_there, .int (t_awake &&& ((1 <<< (a1 &&& 31)) ^^^ (-1))), .int t_start, .int t_sharp, .ref A_t_counts, .ref A_t_paces])), (A_t_counts, .inl (ty.1, 8, .inl (upd t_counts (a2 : Int32).toNatClampNeg (((t_counts (a1 : Int32).toNatClampNeg) + (t_counts (a2 : Int32).toNatClampNeg)) / 2)))), (A_t_paces, .inl (ty.1, 8, .inl t_paces))] H := hP
  have hD : va_D (va_A WC s.heap.size) [(A_t, .inr (1, [.int t_there, .int (t_awake &&& ((1 <<< (a1 &&& 31)) ^^^ (-1))), .int t_start, .int t_sharp, .ref A_t_counts, .ref A_t_paces])), (A_t_counts, .inl (ty.1, 8, .inl (upd t_counts (a2 : Int32).toNatClampNeg (((t_counts (a1 : Int32).toNatClampNeg) + (t_counts (a2 : Int32).toNatClampNeg)) / 2)))), (A_t_paces, .inl (ty.1, 8, .inl t_paces))] := hD
  cases hf
  exact ret_wv hx hb hr hlocks hP hD hS dX2_handOver_35
/-! ===== SilenceCount$House.act(II)V ===== -/
abbrev rmX2_act : Room := { frames := 3, cells := 0, slots := 0, locals := 68 }
theorem kkX2_act : yX2_act.cls = RX2 ∧ yX2_act.cls ≠ "java/lang/invoke/MethodHandle" ∧ yX2_act.cls ≠ "java/lang/invoke/VarHandle" ∧ (parseMethodDescriptor yX2_act.desc).map (fun d => d.parameters.length) = some 2 := by decide +kernel
theorem mX2_act_f19 : Cond.fieldLink RX2 19 "SilenceCount$House" "counts" "[I" ∈ wsX2_act := by decide +kernel
theorem mX2_act_f10 : Cond.fieldLink RX2 10 "SilenceCount$House" "start" "I" ∈ wsX2_act := by decide +kernel
theorem mX2_act_c64 : Cond.methodLink RX2 64 Lib.Math.min.name ∈ wsX2_act := by decide +kernel
theorem mX2_act_smin : Cond.static Lib.Math.min.name ∈ wsX2_act := by decide +kernel
theorem mX2_act_iMath : Cond.initialized "java/lang/Math" ∈ wsX2_act := by decide +kernel
theorem mX2_act_cdmin : Cond.code Lib.Math.min.name Lib.Math.min.code 2 (some .int) ∈ wsX2_act := by decide +kernel
theorem mX2_act_f29 : Cond.fieldLink RX2 29 "SilenceCount$House" "awake" "I" ∈ wsX2_act := by decide +kernel
theorem wX2_act_X2 : ∀ w ∈ u_ws RX2 TX2 6, w ∈ wsX2_act := by decide +kernel
def fX2_act (t_awake : Int32) (t_start : Int32) (t_counts : Nat → Int32) (t_paces : Nat → Int32) (a1 : Int32) (a2 : Int32) : Option (Int32 × (Nat → Int32)) :=
  if a2 = 33 then (fX2_ring t_awake t_start t_counts).bind fun r86 => some (t_awake, r86) else if a2 = 42 then (fX2_sting t_awake t_start t_counts).bind fun r93 => some (t_awake, r93) else if a2 = 46 then (fX2_breathe t_awake t_counts t_paces 1).bind fun r70 => some (t_awake, r70) else if a2 = 58 then (fX2_breathe t_awake t_counts t_paces 10).bind fun r79 => some (t_awake, r79) else if a2 = 101 then (fX2_commonestCount t_awake t_counts).bind fun r144 => gIn a1 8 (some (t_awake, upd t_counts (a1 : Int32).toNatClampNeg r144)) else if a2 = 107 then gIn a1 8 (gIn a1 8 (some (t_awake, upd t_counts (a1 : Int32).toNatClampNeg (if ((t_counts (a1 : Int32).toNatClampNeg) + 3) < t_start then ((t_counts (a1 : Int32).toNatClampNeg) + 3) else t_start)))) else if a2 = 119 then some (t_awake ||| (1 <<< (a1 &&& 31)), t_counts) else (fX2_handOver t_awake t_counts a1 (a2 - 65)).bind fun r157 => some (r157.1, r157.2)
set_option maxRecDepth 100000 in
set_option maxHeartbeats 4000000 in
theorem CX2_act (l : Launch) {D : va_G} {ty : TY} {A_t A_t_counts A_t_paces : Nat} {t_there : Int32} {t_awake : Int32} {t_start : Int32} {t_sharp : Int32} {t_counts : Nat → Int32} {t_paces : Nat → Int32} {a1 : Int32} {a2 : Int32} {q0 : Int32 × (Nat → Int32)} (hf : fX2_act t_awake t_start t_counts t_paces a1 a2 = some q0) : RWv l yX2_act wsX2_act rmX2_act D ty [.ref A_t, .int a1, .int a2] [(A_t, .inr (1, [.int t_there, .int t_awake, .int t_start, .int t_sharp, .ref A_t_counts, .ref A_t_paces])), (A_t_counts, .inl (ty.1, 8, .inl t_counts)), (A_t_paces, .inl (ty.1, 8, .inl t_paces))] [(A_t, .inr (1, [.int t_there, .int q0.1, .int t_start, .int t_sharp, .ref A_t_counts, .ref A_t_paces])), (A_t_counts, .inl (ty.1, 8, .inl q0.2)), (A_t_paces, .inl (ty.1, 8, .inl t_paces))] := by
  refine RWv.start (cc := cX2_act) (maxL := 3) (ret := none) (own := RX2) (by decide) rfl rfl (Nat.le_of_ble_eq_true rfl) ?_
  intro p e s m below meth c ls C hK hP hD hS hl
  obtain ⟨WC, hWC⟩ : ∃ w : va_W, w = [(A_t, .inr (1, [.int t_there, .int t_awake, .int t_start, .int t_sharp, .ref A_t_counts, .ref A_t_paces])), (A_t_counts, .inl (ty.1, 8, .inl t_counts)), (A_t_paces, .inl (ty.1, 8, .inl t_paces))] := ⟨_, rfl⟩
  rw [← hWC] at hD hS ⊢
  have hD : va_D (va_A WC s.heap.size) [(A_t, .inr (1, [.int t_there, .int t_awake, .int t_start, .int t_sharp, .ref A_t_counts, .ref A_t_paces])), (A_t_counts, .inl (ty.1, 8, .inl t_counts)), (A_t_paces, .inl (ty.1, 8, .inl t_paces))] := by rw [← hWC]; exact hD
  obtain ⟨hx, hb, hr, hml, hown, hts, hlocks⟩ := id C
  have hl : lv_has ls 3 [(0, .ref A_t), (1, .int a1), (2, .int a2)] := hl
  unfold fX2_act at hf
  refine lv_iload_n hx hb dX2_act_0 rfl (lv_at hl 2 rfl) ?_
  by_cases hc33 : a2 = 33
  · have hf := ft hf hc33
    refine lv_lookup (tgt := 85) hx hb dX2_act_1 (by decide) (by rw [hc33] <;> rfl) (by decide) ?_
    refine lv_aload_n hx hb dX2_act_85 rfl (lv_at hl 0 rfl) ?_
    obtain ⟨r86, hr86, hf⟩ := bnd hf
    refine callV_wv (As := []) (rest := []) ⟨hx, hb, hml, hown, hts⟩ (CX2_ring l hr86) (cwV 0 hts gX2_act_X2_ring rfl rfl rfl kkX2_ring ⟨Nat.le_of_ble_eq_true rfl, Nat.le_of_ble_eq_true rfl⟩) hK hP hD hS (fun _ h => Or.inr h) [0, 1, 2] [] [0, 1, 2] rfl (by decide) (by decide) rfl rfl 0 rfl rfl rfl hl.1 rfl (Nat.le_of_ble_eq_true rfl) dX2_act_86 ⟨Nat.zero_le _, Nat.zero_le _⟩ (fun H locs hP hD hS => ?_)
    have hP : va_P D vwCl [(A_t, .inr (1, [.int t_there, .int t_awake, .int t_start, .int t_sharp, .ref A_t_counts, .ref A_t_paces])), (A_t_counts, .inl (ty.1, 8, .inl r86)), (A_t_paces, .inl (ty.1, 8, .inl t_paces))] H := hP
    have hD : va_D (va_A WC s.heap.size) [(A_t, .inr (1, [.int t_there, .int t_awake, .int t_start, .int t_sharp, .ref A_t_counts, .ref A_t_paces])), (A_t_counts, .inl (ty.1, 8, .inl r86)), (A_t_paces, .inl (ty.1, 8, .inl t_paces))] := hD
    refine lv_goto (tgt := 160) hx hb dX2_act_89 (by decide) ?_
    cases hf
    exact ret_wv hx hb hr hlocks hP hD hS dX2_act_160
  · have hf := ff hf hc33
    by_cases hc42 : a2 = 42
    · have hf := ft hf hc42
      refine lv_lookup (tgt := 92) hx hb dX2_act_1 (by decide) (by rw [hc42] <;> rfl) (by decide) ?_
      refine lv_aload_n hx hb dX2_act_92 rfl (lv_at hl 0 rfl) ?_
      obtain ⟨r93, hr93, hf⟩ := bnd hf
      refine callV_wv (As := []) (rest := []) ⟨hx, hb, hml, hown, hts⟩ (CX2_sting l hr93) (cwV 0 hts gX2_act_X2_sting rfl rfl rfl kkX2_sting ⟨Nat.le_of_ble_eq_true rfl, Nat.le_of_ble_eq_true rfl⟩) hK hP hD hS (fun _ h => Or.inr h) [0, 1, 2] [] [0, 1, 2] rfl (by decide) (by decide) rfl rfl 0 rfl rfl rfl hl.1 rfl (Nat.le_of_ble_eq_true rfl) dX2_act_93 ⟨Nat.zero_le _, Nat.zero_le _⟩ (fun H locs hP hD hS => ?_)
      have hP : va_P D vwCl [(A_t, .inr (1, [.int t_there, .int t_awake, .int t_start, .int t_sharp, .ref A_t_counts, .ref A_t_paces])), (A_t_counts, .inl (ty.1, 8, .inl r93)), (A_t_paces, .inl (ty.1, 8, .inl t_paces))] H := hP
      have hD : va_D (va_A WC s.heap.size) [(A_t, .inr (1, [.int t_there, .int t_awake, .int t_start, .int t_sharp, .ref A_t_counts, .ref A_t_paces])), (A_t_counts, .inl (ty.1, 8, .inl r93)), (A_t_paces, .inl (ty.1, 8, .inl t_paces))] := hD
      refine lv_goto (tgt := 160) hx hb dX2_act_96 (by decide) ?_
      cases hf
      exact ret_wv hx hb hr hlocks hP hD hS dX2_act_160
    · have hf := ff hf hc42
      by_cases hc46 : a2 = 46
      · have hf := ft hf hc46
        refine lv_lookup (tgt := 68) hx hb dX2_act_1 (by decide) (by rw [hc46] <;> rfl) (by decide) ?_
        refine lv_aload_n hx hb dX2_act_68 rfl (lv_at hl 0 rfl) ?_
        refine lv_iconst (v := 1) hx hb dX2_act_69 (by decide) ?_
        obtain ⟨r70, hr70, hf⟩ := bnd hf
        refine callV_wv (As := [.int 1]) (rest := []) ⟨hx, hb, hml, hown, hts⟩ (CX2_breathe l hr70) (cwV 1 hts gX2_act_X2_breathe rfl rfl rfl kkX2_breathe ⟨Nat.le_of_ble_eq_true rfl, Nat.le_of_ble_eq_true rfl⟩) hK hP hD hS (fun _ h => Or.inr h) [0, 1, 2] [] [0, 1, 2] rfl (by decide) (by decide) rfl rfl 0 rfl rfl rfl hl.1 rfl (Nat.le_of_ble_eq_true rfl) dX2_act_70 ⟨Nat.zero_le _, Nat.zero_le _⟩ (fun H locs hP hD hS => ?_)
        have hP : va_P D vwCl [(A_t, .inr (1, [.int t_there, .int t_awake, .int t_start, .int t_sharp, .ref A_t_counts, .ref A_t_paces])), (A_t_counts, .inl (ty.1, 8, .inl r70)), (A_t_paces, .inl (ty.1, 8, .inl t_paces))] H := hP
        have hD : va_D (va_A WC s.heap.size) [(A_t, .inr (1, [.int t_there, .int t_awake, .int t_start, .int t_sharp, .ref A_t_counts, .ref A_t_paces])), (A_t_counts, .inl (ty.1, 8, .inl r70)), (A_t_paces, .inl (ty.1, 8, .inl t_paces))] := hD
        refine lv_goto (tgt := 160) hx hb dX2_act_73 (by decide) ?_
        cases hf
        exact ret_wv hx hb hr hlocks hP hD hS dX2_act_160
      · have hf := ff hf hc46
        by_cases hc58 : a2 = 58
        · have hf := ft hf hc58
          refine lv_lookup (tgt := 76) hx hb dX2_act_1 (by decide) (by rw [hc58] <;> rfl) (by decide) ?_
          refine lv_aload_n hx hb dX2_act_76 rfl (lv_at hl 0 rfl) ?_
          refine lv_bipush (v := 10) hx hb dX2_act_77 (by decide) ?_
          obtain ⟨r79, hr79, hf⟩ := bnd hf
          refine callV_wv (As := [.int 10]) (rest := []) ⟨hx, hb, hml, hown, hts⟩ (CX2_breathe l hr79) (cwV 1 hts gX2_act_X2_breathe rfl rfl rfl kkX2_breathe ⟨Nat.le_of_ble_eq_true rfl, Nat.le_of_ble_eq_true rfl⟩) hK hP hD hS (fun _ h => Or.inr h) [0, 1, 2] [] [0, 1, 2] rfl (by decide) (by decide) rfl rfl 0 rfl rfl rfl hl.1 rfl (Nat.le_of_ble_eq_true rfl) dX2_act_79 ⟨Nat.zero_le _, Nat.zero_le _⟩ (fun H locs hP hD hS => ?_)
          have hP : va_P D vwCl [(A_t, .inr (1, [.int t_there, .int t_awake, .int t_start, .int t_sharp, .ref A_t_counts, .ref A_t_paces])), (A_t_counts, .inl (ty.1, 8, .inl r79)), (A_t_paces, .inl (ty.1, 8, .inl t_paces))] H := hP
          have hD : va_D (va_A WC s.heap.size) [(A_t, .inr (1, [.int t_there, .int t_awake, .int t_start, .int t_sharp, .ref A_t_counts, .ref A_t_paces])), (A_t_counts, .inl (ty.1, 8, .inl r79)), (A_t_paces, .inl (ty.1, 8, .inl t_paces))] := hD
          refine lv_goto (tgt := 160) hx hb dX2_act_82 (by decide) ?_
          cases hf
          exact ret_wv hx hb hr hlocks hP hD hS dX2_act_160
        · have hf := ff hf hc58
          by_cases hc101 : a2 = 101
          · have hf := ft hf hc101
            refine lv_lookup (tgt := 138) hx hb dX2_act_1 (by decide) (by rw [hc101] <;> rfl) (by decide) ?_
            refine lv_aload_n hx hb dX2_act_138 rfl (lv_at hl 0 rfl) ?_
            refine va_get (D := D) (ci := 1) (v := .ref A_t_counts) (C := RX2) (T := TX2) (N := 6) hx hb hts wX2_act_X2 hown hK.1 hP 0 rfl rfl 4 (by decide) (hts _ mX2_act_f19) (fun _ h9 => h9) rfl dX2_act_139 ?_
            refine lv_iload_n hx hb dX2_act_142 rfl (lv_at hl 1 rfl) ?_
            refine lv_aload_n hx hb dX2_act_143 rfl (lv_at hl 0 rfl) ?_
            obtain ⟨r144, hr144, hf⟩ := bnd hf
            refine callV_ri (As := []) (rest := [.int a1, .ref A_t_counts]) ⟨hx, hb, hml, hown, hts⟩ (CX2_commonestCount l hr144) (cwV 0 hts gX2_act_X2_commonestCount rfl rfl rfl kkX2_commonestCount ⟨Nat.le_of_ble_eq_true rfl, Nat.le_of_ble_eq_true rfl⟩) hK hP 0 rfl rfl rfl hl.1 rfl (Nat.le_of_ble_eq_true rfl) dX2_act_144 ⟨Nat.zero_le _, Nat.zero_le _⟩ ?_
            obtain ⟨hin, hf⟩ := gIn_some hf
            refine va_iast hx hb hK.1 hP hD hS 1 0 rfl rfl hin dX2_act_147 (fun H locs hP hD hS => ?_)
            have hP : va_P D vwCl [(A_t, .inr (1, [.int t_there, .int t_awake, .int t_start, .int t_sharp, .ref A_t_counts, .ref A_t_paces])), (A_t_counts, .inl (ty.1, 8, .inl (upd t_counts (a1 : Int32).toNatClampNeg r144))), (A_t_paces, .inl (ty.1, 8, .inl t_paces))] H := hP
            have hD : va_D (va_A WC s.heap.size) [(A_t, .inr (1, [.int t_there, .int t_awake, .int t_start, .int t_sharp, .ref A_t_counts, .ref A_t_paces])), (A_t_counts, .inl (ty.1, 8, .inl (upd t_counts (a1 : Int32).toNatClampNeg r144))), (A_t_paces, .inl (ty.1, 8, .inl t_paces))] := hD
            refine lv_goto (tgt := 160) hx hb dX2_act_148 (by decide) ?_
            cases hf
            exact ret_wv hx hb hr hlocks hP hD hS dX2_act_160
          · have hf := ff hf hc101
            by_cases hc107 : a2 = 107
            · have hf := ft hf hc107
              refine lv_lookup (tgt := 114) hx hb dX2_act_1 (by decide) (by rw [hc107] <;> rfl) (by decide) ?_
              refine lv_aload_n hx hb dX2_act_114 rfl (lv_at hl 0 rfl) ?_
              refine va_get (D := D) (ci := 1) (v := .ref A_t_counts) (C := RX2) (T := TX2) (N := 6) hx hb hts wX2_act_X2 hown hK.1 hP 0 rfl rfl 4 (by decide) (hts _ mX2_act_f19) (fun _ h9 => h9) rfl dX2_act_115 ?_
              refine lv_iload_n hx hb dX2_act_118 rfl (lv_at hl 1 rfl) ?_
              refine lv_aload_n hx hb dX2_act_119 rfl (lv_at hl 0 rfl) ?_
              refine va_get (D := D) (ci := 1) (v := .int t_start) (C := RX2) (T := TX2) (N := 6) hx hb hts wX2_act_X2 hown hK.1 hP 0 rfl rfl 2 (by decide) (hts _ mX2_act_f10) (fun _ h9 => h9) rfl dX2_act_120 ?_
              refine lv_aload_n hx hb dX2_act_123 rfl (lv_at hl 0 rfl) ?_
              refine va_get (D := D) (ci := 1) (v := .ref A_t_counts) (C := RX2) (T := TX2) (N := 6) hx hb hts wX2_act_X2 hown hK.1 hP 0 rfl rfl 4 (by decide) (hts _ mX2_act_f19) (fun _ h9 => h9) rfl dX2_act_124 ?_
              refine lv_iload_n hx hb dX2_act_127 rfl (lv_at hl 1 rfl) ?_
              obtain ⟨hin, hf⟩ := gIn_some hf
              refine va_iald hx hb hK.1 hP 1 0 rfl rfl hin dX2_act_128 ?_
              refine lv_iconst (v := 3) hx hb dX2_act_129 (by decide) ?_
              refine lv_iadd hx hb dX2_act_130 ?_
              refine va_mmin hx hb (hml.trans hl.1.symm) hown (hts _ mX2_act_c64) (hts _ mX2_act_smin) (hts _ mX2_act_iMath) (hts _ mX2_act_cdmin) (Nat.le_of_ble_eq_true rfl) (Nat.le_of_ble_eq_true rfl) (Nat.zero_le _) (Nat.zero_le _) dX2_act_131 ?_
              obtain ⟨hin, hf⟩ := gIn_some hf
              refine va_iast hx hb hK.1 hP hD hS 1 0 rfl rfl hin dX2_act_134 (fun H locs hP hD hS => ?_)
              have hP : va_P D vwCl [(A_t, .inr (1, [.int t_there, .int t_awake, .int t_start, .int t_sharp, .ref A_t_counts, .ref A_t_paces])), (A_t_counts, .inl (ty.1, 8, .inl (upd t_counts (a1 : Int32).toNatClampNeg (if ((t_counts (a1 : Int32).toNatClampNeg) + 3) < t_start then ((t_counts (a1 : Int32).toNatClampNeg) + 3) else t_start)))), (A_t_paces, .inl (ty.1, 8, .inl t_paces))] H := hP
              have hD : va_D (va_A WC s.heap.size) [(A_t, .inr (1, [.int t_there, .int t_awake, .int t_start, .int t_sharp, .ref A_t_counts, .ref A_t_paces])), (A_t_counts, .inl (ty.1, 8, .inl (upd t_counts (a1 : Int32).toNatClampNeg (if ((t_counts (a1 : Int32).toNatClampNeg) + 3) < t_start then ((t_counts (a1 : Int32).toNatClampNeg) + 3) else t_start)))), (A_t_paces, .inl (ty.1, 8, .inl t_paces))] := hD
              refine lv_goto (tgt := 160) hx hb dX2_act_135 (by decide) ?_
              cases hf
              exact ret_wv hx hb hr hlocks hP hD hS dX2_act_160
            · have hf := ff hf hc107
              by_cases hc119 : a2 = 119
              · have hf := ft hf hc119
                refine lv_lookup (tgt := 99) hx hb dX2_act_1 (by decide) (by rw [hc119] <;> rfl) (by decide) ?_
                refine lv_aload_n hx hb dX2_act_99 rfl (lv_at hl 0 rfl) ?_
                refine lv_dup hx hb dX2_act_100 rfl ?_
                refine va_get (D := D) (ci := 1) (v := .int t_awake) (C := RX2) (T := TX2) (N := 6) hx hb hts wX2_act_X2 hown hK.1 hP 0 rfl rfl 1 (by decide) (hts _ mX2_act_f29) (fun _ h9 => h9) rfl dX2_act_101 ?_
                refine lv_iconst (v := 1) hx hb dX2_act_104 (by decide) ?_
                refine lv_iload_n hx hb dX2_act_105 rfl (lv_at hl 1 rfl) ?_
                refine lv_ishl hx hb dX2_act_106 ?_
                refine lv_ior hx hb dX2_act_107 ?_
                refine va_put (D := D) (ci := 1) (v := .int (t_awake ||| (1 <<< (a1 &&& 31)))) (ty := .int) (C := RX2) (T := TX2) (N := 6) hx hb hts wX2_act_X2 tyX2 tyX2_ok nmX2 hown hK.1 hP hD hS 0 rfl rfl 1 (by decide) (hts _ mX2_act_f29) (fun _ h9 => h9) rfl (by decide +kernel) rfl rfl (Nat.le_of_ble_eq_true rfl) dX2_act_108 (fun H locs hP hD hS => ?_)
                have hP : va_P D vwCl [(A_t, .inr (1, [.int t_there, .int (t_awake ||| (1 <<< (a1 &&& 31))), .int t_start, .int t_sharp, .ref A_t_counts, .ref A_t_paces])), (A_t_counts, .inl (ty.1, 8, .inl t_counts)), (A_t_paces, .inl (ty.1, 8, .inl t_paces))] H := hP
                have hD : va_D (va_A WC s.heap.size) [(A_t, .inr (1, [.int t_there, .int (t_awake ||| (1 <<< (a1 &&& 31))), .int t_start, .int t_sharp, .ref A_t_counts, .ref A_t_paces])), (A_t_counts, .inl (ty.1, 8, .inl t_counts)), (A_t_paces, .inl (ty.1, 8, .inl t_paces))] := hD
                refine lv_goto (tgt := 160) hx hb dX2_act_111 (by decide) ?_
                cases hf
                exact ret_wv hx hb hr hlocks hP hD hS dX2_act_160
              · have hf := ff hf hc119
                refine lv_lookup (off := 150) (tgt := 151) hx hb dX2_act_1 (by decide) (by have h33 := sw_ne 33 (by decide) hc33; have h42 := sw_ne 42 (by decide) hc42; have h46 := sw_ne 46 (by decide) hc46; have h58 := sw_ne 58 (by decide) hc58; have h101 := sw_ne 101 (by decide) hc101; have h107 := sw_ne 107 (by decide) hc107; have h119 := sw_ne 119 (by decide) hc119; simp [Op.lookupswitch.offset, h33.symm, h42.symm, h46.symm, h58.symm, h101.symm, h107.symm, h119.symm]) (by decide) ?_
                refine lv_aload_n hx hb dX2_act_151 rfl (lv_at hl 0 rfl) ?_
                refine lv_iload_n hx hb dX2_act_152 rfl (lv_at hl 1 rfl) ?_
                refine lv_iload_n hx hb dX2_act_153 rfl (lv_at hl 2 rfl) ?_
                refine lv_bipush (v := 65) hx hb dX2_act_154 (by decide) ?_
                refine lv_isub hx hb dX2_act_156 ?_
                obtain ⟨r157, hr157, hf⟩ := bnd hf
                refine callV_wv (As := [.int a1, .int (a2 - 65)]) (rest := []) ⟨hx, hb, hml, hown, hts⟩ (CX2_handOver l hr157) (cwV 2 hts gX2_act_X2_handOver rfl rfl rfl kkX2_handOver ⟨Nat.le_of_ble_eq_true rfl, Nat.le_of_ble_eq_true rfl⟩) hK hP hD hS (fun _ h => Or.inr h) [0, 1, 2] [] [0, 1, 2] rfl (by decide) (by decide) rfl rfl 0 rfl rfl rfl hl.1 rfl (Nat.le_of_ble_eq_true rfl) dX2_act_157 ⟨Nat.zero_le _, Nat.zero_le _⟩ (fun H locs hP hD hS => ?_)
                have hP : va_P D vwCl [(A_t, .inr (1, [.int t_there, .int r157.1, .int t_start, .int t_sharp, .ref A_t_counts, .ref A_t_paces])), (A_t_counts, .inl (ty.1, 8, .inl r157.2)), (A_t_paces, .inl (ty.1, 8, .inl t_paces))] H := hP
                have hD : va_D (va_A WC s.heap.size) [(A_t, .inr (1, [.int t_there, .int r157.1, .int t_start, .int t_sharp, .ref A_t_counts, .ref A_t_paces])), (A_t_counts, .inl (ty.1, 8, .inl r157.2)), (A_t_paces, .inl (ty.1, 8, .inl t_paces))] := hD
                cases hf
                exact ret_wv hx hb hr hlocks hP hD hS dX2_act_160
/-! ===== SilenceCount$House.greatestCount(I)I ===== -/
abbrev rmX2_greatestCount : Room := { frames := 1, cells := 0, slots := 0, locals := 13 }
theorem kkX2_greatestCount : yX2_greatestCount.cls = RX2 ∧ yX2_greatestCount.cls ≠ "java/lang/invoke/MethodHandle" ∧ yX2_greatestCount.cls ≠ "java/lang/invoke/VarHandle" ∧ (parseMethodDescriptor yX2_greatestCount.desc).map (fun d => d.parameters.length) = some 1 := by decide +kernel
theorem mX2_greatestCount_f19 : Cond.fieldLink RX2 19 "SilenceCount$House" "counts" "[I" ∈ wsX2_greatestCount := by decide +kernel
theorem mX2_greatestCount_c84 : Cond.methodLink RX2 84 Lib.Math.max.name ∈ wsX2_greatestCount := by decide +kernel
theorem mX2_greatestCount_smax : Cond.static Lib.Math.max.name ∈ wsX2_greatestCount := by decide +kernel
theorem mX2_greatestCount_iMath : Cond.initialized "java/lang/Math" ∈ wsX2_greatestCount := by decide +kernel
theorem mX2_greatestCount_cdmax : Cond.code Lib.Math.max.name Lib.Math.max.code 2 (some .int) ∈ wsX2_greatestCount := by decide +kernel
theorem wX2_greatestCount_X2 : ∀ w ∈ u_ws RX2 TX2 6, w ∈ wsX2_greatestCount := by decide +kernel
def bX2_greatestCount_4 (k4 : Int32 × Int32 → Option (Int32)) (t_counts : Nat → Int32) (a1 : Int32) (v2 : Int32) (v3 : Int32) : Option (Int32) :=
  if 8 ≤ v3 then some v2 else if (a1 &&& (1 <<< (v3 &&& 31))) = 0 then k4 (v2, v3 + 1) else gIn v3 8 (k4 (if v2 < (t_counts (v3 : Int32).toNatClampNeg) then (t_counts (v3 : Int32).toNatClampNeg) else v2, v3 + 1))
set_option maxRecDepth 100000 in
set_option maxHeartbeats 4000000 in
theorem BX2_greatestCount_4 {p : Program} {l : Launch} {e : Env} {s : State} {m : MethodId} {below : List Frame} {meth : Method} {c : Code} {D : va_G} {ty : TY} {A_t A_t_counts A_t_paces : Nat} {t_there : Int32} {t_awake : Int32} {t_start : Int32} {t_sharp : Int32} {t_counts : Nat → Int32} {t_paces : Nat → Int32} {a1 : Int32} {q0 : Int32} (C : cx p s m [.ref A_t, .int a1] meth c cX2_greatestCount 4 (some .int) RX2 wsX2_greatestCount) (hK : KK D ty s) (hP : va_P D vwCl [(A_t, .inr (1, [.int t_there, .int t_awake, .int t_start, .int t_sharp, .ref A_t_counts, .ref A_t_paces])), (A_t_counts, .inl (ty.1, 8, .inl t_counts)), (A_t_paces, .inl (ty.1, 8, .inl t_paces))] s.heap)   : ∀ (n : Nat) (v2 : Int32) (v3 : Int32) (ls : Array Slot), lv_has ls 4 [(0, .ref A_t), (1, .int a1), (2, .int v2), (3, .int v3)] → loopF (fun k q => bX2_greatestCount_4 k t_counts a1 q.1 q.2) n (v2, v3) = some q0 → WRi p l e rmX2_greatestCount s m [.ref A_t, .int a1] below meth c q0 (F0 m 4 ls []) := by
  obtain ⟨hx, hb, hr, hml, hown, hts, hlocks⟩ := id C
  intro n
  induction n with
  | zero =>
    intro v2 v3 ls hl hf
    cases hf
  | succ n ih =>
    intro v2 v3 ls hl hf
    have hf : bX2_greatestCount_4 (loopF (fun k q => bX2_greatestCount_4 k t_counts a1 q.1 q.2) n) t_counts a1 v2 v3 = some q0 := hf
    have hk4 := ih
    unfold bX2_greatestCount_4 at hf
    refine lv_iload_n hx hb dX2_greatestCount_4 rfl (lv_at hl 3 rfl) ?_
    refine lv_bipush (v := 8) hx hb dX2_greatestCount_5 (by decide) ?_
    refine lv_icmp_ge (tgt := 35) hx hb dX2_greatestCount_7 (by decide) (fun hc => ?_) (fun hc => ?_)
    · have hf := ft hf hc
      refine lv_iload_n hx hb dX2_greatestCount_35 rfl (lv_at hl 2 rfl) ?_
      exact ret_ri hx hb hr hlocks hf dX2_greatestCount_36
    · have hf := ff hf hc
      refine lv_iload_n hx hb dX2_greatestCount_10 rfl (lv_at hl 1 rfl) ?_
      refine lv_iconst (v := 1) hx hb dX2_greatestCount_11 (by decide) ?_
      refine lv_iload_n hx hb dX2_greatestCount_12 rfl (lv_at hl 3 rfl) ?_
      refine lv_ishl hx hb dX2_greatestCount_13 ?_
      refine lv_iand hx hb dX2_greatestCount_14 ?_
      refine lv_if_eq (tgt := 29) hx hb dX2_greatestCount_15 (by decide) (fun hc => ?_) (fun hc => ?_)
      · have hf := ft hf hc
        refine lv_iinc (v := v3 + 1) (lv' := [(3, .int (v3 + 1)), (0, .ref A_t), (1, .int a1), (2, .int v2)]) hx hb dX2_greatestCount_29 hl (k := 3) rfl rfl (by decide) rfl (fun ls hl => ?_)
        refine lv_goto (tgt := 4) hx hb dX2_greatestCount_32 (by decide) ?_
        exact hk4 _ _ _ (lv_sub hl [1, 2, 3, 0] rfl) hf
      · have hf := ff hf hc
        refine lv_iload_n hx hb dX2_greatestCount_18 rfl (lv_at hl 2 rfl) ?_
        refine lv_aload_n hx hb dX2_greatestCount_19 rfl (lv_at hl 0 rfl) ?_
        refine va_get (D := D) (ci := 1) (v := .ref A_t_counts) (C := RX2) (T := TX2) (N := 6) hx hb hts wX2_greatestCount_X2 hown hK.1 hP 0 rfl rfl 4 (by decide) (hts _ mX2_greatestCount_f19) (fun _ h9 => h9) rfl dX2_greatestCount_20 ?_
        refine lv_iload_n hx hb dX2_greatestCount_23 rfl (lv_at hl 3 rfl) ?_
        obtain ⟨hin, hf⟩ := gIn_some hf
        refine va_iald hx hb hK.1 hP 1 0 rfl rfl hin dX2_greatestCount_24 ?_
        refine va_mmax hx hb (hml.trans hl.1.symm) hown (hts _ mX2_greatestCount_c84) (hts _ mX2_greatestCount_smax) (hts _ mX2_greatestCount_iMath) (hts _ mX2_greatestCount_cdmax) (Nat.le_of_ble_eq_true rfl) (Nat.le_of_ble_eq_true rfl) (Nat.zero_le _) (Nat.zero_le _) dX2_greatestCount_25 ?_
        refine lv_istore_n (lv' := [(2, .int (if v2 < (t_counts (v3 : Int32).toNatClampNeg) then (t_counts (v3 : Int32).toNatClampNeg) else v2)), (0, .ref A_t), (1, .int a1), (3, .int v3)]) hx hb dX2_greatestCount_28 rfl hl (by decide) rfl (fun ls hl => ?_)
        refine lv_iinc (v := v3 + 1) (lv' := [(3, .int (v3 + 1)), (2, .int (if v2 < (t_counts (v3 : Int32).toNatClampNeg) then (t_counts (v3 : Int32).toNatClampNeg) else v2)), (0, .ref A_t), (1, .int a1)]) hx hb dX2_greatestCount_29 hl (k := 3) rfl rfl (by decide) rfl (fun ls hl => ?_)
        refine lv_goto (tgt := 4) hx hb dX2_greatestCount_32 (by decide) ?_
        exact hk4 _ _ _ (lv_sub hl [2, 3, 1, 0] rfl) hf
def fX2_greatestCount (t_counts : Nat → Int32) (a1 : Int32) : Option (Int32) :=
  loopF (fun k q => bX2_greatestCount_4 k t_counts a1 q.1 q.2) FU (0, 0)
set_option maxRecDepth 100000 in
set_option maxHeartbeats 4000000 in
theorem CX2_greatestCount (l : Launch) {D : va_G} {ty : TY} {A_t A_t_counts A_t_paces : Nat} {t_there : Int32} {t_awake : Int32} {t_start : Int32} {t_sharp : Int32} {t_counts : Nat → Int32} {t_paces : Nat → Int32} {a1 : Int32} {q0 : Int32} (hf : fX2_greatestCount t_counts a1 = some q0) : ROi l yX2_greatestCount wsX2_greatestCount rmX2_greatestCount D ty [.ref A_t, .int a1] [(A_t, .inr (1, [.int t_there, .int t_awake, .int t_start, .int t_sharp, .ref A_t_counts, .ref A_t_paces])), (A_t_counts, .inl (ty.1, 8, .inl t_counts)), (A_t_paces, .inl (ty.1, 8, .inl t_paces))] q0 := by
  refine ROi.start (cc := cX2_greatestCount) (maxL := 4) (ret := (some .int)) (own := RX2) (by decide) rfl rfl (Nat.le_of_ble_eq_true rfl) ?_
  intro p e s m below meth c ls C hK hP hl
  obtain ⟨hx, hb, hr, hml, hown, hts, hlocks⟩ := id C
  have hl : lv_has ls 4 [(0, .ref A_t), (1, .int a1)] := hl
  unfold fX2_greatestCount at hf
  refine lv_iconst (v := 0) hx hb dX2_greatestCount_0 (by decide) ?_
  refine lv_istore_n (lv' := [(2, .int 0), (0, .ref A_t), (1, .int a1)]) hx hb dX2_greatestCount_1 rfl hl (by decide) rfl (fun ls hl => ?_)
  refine lv_iconst (v := 0) hx hb dX2_greatestCount_2 (by decide) ?_
  refine lv_istore_n (lv' := [(3, .int 0), (2, .int 0), (0, .ref A_t), (1, .int a1)]) hx hb dX2_greatestCount_3 rfl hl (by decide) rfl (fun ls hl => ?_)
  exact BX2_greatestCount_4 C hK hP  FU _ _ _ (lv_sub hl [2, 3, 1, 0] rfl) hf
/-! ===== SilenceCount$House.spread()I ===== -/
abbrev rmX2_spread : Room := { frames := 2, cells := 0, slots := 0, locals := 43 }
theorem kkX2_spread : yX2_spread.cls = RX2 ∧ yX2_spread.cls ≠ "java/lang/invoke/MethodHandle" ∧ yX2_spread.cls ≠ "java/lang/invoke/VarHandle" ∧ (parseMethodDescriptor yX2_spread.desc).map (fun d => d.parameters.length) = some 0 := by decide +kernel
theorem mX2_spread_f29 : Cond.fieldLink RX2 29 "SilenceCount$House" "awake" "I" ∈ wsX2_spread := by decide +kernel
theorem mX2_spread_f19 : Cond.fieldLink RX2 19 "SilenceCount$House" "counts" "[I" ∈ wsX2_spread := by decide +kernel
theorem wX2_spread_X2 : ∀ w ∈ u_ws RX2 TX2 6, w ∈ wsX2_spread := by decide +kernel
def fX2_spread (t_awake : Int32) (t_counts : Nat → Int32) : Option (Int32) :=
  (fX2_foremost t_awake t_counts).bind fun r1 => if r1 = (-1) then some 0 else (fX2_greatestCount t_counts t_awake).bind fun r19 => gIn r1 8 (some (r19 - (t_counts (r1 : Int32).toNatClampNeg)))
set_option maxRecDepth 100000 in
set_option maxHeartbeats 4000000 in
theorem CX2_spread (l : Launch) {D : va_G} {ty : TY} {A_t A_t_counts A_t_paces : Nat} {t_there : Int32} {t_awake : Int32} {t_start : Int32} {t_sharp : Int32} {t_counts : Nat → Int32} {t_paces : Nat → Int32} {q0 : Int32} (hf : fX2_spread t_awake t_counts = some q0) : ROi l yX2_spread wsX2_spread rmX2_spread D ty [.ref A_t] [(A_t, .inr (1, [.int t_there, .int t_awake, .int t_start, .int t_sharp, .ref A_t_counts, .ref A_t_paces])), (A_t_counts, .inl (ty.1, 8, .inl t_counts)), (A_t_paces, .inl (ty.1, 8, .inl t_paces))] q0 := by
  refine ROi.start (cc := cX2_spread) (maxL := 2) (ret := (some .int)) (own := RX2) (by decide) rfl rfl (Nat.le_of_ble_eq_true rfl) ?_
  intro p e s m below meth c ls C hK hP hl
  obtain ⟨hx, hb, hr, hml, hown, hts, hlocks⟩ := id C
  have hl : lv_has ls 2 [(0, .ref A_t)] := hl
  unfold fX2_spread at hf
  refine lv_aload_n hx hb dX2_spread_0 rfl (lv_at hl 0 rfl) ?_
  obtain ⟨r1, hr1, hf⟩ := bnd hf
  refine callV_ri (As := []) (rest := []) ⟨hx, hb, hml, hown, hts⟩ (CX2_foremost l hr1) (cwV 0 hts gX2_spread_X2_foremost rfl rfl rfl kkX2_foremost ⟨Nat.le_of_ble_eq_true rfl, Nat.le_of_ble_eq_true rfl⟩) hK hP 0 rfl rfl rfl hl.1 rfl (Nat.le_of_ble_eq_true rfl) dX2_spread_1 ⟨Nat.zero_le _, Nat.zero_le _⟩ ?_
  refine lv_istore_n (lv' := [(1, .int r1), (0, .ref A_t)]) hx hb dX2_spread_4 rfl hl (by decide) rfl (fun ls hl => ?_)
  refine lv_iload_n hx hb dX2_spread_5 rfl (lv_at hl 0 rfl) ?_
  refine lv_iconst (v := (-1)) hx hb dX2_spread_6 (by decide) ?_
  refine lv_icmp_ne (tgt := 14) hx hb dX2_spread_7 (by decide) (fun hc => ?_) (fun hc => ?_)
  · have hf := ff hf hc
    refine lv_aload_n hx hb dX2_spread_14 rfl (lv_at hl 1 rfl) ?_
    refine lv_aload_n hx hb dX2_spread_15 rfl (lv_at hl 1 rfl) ?_
    refine va_get (D := D) (ci := 1) (v := .int t_awake) (C := RX2) (T := TX2) (N := 6) hx hb hts wX2_spread_X2 hown hK.1 hP 0 rfl rfl 1 (by decide) (hts _ mX2_spread_f29) (fun _ h9 => h9) rfl dX2_spread_16 ?_
    obtain ⟨r19, hr19, hf⟩ := bnd hf
    refine callV_ri (As := [.int t_awake]) (rest := []) ⟨hx, hb, hml, hown, hts⟩ (CX2_greatestCount l hr19) (cwV 1 hts gX2_spread_X2_greatestCount rfl rfl rfl kkX2_greatestCount ⟨Nat.le_of_ble_eq_true rfl, Nat.le_of_ble_eq_true rfl⟩) hK hP 0 rfl rfl rfl hl.1 rfl (Nat.le_of_ble_eq_true rfl) dX2_spread_19 ⟨Nat.zero_le _, Nat.zero_le _⟩ ?_
    refine lv_aload_n hx hb dX2_spread_22 rfl (lv_at hl 1 rfl) ?_
    refine va_get (D := D) (ci := 1) (v := .ref A_t_counts) (C := RX2) (T := TX2) (N := 6) hx hb hts wX2_spread_X2 hown hK.1 hP 0 rfl rfl 4 (by decide) (hts _ mX2_spread_f19) (fun _ h9 => h9) rfl dX2_spread_23 ?_
    refine lv_iload_n hx hb dX2_spread_26 rfl (lv_at hl 0 rfl) ?_
    obtain ⟨hin, hf⟩ := gIn_some hf
    refine va_iald hx hb hK.1 hP 1 0 rfl rfl hin dX2_spread_27 ?_
    refine lv_isub hx hb dX2_spread_28 ?_
    exact ret_ri hx hb hr hlocks hf dX2_spread_29
  · have hf := ft hf hc
    refine lv_iconst (v := 0) hx hb dX2_spread_10 (by decide) ?_
    refine lv_goto (tgt := 29) hx hb dX2_spread_11 (by decide) ?_
    exact ret_ri hx hb hr hlocks hf dX2_spread_29
/-! ===== SilenceCount$House.areAwakeAtOneNumber(II)Z ===== -/
abbrev rmX2_areAwakeAtOneNumber : Room := { frames := 1, cells := 0, slots := 0, locals := 21 }
theorem kkX2_areAwakeAtOneNumber : yX2_areAwakeAtOneNumber.cls = RX2 ∧ yX2_areAwakeAtOneNumber.cls ≠ "java/lang/invoke/MethodHandle" ∧ yX2_areAwakeAtOneNumber.cls ≠ "java/lang/invoke/VarHandle" ∧ (parseMethodDescriptor yX2_areAwakeAtOneNumber.desc).map (fun d => d.parameters.length) = some 2 := by decide +kernel
theorem mX2_areAwakeAtOneNumber_f19 : Cond.fieldLink RX2 19 "SilenceCount$House" "counts" "[I" ∈ wsX2_areAwakeAtOneNumber := by decide +kernel
theorem wX2_areAwakeAtOneNumber_X2 : ∀ w ∈ u_ws RX2 TX2 6, w ∈ wsX2_areAwakeAtOneNumber := by decide +kernel
def fX2_areAwakeAtOneNumber (t_awake : Int32) (t_counts : Nat → Int32) (a1 : Int32) (a2 : Int32) : Option (Int32) :=
  (fX2_isAwake t_awake a1).bind fun r2 => if r2 = 0 then some 0 else (fX2_isAwake t_awake a2).bind fun r10 => if r10 = 0 then some 0 else gIn a1 8 (gIn a2 8 (if (t_counts (a1 : Int32).toNatClampNeg) = (t_counts (a2 : Int32).toNatClampNeg) then some 1 else some 0))
set_option maxRecDepth 100000 in
set_option maxHeartbeats 4000000 in
theorem CX2_areAwakeAtOneNumber (l : Launch) {D : va_G} {ty : TY} {A_t A_t_counts A_t_paces : Nat} {t_there : Int32} {t_awake : Int32} {t_start : Int32} {t_sharp : Int32} {t_counts : Nat → Int32} {t_paces : Nat → Int32} {a1 : Int32} {a2 : Int32} {q0 : Int32} (hf : fX2_areAwakeAtOneNumber t_awake t_counts a1 a2 = some q0) : ROi l yX2_areAwakeAtOneNumber wsX2_areAwakeAtOneNumber rmX2_areAwakeAtOneNumber D ty [.ref A_t, .int a1, .int a2] [(A_t, .inr (1, [.int t_there, .int t_awake, .int t_start, .int t_sharp, .ref A_t_counts, .ref A_t_paces])), (A_t_counts, .inl (ty.1, 8, .inl t_counts)), (A_t_paces, .inl (ty.1, 8, .inl t_paces))] q0 := by
  refine ROi.start (cc := cX2_areAwakeAtOneNumber) (maxL := 3) (ret := (some .boolean)) (own := RX2) (by decide) rfl rfl (Nat.le_of_ble_eq_true rfl) ?_
  intro p e s m below meth c ls C hK hP hl
  obtain ⟨hx, hb, hr, hml, hown, hts, hlocks⟩ := id C
  have hl : lv_has ls 3 [(0, .ref A_t), (1, .int a1), (2, .int a2)] := hl
  unfold fX2_areAwakeAtOneNumber at hf
  refine lv_aload_n hx hb dX2_areAwakeAtOneNumber_0 rfl (lv_at hl 0 rfl) ?_
  refine lv_iload_n hx hb dX2_areAwakeAtOneNumber_1 rfl (lv_at hl 1 rfl) ?_
  obtain ⟨r2, hr2, hf⟩ := bnd hf
  refine callV_ri (As := [.int a1]) (rest := []) ⟨hx, hb, hml, hown, hts⟩ (CX2_isAwake l hr2) (cwV 1 hts gX2_areAwakeAtOneNumber_X2_isAwake rfl rfl rfl kkX2_isAwake ⟨Nat.le_of_ble_eq_true rfl, Nat.le_of_ble_eq_true rfl⟩) hK hP 0 rfl rfl rfl hl.1 rfl (Nat.le_of_ble_eq_true rfl) dX2_areAwakeAtOneNumber_2 ⟨Nat.zero_le _, Nat.zero_le _⟩ ?_
  refine lv_if_eq (tgt := 35) hx hb dX2_areAwakeAtOneNumber_5 (by decide) (fun hc => ?_) (fun hc => ?_)
  · have hf := ft hf hc
    refine lv_iconst (v := 0) hx hb dX2_areAwakeAtOneNumber_35 (by decide) ?_
    exact ret_rz hx hb hr hlocks (Or.inl rfl) hf dX2_areAwakeAtOneNumber_36
  · have hf := ff hf hc
    refine lv_aload_n hx hb dX2_areAwakeAtOneNumber_8 rfl (lv_at hl 0 rfl) ?_
    refine lv_iload_n hx hb dX2_areAwakeAtOneNumber_9 rfl (lv_at hl 2 rfl) ?_
    obtain ⟨r10, hr10, hf⟩ := bnd hf
    refine callV_ri (As := [.int a2]) (rest := []) ⟨hx, hb, hml, hown, hts⟩ (CX2_isAwake l hr10) (cwV 1 hts gX2_areAwakeAtOneNumber_X2_isAwake rfl rfl rfl kkX2_isAwake ⟨Nat.le_of_ble_eq_true rfl, Nat.le_of_ble_eq_true rfl⟩) hK hP 0 rfl rfl rfl hl.1 rfl (Nat.le_of_ble_eq_true rfl) dX2_areAwakeAtOneNumber_10 ⟨Nat.zero_le _, Nat.zero_le _⟩ ?_
    refine lv_if_eq (tgt := 35) hx hb dX2_areAwakeAtOneNumber_13 (by decide) (fun hc => ?_) (fun hc => ?_)
    · have hf := ft hf hc
      refine lv_iconst (v := 0) hx hb dX2_areAwakeAtOneNumber_35 (by decide) ?_
      exact ret_rz hx hb hr hlocks (Or.inl rfl) hf dX2_areAwakeAtOneNumber_36
    · have hf := ff hf hc
      refine lv_aload_n hx hb dX2_areAwakeAtOneNumber_16 rfl (lv_at hl 0 rfl) ?_
      refine va_get (D := D) (ci := 1) (v := .ref A_t_counts) (C := RX2) (T := TX2) (N := 6) hx hb hts wX2_areAwakeAtOneNumber_X2 hown hK.1 hP 0 rfl rfl 4 (by decide) (hts _ mX2_areAwakeAtOneNumber_f19) (fun _ h9 => h9) rfl dX2_areAwakeAtOneNumber_17 ?_
      refine lv_iload_n hx hb dX2_areAwakeAtOneNumber_20 rfl (lv_at hl 1 rfl) ?_
      obtain ⟨hin, hf⟩ := gIn_some hf
      refine va_iald hx hb hK.1 hP 1 0 rfl rfl hin dX2_areAwakeAtOneNumber_21 ?_
      refine lv_aload_n hx hb dX2_areAwakeAtOneNumber_22 rfl (lv_at hl 0 rfl) ?_
      refine va_get (D := D) (ci := 1) (v := .ref A_t_counts) (C := RX2) (T := TX2) (N := 6) hx hb hts wX2_areAwakeAtOneNumber_X2 hown hK.1 hP 0 rfl rfl 4 (by decide) (hts _ mX2_areAwakeAtOneNumber_f19) (fun _ h9 => h9) rfl dX2_areAwakeAtOneNumber_23 ?_
      refine lv_iload_n hx hb dX2_areAwakeAtOneNumber_26 rfl (lv_at hl 2 rfl) ?_
      obtain ⟨hin, hf⟩ := gIn_some hf
      refine va_iald hx hb hK.1 hP 1 0 rfl rfl hin dX2_areAwakeAtOneNumber_27 ?_
      refine lv_icmp_ne (tgt := 35) hx hb dX2_areAwakeAtOneNumber_28 (by decide) (fun hc => ?_) (fun hc => ?_)
      · have hf := ff hf hc
        refine lv_iconst (v := 0) hx hb dX2_areAwakeAtOneNumber_35 (by decide) ?_
        exact ret_rz hx hb hr hlocks (Or.inl rfl) hf dX2_areAwakeAtOneNumber_36
      · have hf := ft hf hc
        refine lv_iconst (v := 1) hx hb dX2_areAwakeAtOneNumber_31 (by decide) ?_
        refine lv_goto (tgt := 36) hx hb dX2_areAwakeAtOneNumber_32 (by decide) ?_
        exact ret_rz hx hb hr hlocks (Or.inr rfl) hf dX2_areAwakeAtOneNumber_36
/-! ===== SilenceCount$House.breathsToEnd(I)I ===== -/
abbrev rmX2_breathsToEnd : Room := { frames := 1, cells := 0, slots := 0, locals := 13 }
theorem kkX2_breathsToEnd : yX2_breathsToEnd.cls = RX2 ∧ yX2_breathsToEnd.cls ≠ "java/lang/invoke/MethodHandle" ∧ yX2_breathsToEnd.cls ≠ "java/lang/invoke/VarHandle" ∧ (parseMethodDescriptor yX2_breathsToEnd.desc).map (fun d => d.parameters.length) = some 1 := by decide +kernel
theorem mX2_breathsToEnd_f23 : Cond.fieldLink RX2 23 "SilenceCount$House" "paces" "[I" ∈ wsX2_breathsToEnd := by decide +kernel
theorem mX2_breathsToEnd_f19 : Cond.fieldLink RX2 19 "SilenceCount$House" "counts" "[I" ∈ wsX2_breathsToEnd := by decide +kernel
theorem mX2_breathsToEnd_c84 : Cond.methodLink RX2 84 Lib.Math.max.name ∈ wsX2_breathsToEnd := by decide +kernel
theorem mX2_breathsToEnd_smax : Cond.static Lib.Math.max.name ∈ wsX2_breathsToEnd := by decide +kernel
theorem mX2_breathsToEnd_iMath : Cond.initialized "java/lang/Math" ∈ wsX2_breathsToEnd := by decide +kernel
theorem mX2_breathsToEnd_cdmax : Cond.code Lib.Math.max.name Lib.Math.max.code 2 (some .int) ∈ wsX2_breathsToEnd := by decide +kernel
theorem wX2_breathsToEnd_X2 : ∀ w ∈ u_ws RX2 TX2 6, w ∈ wsX2_breathsToEnd := by decide +kernel
def bX2_breathsToEnd_5 (k5 : Int32 × Int32 → Option (Int32)) (t_counts : Nat → Int32) (t_paces : Nat → Int32) (a1 : Int32) (v2 : Int32) (v3 : Int32) : Option (Int32) :=
  if 8 ≤ v3 then some v2 else if (a1 &&& (1 <<< (v3 &&& 31))) = 0 then k5 (v2, v3 + 1) else gIn v3 8 (if (t_paces (v3 : Int32).toNatClampNeg) ≤ 0 then k5 (v2, v3 + 1) else gIn v3 8 (gIn v3 8 (gIn v3 8 (gNz (t_paces (v3 : Int32).toNatClampNeg) (k5 (if v2 < ((((t_counts (v3 : Int32).toNatClampNeg) + (t_paces (v3 : Int32).toNatClampNeg)) - 1) / (t_paces (v3 : Int32).toNatClampNeg)) then ((((t_counts (v3 : Int32).toNatClampNeg) + (t_paces (v3 : Int32).toNatClampNeg)) - 1) / (t_paces (v3 : Int32).toNatClampNeg)) else v2, v3 + 1))))))
set_option maxRecDepth 100000 in
set_option maxHeartbeats 4000000 in
theorem BX2_breathsToEnd_5 {p : Program} {l : Launch} {e : Env} {s : State} {m : MethodId} {below : List Frame} {meth : Method} {c : Code} {D : va_G} {ty : TY} {A_t A_t_counts A_t_paces : Nat} {t_there : Int32} {t_awake : Int32} {t_start : Int32} {t_sharp : Int32} {t_counts : Nat → Int32} {t_paces : Nat → Int32} {a1 : Int32} {q0 : Int32} (C : cx p s m [.ref A_t, .int a1] meth c cX2_breathsToEnd 4 (some .int) RX2 wsX2_breathsToEnd) (hK : KK D ty s) (hP : va_P D vwCl [(A_t, .inr (1, [.int t_there, .int t_awake, .int t_start, .int t_sharp, .ref A_t_counts, .ref A_t_paces])), (A_t_counts, .inl (ty.1, 8, .inl t_counts)), (A_t_paces, .inl (ty.1, 8, .inl t_paces))] s.heap)   : ∀ (n : Nat) (v2 : Int32) (v3 : Int32) (ls : Array Slot), lv_has ls 4 [(0, .ref A_t), (1, .int a1), (2, .int v2), (3, .int v3)] → loopF (fun k q => bX2_breathsToEnd_5 k t_counts t_paces a1 q.1 q.2) n (v2, v3) = some q0 → WRi p l e rmX2_breathsToEnd s m [.ref A_t, .int a1] below meth c q0 (F0 m 5 ls []) := by
  obtain ⟨hx, hb, hr, hml, hown, hts, hlocks⟩ := id C
  intro n
  induction n with
  | zero =>
    intro v2 v3 ls hl hf
    cases hf
  | succ n ih =>
    intro v2 v3 ls hl hf
    have hf : bX2_breathsToEnd_5 (loopF (fun k q => bX2_breathsToEnd_5 k t_counts t_paces a1 q.1 q.2) n) t_counts t_paces a1 v2 v3 = some q0 := hf
    have hk5 := ih
    unfold bX2_breathsToEnd_5 at hf
    refine lv_iload_n hx hb dX2_breathsToEnd_5 rfl (lv_at hl 3 rfl) ?_
    refine lv_bipush (v := 8) hx hb dX2_breathsToEnd_6 (by decide) ?_
    refine lv_icmp_ge (tgt := 61) hx hb dX2_breathsToEnd_8 (by decide) (fun hc => ?_) (fun hc => ?_)
    · have hf := ft hf hc
      refine lv_iload_n hx hb dX2_breathsToEnd_61 rfl (lv_at hl 2 rfl) ?_
      exact ret_ri hx hb hr hlocks hf dX2_breathsToEnd_62
    · have hf := ff hf hc
      refine lv_iload_n hx hb dX2_breathsToEnd_11 rfl (lv_at hl 1 rfl) ?_
      refine lv_iconst (v := 1) hx hb dX2_breathsToEnd_12 (by decide) ?_
      refine lv_iload_n hx hb dX2_breathsToEnd_13 rfl (lv_at hl 3 rfl) ?_
      refine lv_ishl hx hb dX2_breathsToEnd_14 ?_
      refine lv_iand hx hb dX2_breathsToEnd_15 ?_
      refine lv_if_eq (tgt := 55) hx hb dX2_breathsToEnd_16 (by decide) (fun hc => ?_) (fun hc => ?_)
      · have hf := ft hf hc
        refine lv_iinc (v := v3 + 1) (lv' := [(3, .int (v3 + 1)), (0, .ref A_t), (1, .int a1), (2, .int v2)]) hx hb dX2_breathsToEnd_55 hl (k := 3) rfl rfl (by decide) rfl (fun ls hl => ?_)
        refine lv_goto (tgt := 5) hx hb dX2_breathsToEnd_58 (by decide) ?_
        exact hk5 _ _ _ (lv_sub hl [1, 2, 3, 0] rfl) hf
      · have hf := ff hf hc
        refine lv_aload_n hx hb dX2_breathsToEnd_19 rfl (lv_at hl 0 rfl) ?_
        refine va_get (D := D) (ci := 1) (v := .ref A_t_paces) (C := RX2) (T := TX2) (N := 6) hx hb hts wX2_breathsToEnd_X2 hown hK.1 hP 0 rfl rfl 5 (by decide) (hts _ mX2_breathsToEnd_f23) (fun _ h9 => h9) rfl dX2_breathsToEnd_20 ?_
        refine lv_iload_n hx hb dX2_breathsToEnd_23 rfl (lv_at hl 3 rfl) ?_
        obtain ⟨hin, hf⟩ := gIn_some hf
        refine va_iald hx hb hK.1 hP 2 0 rfl rfl hin dX2_breathsToEnd_24 ?_
        refine lv_if_le (tgt := 55) hx hb dX2_breathsToEnd_25 (by decide) (fun hc => ?_) (fun hc => ?_)
        · have hf := ft hf hc
          refine lv_iinc (v := v3 + 1) (lv' := [(3, .int (v3 + 1)), (0, .ref A_t), (1, .int a1), (2, .int v2)]) hx hb dX2_breathsToEnd_55 hl (k := 3) rfl rfl (by decide) rfl (fun ls hl => ?_)
          refine lv_goto (tgt := 5) hx hb dX2_breathsToEnd_58 (by decide) ?_
          exact hk5 _ _ _ (lv_sub hl [1, 2, 3, 0] rfl) hf
        · have hf := ff hf hc
          refine lv_iload_n hx hb dX2_breathsToEnd_28 rfl (lv_at hl 2 rfl) ?_
          refine lv_aload_n hx hb dX2_breathsToEnd_29 rfl (lv_at hl 0 rfl) ?_
          refine va_get (D := D) (ci := 1) (v := .ref A_t_counts) (C := RX2) (T := TX2) (N := 6) hx hb hts wX2_breathsToEnd_X2 hown hK.1 hP 0 rfl rfl 4 (by decide) (hts _ mX2_breathsToEnd_f19) (fun _ h9 => h9) rfl dX2_breathsToEnd_30 ?_
          refine lv_iload_n hx hb dX2_breathsToEnd_33 rfl (lv_at hl 3 rfl) ?_
          obtain ⟨hin, hf⟩ := gIn_some hf
          refine va_iald hx hb hK.1 hP 1 0 rfl rfl hin dX2_breathsToEnd_34 ?_
          refine lv_aload_n hx hb dX2_breathsToEnd_35 rfl (lv_at hl 0 rfl) ?_
          refine va_get (D := D) (ci := 1) (v := .ref A_t_paces) (C := RX2) (T := TX2) (N := 6) hx hb hts wX2_breathsToEnd_X2 hown hK.1 hP 0 rfl rfl 5 (by decide) (hts _ mX2_breathsToEnd_f23) (fun _ h9 => h9) rfl dX2_breathsToEnd_36 ?_
          refine lv_iload_n hx hb dX2_breathsToEnd_39 rfl (lv_at hl 3 rfl) ?_
          obtain ⟨hin, hf⟩ := gIn_some hf
          refine va_iald hx hb hK.1 hP 2 0 rfl rfl hin dX2_breathsToEnd_40 ?_
          refine lv_iadd hx hb dX2_breathsToEnd_41 ?_
          refine lv_iconst (v := 1) hx hb dX2_breathsToEnd_42 (by decide) ?_
          refine lv_isub hx hb dX2_breathsToEnd_43 ?_
          refine lv_aload_n hx hb dX2_breathsToEnd_44 rfl (lv_at hl 0 rfl) ?_
          refine va_get (D := D) (ci := 1) (v := .ref A_t_paces) (C := RX2) (T := TX2) (N := 6) hx hb hts wX2_breathsToEnd_X2 hown hK.1 hP 0 rfl rfl 5 (by decide) (hts _ mX2_breathsToEnd_f23) (fun _ h9 => h9) rfl dX2_breathsToEnd_45 ?_
          refine lv_iload_n hx hb dX2_breathsToEnd_48 rfl (lv_at hl 3 rfl) ?_
          obtain ⟨hin, hf⟩ := gIn_some hf
          refine va_iald hx hb hK.1 hP 2 0 rfl rfl hin dX2_breathsToEnd_49 ?_
          obtain ⟨hnz, hf⟩ := gNz_some hf
          refine lv_idiv hx hb dX2_breathsToEnd_50 hnz ?_
          refine va_mmax hx hb (hml.trans hl.1.symm) hown (hts _ mX2_breathsToEnd_c84) (hts _ mX2_breathsToEnd_smax) (hts _ mX2_breathsToEnd_iMath) (hts _ mX2_breathsToEnd_cdmax) (Nat.le_of_ble_eq_true rfl) (Nat.le_of_ble_eq_true rfl) (Nat.zero_le _) (Nat.zero_le _) dX2_breathsToEnd_51 ?_
          refine lv_istore_n (lv' := [(2, .int (if v2 < ((((t_counts (v3 : Int32).toNatClampNeg) + (t_paces (v3 : Int32).toNatClampNeg)) - 1) / (t_paces (v3 : Int32).toNatClampNeg)) then ((((t_counts (v3 : Int32).toNatClampNeg) + (t_paces (v3 : Int32).toNatClampNeg)) - 1) / (t_paces (v3 : Int32).toNatClampNeg)) else v2)), (0, .ref A_t), (1, .int a1), (3, .int v3)]) hx hb dX2_breathsToEnd_54 rfl hl (by decide) rfl (fun ls hl => ?_)
          refine lv_iinc (v := v3 + 1) (lv' := [(3, .int (v3 + 1)), (2, .int (if v2 < ((((t_counts (v3 : Int32).toNatClampNeg) + (t_paces (v3 : Int32).toNatClampNeg)) - 1) / (t_paces (v3 : Int32).toNatClampNeg)) then ((((t_counts (v3 : Int32).toNatClampNeg) + (t_paces (v3 : Int32).toNatClampNeg)) - 1) / (t_paces (v3 : Int32).toNatClampNeg)) else v2)), (0, .ref A_t), (1, .int a1)]) hx hb dX2_breathsToEnd_55 hl (k := 3) rfl rfl (by decide) rfl (fun ls hl => ?_)
          refine lv_goto (tgt := 5) hx hb dX2_breathsToEnd_58 (by decide) ?_
          exact hk5 _ _ _ (lv_sub hl [2, 3, 1, 0] rfl) hf
def fX2_breathsToEnd (t_counts : Nat → Int32) (t_paces : Nat → Int32) (a1 : Int32) : Option (Int32) :=
  loopF (fun k q => bX2_breathsToEnd_5 k t_counts t_paces a1 q.1 q.2) FU ((-6), 0)
set_option maxRecDepth 100000 in
set_option maxHeartbeats 4000000 in
theorem CX2_breathsToEnd (l : Launch) {D : va_G} {ty : TY} {A_t A_t_counts A_t_paces : Nat} {t_there : Int32} {t_awake : Int32} {t_start : Int32} {t_sharp : Int32} {t_counts : Nat → Int32} {t_paces : Nat → Int32} {a1 : Int32} {q0 : Int32} (hf : fX2_breathsToEnd t_counts t_paces a1 = some q0) : ROi l yX2_breathsToEnd wsX2_breathsToEnd rmX2_breathsToEnd D ty [.ref A_t, .int a1] [(A_t, .inr (1, [.int t_there, .int t_awake, .int t_start, .int t_sharp, .ref A_t_counts, .ref A_t_paces])), (A_t_counts, .inl (ty.1, 8, .inl t_counts)), (A_t_paces, .inl (ty.1, 8, .inl t_paces))] q0 := by
  refine ROi.start (cc := cX2_breathsToEnd) (maxL := 4) (ret := (some .int)) (own := RX2) (by decide) rfl rfl (Nat.le_of_ble_eq_true rfl) ?_
  intro p e s m below meth c ls C hK hP hl
  obtain ⟨hx, hb, hr, hml, hown, hts, hlocks⟩ := id C
  have hl : lv_has ls 4 [(0, .ref A_t), (1, .int a1)] := hl
  unfold fX2_breathsToEnd at hf
  refine lv_bipush (v := (-6)) hx hb dX2_breathsToEnd_0 (by decide) ?_
  refine lv_istore_n (lv' := [(2, .int (-6)), (0, .ref A_t), (1, .int a1)]) hx hb dX2_breathsToEnd_2 rfl hl (by decide) rfl (fun ls hl => ?_)
  refine lv_iconst (v := 0) hx hb dX2_breathsToEnd_3 (by decide) ?_
  refine lv_istore_n (lv' := [(3, .int 0), (2, .int (-6)), (0, .ref A_t), (1, .int a1)]) hx hb dX2_breathsToEnd_4 rfl hl (by decide) rfl (fun ls hl => ?_)
  exact BX2_breathsToEnd_5 C hK hP  FU _ _ _ (lv_sub hl [2, 3, 1, 0] rfl) hf
/-! ===== SilenceCount$House.breathsToMeet(II)I ===== -/
abbrev rmX2_breathsToMeet : Room := { frames := 2, cells := 0, slots := 0, locals := 36 }
theorem kkX2_breathsToMeet : yX2_breathsToMeet.cls = RX2 ∧ yX2_breathsToMeet.cls ≠ "java/lang/invoke/MethodHandle" ∧ yX2_breathsToMeet.cls ≠ "java/lang/invoke/VarHandle" ∧ (parseMethodDescriptor yX2_breathsToMeet.desc).map (fun d => d.parameters.length) = some 2 := by decide +kernel
theorem mX2_breathsToMeet_f19 : Cond.fieldLink RX2 19 "SilenceCount$House" "counts" "[I" ∈ wsX2_breathsToMeet := by decide +kernel
theorem mX2_breathsToMeet_f23 : Cond.fieldLink RX2 23 "SilenceCount$House" "paces" "[I" ∈ wsX2_breathsToMeet := by decide +kernel
theorem wX2_breathsToMeet_X2 : ∀ w ∈ u_ws RX2 TX2 6, w ∈ wsX2_breathsToMeet := by decide +kernel
def fX2_breathsToMeet (t_counts : Nat → Int32) (t_paces : Nat → Int32) (a1 : Int32) (a2 : Int32) : Option (Int32) :=
  gIn a1 8 (gIn a2 8 (gIn a1 8 (gIn a2 8 (if ((t_counts (a1 : Int32).toNatClampNeg) - (t_counts (a2 : Int32).toNatClampNeg)) = 0 then gIn a1 8 (if (t_counts (a1 : Int32).toNatClampNeg) ≤ 0 then some (-6) else some 0) else if ((t_paces (a1 : Int32).toNatClampNeg) - (t_paces (a2 : Int32).toNatClampNeg)) = 0 then some (-6) else gNz ((t_paces (a1 : Int32).toNatClampNeg) - (t_paces (a2 : Int32).toNatClampNeg)) (if (((t_counts (a1 : Int32).toNatClampNeg) - (t_counts (a2 : Int32).toNatClampNeg)) - ((t_counts (a1 : Int32).toNatClampNeg) - (t_counts (a2 : Int32).toNatClampNeg)) / ((t_paces (a1 : Int32).toNatClampNeg) - (t_paces (a2 : Int32).toNatClampNeg)) * ((t_paces (a1 : Int32).toNatClampNeg) - (t_paces (a2 : Int32).toNatClampNeg))) = 0 then gNz ((t_paces (a1 : Int32).toNatClampNeg) - (t_paces (a2 : Int32).toNatClampNeg)) (if (((t_counts (a1 : Int32).toNatClampNeg) - (t_counts (a2 : Int32).toNatClampNeg)) / ((t_paces (a1 : Int32).toNatClampNeg) - (t_paces (a2 : Int32).toNatClampNeg))) ≤ 0 then some (-6) else (fX2_countBehind t_counts t_paces a1 0 (((t_counts (a1 : Int32).toNatClampNeg) - (t_counts (a2 : Int32).toNatClampNeg)) / ((t_paces (a1 : Int32).toNatClampNeg) - (t_paces (a2 : Int32).toNatClampNeg)))).bind fun r80 => if r80 ≤ 0 then some (-6) else some (((t_counts (a1 : Int32).toNatClampNeg) - (t_counts (a2 : Int32).toNatClampNeg)) / ((t_paces (a1 : Int32).toNatClampNeg) - (t_paces (a2 : Int32).toNatClampNeg)))) else some (-6))))))
set_option maxRecDepth 100000 in
set_option maxHeartbeats 4000000 in
theorem CX2_breathsToMeet (l : Launch) {D : va_G} {ty : TY} {A_t A_t_counts A_t_paces : Nat} {t_there : Int32} {t_awake : Int32} {t_start : Int32} {t_sharp : Int32} {t_counts : Nat → Int32} {t_paces : Nat → Int32} {a1 : Int32} {a2 : Int32} {q0 : Int32} (hf : fX2_breathsToMeet t_counts t_paces a1 a2 = some q0) : ROi l yX2_breathsToMeet wsX2_breathsToMeet rmX2_breathsToMeet D ty [.ref A_t, .int a1, .int a2] [(A_t, .inr (1, [.int t_there, .int t_awake, .int t_start, .int t_sharp, .ref A_t_counts, .ref A_t_paces])), (A_t_counts, .inl (ty.1, 8, .inl t_counts)), (A_t_paces, .inl (ty.1, 8, .inl t_paces))] q0 := by
  refine ROi.start (cc := cX2_breathsToMeet) (maxL := 6) (ret := (some .int)) (own := RX2) (by decide) rfl rfl (Nat.le_of_ble_eq_true rfl) ?_
  intro p e s m below meth c ls C hK hP hl
  obtain ⟨hx, hb, hr, hml, hown, hts, hlocks⟩ := id C
  have hl : lv_has ls 6 [(0, .ref A_t), (1, .int a1), (2, .int a2)] := hl
  unfold fX2_breathsToMeet at hf
  refine lv_aload_n hx hb dX2_breathsToMeet_0 rfl (lv_at hl 0 rfl) ?_
  refine va_get (D := D) (ci := 1) (v := .ref A_t_counts) (C := RX2) (T := TX2) (N := 6) hx hb hts wX2_breathsToMeet_X2 hown hK.1 hP 0 rfl rfl 4 (by decide) (hts _ mX2_breathsToMeet_f19) (fun _ h9 => h9) rfl dX2_breathsToMeet_1 ?_
  refine lv_iload_n hx hb dX2_breathsToMeet_4 rfl (lv_at hl 1 rfl) ?_
  obtain ⟨hin, hf⟩ := gIn_some hf
  refine va_iald hx hb hK.1 hP 1 0 rfl rfl hin dX2_breathsToMeet_5 ?_
  refine lv_aload_n hx hb dX2_breathsToMeet_6 rfl (lv_at hl 0 rfl) ?_
  refine va_get (D := D) (ci := 1) (v := .ref A_t_counts) (C := RX2) (T := TX2) (N := 6) hx hb hts wX2_breathsToMeet_X2 hown hK.1 hP 0 rfl rfl 4 (by decide) (hts _ mX2_breathsToMeet_f19) (fun _ h9 => h9) rfl dX2_breathsToMeet_7 ?_
  refine lv_iload_n hx hb dX2_breathsToMeet_10 rfl (lv_at hl 2 rfl) ?_
  obtain ⟨hin, hf⟩ := gIn_some hf
  refine va_iald hx hb hK.1 hP 1 0 rfl rfl hin dX2_breathsToMeet_11 ?_
  refine lv_isub hx hb dX2_breathsToMeet_12 ?_
  refine lv_istore_n (lv' := [(3, .int ((t_counts (a1 : Int32).toNatClampNeg) - (t_counts (a2 : Int32).toNatClampNeg))), (0, .ref A_t), (1, .int a1), (2, .int a2)]) hx hb dX2_breathsToMeet_13 rfl hl (by decide) rfl (fun ls hl => ?_)
  refine lv_aload_n hx hb dX2_breathsToMeet_14 rfl (lv_at hl 1 rfl) ?_
  refine va_get (D := D) (ci := 1) (v := .ref A_t_paces) (C := RX2) (T := TX2) (N := 6) hx hb hts wX2_breathsToMeet_X2 hown hK.1 hP 0 rfl rfl 5 (by decide) (hts _ mX2_breathsToMeet_f23) (fun _ h9 => h9) rfl dX2_breathsToMeet_15 ?_
  refine lv_iload_n hx hb dX2_breathsToMeet_18 rfl (lv_at hl 2 rfl) ?_
  obtain ⟨hin, hf⟩ := gIn_some hf
  refine va_iald hx hb hK.1 hP 2 0 rfl rfl hin dX2_breathsToMeet_19 ?_
  refine lv_aload_n hx hb dX2_breathsToMeet_20 rfl (lv_at hl 1 rfl) ?_
  refine va_get (D := D) (ci := 1) (v := .ref A_t_paces) (C := RX2) (T := TX2) (N := 6) hx hb hts wX2_breathsToMeet_X2 hown hK.1 hP 0 rfl rfl 5 (by decide) (hts _ mX2_breathsToMeet_f23) (fun _ h9 => h9) rfl dX2_breathsToMeet_21 ?_
  refine lv_iload_n hx hb dX2_breathsToMeet_24 rfl (lv_at hl 3 rfl) ?_
  obtain ⟨hin, hf⟩ := gIn_some hf
  refine va_iald hx hb hK.1 hP 2 0 rfl rfl hin dX2_breathsToMeet_25 ?_
  refine lv_isub hx hb dX2_breathsToMeet_26 ?_
  refine lv_istore (lv' := [(4, .int ((t_paces (a1 : Int32).toNatClampNeg) - (t_paces (a2 : Int32).toNatClampNeg))), (3, .int ((t_counts (a1 : Int32).toNatClampNeg) - (t_counts (a2 : Int32).toNatClampNeg))), (0, .ref A_t), (1, .int a1), (2, .int a2)]) hx hb dX2_breathsToMeet_27 hl (by decide) rfl (fun ls hl => ?_)
  refine lv_iload_n hx hb dX2_breathsToMeet_29 rfl (lv_at hl 1 rfl) ?_
  refine lv_if_ne (tgt := 49) hx hb dX2_breathsToMeet_30 (by decide) (fun hc => ?_) (fun hc => ?_)
  · have hf := ff hf hc
    refine lv_iload hx hb dX2_breathsToMeet_49 (lv_at hl 0 rfl) ?_
    refine lv_if_eq (tgt := 61) hx hb dX2_breathsToMeet_51 (by decide) (fun hc => ?_) (fun hc => ?_)
    · have hf := ft hf hc
      refine lv_bipush (v := (-6)) hx hb dX2_breathsToMeet_61 (by decide) ?_
      exact ret_ri hx hb hr hlocks hf dX2_breathsToMeet_63
    · have hf := ff hf hc
      refine lv_iload_n hx hb dX2_breathsToMeet_54 rfl (lv_at hl 1 rfl) ?_
      refine lv_iload hx hb dX2_breathsToMeet_55 (lv_at hl 0 rfl) ?_
      obtain ⟨hnz, hf⟩ := gNz_some hf
      refine lv_irem hx hb dX2_breathsToMeet_57 hnz ?_
      refine lv_if_eq (tgt := 64) hx hb dX2_breathsToMeet_58 (by decide) (fun hc => ?_) (fun hc => ?_)
      · have hf := ft hf hc
        refine lv_iload_n hx hb dX2_breathsToMeet_64 rfl (lv_at hl 1 rfl) ?_
        refine lv_iload hx hb dX2_breathsToMeet_65 (lv_at hl 0 rfl) ?_
        obtain ⟨hnz, hf⟩ := gNz_some hf
        refine lv_idiv hx hb dX2_breathsToMeet_67 hnz ?_
        refine lv_istore (lv' := [(5, .int (((t_counts (a1 : Int32).toNatClampNeg) - (t_counts (a2 : Int32).toNatClampNeg)) / ((t_paces (a1 : Int32).toNatClampNeg) - (t_paces (a2 : Int32).toNatClampNeg)))), (4, .int ((t_paces (a1 : Int32).toNatClampNeg) - (t_paces (a2 : Int32).toNatClampNeg))), (3, .int ((t_counts (a1 : Int32).toNatClampNeg) - (t_counts (a2 : Int32).toNatClampNeg))), (0, .ref A_t), (1, .int a1), (2, .int a2)]) hx hb dX2_breathsToMeet_68 hl (by decide) rfl (fun ls hl => ?_)
        refine lv_iload hx hb dX2_breathsToMeet_70 (lv_at hl 0 rfl) ?_
        refine lv_if_le (tgt := 91) hx hb dX2_breathsToMeet_72 (by decide) (fun hc => ?_) (fun hc => ?_)
        · have hf := ft hf hc
          refine lv_bipush (v := (-6)) hx hb dX2_breathsToMeet_91 (by decide) ?_
          exact ret_ri hx hb hr hlocks hf dX2_breathsToMeet_93
        · have hf := ff hf hc
          refine lv_aload_n hx hb dX2_breathsToMeet_75 rfl (lv_at hl 3 rfl) ?_
          refine lv_iload_n hx hb dX2_breathsToMeet_76 rfl (lv_at hl 4 rfl) ?_
          refine lv_iconst (v := 0) hx hb dX2_breathsToMeet_77 (by decide) ?_
          refine lv_iload hx hb dX2_breathsToMeet_78 (lv_at hl 0 rfl) ?_
          obtain ⟨r80, hr80, hf⟩ := bnd hf
          refine callV_ri (As := [.int a1, .int 0, .int (((t_counts (a1 : Int32).toNatClampNeg) - (t_counts (a2 : Int32).toNatClampNeg)) / ((t_paces (a1 : Int32).toNatClampNeg) - (t_paces (a2 : Int32).toNatClampNeg)))]) (rest := []) ⟨hx, hb, hml, hown, hts⟩ (CX2_countBehind l hr80) (cwV 3 hts gX2_breathsToMeet_X2_countBehind rfl rfl rfl kkX2_countBehind ⟨Nat.le_of_ble_eq_true rfl, Nat.le_of_ble_eq_true rfl⟩) hK hP 0 rfl rfl rfl hl.1 rfl (Nat.le_of_ble_eq_true rfl) dX2_breathsToMeet_80 ⟨Nat.zero_le _, Nat.zero_le _⟩ ?_
          refine lv_if_le (tgt := 91) hx hb dX2_breathsToMeet_83 (by decide) (fun hc => ?_) (fun hc => ?_)
          · have hf := ft hf hc
            refine lv_bipush (v := (-6)) hx hb dX2_breathsToMeet_91 (by decide) ?_
            exact ret_ri hx hb hr hlocks hf dX2_breathsToMeet_93
          · have hf := ff hf hc
            refine lv_iload hx hb dX2_breathsToMeet_86 (lv_at hl 0 rfl) ?_
            refine lv_goto (tgt := 93) hx hb dX2_breathsToMeet_88 (by decide) ?_
            exact ret_ri hx hb hr hlocks hf dX2_breathsToMeet_93
      · have hf := ff hf hc
        refine lv_bipush (v := (-6)) hx hb dX2_breathsToMeet_61 (by decide) ?_
        exact ret_ri hx hb hr hlocks hf dX2_breathsToMeet_63
  · have hf := ft hf hc
    refine lv_aload_n hx hb dX2_breathsToMeet_33 rfl (lv_at hl 2 rfl) ?_
    refine va_get (D := D) (ci := 1) (v := .ref A_t_counts) (C := RX2) (T := TX2) (N := 6) hx hb hts wX2_breathsToMeet_X2 hown hK.1 hP 0 rfl rfl 4 (by decide) (hts _ mX2_breathsToMeet_f19) (fun _ h9 => h9) rfl dX2_breathsToMeet_34 ?_
    refine lv_iload_n hx hb dX2_breathsToMeet_37 rfl (lv_at hl 3 rfl) ?_
    obtain ⟨hin, hf⟩ := gIn_some hf
    refine va_iald hx hb hK.1 hP 1 0 rfl rfl hin dX2_breathsToMeet_38 ?_
    refine lv_if_le (tgt := 46) hx hb dX2_breathsToMeet_39 (by decide) (fun hc => ?_) (fun hc => ?_)
    · have hf := ft hf hc
      refine lv_bipush (v := (-6)) hx hb dX2_breathsToMeet_46 (by decide) ?_
      exact ret_ri hx hb hr hlocks hf dX2_breathsToMeet_48
    · have hf := ff hf hc
      refine lv_iconst (v := 0) hx hb dX2_breathsToMeet_42 (by decide) ?_
      refine lv_goto (tgt := 48) hx hb dX2_breathsToMeet_43 (by decide) ?_
      exact ret_ri hx hb hr hlocks hf dX2_breathsToMeet_48
/-! ===== SilenceCount$House.dismiss(I)V ===== -/
abbrev rmX2_dismiss : Room := { frames := 0, cells := 0, slots := 0, locals := 0 }
theorem kkX2_dismiss : yX2_dismiss.cls = RX2 ∧ yX2_dismiss.cls ≠ "java/lang/invoke/MethodHandle" ∧ yX2_dismiss.cls ≠ "java/lang/invoke/VarHandle" ∧ (parseMethodDescriptor yX2_dismiss.desc).map (fun d => d.parameters.length) = some 1 := by decide +kernel
theorem mX2_dismiss_f26 : Cond.fieldLink RX2 26 "SilenceCount$House" "there" "I" ∈ wsX2_dismiss := by decide +kernel
theorem mX2_dismiss_f29 : Cond.fieldLink RX2 29 "SilenceCount$House" "awake" "I" ∈ wsX2_dismiss := by decide +kernel
theorem wX2_dismiss_X2 : ∀ w ∈ u_ws RX2 TX2 6, w ∈ wsX2_dismiss := by decide +kernel
def fX2_dismiss (t_there : Int32) (t_awake : Int32) (a1 : Int32) : Option (Int32 × Int32) :=
  some (t_there &&& ((1 <<< (a1 &&& 31)) ^^^ (-1)), t_awake &&& ((1 <<< (a1 &&& 31)) ^^^ (-1)))
set_option maxRecDepth 100000 in
set_option maxHeartbeats 4000000 in
theorem CX2_dismiss (l : Launch) {D : va_G} {ty : TY} {A_t A_t_counts A_t_paces : Nat} {t_there : Int32} {t_awake : Int32} {t_start : Int32} {t_sharp : Int32} {t_counts : Nat → Int32} {t_paces : Nat → Int32} {a1 : Int32} {q0 : Int32 × Int32} (hf : fX2_dismiss t_there t_awake a1 = some q0) : RWv l yX2_dismiss wsX2_dismiss rmX2_dismiss D ty [.ref A_t, .int a1] [(A_t, .inr (1, [.int t_there, .int t_awake, .int t_start, .int t_sharp, .ref A_t_counts, .ref A_t_paces])), (A_t_counts, .inl (ty.1, 8, .inl t_counts)), (A_t_paces, .inl (ty.1, 8, .inl t_paces))] [(A_t, .inr (1, [.int q0.1, .int q0.2, .int t_start, .int t_sharp, .ref A_t_counts, .ref A_t_paces])), (A_t_counts, .inl (ty.1, 8, .inl t_counts)), (A_t_paces, .inl (ty.1, 8, .inl t_paces))] := by
  refine RWv.start (cc := cX2_dismiss) (maxL := 2) (ret := none) (own := RX2) (by decide) rfl rfl (Nat.le_of_ble_eq_true rfl) ?_
  intro p e s m below meth c ls C hK hP hD hS hl
  obtain ⟨WC, hWC⟩ : ∃ w : va_W, w = [(A_t, .inr (1, [.int t_there, .int t_awake, .int t_start, .int t_sharp, .ref A_t_counts, .ref A_t_paces])), (A_t_counts, .inl (ty.1, 8, .inl t_counts)), (A_t_paces, .inl (ty.1, 8, .inl t_paces))] := ⟨_, rfl⟩
  rw [← hWC] at hD hS ⊢
  have hD : va_D (va_A WC s.heap.size) [(A_t, .inr (1, [.int t_there, .int t_awake, .int t_start, .int t_sharp, .ref A_t_counts, .ref A_t_paces])), (A_t_counts, .inl (ty.1, 8, .inl t_counts)), (A_t_paces, .inl (ty.1, 8, .inl t_paces))] := by rw [← hWC]; exact hD
  obtain ⟨hx, hb, hr, hml, hown, hts, hlocks⟩ := id C
  have hl : lv_has ls 2 [(0, .ref A_t), (1, .int a1)] := hl
  unfold fX2_dismiss at hf
  refine lv_aload_n hx hb dX2_dismiss_0 rfl (lv_at hl 0 rfl) ?_
  refine lv_dup hx hb dX2_dismiss_1 rfl ?_
  refine va_get (D := D) (ci := 1) (v := .int t_there) (C := RX2) (T := TX2) (N := 6) hx hb hts wX2_dismiss_X2 hown hK.1 hP 0 rfl rfl 0 (by decide) (hts _ mX2_dismiss_f26) (fun _ h9 => h9) rfl dX2_dismiss_2 ?_
  refine lv_iconst (v := 1) hx hb dX2_dismiss_5 (by decide) ?_
  refine lv_iload_n hx hb dX2_dismiss_6 rfl (lv_at hl 1 rfl) ?_
  refine lv_ishl hx hb dX2_dismiss_7 ?_
  refine lv_iconst (v := (-1)) hx hb dX2_dismiss_8 (by decide) ?_
  refine lv_ixor hx hb dX2_dismiss_9 ?_
  refine lv_iand hx hb dX2_dismiss_10 ?_
  refine va_put (D := D) (ci := 1) (v := .int (t_there &&& ((1 <<< (a1 &&& 31)) ^^^ (-1)))) (ty := .int) (C := RX2) (T := TX2) (N := 6) hx hb hts wX2_dismiss_X2 tyX2 tyX2_ok nmX2 hown hK.1 hP hD hS 0 rfl rfl 0 (by decide) (hts _ mX2_dismiss_f26) (fun _ h9 => h9) rfl (by decide +kernel) rfl rfl (Nat.le_of_ble_eq_true rfl) dX2_dismiss_11 (fun H locs hP hD hS => ?_)
  have hP : va_P D vwCl [(A_t, .inr (1, [.int (t_there &&& ((1 <<< (a1 &&& 31)) ^^^ (-1))), .int t_awake, .int t_start, .int t_sharp, .ref A_t_counts, .ref A_t_paces])), (A_t_counts, .inl (ty.1, 8, .inl t_counts)), (A_t_paces, .inl (ty.1, 8, .inl t_paces))] H := hP
  have hD : va_D (va_A WC s.heap.size) [(A_t, .inr (1, [.int (t_there &&& ((1 <<< (a1 &&& 31)) ^^^ (-1))), .int t_awake, .int t_start, .int t_sharp, .ref A_t_counts, .ref A_t_paces])), (A_t_counts, .inl (ty.1, 8, .inl t_counts)), (A_t_paces, .inl (ty.1, 8, .inl t_paces))] := hD
  refine lv_aload_n hx hb dX2_dismiss_14 rfl (lv_at hl 0 rfl) ?_
  refine lv_dup hx hb dX2_dismiss_15 rfl ?_
  refine va_get (D := D) (ci := 1) (v := .int t_awake) (C := RX2) (T := TX2) (N := 6) hx hb hts wX2_dismiss_X2 hown hK.1 hP 0 rfl rfl 1 (by decide) (hts _ mX2_dismiss_f29) (fun _ h9 => h9) rfl dX2_dismiss_16 ?_
  refine lv_iconst (v := 1) hx hb dX2_dismiss_19 (by decide) ?_
  refine lv_iload_n hx hb dX2_dismiss_20 rfl (lv_at hl 1 rfl) ?_
  refine lv_ishl hx hb dX2_dismiss_21 ?_
  refine lv_iconst (v := (-1)) hx hb dX2_dismiss_22 (by decide) ?_
  refine lv_ixor hx hb dX2_dismiss_23 ?_
  refine lv_iand hx hb dX2_dismiss_24 ?_
  refine va_put (D := D) (ci := 1) (v := .int (t_awake &&& ((1 <<< (a1 &&& 31)) ^^^ (-1)))) (ty := .int) (C := RX2) (T := TX2) (N := 6) hx hb hts wX2_dismiss_X2 tyX2 tyX2_ok nmX2 hown hK.1 hP hD hS 0 rfl rfl 1 (by decide) (hts _ mX2_dismiss_f29) (fun _ h9 => h9) rfl (by decide +kernel) rfl rfl (Nat.le_of_ble_eq_true rfl) dX2_dismiss_25 (fun H locs hP hD hS => ?_)
  have hP : va_P D vwCl [(A_t, .inr (1, [.int (t_there &&& ((1 <<< (a1 &&& 31)) ^^^ (-1))), .int (t_awake &&& ((1 <<< (a1 &&& 31)) ^^^ (-1))), .int t_start, .int t_sharp, .ref A_t_counts, .ref A_t_paces])), (A_t_counts, .inl (ty.1, 8, .inl t_counts)), (A_t_paces, .inl (ty.1, 8, .inl t_paces))] H := hP
  have hD : va_D (va_A WC s.heap.size) [(A_t, .inr (1, [.int (t_there &&& ((1 <<< (a1 &&& 31)) ^^^ (-1))), .int (t_awake &&& ((1 <<< (a1 &&& 31)) ^^^ (-1))), .int t_start, .int t_sharp, .ref A_t_counts, .ref A_t_paces])), (A_t_counts, .inl (ty.1, 8, .inl t_counts)), (A_t_paces, .inl (ty.1, 8, .inl t_paces))] := hD
  cases hf
  exact ret_wv hx hb hr hlocks hP hD hS dX2_dismiss_28
/-! ===== SilenceCount$House.settle(III)V ===== -/
abbrev rmX2_settle : Room := { frames := 0, cells := 0, slots := 0, locals := 0 }
theorem kkX2_settle : yX2_settle.cls = RX2 ∧ yX2_settle.cls ≠ "java/lang/invoke/MethodHandle" ∧ yX2_settle.cls ≠ "java/lang/invoke/VarHandle" ∧ (parseMethodDescriptor yX2_settle.desc).map (fun d => d.parameters.length) = some 3 := by decide +kernel
theorem mX2_settle_f26 : Cond.fieldLink RX2 26 "SilenceCount$House" "there" "I" ∈ wsX2_settle := by decide +kernel
theorem mX2_settle_f29 : Cond.fieldLink RX2 29 "SilenceCount$House" "awake" "I" ∈ wsX2_settle := by decide +kernel
theorem mX2_settle_f19 : Cond.fieldLink RX2 19 "SilenceCount$House" "counts" "[I" ∈ wsX2_settle := by decide +kernel
theorem mX2_settle_f23 : Cond.fieldLink RX2 23 "SilenceCount$House" "paces" "[I" ∈ wsX2_settle := by decide +kernel
theorem wX2_settle_X2 : ∀ w ∈ u_ws RX2 TX2 6, w ∈ wsX2_settle := by decide +kernel
def fX2_settle (t_there : Int32) (t_awake : Int32) (t_counts : Nat → Int32) (t_paces : Nat → Int32) (a1 : Int32) (a2 : Int32) (a3 : Int32) : Option (Int32 × Int32 × (Nat → Int32) × (Nat → Int32)) :=
  gIn a1 8 (gIn a1 8 (some (t_there ||| (1 <<< (a1 &&& 31)), t_awake ||| (1 <<< (a1 &&& 31)), upd t_counts (a1 : Int32).toNatClampNeg a2, upd t_paces (a1 : Int32).toNatClampNeg a3)))
set_option maxRecDepth 100000 in
set_option maxHeartbeats 4000000 in
theorem CX2_settle (l : Launch) {D : va_G} {ty : TY} {A_t A_t_counts A_t_paces : Nat} {t_there : Int32} {t_awake : Int32} {t_start : Int32} {t_sharp : Int32} {t_counts : Nat → Int32} {t_paces : Nat → Int32} {a1 : Int32} {a2 : Int32} {a3 : Int32} {q0 : Int32 × Int32 × (Nat → Int32) × (Nat → Int32)} (hf : fX2_settle t_there t_awake t_counts t_paces a1 a2 a3 = some q0) : RWv l yX2_settle wsX2_settle rmX2_settle D ty [.ref A_t, .int a1, .int a2, .int a3] [(A_t, .inr (1, [.int t_there, .int t_awake, .int t_start, .int t_sharp, .ref A_t_counts, .ref A_t_paces])), (A_t_counts, .inl (ty.1, 8, .inl t_counts)), (A_t_paces, .inl (ty.1, 8, .inl t_paces))] [(A_t, .inr (1, [.int q0.1, .int q0.2.1, .int t_start, .int t_sharp, .ref A_t_counts, .ref A_t_paces])), (A_t_counts, .inl (ty.1, 8, .inl q0.2.2.1)), (A_t_paces, .inl (ty.1, 8, .inl q0.2.2.2))] := by
  refine RWv.start (cc := cX2_settle) (maxL := 4) (ret := none) (own := RX2) (by decide) rfl rfl (Nat.le_of_ble_eq_true rfl) ?_
  intro p e s m below meth c ls C hK hP hD hS hl
  obtain ⟨WC, hWC⟩ : ∃ w : va_W, w = [(A_t, .inr (1, [.int t_there, .int t_awake, .int t_start, .int t_sharp, .ref A_t_counts, .ref A_t_paces])), (A_t_counts, .inl (ty.1, 8, .inl t_counts)), (A_t_paces, .inl (ty.1, 8, .inl t_paces))] := ⟨_, rfl⟩
  rw [← hWC] at hD hS ⊢
  have hD : va_D (va_A WC s.heap.size) [(A_t, .inr (1, [.int t_there, .int t_awake, .int t_start, .int t_sharp, .ref A_t_counts, .ref A_t_paces])), (A_t_counts, .inl (ty.1, 8, .inl t_counts)), (A_t_paces, .inl (ty.1, 8, .inl t_paces))] := by rw [← hWC]; exact hD
  obtain ⟨hx, hb, hr, hml, hown, hts, hlocks⟩ := id C
  have hl : lv_has ls 4 [(0, .ref A_t), (1, .int a1), (2, .int a2), (3, .int a3)] := hl
  unfold fX2_settle at hf
  refine lv_aload_n hx hb dX2_settle_0 rfl (lv_at hl 0 rfl) ?_
  refine lv_dup hx hb dX2_settle_1 rfl ?_
  refine va_get (D := D) (ci := 1) (v := .int t_there) (C := RX2) (T := TX2) (N := 6) hx hb hts wX2_settle_X2 hown hK.1 hP 0 rfl rfl 0 (by decide) (hts _ mX2_settle_f26) (fun _ h9 => h9) rfl dX2_settle_2 ?_
  refine lv_iconst (v := 1) hx hb dX2_settle_5 (by decide) ?_
  refine lv_iload_n hx hb dX2_settle_6 rfl (lv_at hl 1 rfl) ?_
  refine lv_ishl hx hb dX2_settle_7 ?_
  refine lv_ior hx hb dX2_settle_8 ?_
  refine va_put (D := D) (ci := 1) (v := .int (t_there ||| (1 <<< (a1 &&& 31)))) (ty := .int) (C := RX2) (T := TX2) (N := 6) hx hb hts wX2_settle_X2 tyX2 tyX2_ok nmX2 hown hK.1 hP hD hS 0 rfl rfl 0 (by decide) (hts _ mX2_settle_f26) (fun _ h9 => h9) rfl (by decide +kernel) rfl rfl (Nat.le_of_ble_eq_true rfl) dX2_settle_9 (fun H locs hP hD hS => ?_)
  have hP : va_P D vwCl [(A_t, .inr (1, [.int (t_there ||| (1 <<< (a1 &&& 31))), .int t_awake, .int t_start, .int t_sharp, .ref A_t_counts, .ref A_t_paces])), (A_t_counts, .inl (ty.1, 8, .inl t_counts)), (A_t_paces, .inl (ty.1, 8, .inl t_paces))] H := hP
  have hD : va_D (va_A WC s.heap.size) [(A_t, .inr (1, [.int (t_there ||| (1 <<< (a1 &&& 31))), .int t_awake, .int t_start, .int t_sharp, .ref A_t_counts, .ref A_t_paces])), (A_t_counts, .inl (ty.1, 8, .inl t_counts)), (A_t_paces, .inl (ty.1, 8, .inl t_paces))] := hD
  refine lv_aload_n hx hb dX2_settle_12 rfl (lv_at hl 0 rfl) ?_
  refine lv_dup hx hb dX2_settle_13 rfl ?_
  refine va_get (D := D) (ci := 1) (v := .int t_awake) (C := RX2) (T := TX2) (N := 6) hx hb hts wX2_settle_X2 hown hK.1 hP 0 rfl rfl 1 (by decide) (hts _ mX2_settle_f29) (fun _ h9 => h9) rfl dX2_settle_14 ?_
  refine lv_iconst (v := 1) hx hb dX2_settle_17 (by decide) ?_
  refine lv_iload_n hx hb dX2_settle_18 rfl (lv_at hl 1 rfl) ?_
  refine lv_ishl hx hb dX2_settle_19 ?_
  refine lv_ior hx hb dX2_settle_20 ?_
  refine va_put (D := D) (ci := 1) (v := .int (t_awake ||| (1 <<< (a1 &&& 31)))) (ty := .int) (C := RX2) (T := TX2) (N := 6) hx hb hts wX2_settle_X2 tyX2 tyX2_ok nmX2 hown hK.1 hP hD hS 0 rfl rfl 1 (by decide) (hts _ mX2_settle_f29) (fun _ h9 => h9) rfl (by decide +kernel) rfl rfl (Nat.le_of_ble_eq_true rfl) dX2_settle_21 (fun H locs hP hD hS => ?_)
  have hP : va_P D vwCl [(A_t, .inr (1, [.int (t_there ||| (1 <<< (a1 &&& 31))), .int (t_awake ||| (1 <<< (a1 &&& 31))), .int t_start, .int t_sharp, .ref A_t_counts, .ref A_t_paces])), (A_t_counts, .inl (ty.1, 8, .inl t_counts)), (A_t_paces, .inl (ty.1, 8, .inl t_paces))] H := hP
  have hD : va_D (va_A WC s.heap.size) [(A_t, .inr (1, [.int (t_there ||| (1 <<< (a1 &&& 31))), .int (t_awake ||| (1 <<< (a1 &&& 31))), .int t_start, .int t_sharp, .ref A_t_counts, .ref A_t_paces])), (A_t_counts, .inl (ty.1, 8, .inl t_counts)), (A_t_paces, .inl (ty.1, 8, .inl t_paces))] := hD
  refine lv_aload_n hx hb dX2_settle_24 rfl (lv_at hl 0 rfl) ?_
  refine va_get (D := D) (ci := 1) (v := .ref A_t_counts) (C := RX2) (T := TX2) (N := 6) hx hb hts wX2_settle_X2 hown hK.1 hP 0 rfl rfl 4 (by decide) (hts _ mX2_settle_f19) (fun _ h9 => h9) rfl dX2_settle_25 ?_
  refine lv_iload_n hx hb dX2_settle_28 rfl (lv_at hl 1 rfl) ?_
  refine lv_iload_n hx hb dX2_settle_29 rfl (lv_at hl 2 rfl) ?_
  obtain ⟨hin, hf⟩ := gIn_some hf
  refine va_iast hx hb hK.1 hP hD hS 1 0 rfl rfl hin dX2_settle_30 (fun H locs hP hD hS => ?_)
  have hP : va_P D vwCl [(A_t, .inr (1, [.int (t_there ||| (1 <<< (a1 &&& 31))), .int (t_awake ||| (1 <<< (a1 &&& 31))), .int t_start, .int t_sharp, .ref A_t_counts, .ref A_t_paces])), (A_t_counts, .inl (ty.1, 8, .inl (upd t_counts (a1 : Int32).toNatClampNeg a2))), (A_t_paces, .inl (ty.1, 8, .inl t_paces))] H := hP
  have hD : va_D (va_A WC s.heap.size) [(A_t, .inr (1, [.int (t_there ||| (1 <<< (a1 &&& 31))), .int (t_awake ||| (1 <<< (a1 &&& 31))), .int t_start, .int t_sharp, .ref A_t_counts, .ref A_t_paces])), (A_t_counts, .inl (ty.1, 8, .inl (upd t_counts (a1 : Int32).toNatClampNeg a2))), (A_t_paces, .inl (ty.1, 8, .inl t_paces))] := hD
  refine lv_aload_n hx hb dX2_settle_31 rfl (lv_at hl 0 rfl) ?_
  refine va_get (D := D) (ci := 1) (v := .ref A_t_paces) (C := RX2) (T := TX2) (N := 6) hx hb hts wX2_settle_X2 hown hK.1 hP 0 rfl rfl 5 (by decide) (hts _ mX2_settle_f23) (fun _ h9 => h9) rfl dX2_settle_32 ?_
  refine lv_iload_n hx hb dX2_settle_35 rfl (lv_at hl 1 rfl) ?_
  refine lv_iload_n hx hb dX2_settle_36 rfl (lv_at hl 3 rfl) ?_
  obtain ⟨hin, hf⟩ := gIn_some hf
  refine va_iast hx hb hK.1 hP hD hS 2 0 rfl rfl hin dX2_settle_37 (fun H locs hP hD hS => ?_)
  have hP : va_P D vwCl [(A_t, .inr (1, [.int (t_there ||| (1 <<< (a1 &&& 31))), .int (t_awake ||| (1 <<< (a1 &&& 31))), .int t_start, .int t_sharp, .ref A_t_counts, .ref A_t_paces])), (A_t_counts, .inl (ty.1, 8, .inl (upd t_counts (a1 : Int32).toNatClampNeg a2))), (A_t_paces, .inl (ty.1, 8, .inl (upd t_paces (a1 : Int32).toNatClampNeg a3)))] H := hP
  have hD : va_D (va_A WC s.heap.size) [(A_t, .inr (1, [.int (t_there ||| (1 <<< (a1 &&& 31))), .int (t_awake ||| (1 <<< (a1 &&& 31))), .int t_start, .int t_sharp, .ref A_t_counts, .ref A_t_paces])), (A_t_counts, .inl (ty.1, 8, .inl (upd t_counts (a1 : Int32).toNatClampNeg a2))), (A_t_paces, .inl (ty.1, 8, .inl (upd t_paces (a1 : Int32).toNatClampNeg a3)))] := hD
  cases hf
  exact ret_wv hx hb hr hlocks hP hD hS dX2_settle_38
/-! ===== SilenceCount$House.sumOfCounts()I ===== -/
abbrev rmX2_sumOfCounts : Room := { frames := 1, cells := 0, slots := 0, locals := 21 }
theorem kkX2_sumOfCounts : yX2_sumOfCounts.cls = RX2 ∧ yX2_sumOfCounts.cls ≠ "java/lang/invoke/MethodHandle" ∧ yX2_sumOfCounts.cls ≠ "java/lang/invoke/VarHandle" ∧ (parseMethodDescriptor yX2_sumOfCounts.desc).map (fun d => d.parameters.length) = some 0 := by decide +kernel
theorem mX2_sumOfCounts_f19 : Cond.fieldLink RX2 19 "SilenceCount$House" "counts" "[I" ∈ wsX2_sumOfCounts := by decide +kernel
theorem wX2_sumOfCounts_X2 : ∀ w ∈ u_ws RX2 TX2 6, w ∈ wsX2_sumOfCounts := by decide +kernel
def bX2_sumOfCounts_4 (k4 : Int32 × Int32 → Option (Int32)) (t_there : Int32) (t_counts : Nat → Int32) (v1 : Int32) (v2 : Int32) : Option (Int32) :=
  if 8 ≤ v2 then some v1 else (fX2_isThere t_there v2).bind fun r12 => if r12 = 0 then k4 (v1, v2 + 1) else gIn v2 8 (k4 (v1 + (t_counts (v2 : Int32).toNatClampNeg), v2 + 1))
set_option maxRecDepth 100000 in
set_option maxHeartbeats 4000000 in
theorem BX2_sumOfCounts_4 {p : Program} {l : Launch} {e : Env} {s : State} {m : MethodId} {below : List Frame} {meth : Method} {c : Code} {D : va_G} {ty : TY} {A_t A_t_counts A_t_paces : Nat} {t_there : Int32} {t_awake : Int32} {t_start : Int32} {t_sharp : Int32} {t_counts : Nat → Int32} {t_paces : Nat → Int32} {q0 : Int32} (C : cx p s m [.ref A_t] meth c cX2_sumOfCounts 3 (some .int) RX2 wsX2_sumOfCounts) (hK : KK D ty s) (hP : va_P D vwCl [(A_t, .inr (1, [.int t_there, .int t_awake, .int t_start, .int t_sharp, .ref A_t_counts, .ref A_t_paces])), (A_t_counts, .inl (ty.1, 8, .inl t_counts)), (A_t_paces, .inl (ty.1, 8, .inl t_paces))] s.heap)   : ∀ (n : Nat) (v1 : Int32) (v2 : Int32) (ls : Array Slot), lv_has ls 3 [(0, .ref A_t), (1, .int v1), (2, .int v2)] → loopF (fun k q => bX2_sumOfCounts_4 k t_there t_counts q.1 q.2) n (v1, v2) = some q0 → WRi p l e rmX2_sumOfCounts s m [.ref A_t] below meth c q0 (F0 m 4 ls []) := by
  obtain ⟨hx, hb, hr, hml, hown, hts, hlocks⟩ := id C
  intro n
  induction n with
  | zero =>
    intro v1 v2 ls hl hf
    cases hf
  | succ n ih =>
    intro v1 v2 ls hl hf
    have hf : bX2_sumOfCounts_4 (loopF (fun k q => bX2_sumOfCounts_4 k t_there t_counts q.1 q.2) n) t_there t_counts v1 v2 = some q0 := hf
    have hk4 := ih
    unfold bX2_sumOfCounts_4 at hf
    refine lv_iload_n hx hb dX2_sumOfCounts_4 rfl (lv_at hl 2 rfl) ?_
    refine lv_bipush (v := 8) hx hb dX2_sumOfCounts_5 (by decide) ?_
    refine lv_icmp_ge (tgt := 33) hx hb dX2_sumOfCounts_7 (by decide) (fun hc => ?_) (fun hc => ?_)
    · have hf := ft hf hc
      refine lv_iload_n hx hb dX2_sumOfCounts_33 rfl (lv_at hl 1 rfl) ?_
      exact ret_ri hx hb hr hlocks hf dX2_sumOfCounts_34
    · have hf := ff hf hc
      refine lv_aload_n hx hb dX2_sumOfCounts_10 rfl (lv_at hl 0 rfl) ?_
      refine lv_iload_n hx hb dX2_sumOfCounts_11 rfl (lv_at hl 2 rfl) ?_
      obtain ⟨r12, hr12, hf⟩ := bnd hf
      refine callV_ri (As := [.int v2]) (rest := []) ⟨hx, hb, hml, hown, hts⟩ (CX2_isThere l hr12) (cwV 1 hts gX2_sumOfCounts_X2_isThere rfl rfl rfl kkX2_isThere ⟨Nat.le_of_ble_eq_true rfl, Nat.le_of_ble_eq_true rfl⟩) hK hP 0 rfl rfl rfl hl.1 rfl (Nat.le_of_ble_eq_true rfl) dX2_sumOfCounts_12 ⟨Nat.zero_le _, Nat.zero_le _⟩ ?_
      refine lv_if_eq (tgt := 27) hx hb dX2_sumOfCounts_15 (by decide) (fun hc => ?_) (fun hc => ?_)
      · have hf := ft hf hc
        refine lv_iinc (v := v2 + 1) (lv' := [(2, .int (v2 + 1)), (0, .ref A_t), (1, .int v1)]) hx hb dX2_sumOfCounts_27 hl (k := 2) rfl rfl (by decide) rfl (fun ls hl => ?_)
        refine lv_goto (tgt := 4) hx hb dX2_sumOfCounts_30 (by decide) ?_
        exact hk4 _ _ _ (lv_sub hl [1, 2, 0] rfl) hf
      · have hf := ff hf hc
        refine lv_iload_n hx hb dX2_sumOfCounts_18 rfl (lv_at hl 1 rfl) ?_
        refine lv_aload_n hx hb dX2_sumOfCounts_19 rfl (lv_at hl 0 rfl) ?_
        refine va_get (D := D) (ci := 1) (v := .ref A_t_counts) (C := RX2) (T := TX2) (N := 6) hx hb hts wX2_sumOfCounts_X2 hown hK.1 hP 0 rfl rfl 4 (by decide) (hts _ mX2_sumOfCounts_f19) (fun _ h9 => h9) rfl dX2_sumOfCounts_20 ?_
        refine lv_iload_n hx hb dX2_sumOfCounts_23 rfl (lv_at hl 2 rfl) ?_
        obtain ⟨hin, hf⟩ := gIn_some hf
        refine va_iald hx hb hK.1 hP 1 0 rfl rfl hin dX2_sumOfCounts_24 ?_
        refine lv_iadd hx hb dX2_sumOfCounts_25 ?_
        refine lv_istore_n (lv' := [(1, .int (v1 + (t_counts (v2 : Int32).toNatClampNeg))), (0, .ref A_t), (2, .int v2)]) hx hb dX2_sumOfCounts_26 rfl hl (by decide) rfl (fun ls hl => ?_)
        refine lv_iinc (v := v2 + 1) (lv' := [(2, .int (v2 + 1)), (1, .int (v1 + (t_counts (v2 : Int32).toNatClampNeg))), (0, .ref A_t)]) hx hb dX2_sumOfCounts_27 hl (k := 2) rfl rfl (by decide) rfl (fun ls hl => ?_)
        refine lv_goto (tgt := 4) hx hb dX2_sumOfCounts_30 (by decide) ?_
        exact hk4 _ _ _ (lv_sub hl [2, 1, 0] rfl) hf
def fX2_sumOfCounts (t_there : Int32) (t_counts : Nat → Int32) : Option (Int32) :=
  loopF (fun k q => bX2_sumOfCounts_4 k t_there t_counts q.1 q.2) FU (0, 0)
set_option maxRecDepth 100000 in
set_option maxHeartbeats 4000000 in
theorem CX2_sumOfCounts (l : Launch) {D : va_G} {ty : TY} {A_t A_t_counts A_t_paces : Nat} {t_there : Int32} {t_awake : Int32} {t_start : Int32} {t_sharp : Int32} {t_counts : Nat → Int32} {t_paces : Nat → Int32} {q0 : Int32} (hf : fX2_sumOfCounts t_there t_counts = some q0) : ROi l yX2_sumOfCounts wsX2_sumOfCounts rmX2_sumOfCounts D ty [.ref A_t] [(A_t, .inr (1, [.int t_there, .int t_awake, .int t_start, .int t_sharp, .ref A_t_counts, .ref A_t_paces])), (A_t_counts, .inl (ty.1, 8, .inl t_counts)), (A_t_paces, .inl (ty.1, 8, .inl t_paces))] q0 := by
  refine ROi.start (cc := cX2_sumOfCounts) (maxL := 3) (ret := (some .int)) (own := RX2) (by decide) rfl rfl (Nat.le_of_ble_eq_true rfl) ?_
  intro p e s m below meth c ls C hK hP hl
  obtain ⟨hx, hb, hr, hml, hown, hts, hlocks⟩ := id C
  have hl : lv_has ls 3 [(0, .ref A_t)] := hl
  unfold fX2_sumOfCounts at hf
  refine lv_iconst (v := 0) hx hb dX2_sumOfCounts_0 (by decide) ?_
  refine lv_istore_n (lv' := [(1, .int 0), (0, .ref A_t)]) hx hb dX2_sumOfCounts_1 rfl hl (by decide) rfl (fun ls hl => ?_)
  refine lv_iconst (v := 0) hx hb dX2_sumOfCounts_2 (by decide) ?_
  refine lv_istore_n (lv' := [(2, .int 0), (1, .int 0), (0, .ref A_t)]) hx hb dX2_sumOfCounts_3 rfl hl (by decide) rfl (fun ls hl => ?_)
  exact BX2_sumOfCounts_4 C hK hP  FU _ _ _ (lv_sub hl [2, 1, 0] rfl) hf
/-! ===== SilenceCount$House.tell(II)I ===== -/
abbrev rmX2_tell : Room := { frames := 1, cells := 0, slots := 0, locals := 21 }
theorem kkX2_tell : yX2_tell.cls = RX2 ∧ yX2_tell.cls ≠ "java/lang/invoke/MethodHandle" ∧ yX2_tell.cls ≠ "java/lang/invoke/VarHandle" ∧ (parseMethodDescriptor yX2_tell.desc).map (fun d => d.parameters.length) = some 2 := by decide +kernel
theorem mX2_tell_f19 : Cond.fieldLink RX2 19 "SilenceCount$House" "counts" "[I" ∈ wsX2_tell := by decide +kernel
theorem wX2_tell_X2 : ∀ w ∈ u_ws RX2 TX2 6, w ∈ wsX2_tell := by decide +kernel
def fX2_tell (t_awake : Int32) (t_counts : Nat → Int32) (a1 : Int32) (a2 : Int32) : Option (Int32) :=
  if a2 = 0 then gIn a1 8 (some (t_counts (a1 : Int32).toNatClampNeg)) else (fX2_isAwake t_awake a1).bind fun r13 => if r13 = 0 then some 0 else some 1
set_option maxRecDepth 100000 in
set_option maxHeartbeats 4000000 in
theorem CX2_tell (l : Launch) {D : va_G} {ty : TY} {A_t A_t_counts A_t_paces : Nat} {t_there : Int32} {t_awake : Int32} {t_start : Int32} {t_sharp : Int32} {t_counts : Nat → Int32} {t_paces : Nat → Int32} {a1 : Int32} {a2 : Int32} {q0 : Int32} (hf : fX2_tell t_awake t_counts a1 a2 = some q0) : ROi l yX2_tell wsX2_tell rmX2_tell D ty [.ref A_t, .int a1, .int a2] [(A_t, .inr (1, [.int t_there, .int t_awake, .int t_start, .int t_sharp, .ref A_t_counts, .ref A_t_paces])), (A_t_counts, .inl (ty.1, 8, .inl t_counts)), (A_t_paces, .inl (ty.1, 8, .inl t_paces))] q0 := by
  refine ROi.start (cc := cX2_tell) (maxL := 3) (ret := (some .int)) (own := RX2) (by decide) rfl rfl (Nat.le_of_ble_eq_true rfl) ?_
  intro p e s m below meth c ls C hK hP hl
  obtain ⟨hx, hb, hr, hml, hown, hts, hlocks⟩ := id C
  have hl : lv_has ls 3 [(0, .ref A_t), (1, .int a1), (2, .int a2)] := hl
  unfold fX2_tell at hf
  refine lv_iload_n hx hb dX2_tell_0 rfl (lv_at hl 2 rfl) ?_
  refine lv_if_ne (tgt := 11) hx hb dX2_tell_1 (by decide) (fun hc => ?_) (fun hc => ?_)
  · have hf := ff hf hc
    refine lv_aload_n hx hb dX2_tell_11 rfl (lv_at hl 0 rfl) ?_
    refine lv_iload_n hx hb dX2_tell_12 rfl (lv_at hl 1 rfl) ?_
    obtain ⟨r13, hr13, hf⟩ := bnd hf
    refine callV_ri (As := [.int a1]) (rest := []) ⟨hx, hb, hml, hown, hts⟩ (CX2_isAwake l hr13) (cwV 1 hts gX2_tell_X2_isAwake rfl rfl rfl kkX2_isAwake ⟨Nat.le_of_ble_eq_true rfl, Nat.le_of_ble_eq_true rfl⟩) hK hP 0 rfl rfl rfl hl.1 rfl (Nat.le_of_ble_eq_true rfl) dX2_tell_13 ⟨Nat.zero_le _, Nat.zero_le _⟩ ?_
    refine lv_if_eq (tgt := 23) hx hb dX2_tell_16 (by decide) (fun hc => ?_) (fun hc => ?_)
    · have hf := ft hf hc
      refine lv_iconst (v := 0) hx hb dX2_tell_23 (by decide) ?_
      exact ret_ri hx hb hr hlocks hf dX2_tell_24
    · have hf := ff hf hc
      refine lv_iconst (v := 1) hx hb dX2_tell_19 (by decide) ?_
      refine lv_goto (tgt := 24) hx hb dX2_tell_20 (by decide) ?_
      exact ret_ri hx hb hr hlocks hf dX2_tell_24
  · have hf := ft hf hc
    refine lv_aload_n hx hb dX2_tell_4 rfl (lv_at hl 0 rfl) ?_
    refine va_get (D := D) (ci := 1) (v := .ref A_t_counts) (C := RX2) (T := TX2) (N := 6) hx hb hts wX2_tell_X2 hown hK.1 hP 0 rfl rfl 4 (by decide) (hts _ mX2_tell_f19) (fun _ h9 => h9) rfl dX2_tell_5 ?_
    refine lv_iload_n hx hb dX2_tell_8 rfl (lv_at hl 1 rfl) ?_
    obtain ⟨hin, hf⟩ := gIn_some hf
    refine va_iald hx hb hK.1 hP 1 0 rfl rfl hin dX2_tell_9 ?_
    exact ret_ri hx hb hr hlocks hf dX2_tell_10
