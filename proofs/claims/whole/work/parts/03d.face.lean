/-! ===== SilenceCount.ahead()I ===== -/
abbrev rmX9_ahead : Room := { frames := 2, cells := 0, slots := 0, locals := 43 }
theorem kkX9_ahead : yX9_ahead.cls = RX9 ∧ yX9_ahead.cls ≠ "java/lang/invoke/MethodHandle" ∧ yX9_ahead.cls ≠ "java/lang/invoke/VarHandle" ∧ (parseMethodDescriptor yX9_ahead.desc).map (fun d => d.parameters.length) = some 0 := by decide +kernel
theorem mX9_ahead_f10 : Cond.fieldLink RX9 10 "SilenceCount" "house" "LSilenceCount$House;" ∈ wsX9_ahead := by decide +kernel
theorem wX9_ahead_X9 : ∀ w ∈ u_ws RX9 TX9 8, w ∈ wsX9_ahead := by decide +kernel
def fX9_ahead (t_house_awake : Int32) (t_house_counts : Nat → Int32) : Option (Int32) :=
  (fX2_foremost t_house_awake t_house_counts).bind fun r4 => if r4 = (-1) then some (-6) else some r4
set_option maxRecDepth 100000 in
set_option maxHeartbeats 4000000 in
theorem CX9_ahead (l : Launch) {D : va_G} {ty : TY} {A_t A_t_pad A_t_hours A_t_laws A_t_sights A_t_worlds A_t_trialYear A_t_images A_t_house A_t_house_counts A_t_house_paces : Nat} {t_house_there : Int32} {t_house_awake : Int32} {t_house_start : Int32} {t_house_sharp : Int32} {t_house_counts : Nat → Int32} {t_house_paces : Nat → Int32} {q0 : Int32} (hf : fX9_ahead t_house_awake t_house_counts = some q0) : ROi l yX9_ahead wsX9_ahead rmX9_ahead D ty [.ref A_t] [(A_t, .inr (8, [.ref A_t_house, .ref A_t_pad, .ref A_t_hours, .ref A_t_laws, .ref A_t_sights, .ref A_t_worlds, .ref A_t_trialYear, .ref A_t_images])), (A_t_house, .inr (1, [.int t_house_there, .int t_house_awake, .int t_house_start, .int t_house_sharp, .ref A_t_house_counts, .ref A_t_house_paces])), (A_t_house_counts, .inl (ty.1, 8, .inl t_house_counts)), (A_t_house_paces, .inl (ty.1, 8, .inl t_house_paces))] q0 := by
  refine ROi.start (cc := cX9_ahead) (maxL := 2) (ret := (some .int)) (own := RX9) (by decide) rfl rfl (Nat.le_of_ble_eq_true rfl) ?_
  intro p e s m below meth c ls C hK hP hl
  obtain ⟨hx, hb, hr, hml, hown, hts, hlocks⟩ := id C
  have hl : lv_has ls 2 [(0, .ref A_t)] := hl
  unfold fX9_ahead at hf
  refine lv_aload_n hx hb dX9_ahead_0 rfl (lv_at hl 0 rfl) ?_
  refine va_get (D := D) (ci := 8) (v := .ref A_t_house) (C := RX9) (T := TX9) (N := 8) hx hb hts wX9_ahead_X9 hown hK.1 hP 0 rfl rfl 0 (by decide) (hts _ mX9_ahead_f10) (fun _ h9 => h9) rfl dX9_ahead_1 ?_
  obtain ⟨r4, hr4, hf⟩ := bnd hf
  have hPc : va_P D vwCl [(A_t_house, .inr (1, [.int t_house_there, .int t_house_awake, .int t_house_start, .int t_house_sharp, .ref A_t_house_counts, .ref A_t_house_paces])), (A_t_house_counts, .inl (ty.1, 8, .inl t_house_counts)), (A_t_house_paces, .inl (ty.1, 8, .inl t_house_paces))] _ := hP.sub [1, 2, 3] rfl
  refine callV_ri (As := []) (rest := []) ⟨hx, hb, hml, hown, hts⟩ (CX2_foremost l hr4) (cwV 0 hts gX9_ahead_X2_foremost rfl rfl rfl kkX2_foremost ⟨Nat.le_of_ble_eq_true rfl, Nat.le_of_ble_eq_true rfl⟩) hK hPc 0 rfl rfl rfl hl.1 rfl (Nat.le_of_ble_eq_true rfl) dX9_ahead_4 ⟨Nat.zero_le _, Nat.zero_le _⟩ ?_
  refine lv_istore_n (lv' := [(1, .int r4), (0, .ref A_t)]) hx hb dX9_ahead_7 rfl hl (by decide) rfl (fun ls hl => ?_)
  refine lv_iload_n hx hb dX9_ahead_8 rfl (lv_at hl 0 rfl) ?_
  refine lv_iconst (v := (-1)) hx hb dX9_ahead_9 (by decide) ?_
  refine lv_icmp_ne (tgt := 18) hx hb dX9_ahead_10 (by decide) (fun hc => ?_) (fun hc => ?_)
  · have hf := ff hf hc
    refine lv_iload_n hx hb dX9_ahead_18 rfl (lv_at hl 0 rfl) ?_
    exact ret_ri hx hb hr hlocks hf dX9_ahead_19
  · have hf := ft hf hc
    refine lv_bipush (v := (-6)) hx hb dX9_ahead_13 (by decide) ?_
    refine lv_goto (tgt := 19) hx hb dX9_ahead_15 (by decide) ?_
    exact ret_ri hx hb hr hlocks hf dX9_ahead_19
/-! ===== SilenceCount.alike(I)I ===== -/
abbrev rmX9_alike : Room := { frames := 2, cells := 0, slots := 0, locals := 43 }
theorem kkX9_alike : yX9_alike.cls = RX9 ∧ yX9_alike.cls ≠ "java/lang/invoke/MethodHandle" ∧ yX9_alike.cls ≠ "java/lang/invoke/VarHandle" ∧ (parseMethodDescriptor yX9_alike.desc).map (fun d => d.parameters.length) = some 1 := by decide +kernel
theorem mX9_alike_f10 : Cond.fieldLink RX9 10 "SilenceCount" "house" "LSilenceCount$House;" ∈ wsX9_alike := by decide +kernel
theorem wX9_alike_X9 : ∀ w ∈ u_ws RX9 TX9 8, w ∈ wsX9_alike := by decide +kernel
def bX9_alike_15 (k4 : Int32 × Int32 → Option (Int32)) (k15 : Int32 × Int32 × Int32 → Option (Int32)) (t_house_awake : Int32) (t_house_counts : Nat → Int32) (a1 : Int32) (v2 : Int32) (v3 : Int32) (v4 : Int32) : Option (Int32) :=
  if 8 ≤ v4 then k4 (v2, v3 + 1) else (fX2_areAwakeAtOneNumber t_house_awake t_house_counts v3 v4).bind fun r29 => if r29 = 0 then k15 (v2, v3, v4 + 1) else if v2 = a1 then some ((10 * v3) + v4) else k15 (v2 + 1, v3, v4 + 1)
set_option maxRecDepth 100000 in
set_option maxHeartbeats 4000000 in
theorem BX9_alike_15 {p : Program} {l : Launch} {e : Env} {s : State} {m : MethodId} {below : List Frame} {meth : Method} {c : Code} {D : va_G} {ty : TY} {A_t A_t_pad A_t_hours A_t_laws A_t_sights A_t_worlds A_t_trialYear A_t_images A_t_house A_t_house_counts A_t_house_paces : Nat} {t_house_there : Int32} {t_house_awake : Int32} {t_house_start : Int32} {t_house_sharp : Int32} {t_house_counts : Nat → Int32} {t_house_paces : Nat → Int32} {a1 : Int32} {q0 : Int32} (C : cx p s m [.ref A_t, .int a1] meth c cX9_alike 5 (some .int) RX9 wsX9_alike) (hK : KK D ty s) (hP : va_P D vwCl [(A_t, .inr (8, [.ref A_t_house, .ref A_t_pad, .ref A_t_hours, .ref A_t_laws, .ref A_t_sights, .ref A_t_worlds, .ref A_t_trialYear, .ref A_t_images])), (A_t_house, .inr (1, [.int t_house_there, .int t_house_awake, .int t_house_start, .int t_house_sharp, .ref A_t_house_counts, .ref A_t_house_paces])), (A_t_house_counts, .inl (ty.1, 8, .inl t_house_counts)), (A_t_house_paces, .inl (ty.1, 8, .inl t_house_paces))] s.heap) {k4 : Int32 × Int32 → Option (Int32)} (hk4 : ∀ (v2 : Int32) (v3 : Int32) (ls : Array Slot), lv_has ls 5 [(0, .ref A_t), (1, .int a1), (2, .int v2), (3, .int v3)] → k4 (v2, v3) = some q0 → WRi p l e rmX9_alike s m [.ref A_t, .int a1] below meth c q0 (F0 m 4 ls [])) : ∀ (n : Nat) (v2 : Int32) (v3 : Int32) (v4 : Int32) (ls : Array Slot), lv_has ls 5 [(0, .ref A_t), (1, .int a1), (2, .int v2), (3, .int v3), (4, .int v4)] → loopF (fun k q => bX9_alike_15 k4 k t_house_awake t_house_counts a1 q.1 q.2.1 q.2.2) n (v2, v3, v4) = some q0 → WRi p l e rmX9_alike s m [.ref A_t, .int a1] below meth c q0 (F0 m 15 ls []) := by
  obtain ⟨hx, hb, hr, hml, hown, hts, hlocks⟩ := id C
  intro n
  induction n with
  | zero =>
    intro v2 v3 v4 ls hl hf
    cases hf
  | succ n ih =>
    intro v2 v3 v4 ls hl hf
    have hf : bX9_alike_15 k4 (loopF (fun k q => bX9_alike_15 k4 k t_house_awake t_house_counts a1 q.1 q.2.1 q.2.2) n) t_house_awake t_house_counts a1 v2 v3 v4 = some q0 := hf
    have hk15 := ih
    unfold bX9_alike_15 at hf
    refine lv_iload hx hb dX9_alike_15 (lv_at hl 4 rfl) ?_
    refine lv_bipush (v := 8) hx hb dX9_alike_17 (by decide) ?_
    refine lv_icmp_ge (tgt := 60) hx hb dX9_alike_19 (by decide) (fun hc => ?_) (fun hc => ?_)
    · have hf := ft hf hc
      refine lv_iinc (v := v3 + 1) (lv' := [(3, .int (v3 + 1)), (0, .ref A_t), (1, .int a1), (2, .int v2), (4, .int v4)]) hx hb dX9_alike_60 hl (k := 3) rfl rfl (by decide) rfl (fun ls hl => ?_)
      refine lv_goto (tgt := 4) hx hb dX9_alike_63 (by decide) ?_
      exact hk4 _ _ _ (lv_sub hl [1, 2, 3, 0] rfl) hf
    · have hf := ff hf hc
      refine lv_aload_n hx hb dX9_alike_22 rfl (lv_at hl 0 rfl) ?_
      refine va_get (D := D) (ci := 8) (v := .ref A_t_house) (C := RX9) (T := TX9) (N := 8) hx hb hts wX9_alike_X9 hown hK.1 hP 0 rfl rfl 0 (by decide) (hts _ mX9_alike_f10) (fun _ h9 => h9) rfl dX9_alike_23 ?_
      refine lv_iload_n hx hb dX9_alike_26 rfl (lv_at hl 3 rfl) ?_
      refine lv_iload hx hb dX9_alike_27 (lv_at hl 4 rfl) ?_
      obtain ⟨r29, hr29, hf⟩ := bnd hf
      have hPc : va_P D vwCl [(A_t_house, .inr (1, [.int t_house_there, .int t_house_awake, .int t_house_start, .int t_house_sharp, .ref A_t_house_counts, .ref A_t_house_paces])), (A_t_house_counts, .inl (ty.1, 8, .inl t_house_counts)), (A_t_house_paces, .inl (ty.1, 8, .inl t_house_paces))] _ := hP.sub [1, 2, 3] rfl
      refine callV_ri (As := [.int v3, .int v4]) (rest := []) ⟨hx, hb, hml, hown, hts⟩ (CX2_areAwakeAtOneNumber l hr29) (cwV 2 hts gX9_alike_X2_areAwakeAtOneNumber rfl rfl rfl kkX2_areAwakeAtOneNumber ⟨Nat.le_of_ble_eq_true rfl, Nat.le_of_ble_eq_true rfl⟩) hK hPc 0 rfl rfl rfl hl.1 rfl (Nat.le_of_ble_eq_true rfl) dX9_alike_29 ⟨Nat.zero_le _, Nat.zero_le _⟩ ?_
      refine lv_if_ne (tgt := 38) hx hb dX9_alike_32 (by decide) (fun hc => ?_) (fun hc => ?_)
      · have hf := ff hf hc
        refine lv_iload_n hx hb dX9_alike_38 rfl (lv_at hl 2 rfl) ?_
        refine lv_iload_n hx hb dX9_alike_39 rfl (lv_at hl 1 rfl) ?_
        refine lv_icmp_ne (tgt := 51) hx hb dX9_alike_40 (by decide) (fun hc => ?_) (fun hc => ?_)
        · have hf := ff hf hc
          refine lv_iinc (v := v2 + 1) (lv' := [(2, .int (v2 + 1)), (0, .ref A_t), (1, .int a1), (3, .int v3), (4, .int v4)]) hx hb dX9_alike_51 hl (k := 2) rfl rfl (by decide) rfl (fun ls hl => ?_)
          refine lv_iinc (v := v4 + 1) (lv' := [(4, .int (v4 + 1)), (2, .int (v2 + 1)), (0, .ref A_t), (1, .int a1), (3, .int v3)]) hx hb dX9_alike_54 hl (k := 4) rfl rfl (by decide) rfl (fun ls hl => ?_)
          refine lv_goto (tgt := 15) hx hb dX9_alike_57 (by decide) ?_
          exact hk15 _ _ _ _ (lv_sub hl [2, 3, 1, 4, 0] rfl) hf
        · have hf := ft hf hc
          refine lv_bipush (v := 10) hx hb dX9_alike_43 (by decide) ?_
          refine lv_iload_n hx hb dX9_alike_45 rfl (lv_at hl 3 rfl) ?_
          refine lv_imul hx hb dX9_alike_46 ?_
          refine lv_iload hx hb dX9_alike_47 (lv_at hl 4 rfl) ?_
          refine lv_iadd hx hb dX9_alike_49 ?_
          exact ret_ri hx hb hr hlocks hf dX9_alike_50
      · have hf := ft hf hc
        refine lv_goto (tgt := 54) hx hb dX9_alike_35 (by decide) ?_
        refine lv_iinc (v := v4 + 1) (lv' := [(4, .int (v4 + 1)), (0, .ref A_t), (1, .int a1), (2, .int v2), (3, .int v3)]) hx hb dX9_alike_54 hl (k := 4) rfl rfl (by decide) rfl (fun ls hl => ?_)
        refine lv_goto (tgt := 15) hx hb dX9_alike_57 (by decide) ?_
        exact hk15 _ _ _ _ (lv_sub hl [1, 2, 3, 4, 0] rfl) hf
def bX9_alike_4 (k4 : Int32 × Int32 → Option (Int32)) (t_house_awake : Int32) (t_house_counts : Nat → Int32) (a1 : Int32) (v2 : Int32) (v3 : Int32) : Option (Int32) :=
  if 8 ≤ v3 then if a1 = (-1) then some v2 else some (-6) else loopF (fun k q => bX9_alike_15 k4 k t_house_awake t_house_counts a1 q.1 q.2.1 q.2.2) FU (v2, v3, v3 + 1)
set_option maxRecDepth 100000 in
set_option maxHeartbeats 4000000 in
theorem BX9_alike_4 {p : Program} {l : Launch} {e : Env} {s : State} {m : MethodId} {below : List Frame} {meth : Method} {c : Code} {D : va_G} {ty : TY} {A_t A_t_pad A_t_hours A_t_laws A_t_sights A_t_worlds A_t_trialYear A_t_images A_t_house A_t_house_counts A_t_house_paces : Nat} {t_house_there : Int32} {t_house_awake : Int32} {t_house_start : Int32} {t_house_sharp : Int32} {t_house_counts : Nat → Int32} {t_house_paces : Nat → Int32} {a1 : Int32} {q0 : Int32} (C : cx p s m [.ref A_t, .int a1] meth c cX9_alike 5 (some .int) RX9 wsX9_alike) (hK : KK D ty s) (hP : va_P D vwCl [(A_t, .inr (8, [.ref A_t_house, .ref A_t_pad, .ref A_t_hours, .ref A_t_laws, .ref A_t_sights, .ref A_t_worlds, .ref A_t_trialYear, .ref A_t_images])), (A_t_house, .inr (1, [.int t_house_there, .int t_house_awake, .int t_house_start, .int t_house_sharp, .ref A_t_house_counts, .ref A_t_house_paces])), (A_t_house_counts, .inl (ty.1, 8, .inl t_house_counts)), (A_t_house_paces, .inl (ty.1, 8, .inl t_house_paces))] s.heap)   : ∀ (n : Nat) (v2 : Int32) (v3 : Int32) (ls : Array Slot), lv_has ls 5 [(0, .ref A_t), (1, .int a1), (2, .int v2), (3, .int v3)] → loopF (fun k q => bX9_alike_4 k t_house_awake t_house_counts a1 q.1 q.2) n (v2, v3) = some q0 → WRi p l e rmX9_alike s m [.ref A_t, .int a1] below meth c q0 (F0 m 4 ls []) := by
  obtain ⟨hx, hb, hr, hml, hown, hts, hlocks⟩ := id C
  intro n
  induction n with
  | zero =>
    intro v2 v3 ls hl hf
    cases hf
  | succ n ih =>
    intro v2 v3 ls hl hf
    have hf : bX9_alike_4 (loopF (fun k q => bX9_alike_4 k t_house_awake t_house_counts a1 q.1 q.2) n) t_house_awake t_house_counts a1 v2 v3 = some q0 := hf
    have hk4 := ih
    unfold bX9_alike_4 at hf
    refine lv_iload_n hx hb dX9_alike_4 rfl (lv_at hl 3 rfl) ?_
    refine lv_bipush (v := 8) hx hb dX9_alike_5 (by decide) ?_
    refine lv_icmp_ge (tgt := 66) hx hb dX9_alike_7 (by decide) (fun hc => ?_) (fun hc => ?_)
    · have hf := ft hf hc
      refine lv_iload_n hx hb dX9_alike_66 rfl (lv_at hl 1 rfl) ?_
      refine lv_iconst (v := (-1)) hx hb dX9_alike_67 (by decide) ?_
      refine lv_icmp_ne (tgt := 75) hx hb dX9_alike_68 (by decide) (fun hc => ?_) (fun hc => ?_)
      · have hf := ff hf hc
        refine lv_bipush (v := (-6)) hx hb dX9_alike_75 (by decide) ?_
        exact ret_ri hx hb hr hlocks hf dX9_alike_77
      · have hf := ft hf hc
        refine lv_iload_n hx hb dX9_alike_71 rfl (lv_at hl 2 rfl) ?_
        refine lv_goto (tgt := 77) hx hb dX9_alike_72 (by decide) ?_
        exact ret_ri hx hb hr hlocks hf dX9_alike_77
    · have hf := ff hf hc
      refine lv_iload_n hx hb dX9_alike_10 rfl (lv_at hl 3 rfl) ?_
      refine lv_iconst (v := 1) hx hb dX9_alike_11 (by decide) ?_
      refine lv_iadd hx hb dX9_alike_12 ?_
      refine lv_istore (lv' := [(4, .int (v3 + 1)), (0, .ref A_t), (1, .int a1), (2, .int v2), (3, .int v3)]) hx hb dX9_alike_13 hl (by decide) rfl (fun ls hl => ?_)
      exact BX9_alike_15 C hK hP hk4 FU _ _ _ _ (lv_sub hl [1, 2, 3, 4, 0] rfl) hf
def fX9_alike (t_house_awake : Int32) (t_house_counts : Nat → Int32) (a1 : Int32) : Option (Int32) :=
  loopF (fun k q => bX9_alike_4 k t_house_awake t_house_counts a1 q.1 q.2) FU (0, 0)
set_option maxRecDepth 100000 in
set_option maxHeartbeats 4000000 in
theorem CX9_alike (l : Launch) {D : va_G} {ty : TY} {A_t A_t_pad A_t_hours A_t_laws A_t_sights A_t_worlds A_t_trialYear A_t_images A_t_house A_t_house_counts A_t_house_paces : Nat} {t_house_there : Int32} {t_house_awake : Int32} {t_house_start : Int32} {t_house_sharp : Int32} {t_house_counts : Nat → Int32} {t_house_paces : Nat → Int32} {a1 : Int32} {q0 : Int32} (hf : fX9_alike t_house_awake t_house_counts a1 = some q0) : ROi l yX9_alike wsX9_alike rmX9_alike D ty [.ref A_t, .int a1] [(A_t, .inr (8, [.ref A_t_house, .ref A_t_pad, .ref A_t_hours, .ref A_t_laws, .ref A_t_sights, .ref A_t_worlds, .ref A_t_trialYear, .ref A_t_images])), (A_t_house, .inr (1, [.int t_house_there, .int t_house_awake, .int t_house_start, .int t_house_sharp, .ref A_t_house_counts, .ref A_t_house_paces])), (A_t_house_counts, .inl (ty.1, 8, .inl t_house_counts)), (A_t_house_paces, .inl (ty.1, 8, .inl t_house_paces))] q0 := by
  refine ROi.start (cc := cX9_alike) (maxL := 5) (ret := (some .int)) (own := RX9) (by decide) rfl rfl (Nat.le_of_ble_eq_true rfl) ?_
  intro p e s m below meth c ls C hK hP hl
  obtain ⟨hx, hb, hr, hml, hown, hts, hlocks⟩ := id C
  have hl : lv_has ls 5 [(0, .ref A_t), (1, .int a1)] := hl
  unfold fX9_alike at hf
  refine lv_iconst (v := 0) hx hb dX9_alike_0 (by decide) ?_
  refine lv_istore_n (lv' := [(2, .int 0), (0, .ref A_t), (1, .int a1)]) hx hb dX9_alike_1 rfl hl (by decide) rfl (fun ls hl => ?_)
  refine lv_iconst (v := 0) hx hb dX9_alike_2 (by decide) ?_
  refine lv_istore_n (lv' := [(3, .int 0), (2, .int 0), (0, .ref A_t), (1, .int a1)]) hx hb dX9_alike_3 rfl hl (by decide) rfl (fun ls hl => ?_)
  exact BX9_alike_4 C hK hP  FU _ _ _ (lv_sub hl [2, 3, 1, 0] rfl) hf
/-! ===== SilenceCount.ask(III)I ===== -/
abbrev rmX9_ask : Room := { frames := 6, cells := 0, slots := 0, locals := 145 }
theorem kkX9_ask : yX9_ask.cls = RX9 ∧ yX9_ask.cls ≠ "java/lang/invoke/MethodHandle" ∧ yX9_ask.cls ≠ "java/lang/invoke/VarHandle" ∧ (parseMethodDescriptor yX9_ask.desc).map (fun d => d.parameters.length) = some 3 := by decide +kernel
theorem mX9_ask_f47 : Cond.fieldLink RX9 47 "SilenceCount" "worlds" "LSilenceCount$Worlds;" ∈ wsX9_ask := by decide +kernel
theorem mX9_ask_f10 : Cond.fieldLink RX9 10 "SilenceCount" "house" "LSilenceCount$House;" ∈ wsX9_ask := by decide +kernel
theorem mX9_ask_f40 : Cond.fieldLink RX9 40 "SilenceCount" "sights" "LSilenceCount$Sights;" ∈ wsX9_ask := by decide +kernel
theorem mX9_ask_f211 : Cond.fieldLink RX9 211 "SilenceCount$Worlds" "size" "I" ∈ wsX9_ask := by decide +kernel
theorem wX9_ask_X7 : ∀ w ∈ u_ws RX7 TX7 4, w ∈ wsX9_ask := by decide +kernel
theorem wX9_ask_X9 : ∀ w ∈ u_ws RX9 TX9 8, w ∈ wsX9_ask := by decide +kernel
def bX9_ask_122 (k69 : Int32 × Int32 × Int32 × Int32 × Int32 × Int32 × (Nat → Int32) → Option (Int32 × Int32 × Int32 × Int32 × (Nat → Int32))) (v6 : Int32) (v7 : Int32) (t_worlds_size : Int32) (t_worlds_skippers : Int32) (t_worlds_hasNobody : Int32) (t_worlds_fitting : Nat → Int32) : Option (Int32 × Int32 × Int32 × Int32 × (Nat → Int32)) :=
  k69 (v6, v7, v6 + 1, t_worlds_size, t_worlds_skippers, t_worlds_hasNobody, t_worlds_fitting)
set_option maxRecDepth 100000 in
set_option maxHeartbeats 4000000 in
theorem BX9_ask_122 {p : Program} {l : Launch} {e : Env} {s : State} {m : MethodId} {below : List Frame} {meth : Method} {c : Code} {D : va_G} {ty : TY} {A_t A_t_pad A_t_hours A_t_laws A_t_trialYear A_t_images A_t_house A_t_house_counts A_t_house_paces A_t_sights A_t_sights_monks A_t_sights_breaths A_t_sights_bowed A_t_worlds A_t_worlds_fitting : Nat} {t_house_there : Int32} {t_house_awake : Int32} {t_house_start : Int32} {t_house_sharp : Int32} {t_house_counts : Nat → Int32} {t_house_paces : Nat → Int32} {t_sights_size : Int32} {t_sights_monks : Nat → Int32} {t_sights_breaths : Nat → Int32} {t_sights_bowed : Nat → Int32} {a1 : Int32} {a2 : Int32} {a3 : Int32} {q0 : Int32 × Int32 × Int32 × Int32 × (Nat → Int32)} {WC : va_W} (C : cx p s m [.ref A_t, .int a1, .int a2, .int a3] meth c cX9_ask 8 (some .int) RX9 wsX9_ask) (hK : KK D ty s) {k69 : Int32 × Int32 × Int32 × Int32 × Int32 × Int32 × (Nat → Int32) → Option (Int32 × Int32 × Int32 × Int32 × (Nat → Int32))} (hk69 : ∀ (v4 : Int32) (v5 : Int32) (v6 : Int32) (t_worlds_size : Int32) (t_worlds_skippers : Int32) (t_worlds_hasNobody : Int32) (t_worlds_fitting : Nat → Int32) (H : Heap) (locs : List Loc) (ls : Array Slot), va_P D vwCl [(A_t, .inr (8, [.ref A_t_house, .ref A_t_pad, .ref A_t_hours, .ref A_t_laws, .ref A_t_sights, .ref A_t_worlds, .ref A_t_trialYear, .ref A_t_images])), (A_t_house, .inr (1, [.int t_house_there, .int t_house_awake, .int t_house_start, .int t_house_sharp, .ref A_t_house_counts, .ref A_t_house_paces])), (A_t_house_counts, .inl (ty.1, 8, .inl t_house_counts)), (A_t_house_paces, .inl (ty.1, 8, .inl t_house_paces)), (A_t_sights, .inr (5, [.int t_sights_size, .ref A_t_sights_monks, .ref A_t_sights_breaths, .ref A_t_sights_bowed])), (A_t_sights_monks, .inl (ty.1, 8, .inl t_sights_monks)), (A_t_sights_breaths, .inl (ty.1, 8, .inl t_sights_breaths)), (A_t_sights_bowed, .inl (ty.2.2.1, 8, .inl t_sights_bowed)), (A_t_worlds, .inr (6, [.int t_worlds_size, .int t_worlds_skippers, .int t_worlds_hasNobody, .ref A_t_worlds_fitting])), (A_t_worlds_fitting, .inl (ty.1, 8, .inl t_worlds_fitting))] H → va_D (va_A WC s.heap.size) [(A_t, .inr (8, [.ref A_t_house, .ref A_t_pad, .ref A_t_hours, .ref A_t_laws, .ref A_t_sights, .ref A_t_worlds, .ref A_t_trialYear, .ref A_t_images])), (A_t_house, .inr (1, [.int t_house_there, .int t_house_awake, .int t_house_start, .int t_house_sharp, .ref A_t_house_counts, .ref A_t_house_paces])), (A_t_house_counts, .inl (ty.1, 8, .inl t_house_counts)), (A_t_house_paces, .inl (ty.1, 8, .inl t_house_paces)), (A_t_sights, .inr (5, [.int t_sights_size, .ref A_t_sights_monks, .ref A_t_sights_breaths, .ref A_t_sights_bowed])), (A_t_sights_monks, .inl (ty.1, 8, .inl t_sights_monks)), (A_t_sights_breaths, .inl (ty.1, 8, .inl t_sights_breaths)), (A_t_sights_bowed, .inl (ty.2.2.1, 8, .inl t_sights_bowed)), (A_t_worlds, .inr (6, [.int t_worlds_size, .int t_worlds_skippers, .int t_worlds_hasNobody, .ref A_t_worlds_fitting])), (A_t_worlds_fitting, .inl (ty.1, 8, .inl t_worlds_fitting))] → va_S (va_A WC s.heap.size) s.heap H locs → lv_has ls 8 [(0, .ref A_t), (1, .int a1), (2, .int a2), (3, .int a3), (4, .int v4), (5, .int v5), (6, .int v6)] → k69 (v4, v5, v6, t_worlds_size, t_worlds_skippers, t_worlds_hasNobody, t_worlds_fitting) = some q0 → WWi p l e rmX9_ask s m [.ref A_t, .int a1, .int a2, .int a3] below meth c D WC [(A_t, .inr (8, [.ref A_t_house, .ref A_t_pad, .ref A_t_hours, .ref A_t_laws, .ref A_t_sights, .ref A_t_worlds, .ref A_t_trialYear, .ref A_t_images])), (A_t_house, .inr (1, [.int t_house_there, .int t_house_awake, .int t_house_start, .int t_house_sharp, .ref A_t_house_counts, .ref A_t_house_paces])), (A_t_house_counts, .inl (ty.1, 8, .inl t_house_counts)), (A_t_house_paces, .inl (ty.1, 8, .inl t_house_paces)), (A_t_sights, .inr (5, [.int t_sights_size, .ref A_t_sights_monks, .ref A_t_sights_breaths, .ref A_t_sights_bowed])), (A_t_sights_monks, .inl (ty.1, 8, .inl t_sights_monks)), (A_t_sights_breaths, .inl (ty.1, 8, .inl t_sights_breaths)), (A_t_sights_bowed, .inl (ty.2.2.1, 8, .inl t_sights_bowed)), (A_t_worlds, .inr (6, [.int q0.2.1, .int q0.2.2.1, .int q0.2.2.2.1, .ref A_t_worlds_fitting])), (A_t_worlds_fitting, .inl (ty.1, 8, .inl q0.2.2.2.2))] q0.1 H locs (F0 m 69 ls [])) {v6 : Int32} {v7 : Int32} {t_worlds_size : Int32} {t_worlds_skippers : Int32} {t_worlds_hasNobody : Int32} {t_worlds_fitting : Nat → Int32} {H : Heap} {locs : List Loc} {ls : Array Slot} (hP : va_P D vwCl [(A_t, .inr (8, [.ref A_t_house, .ref A_t_pad, .ref A_t_hours, .ref A_t_laws, .ref A_t_sights, .ref A_t_worlds, .ref A_t_trialYear, .ref A_t_images])), (A_t_house, .inr (1, [.int t_house_there, .int t_house_awake, .int t_house_start, .int t_house_sharp, .ref A_t_house_counts, .ref A_t_house_paces])), (A_t_house_counts, .inl (ty.1, 8, .inl t_house_counts)), (A_t_house_paces, .inl (ty.1, 8, .inl t_house_paces)), (A_t_sights, .inr (5, [.int t_sights_size, .ref A_t_sights_monks, .ref A_t_sights_breaths, .ref A_t_sights_bowed])), (A_t_sights_monks, .inl (ty.1, 8, .inl t_sights_monks)), (A_t_sights_breaths, .inl (ty.1, 8, .inl t_sights_breaths)), (A_t_sights_bowed, .inl (ty.2.2.1, 8, .inl t_sights_bowed)), (A_t_worlds, .inr (6, [.int t_worlds_size, .int t_worlds_skippers, .int t_worlds_hasNobody, .ref A_t_worlds_fitting])), (A_t_worlds_fitting, .inl (ty.1, 8, .inl t_worlds_fitting))] H) (hD : va_D (va_A WC s.heap.size) [(A_t, .inr (8, [.ref A_t_house, .ref A_t_pad, .ref A_t_hours, .ref A_t_laws, .ref A_t_sights, .ref A_t_worlds, .ref A_t_trialYear, .ref A_t_images])), (A_t_house, .inr (1, [.int t_house_there, .int t_house_awake, .int t_house_start, .int t_house_sharp, .ref A_t_house_counts, .ref A_t_house_paces])), (A_t_house_counts, .inl (ty.1, 8, .inl t_house_counts)), (A_t_house_paces, .inl (ty.1, 8, .inl t_house_paces)), (A_t_sights, .inr (5, [.int t_sights_size, .ref A_t_sights_monks, .ref A_t_sights_breaths, .ref A_t_sights_bowed])), (A_t_sights_monks, .inl (ty.1, 8, .inl t_sights_monks)), (A_t_sights_breaths, .inl (ty.1, 8, .inl t_sights_breaths)), (A_t_sights_bowed, .inl (ty.2.2.1, 8, .inl t_sights_bowed)), (A_t_worlds, .inr (6, [.int t_worlds_size, .int t_worlds_skippers, .int t_worlds_hasNobody, .ref A_t_worlds_fitting])), (A_t_worlds_fitting, .inl (ty.1, 8, .inl t_worlds_fitting))]) (hS : va_S (va_A WC s.heap.size) s.heap H locs) (hl : lv_has ls 8 [(0, .ref A_t), (1, .int a1), (2, .int a2), (3, .int a3), (6, .int v6), (7, .int v7)]) (hf : bX9_ask_122 k69 v6 v7 t_worlds_size t_worlds_skippers t_worlds_hasNobody t_worlds_fitting = some q0) : WWi p l e rmX9_ask s m [.ref A_t, .int a1, .int a2, .int a3] below meth c D WC [(A_t, .inr (8, [.ref A_t_house, .ref A_t_pad, .ref A_t_hours, .ref A_t_laws, .ref A_t_sights, .ref A_t_worlds, .ref A_t_trialYear, .ref A_t_images])), (A_t_house, .inr (1, [.int t_house_there, .int t_house_awake, .int t_house_start, .int t_house_sharp, .ref A_t_house_counts, .ref A_t_house_paces])), (A_t_house_counts, .inl (ty.1, 8, .inl t_house_counts)), (A_t_house_paces, .inl (ty.1, 8, .inl t_house_paces)), (A_t_sights, .inr (5, [.int t_sights_size, .ref A_t_sights_monks, .ref A_t_sights_breaths, .ref A_t_sights_bowed])), (A_t_sights_monks, .inl (ty.1, 8, .inl t_sights_monks)), (A_t_sights_breaths, .inl (ty.1, 8, .inl t_sights_breaths)), (A_t_sights_bowed, .inl (ty.2.2.1, 8, .inl t_sights_bowed)), (A_t_worlds, .inr (6, [.int q0.2.1, .int q0.2.2.1, .int q0.2.2.2.1, .ref A_t_worlds_fitting])), (A_t_worlds_fitting, .inl (ty.1, 8, .inl q0.2.2.2.2))] q0.1 H locs (F0 m 122 ls []) := by
  obtain ⟨hx, hb, hr, hml, hown, hts, hlocks⟩ := id C
  unfold bX9_ask_122 at hf
  refine lv_iload hx hb dX9_ask_122 (lv_at hl 4 rfl) ?_
  refine lv_istore (lv' := [(4, .int v6), (0, .ref A_t), (1, .int a1), (2, .int a2), (3, .int a3), (6, .int v6), (7, .int v7)]) hx hb dX9_ask_124 hl (by decide) rfl (fun ls hl => ?_)
  refine lv_iload hx hb dX9_ask_126 (lv_at hl 6 rfl) ?_
  refine lv_istore (lv' := [(5, .int v7), (4, .int v6), (0, .ref A_t), (1, .int a1), (2, .int a2), (3, .int a3), (6, .int v6), (7, .int v7)]) hx hb dX9_ask_128 hl (by decide) rfl (fun ls hl => ?_)
  refine lv_iinc (v := v6 + 1) (lv' := [(6, .int (v6 + 1)), (5, .int v7), (4, .int v6), (0, .ref A_t), (1, .int a1), (2, .int a2), (3, .int a3), (7, .int v7)]) hx hb dX9_ask_130 hl (k := 6) rfl rfl (by decide) rfl (fun ls hl => ?_)
  refine lv_goto (tgt := 69) hx hb dX9_ask_133 (by decide) ?_
  exact hk69 _ _ _ _ _ _ _ _ _ _ hP hD hS (lv_sub hl [3, 4, 5, 6, 2, 1, 0] rfl) hf
def bX9_ask_69 (k69 : Int32 × Int32 × Int32 × Int32 × Int32 × Int32 × (Nat → Int32) → Option (Int32 × Int32 × Int32 × Int32 × (Nat → Int32))) (t_house_awake : Int32) (t_house_counts : Nat → Int32) (t_house_paces : Nat → Int32) (a1 : Int32) (a2 : Int32) (a3 : Int32) (v4 : Int32) (v5 : Int32) (v6 : Int32) (t_worlds_size : Int32) (t_worlds_skippers : Int32) (t_worlds_hasNobody : Int32) (t_worlds_fitting : Nat → Int32) : Option (Int32 × Int32 × Int32 × Int32 × (Nat → Int32)) :=
  if 8 ≤ v6 then if a3 = 0 then some (v4, t_worlds_size, t_worlds_skippers, t_worlds_hasNobody, t_worlds_fitting) else some (v5, t_worlds_size, t_worlds_skippers, t_worlds_hasNobody, t_worlds_fitting) else (fX2_isAwake t_house_awake v6).bind fun r82 => if r82 = 0 then k69 (v4, v5, v6 + 1, t_worlds_size, t_worlds_skippers, t_worlds_hasNobody, t_worlds_fitting) else (fX7_leftAtTheMost t_worlds_size t_worlds_fitting t_house_awake t_house_counts t_house_paces a1 v6 a2).bind fun r103 => if v4 = (-6) then bX9_ask_122 k69 v6 r103 t_worlds_size t_worlds_skippers t_worlds_hasNobody t_worlds_fitting else if v5 ≤ r103 then k69 (v4, v5, v6 + 1, t_worlds_size, t_worlds_skippers, t_worlds_hasNobody, t_worlds_fitting) else bX9_ask_122 k69 v6 r103 t_worlds_size t_worlds_skippers t_worlds_hasNobody t_worlds_fitting
set_option maxRecDepth 100000 in
set_option maxHeartbeats 4000000 in
theorem BX9_ask_69 {p : Program} {l : Launch} {e : Env} {s : State} {m : MethodId} {below : List Frame} {meth : Method} {c : Code} {D : va_G} {ty : TY} {A_t A_t_pad A_t_hours A_t_laws A_t_trialYear A_t_images A_t_house A_t_house_counts A_t_house_paces A_t_sights A_t_sights_monks A_t_sights_breaths A_t_sights_bowed A_t_worlds A_t_worlds_fitting : Nat} {t_house_there : Int32} {t_house_awake : Int32} {t_house_start : Int32} {t_house_sharp : Int32} {t_house_counts : Nat → Int32} {t_house_paces : Nat → Int32} {t_sights_size : Int32} {t_sights_monks : Nat → Int32} {t_sights_breaths : Nat → Int32} {t_sights_bowed : Nat → Int32} {a1 : Int32} {a2 : Int32} {a3 : Int32} {q0 : Int32 × Int32 × Int32 × Int32 × (Nat → Int32)} {WC : va_W} (C : cx p s m [.ref A_t, .int a1, .int a2, .int a3] meth c cX9_ask 8 (some .int) RX9 wsX9_ask) (hK : KK D ty s)   : ∀ (n : Nat) (v4 : Int32) (v5 : Int32) (v6 : Int32) (t_worlds_size : Int32) (t_worlds_skippers : Int32) (t_worlds_hasNobody : Int32) (t_worlds_fitting : Nat → Int32) (H : Heap) (locs : List Loc) (ls : Array Slot), va_P D vwCl [(A_t, .inr (8, [.ref A_t_house, .ref A_t_pad, .ref A_t_hours, .ref A_t_laws, .ref A_t_sights, .ref A_t_worlds, .ref A_t_trialYear, .ref A_t_images])), (A_t_house, .inr (1, [.int t_house_there, .int t_house_awake, .int t_house_start, .int t_house_sharp, .ref A_t_house_counts, .ref A_t_house_paces])), (A_t_house_counts, .inl (ty.1, 8, .inl t_house_counts)), (A_t_house_paces, .inl (ty.1, 8, .inl t_house_paces)), (A_t_sights, .inr (5, [.int t_sights_size, .ref A_t_sights_monks, .ref A_t_sights_breaths, .ref A_t_sights_bowed])), (A_t_sights_monks, .inl (ty.1, 8, .inl t_sights_monks)), (A_t_sights_breaths, .inl (ty.1, 8, .inl t_sights_breaths)), (A_t_sights_bowed, .inl (ty.2.2.1, 8, .inl t_sights_bowed)), (A_t_worlds, .inr (6, [.int t_worlds_size, .int t_worlds_skippers, .int t_worlds_hasNobody, .ref A_t_worlds_fitting])), (A_t_worlds_fitting, .inl (ty.1, 8, .inl t_worlds_fitting))] H → va_D (va_A WC s.heap.size) [(A_t, .inr (8, [.ref A_t_house, .ref A_t_pad, .ref A_t_hours, .ref A_t_laws, .ref A_t_sights, .ref A_t_worlds, .ref A_t_trialYear, .ref A_t_images])), (A_t_house, .inr (1, [.int t_house_there, .int t_house_awake, .int t_house_start, .int t_house_sharp, .ref A_t_house_counts, .ref A_t_house_paces])), (A_t_house_counts, .inl (ty.1, 8, .inl t_house_counts)), (A_t_house_paces, .inl (ty.1, 8, .inl t_house_paces)), (A_t_sights, .inr (5, [.int t_sights_size, .ref A_t_sights_monks, .ref A_t_sights_breaths, .ref A_t_sights_bowed])), (A_t_sights_monks, .inl (ty.1, 8, .inl t_sights_monks)), (A_t_sights_breaths, .inl (ty.1, 8, .inl t_sights_breaths)), (A_t_sights_bowed, .inl (ty.2.2.1, 8, .inl t_sights_bowed)), (A_t_worlds, .inr (6, [.int t_worlds_size, .int t_worlds_skippers, .int t_worlds_hasNobody, .ref A_t_worlds_fitting])), (A_t_worlds_fitting, .inl (ty.1, 8, .inl t_worlds_fitting))] → va_S (va_A WC s.heap.size) s.heap H locs → lv_has ls 8 [(0, .ref A_t), (1, .int a1), (2, .int a2), (3, .int a3), (4, .int v4), (5, .int v5), (6, .int v6)] → loopF (fun k q => bX9_ask_69 k t_house_awake t_house_counts t_house_paces a1 a2 a3 q.1 q.2.1 q.2.2.1 q.2.2.2.1 q.2.2.2.2.1 q.2.2.2.2.2.1 q.2.2.2.2.2.2) n (v4, v5, v6, t_worlds_size, t_worlds_skippers, t_worlds_hasNobody, t_worlds_fitting) = some q0 → WWi p l e rmX9_ask s m [.ref A_t, .int a1, .int a2, .int a3] below meth c D WC [(A_t, .inr (8, [.ref A_t_house, .ref A_t_pad, .ref A_t_hours, .ref A_t_laws, .ref A_t_sights, .ref A_t_worlds, .ref A_t_trialYear, .ref A_t_images])), (A_t_house, .inr (1, [.int t_house_there, .int t_house_awake, .int t_house_start, .int t_house_sharp, .ref A_t_house_counts, .ref A_t_house_paces])), (A_t_house_counts, .inl (ty.1, 8, .inl t_house_counts)), (A_t_house_paces, .inl (ty.1, 8, .inl t_house_paces)), (A_t_sights, .inr (5, [.int t_sights_size, .ref A_t_sights_monks, .ref A_t_sights_breaths, .ref A_t_sights_bowed])), (A_t_sights_monks, .inl (ty.1, 8, .inl t_sights_monks)), (A_t_sights_breaths, .inl (ty.1, 8, .inl t_sights_breaths)), (A_t_sights_bowed, .inl (ty.2.2.1, 8, .inl t_sights_bowed)), (A_t_worlds, .inr (6, [.int q0.2.1, .int q0.2.2.1, .int q0.2.2.2.1, .ref A_t_worlds_fitting])), (A_t_worlds_fitting, .inl (ty.1, 8, .inl q0.2.2.2.2))] q0.1 H locs (F0 m 69 ls []) := by
  obtain ⟨hx, hb, hr, hml, hown, hts, hlocks⟩ := id C
  intro n
  induction n with
  | zero =>
    intro v4 v5 v6 t_worlds_size t_worlds_skippers t_worlds_hasNobody t_worlds_fitting H locs ls hP hD hS hl hf
    cases hf
  | succ n ih =>
    intro v4 v5 v6 t_worlds_size t_worlds_skippers t_worlds_hasNobody t_worlds_fitting H locs ls hP hD hS hl hf
    have hf : bX9_ask_69 (loopF (fun k q => bX9_ask_69 k t_house_awake t_house_counts t_house_paces a1 a2 a3 q.1 q.2.1 q.2.2.1 q.2.2.2.1 q.2.2.2.2.1 q.2.2.2.2.2.1 q.2.2.2.2.2.2) n) t_house_awake t_house_counts t_house_paces a1 a2 a3 v4 v5 v6 t_worlds_size t_worlds_skippers t_worlds_hasNobody t_worlds_fitting = some q0 := hf
    have hk69 := ih
    unfold bX9_ask_69 at hf
    refine lv_iload hx hb dX9_ask_69 (lv_at hl 6 rfl) ?_
    refine lv_bipush (v := 8) hx hb dX9_ask_71 (by decide) ?_
    refine lv_icmp_ge (tgt := 136) hx hb dX9_ask_73 (by decide) (fun hc => ?_) (fun hc => ?_)
    · have hf := ft hf hc
      refine lv_iload_n hx hb dX9_ask_136 rfl (lv_at hl 3 rfl) ?_
      refine lv_if_ne (tgt := 145) hx hb dX9_ask_137 (by decide) (fun hc => ?_) (fun hc => ?_)
      · have hf := ff hf hc
        refine lv_iload hx hb dX9_ask_145 (lv_at hl 5 rfl) ?_
        cases hf
        exact ret_wi hx hb hr hlocks hP hD hS dX9_ask_147
      · have hf := ft hf hc
        refine lv_iload hx hb dX9_ask_140 (lv_at hl 4 rfl) ?_
        refine lv_goto (tgt := 147) hx hb dX9_ask_142 (by decide) ?_
        cases hf
        exact ret_wi hx hb hr hlocks hP hD hS dX9_ask_147
    · have hf := ff hf hc
      refine lv_aload_n hx hb dX9_ask_76 rfl (lv_at hl 0 rfl) ?_
      refine va_get (D := D) (ci := 8) (v := .ref A_t_house) (C := RX9) (T := TX9) (N := 8) hx hb hts wX9_ask_X9 hown hK.1 hP 0 rfl rfl 0 (by decide) (hts _ mX9_ask_f10) (fun _ h9 => h9) rfl dX9_ask_77 ?_
      refine lv_iload hx hb dX9_ask_80 (lv_at hl 6 rfl) ?_
      obtain ⟨r82, hr82, hf⟩ := bnd hf
      have hPc : va_P D vwCl [(A_t_house, .inr (1, [.int t_house_there, .int t_house_awake, .int t_house_start, .int t_house_sharp, .ref A_t_house_counts, .ref A_t_house_paces])), (A_t_house_counts, .inl (ty.1, 8, .inl t_house_counts)), (A_t_house_paces, .inl (ty.1, 8, .inl t_house_paces))] _ := hP.sub [1, 2, 3] rfl
      refine callV_ri (As := [.int v6]) (rest := []) ⟨hx, hb, hml, hown, hts⟩ (CX2_isAwake l hr82) (cwV 1 hts gX9_ask_X2_isAwake rfl rfl rfl kkX2_isAwake ⟨Nat.le_of_ble_eq_true rfl, Nat.le_of_ble_eq_true rfl⟩) hK hPc 0 rfl rfl rfl hl.1 rfl (Nat.le_of_ble_eq_true rfl) dX9_ask_82 ⟨Nat.zero_le _, Nat.zero_le _⟩ ?_
      refine lv_if_ne (tgt := 91) hx hb dX9_ask_85 (by decide) (fun hc => ?_) (fun hc => ?_)
      · have hf := ff hf hc
        refine lv_aload_n hx hb dX9_ask_91 rfl (lv_at hl 0 rfl) ?_
        refine va_get (D := D) (ci := 8) (v := .ref A_t_worlds) (C := RX9) (T := TX9) (N := 8) hx hb hts wX9_ask_X9 hown hK.1 hP 0 rfl rfl 5 (by decide) (hts _ mX9_ask_f47) (fun _ h9 => h9) rfl dX9_ask_92 ?_
        refine lv_iload_n hx hb dX9_ask_95 rfl (lv_at hl 1 rfl) ?_
        refine lv_aload_n hx hb dX9_ask_96 rfl (lv_at hl 0 rfl) ?_
        refine va_get (D := D) (ci := 8) (v := .ref A_t_house) (C := RX9) (T := TX9) (N := 8) hx hb hts wX9_ask_X9 hown hK.1 hP 0 rfl rfl 0 (by decide) (hts _ mX9_ask_f10) (fun _ h9 => h9) rfl dX9_ask_97 ?_
        refine lv_iload hx hb dX9_ask_100 (lv_at hl 6 rfl) ?_
        refine lv_iload_n hx hb dX9_ask_102 rfl (lv_at hl 2 rfl) ?_
        obtain ⟨r103, hr103, hf⟩ := bnd hf
        have hPc : va_P D vwCl [(A_t_worlds, .inr (6, [.int t_worlds_size, .int t_worlds_skippers, .int t_worlds_hasNobody, .ref A_t_worlds_fitting])), (A_t_worlds_fitting, .inl (ty.1, 8, .inl t_worlds_fitting)), (A_t_house, .inr (1, [.int t_house_there, .int t_house_awake, .int t_house_start, .int t_house_sharp, .ref A_t_house_counts, .ref A_t_house_paces])), (A_t_house_counts, .inl (ty.1, 8, .inl t_house_counts)), (A_t_house_paces, .inl (ty.1, 8, .inl t_house_paces))] _ := hP.sub [8, 9, 1, 2, 3] rfl
        refine callV_ri (As := [.int a1, .ref A_t_house, .int v6, .int a2]) (rest := []) ⟨hx, hb, hml, hown, hts⟩ (CX7_leftAtTheMost l hr103) (cwV 4 hts gX9_ask_X7_leftAtTheMost rfl rfl rfl kkX7_leftAtTheMost ⟨Nat.le_of_ble_eq_true rfl, Nat.le_of_ble_eq_true rfl⟩) hK hPc 0 rfl rfl rfl hl.1 rfl (Nat.le_of_ble_eq_true rfl) dX9_ask_103 ⟨Nat.zero_le _, Nat.zero_le _⟩ ?_
        refine lv_istore (lv' := [(7, .int r103), (0, .ref A_t), (1, .int a1), (2, .int a2), (3, .int a3), (4, .int v4), (5, .int v5), (6, .int v6)]) hx hb dX9_ask_106 hl (by decide) rfl (fun ls hl => ?_)
        refine lv_iload hx hb dX9_ask_108 (lv_at hl 5 rfl) ?_
        refine lv_bipush (v := (-6)) hx hb dX9_ask_110 (by decide) ?_
        refine lv_icmp_eq (tgt := 122) hx hb dX9_ask_112 (by decide) (fun hc => ?_) (fun hc => ?_)
        · have hf := ft hf hc
          exact BX9_ask_122 C hK hk69 hP hD hS (lv_sub hl [1, 2, 3, 4, 7, 0] rfl) hf
        · have hf := ff hf hc
          refine lv_iload hx hb dX9_ask_115 (lv_at hl 0 rfl) ?_
          refine lv_iload hx hb dX9_ask_117 (lv_at hl 6 rfl) ?_
          refine lv_icmp_ge (tgt := 130) hx hb dX9_ask_119 (by decide) (fun hc => ?_) (fun hc => ?_)
          · have hf := ft hf hc
            refine lv_iinc (v := v6 + 1) (lv' := [(6, .int (v6 + 1)), (7, .int r103), (0, .ref A_t), (1, .int a1), (2, .int a2), (3, .int a3), (4, .int v4), (5, .int v5)]) hx hb dX9_ask_130 hl (k := 7) rfl rfl (by decide) rfl (fun ls hl => ?_)
            refine lv_goto (tgt := 69) hx hb dX9_ask_133 (by decide) ?_
            exact hk69 _ _ _ _ _ _ _ _ _ _ hP hD hS (lv_sub hl [2, 3, 4, 5, 6, 7, 0] rfl) hf
          · have hf := ff hf hc
            exact BX9_ask_122 C hK hk69 hP hD hS (lv_sub hl [1, 2, 3, 4, 7, 0] rfl) hf
      · have hf := ft hf hc
        refine lv_goto (tgt := 130) hx hb dX9_ask_88 (by decide) ?_
        refine lv_iinc (v := v6 + 1) (lv' := [(6, .int (v6 + 1)), (0, .ref A_t), (1, .int a1), (2, .int a2), (3, .int a3), (4, .int v4), (5, .int v5)]) hx hb dX9_ask_130 hl (k := 6) rfl rfl (by decide) rfl (fun ls hl => ?_)
        refine lv_goto (tgt := 69) hx hb dX9_ask_133 (by decide) ?_
        exact hk69 _ _ _ _ _ _ _ _ _ _ hP hD hS (lv_sub hl [1, 2, 3, 4, 5, 6, 0] rfl) hf
def fX9_ask (t_house_awake : Int32) (t_house_counts : Nat → Int32) (t_house_paces : Nat → Int32) (t_sights_size : Int32) (t_sights_monks : Nat → Int32) (t_sights_breaths : Nat → Int32) (t_sights_bowed : Nat → Int32) (t_worlds_size : Int32) (t_worlds_skippers : Int32) (t_worlds_hasNobody : Int32) (t_worlds_fitting : Nat → Int32) (a1 : Int32) (a2 : Int32) (a3 : Int32) : Option (Int32 × Int32 × Int32 × Int32 × (Nat → Int32)) :=
  (fX9_isLaw a1).bind fun r1 => if r1 = 0 then some ((-2), t_worlds_size, t_worlds_skippers, t_worlds_hasNobody, t_worlds_fitting) else (fX9_isWithin a2 0 99).bind fun r11 => if r11 = 0 then some ((-2), t_worlds_size, t_worlds_skippers, t_worlds_hasNobody, t_worlds_fitting) else (fX9_isWithin a3 0 1).bind fun r20 => if r20 = 0 then some ((-2), t_worlds_size, t_worlds_skippers, t_worlds_hasNobody, t_worlds_fitting) else (fX7_find t_worlds_size t_worlds_skippers t_worlds_hasNobody t_worlds_fitting t_house_awake t_house_counts t_house_paces t_sights_size t_sights_monks t_sights_breaths t_sights_bowed a1).bind fun r42 => if r42.1 = 0 then some ((-6), r42.1, r42.2.1, r42.2.2.1, r42.2.2.2) else loopF (fun k q => bX9_ask_69 k t_house_awake t_house_counts t_house_paces a1 a2 a3 q.1 q.2.1 q.2.2.1 q.2.2.2.1 q.2.2.2.2.1 q.2.2.2.2.2.1 q.2.2.2.2.2.2) FU ((-6), (-6), 0, r42.1, r42.2.1, r42.2.2.1, r42.2.2.2)
set_option maxRecDepth 100000 in
set_option maxHeartbeats 4000000 in
theorem CX9_ask (l : Launch) {D : va_G} {ty : TY} {A_t A_t_pad A_t_hours A_t_laws A_t_trialYear A_t_images A_t_house A_t_house_counts A_t_house_paces A_t_sights A_t_sights_monks A_t_sights_breaths A_t_sights_bowed A_t_worlds A_t_worlds_fitting : Nat} {t_house_there : Int32} {t_house_awake : Int32} {t_house_start : Int32} {t_house_sharp : Int32} {t_house_counts : Nat → Int32} {t_house_paces : Nat → Int32} {t_sights_size : Int32} {t_sights_monks : Nat → Int32} {t_sights_breaths : Nat → Int32} {t_sights_bowed : Nat → Int32} {t_worlds_size : Int32} {t_worlds_skippers : Int32} {t_worlds_hasNobody : Int32} {t_worlds_fitting : Nat → Int32} {a1 : Int32} {a2 : Int32} {a3 : Int32} {q0 : Int32 × Int32 × Int32 × Int32 × (Nat → Int32)} (hf : fX9_ask t_house_awake t_house_counts t_house_paces t_sights_size t_sights_monks t_sights_breaths t_sights_bowed t_worlds_size t_worlds_skippers t_worlds_hasNobody t_worlds_fitting a1 a2 a3 = some q0) : RWi l yX9_ask wsX9_ask rmX9_ask D ty [.ref A_t, .int a1, .int a2, .int a3] [(A_t, .inr (8, [.ref A_t_house, .ref A_t_pad, .ref A_t_hours, .ref A_t_laws, .ref A_t_sights, .ref A_t_worlds, .ref A_t_trialYear, .ref A_t_images])), (A_t_house, .inr (1, [.int t_house_there, .int t_house_awake, .int t_house_start, .int t_house_sharp, .ref A_t_house_counts, .ref A_t_house_paces])), (A_t_house_counts, .inl (ty.1, 8, .inl t_house_counts)), (A_t_house_paces, .inl (ty.1, 8, .inl t_house_paces)), (A_t_sights, .inr (5, [.int t_sights_size, .ref A_t_sights_monks, .ref A_t_sights_breaths, .ref A_t_sights_bowed])), (A_t_sights_monks, .inl (ty.1, 8, .inl t_sights_monks)), (A_t_sights_breaths, .inl (ty.1, 8, .inl t_sights_breaths)), (A_t_sights_bowed, .inl (ty.2.2.1, 8, .inl t_sights_bowed)), (A_t_worlds, .inr (6, [.int t_worlds_size, .int t_worlds_skippers, .int t_worlds_hasNobody, .ref A_t_worlds_fitting])), (A_t_worlds_fitting, .inl (ty.1, 8, .inl t_worlds_fitting))] q0.1 [(A_t, .inr (8, [.ref A_t_house, .ref A_t_pad, .ref A_t_hours, .ref A_t_laws, .ref A_t_sights, .ref A_t_worlds, .ref A_t_trialYear, .ref A_t_images])), (A_t_house, .inr (1, [.int t_house_there, .int t_house_awake, .int t_house_start, .int t_house_sharp, .ref A_t_house_counts, .ref A_t_house_paces])), (A_t_house_counts, .inl (ty.1, 8, .inl t_house_counts)), (A_t_house_paces, .inl (ty.1, 8, .inl t_house_paces)), (A_t_sights, .inr (5, [.int t_sights_size, .ref A_t_sights_monks, .ref A_t_sights_breaths, .ref A_t_sights_bowed])), (A_t_sights_monks, .inl (ty.1, 8, .inl t_sights_monks)), (A_t_sights_breaths, .inl (ty.1, 8, .inl t_sights_breaths)), (A_t_sights_bowed, .inl (ty.2.2.1, 8, .inl t_sights_bowed)), (A_t_worlds, .inr (6, [.int q0.2.1, .int q0.2.2.1, .int q0.2.2.2.1, .ref A_t_worlds_fitting])), (A_t_worlds_fitting, .inl (ty.1, 8, .inl q0.2.2.2.2))] := by
  refine RWi.start (cc := cX9_ask) (maxL := 8) (ret := (some .int)) (own := RX9) (by decide) rfl rfl (Nat.le_of_ble_eq_true rfl) ?_
  intro p e s m below meth c ls C hK hP hD hS hl
  obtain ⟨WC, hWC⟩ : ∃ w : va_W, w = [(A_t, .inr (8, [.ref A_t_house, .ref A_t_pad, .ref A_t_hours, .ref A_t_laws, .ref A_t_sights, .ref A_t_worlds, .ref A_t_trialYear, .ref A_t_images])), (A_t_house, .inr (1, [.int t_house_there, .int t_house_awake, .int t_house_start, .int t_house_sharp, .ref A_t_house_counts, .ref A_t_house_paces])), (A_t_house_counts, .inl (ty.1, 8, .inl t_house_counts)), (A_t_house_paces, .inl (ty.1, 8, .inl t_house_paces)), (A_t_sights, .inr (5, [.int t_sights_size, .ref A_t_sights_monks, .ref A_t_sights_breaths, .ref A_t_sights_bowed])), (A_t_sights_monks, .inl (ty.1, 8, .inl t_sights_monks)), (A_t_sights_breaths, .inl (ty.1, 8, .inl t_sights_breaths)), (A_t_sights_bowed, .inl (ty.2.2.1, 8, .inl t_sights_bowed)), (A_t_worlds, .inr (6, [.int t_worlds_size, .int t_worlds_skippers, .int t_worlds_hasNobody, .ref A_t_worlds_fitting])), (A_t_worlds_fitting, .inl (ty.1, 8, .inl t_worlds_fitting))] := ⟨_, rfl⟩
  rw [← hWC] at hD hS ⊢
  have hD : va_D (va_A WC s.heap.size) [(A_t, .inr (8, [.ref A_t_house, .ref A_t_pad, .ref A_t_hours, .ref A_t_laws, .ref A_t_sights, .ref A_t_worlds, .ref A_t_trialYear, .ref A_t_images])), (A_t_house, .inr (1, [.int t_house_there, .int t_house_awake, .int t_house_start, .int t_house_sharp, .ref A_t_house_counts, .ref A_t_house_paces])), (A_t_house_counts, .inl (ty.1, 8, .inl t_house_counts)), (A_t_house_paces, .inl (ty.1, 8, .inl t_house_paces)), (A_t_sights, .inr (5, [.int t_sights_size, .ref A_t_sights_monks, .ref A_t_sights_breaths, .ref A_t_sights_bowed])), (A_t_sights_monks, .inl (ty.1, 8, .inl t_sights_monks)), (A_t_sights_breaths, .inl (ty.1, 8, .inl t_sights_breaths)), (A_t_sights_bowed, .inl (ty.2.2.1, 8, .inl t_sights_bowed)), (A_t_worlds, .inr (6, [.int t_worlds_size, .int t_worlds_skippers, .int t_worlds_hasNobody, .ref A_t_worlds_fitting])), (A_t_worlds_fitting, .inl (ty.1, 8, .inl t_worlds_fitting))] := by rw [← hWC]; exact hD
  obtain ⟨hx, hb, hr, hml, hown, hts, hlocks⟩ := id C
  have hl : lv_has ls 8 [(0, .ref A_t), (1, .int a1), (2, .int a2), (3, .int a3)] := hl
  unfold fX9_ask at hf
  refine lv_iload_n hx hb dX9_ask_0 rfl (lv_at hl 1 rfl) ?_
  obtain ⟨r1, hr1, hf⟩ := bnd hf
  have hPc : va_P D vwCl [] _ := hP.sub [] rfl
  refine callS_ri (As := [.int a1]) (rest := []) ⟨hx, hb, hml, hown, hts⟩ (CX9_isLaw l hr1) (va_cwS 1 hts gX9_ask_X9_isLaw rfl rfl rfl kkX9_isLaw.2 ⟨Nat.le_of_ble_eq_true rfl, Nat.le_of_ble_eq_true rfl⟩) hK hPc hl.1 rfl (Nat.le_of_ble_eq_true rfl) dX9_ask_1 ⟨Nat.zero_le _, Nat.zero_le _⟩ ?_
  refine lv_if_eq (tgt := 26) hx hb dX9_ask_4 (by decide) (fun hc => ?_) (fun hc => ?_)
  · have hf := ft hf hc
    refine lv_bipush (v := (-2)) hx hb dX9_ask_26 (by decide) ?_
    cases hf
    exact ret_wi hx hb hr hlocks hP hD hS dX9_ask_28
  · have hf := ff hf hc
    refine lv_iload_n hx hb dX9_ask_7 rfl (lv_at hl 2 rfl) ?_
    refine lv_iconst (v := 0) hx hb dX9_ask_8 (by decide) ?_
    refine lv_bipush (v := 99) hx hb dX9_ask_9 (by decide) ?_
    obtain ⟨r11, hr11, hf⟩ := bnd hf
    have hPc : va_P D vwCl [] _ := hP.sub [] rfl
    refine callS_ri (As := [.int a2, .int 0, .int 99]) (rest := []) ⟨hx, hb, hml, hown, hts⟩ (CX9_isWithin l hr11) (va_cwS 3 hts gX9_ask_X9_isWithin rfl rfl rfl kkX9_isWithin.2 ⟨Nat.le_of_ble_eq_true rfl, Nat.le_of_ble_eq_true rfl⟩) hK hPc hl.1 rfl (Nat.le_of_ble_eq_true rfl) dX9_ask_11 ⟨Nat.zero_le _, Nat.zero_le _⟩ ?_
    refine lv_if_eq (tgt := 26) hx hb dX9_ask_14 (by decide) (fun hc => ?_) (fun hc => ?_)
    · have hf := ft hf hc
      refine lv_bipush (v := (-2)) hx hb dX9_ask_26 (by decide) ?_
      cases hf
      exact ret_wi hx hb hr hlocks hP hD hS dX9_ask_28
    · have hf := ff hf hc
      refine lv_iload_n hx hb dX9_ask_17 rfl (lv_at hl 3 rfl) ?_
      refine lv_iconst (v := 0) hx hb dX9_ask_18 (by decide) ?_
      refine lv_iconst (v := 1) hx hb dX9_ask_19 (by decide) ?_
      obtain ⟨r20, hr20, hf⟩ := bnd hf
      have hPc : va_P D vwCl [] _ := hP.sub [] rfl
      refine callS_ri (As := [.int a3, .int 0, .int 1]) (rest := []) ⟨hx, hb, hml, hown, hts⟩ (CX9_isWithin l hr20) (va_cwS 3 hts gX9_ask_X9_isWithin rfl rfl rfl kkX9_isWithin.2 ⟨Nat.le_of_ble_eq_true rfl, Nat.le_of_ble_eq_true rfl⟩) hK hPc hl.1 rfl (Nat.le_of_ble_eq_true rfl) dX9_ask_20 ⟨Nat.zero_le _, Nat.zero_le _⟩ ?_
      refine lv_if_ne (tgt := 29) hx hb dX9_ask_23 (by decide) (fun hc => ?_) (fun hc => ?_)
      · have hf := ff hf hc
        refine lv_aload_n hx hb dX9_ask_29 rfl (lv_at hl 0 rfl) ?_
        refine va_get (D := D) (ci := 8) (v := .ref A_t_worlds) (C := RX9) (T := TX9) (N := 8) hx hb hts wX9_ask_X9 hown hK.1 hP 0 rfl rfl 5 (by decide) (hts _ mX9_ask_f47) (fun _ h9 => h9) rfl dX9_ask_30 ?_
        refine lv_iload_n hx hb dX9_ask_33 rfl (lv_at hl 1 rfl) ?_
        refine lv_aload_n hx hb dX9_ask_34 rfl (lv_at hl 0 rfl) ?_
        refine va_get (D := D) (ci := 8) (v := .ref A_t_house) (C := RX9) (T := TX9) (N := 8) hx hb hts wX9_ask_X9 hown hK.1 hP 0 rfl rfl 0 (by decide) (hts _ mX9_ask_f10) (fun _ h9 => h9) rfl dX9_ask_35 ?_
        refine lv_aload_n hx hb dX9_ask_38 rfl (lv_at hl 0 rfl) ?_
        refine va_get (D := D) (ci := 8) (v := .ref A_t_sights) (C := RX9) (T := TX9) (N := 8) hx hb hts wX9_ask_X9 hown hK.1 hP 0 rfl rfl 4 (by decide) (hts _ mX9_ask_f40) (fun _ h9 => h9) rfl dX9_ask_39 ?_
        obtain ⟨r42, hr42, hf⟩ := bnd hf
        refine callV_wv (As := [.int a1, .ref A_t_house, .ref A_t_sights]) (rest := []) ⟨hx, hb, hml, hown, hts⟩ (CX7_find l hr42) (cwV 3 hts gX9_ask_X7_find rfl rfl rfl kkX7_find ⟨Nat.le_of_ble_eq_true rfl, Nat.le_of_ble_eq_true rfl⟩) hK hP hD hS (fun _ h => Or.inr h) [8, 9, 1, 2, 3, 4, 5, 6, 7] [0] [0, 3, 4, 5, 6, 7, 8, 9, 1, 2] rfl (by decide) (by decide) rfl rfl 0 rfl rfl rfl hl.1 rfl (Nat.le_of_ble_eq_true rfl) dX9_ask_42 ⟨Nat.zero_le _, Nat.zero_le _⟩ (fun H locs hP hD hS => ?_)
        have hP : va_P D vwCl [(A_t, .inr (8, [.ref A_t_house, .ref A_t_pad, .ref A_t_hours, .ref A_t_laws, .ref A_t_sights, .ref A_t_worlds, .ref A_t_trialYear, .ref A_t_images])), (A_t_house, .inr (1, [.int t_house_there, .int t_house_awake, .int t_house_start, .int t_house_sharp, .ref A_t_house_counts, .ref A_t_house_paces])), (A_t_house_counts, .inl (ty.1, 8, .inl t_house_counts)), (A_t_house_paces, .inl (ty.1, 8, .inl t_house_paces)), (A_t_sights, .inr (5, [.int t_sights_size, .ref A_t_sights_monks, .ref A_t_sights_breaths, .ref A_t_sights_bowed])), (A_t_sights_monks, .inl (ty.1, 8, .inl t_sights_monks)), (A_t_sights_breaths, .inl (ty.1, 8, .inl t_sights_breaths)), (A_t_sights_bowed, .inl (ty.2.2.1, 8, .inl t_sights_bowed)), (A_t_worlds, .inr (6, [.int r42.1, .int r42.2.1, .int r42.2.2.1, .ref A_t_worlds_fitting])), (A_t_worlds_fitting, .inl (ty.1, 8, .inl r42.2.2.2))] H := hP
        have hD : va_D (va_A WC s.heap.size) [(A_t, .inr (8, [.ref A_t_house, .ref A_t_pad, .ref A_t_hours, .ref A_t_laws, .ref A_t_sights, .ref A_t_worlds, .ref A_t_trialYear, .ref A_t_images])), (A_t_house, .inr (1, [.int t_house_there, .int t_house_awake, .int t_house_start, .int t_house_sharp, .ref A_t_house_counts, .ref A_t_house_paces])), (A_t_house_counts, .inl (ty.1, 8, .inl t_house_counts)), (A_t_house_paces, .inl (ty.1, 8, .inl t_house_paces)), (A_t_sights, .inr (5, [.int t_sights_size, .ref A_t_sights_monks, .ref A_t_sights_breaths, .ref A_t_sights_bowed])), (A_t_sights_monks, .inl (ty.1, 8, .inl t_sights_monks)), (A_t_sights_breaths, .inl (ty.1, 8, .inl t_sights_breaths)), (A_t_sights_bowed, .inl (ty.2.2.1, 8, .inl t_sights_bowed)), (A_t_worlds, .inr (6, [.int r42.1, .int r42.2.1, .int r42.2.2.1, .ref A_t_worlds_fitting])), (A_t_worlds_fitting, .inl (ty.1, 8, .inl r42.2.2.2))] := hD
        refine lv_aload_n hx hb dX9_ask_45 rfl (lv_at hl 0 rfl) ?_
        refine va_get (D := D) (ci := 8) (v := .ref A_t_worlds) (C := RX9) (T := TX9) (N := 8) hx hb hts wX9_ask_X9 hown hK.1 hP 0 rfl rfl 5 (by decide) (hts _ mX9_ask_f47) (fun _ h9 => h9) rfl dX9_ask_46 ?_
        refine va_get (D := D) (ci := 6) (v := .int r42.1) (C := RX7) (T := TX7) (N := 4) hx hb hts wX9_ask_X7 hown hK.1 hP 8 rfl rfl 0 (by decide) (hts _ mX9_ask_f211) (fun _ h9 => h9) rfl dX9_ask_49 ?_
        refine lv_if_ne (tgt := 58) hx hb dX9_ask_52 (by decide) (fun hc => ?_) (fun hc => ?_)
        · have hf := ff hf hc
          refine lv_bipush (v := (-6)) hx hb dX9_ask_58 (by decide) ?_
          refine lv_istore (lv' := [(4, .int (-6)), (0, .ref A_t), (1, .int a1), (2, .int a2), (3, .int a3)]) hx hb dX9_ask_60 hl (by decide) rfl (fun ls hl => ?_)
          refine lv_bipush (v := (-6)) hx hb dX9_ask_62 (by decide) ?_
          refine lv_istore (lv' := [(5, .int (-6)), (4, .int (-6)), (0, .ref A_t), (1, .int a1), (2, .int a2), (3, .int a3)]) hx hb dX9_ask_64 hl (by decide) rfl (fun ls hl => ?_)
          refine lv_iconst (v := 0) hx hb dX9_ask_66 (by decide) ?_
          refine lv_istore (lv' := [(6, .int 0), (5, .int (-6)), (4, .int (-6)), (0, .ref A_t), (1, .int a1), (2, .int a2), (3, .int a3)]) hx hb dX9_ask_67 hl (by decide) rfl (fun ls hl => ?_)
          exact BX9_ask_69 C hK  FU _ _ _ _ _ _ _ _ _ _ hP hD hS (lv_sub hl [3, 4, 5, 6, 2, 1, 0] rfl) hf
        · have hf := ft hf hc
          refine lv_bipush (v := (-6)) hx hb dX9_ask_55 (by decide) ?_
          cases hf
          exact ret_wi hx hb hr hlocks hP hD hS dX9_ask_57
      · have hf := ft hf hc
        refine lv_bipush (v := (-2)) hx hb dX9_ask_26 (by decide) ?_
        cases hf
        exact ret_wi hx hb hr hlocks hP hD hS dX9_ask_28
/-! ===== SilenceCount.beads(II)I ===== -/
abbrev rmX9_beads : Room := { frames := 1, cells := 0, slots := 0, locals := 22 }
theorem kkX9_beads : yX9_beads.cls = RX9 ∧ yX9_beads.cls ≠ "java/lang/invoke/MethodHandle" ∧ yX9_beads.cls ≠ "java/lang/invoke/VarHandle" ∧ (parseMethodDescriptor yX9_beads.desc).map (fun d => d.parameters.length) = some 2 := by decide +kernel
theorem mX9_beads_c198 : Cond.methodLink RX9 198 Lib.Math.min.name ∈ wsX9_beads := by decide +kernel
theorem mX9_beads_smin : Cond.static Lib.Math.min.name ∈ wsX9_beads := by decide +kernel
theorem mX9_beads_iMath : Cond.initialized "java/lang/Math" ∈ wsX9_beads := by decide +kernel
theorem mX9_beads_cdmin : Cond.code Lib.Math.min.name Lib.Math.min.code 2 (some .int) ∈ wsX9_beads := by decide +kernel
def bX9_beads_113 (k32 : Int32 × Int32 × Int32 → Option (Int32)) (k44 : Int32 × Int32 × Int32 × Int32 → Option (Int32)) (v4 : Int32) (v5 : Int32) (v6 : Int32) (s0 : Int32) : Option (Int32) :=
  k44 (s0, v4 + 1, v5, v6 + 1)
set_option maxRecDepth 100000 in
set_option maxHeartbeats 4000000 in
theorem BX9_beads_113 {p : Program} {l : Launch} {e : Env} {s : State} {m : MethodId} {below : List Frame} {meth : Method} {c : Code} {D : va_G} {ty : TY} {A_t A_t_house A_t_pad A_t_hours A_t_laws A_t_sights A_t_worlds A_t_trialYear A_t_images : Nat} {a1 : Int32} {a2 : Int32} {q0 : Int32} (C : cx p s m [.ref A_t, .int a1, .int a2] meth c cX9_beads 9 (some .int) RX9 wsX9_beads) (hK : KK D ty s) (hP : va_P D vwCl [(A_t, .inr (8, [.ref A_t_house, .ref A_t_pad, .ref A_t_hours, .ref A_t_laws, .ref A_t_sights, .ref A_t_worlds, .ref A_t_trialYear, .ref A_t_images]))] s.heap) {k32 : Int32 × Int32 × Int32 → Option (Int32)} {k44 : Int32 × Int32 × Int32 × Int32 → Option (Int32)} (hk32 : ∀ (v3 : Int32) (v4 : Int32) (v5 : Int32) (ls : Array Slot), lv_has ls 9 [(1, .int a1), (2, .int a2), (3, .int v3), (4, .int v4), (5, .int v5)] → k32 (v3, v4, v5) = some q0 → WRi p l e rmX9_beads s m [.ref A_t, .int a1, .int a2] below meth c q0 (F0 m 32 ls [])) (hk44 : ∀ (v3 : Int32) (v4 : Int32) (v5 : Int32) (v6 : Int32) (ls : Array Slot), lv_has ls 9 [(1, .int a1), (2, .int a2), (3, .int v3), (4, .int v4), (5, .int v5), (6, .int v6)] → k44 (v3, v4, v5, v6) = some q0 → WRi p l e rmX9_beads s m [.ref A_t, .int a1, .int a2] below meth c q0 (F0 m 44 ls [])) {v4 : Int32} {v5 : Int32} {v6 : Int32} {s0 : Int32} {ls : Array Slot} (hl : lv_has ls 9 [(1, .int a1), (2, .int a2), (4, .int v4), (5, .int v5), (6, .int v6)]) (hf : bX9_beads_113 k32 k44 v4 v5 v6 s0 = some q0) : WRi p l e rmX9_beads s m [.ref A_t, .int a1, .int a2] below meth c q0 (F0 m 113 ls [.int s0]) := by
  obtain ⟨hx, hb, hr, hml, hown, hts, hlocks⟩ := id C
  unfold bX9_beads_113 at hf
  refine lv_istore_n (lv' := [(3, .int s0), (1, .int a1), (2, .int a2), (4, .int v4), (5, .int v5), (6, .int v6)]) hx hb dX9_beads_113 rfl hl (by decide) rfl (fun ls hl => ?_)
  refine lv_iinc (v := v4 + 1) (lv' := [(4, .int (v4 + 1)), (3, .int s0), (1, .int a1), (2, .int a2), (5, .int v5), (6, .int v6)]) hx hb dX9_beads_114 hl (k := 3) rfl rfl (by decide) rfl (fun ls hl => ?_)
  refine lv_iinc (v := v6 + 1) (lv' := [(6, .int (v6 + 1)), (4, .int (v4 + 1)), (3, .int s0), (1, .int a1), (2, .int a2), (5, .int v5)]) hx hb dX9_beads_117 hl (k := 5) rfl rfl (by decide) rfl (fun ls hl => ?_)
  refine lv_goto (tgt := 44) hx hb dX9_beads_120 (by decide) ?_
  exact hk44 _ _ _ _ _ (lv_sub hl [3, 4, 2, 1, 5, 0] rfl) hf
def bX9_beads_44 (k32 : Int32 × Int32 × Int32 → Option (Int32)) (k44 : Int32 × Int32 × Int32 × Int32 → Option (Int32)) (a1 : Int32) (v3 : Int32) (v4 : Int32) (v5 : Int32) (v6 : Int32) : Option (Int32) :=
  if a1 < ((12 * v5) + (7 * v6)) then k32 (v3, v4, v5 + 1) else if (((a1 - (12 * v5)) - (7 * v6)) - ((a1 - (12 * v5)) - (7 * v6)) / 5 * 5) = 0 then if v3 = (-6) then bX9_beads_113 k32 k44 v4 v5 v6 ((v5 + v6) + (((a1 - (12 * v5)) - (7 * v6)) / 5)) else bX9_beads_113 k32 k44 v4 v5 v6 (if ((v5 + v6) + (((a1 - (12 * v5)) - (7 * v6)) / 5)) < v3 then ((v5 + v6) + (((a1 - (12 * v5)) - (7 * v6)) / 5)) else v3) else k44 (v3, v4, v5, v6 + 1)
set_option maxRecDepth 100000 in
set_option maxHeartbeats 4000000 in
theorem BX9_beads_44 {p : Program} {l : Launch} {e : Env} {s : State} {m : MethodId} {below : List Frame} {meth : Method} {c : Code} {D : va_G} {ty : TY} {A_t A_t_house A_t_pad A_t_hours A_t_laws A_t_sights A_t_worlds A_t_trialYear A_t_images : Nat} {a1 : Int32} {a2 : Int32} {q0 : Int32} (C : cx p s m [.ref A_t, .int a1, .int a2] meth c cX9_beads 9 (some .int) RX9 wsX9_beads) (hK : KK D ty s) (hP : va_P D vwCl [(A_t, .inr (8, [.ref A_t_house, .ref A_t_pad, .ref A_t_hours, .ref A_t_laws, .ref A_t_sights, .ref A_t_worlds, .ref A_t_trialYear, .ref A_t_images]))] s.heap) {k32 : Int32 × Int32 × Int32 → Option (Int32)} (hk32 : ∀ (v3 : Int32) (v4 : Int32) (v5 : Int32) (ls : Array Slot), lv_has ls 9 [(1, .int a1), (2, .int a2), (3, .int v3), (4, .int v4), (5, .int v5)] → k32 (v3, v4, v5) = some q0 → WRi p l e rmX9_beads s m [.ref A_t, .int a1, .int a2] below meth c q0 (F0 m 32 ls [])) : ∀ (n : Nat) (v3 : Int32) (v4 : Int32) (v5 : Int32) (v6 : Int32) (ls : Array Slot), lv_has ls 9 [(1, .int a1), (2, .int a2), (3, .int v3), (4, .int v4), (5, .int v5), (6, .int v6)] → loopF (fun k q => bX9_beads_44 k32 k a1 q.1 q.2.1 q.2.2.1 q.2.2.2) n (v3, v4, v5, v6) = some q0 → WRi p l e rmX9_beads s m [.ref A_t, .int a1, .int a2] below meth c q0 (F0 m 44 ls []) := by
  obtain ⟨hx, hb, hr, hml, hown, hts, hlocks⟩ := id C
  intro n
  induction n with
  | zero =>
    intro v3 v4 v5 v6 ls hl hf
    cases hf
  | succ n ih =>
    intro v3 v4 v5 v6 ls hl hf
    have hf : bX9_beads_44 k32 (loopF (fun k q => bX9_beads_44 k32 k a1 q.1 q.2.1 q.2.2.1 q.2.2.2) n) a1 v3 v4 v5 v6 = some q0 := hf
    have hk44 := ih
    unfold bX9_beads_44 at hf
    refine lv_bipush (v := 12) hx hb dX9_beads_44 (by decide) ?_
    refine lv_iload hx hb dX9_beads_46 (lv_at hl 4 rfl) ?_
    refine lv_imul hx hb dX9_beads_48 ?_
    refine lv_bipush (v := 7) hx hb dX9_beads_49 (by decide) ?_
    refine lv_iload hx hb dX9_beads_51 (lv_at hl 5 rfl) ?_
    refine lv_imul hx hb dX9_beads_53 ?_
    refine lv_iadd hx hb dX9_beads_54 ?_
    refine lv_iload_n hx hb dX9_beads_55 rfl (lv_at hl 0 rfl) ?_
    refine lv_icmp_gt (tgt := 123) hx hb dX9_beads_56 (by decide) (fun hc => ?_) (fun hc => ?_)
    · have hf := ft hf hc
      refine lv_iinc (v := v5 + 1) (lv' := [(5, .int (v5 + 1)), (1, .int a1), (2, .int a2), (3, .int v3), (4, .int v4), (6, .int v6)]) hx hb dX9_beads_123 hl (k := 4) rfl rfl (by decide) rfl (fun ls hl => ?_)
      refine lv_goto (tgt := 32) hx hb dX9_beads_126 (by decide) ?_
      exact hk32 _ _ _ _ (lv_sub hl [1, 2, 3, 4, 0] rfl) hf
    · have hf := ff hf hc
      refine lv_iload_n hx hb dX9_beads_59 rfl (lv_at hl 0 rfl) ?_
      refine lv_bipush (v := 12) hx hb dX9_beads_60 (by decide) ?_
      refine lv_iload hx hb dX9_beads_62 (lv_at hl 4 rfl) ?_
      refine lv_imul hx hb dX9_beads_64 ?_
      refine lv_isub hx hb dX9_beads_65 ?_
      refine lv_bipush (v := 7) hx hb dX9_beads_66 (by decide) ?_
      refine lv_iload hx hb dX9_beads_68 (lv_at hl 5 rfl) ?_
      refine lv_imul hx hb dX9_beads_70 ?_
      refine lv_isub hx hb dX9_beads_71 ?_
      refine lv_istore (lv' := [(7, .int ((a1 - (12 * v5)) - (7 * v6))), (1, .int a1), (2, .int a2), (3, .int v3), (4, .int v4), (5, .int v5), (6, .int v6)]) hx hb dX9_beads_72 hl (by decide) rfl (fun ls hl => ?_)
      refine lv_iload hx hb dX9_beads_74 (lv_at hl 0 rfl) ?_
      refine lv_iconst (v := 5) hx hb dX9_beads_76 (by decide) ?_
      refine lv_irem hx hb dX9_beads_77 (by decide) ?_
      refine lv_if_eq (tgt := 84) hx hb dX9_beads_78 (by decide) (fun hc => ?_) (fun hc => ?_)
      · have hf := ft hf hc
        refine lv_iload hx hb dX9_beads_84 (lv_at hl 5 rfl) ?_
        refine lv_iload hx hb dX9_beads_86 (lv_at hl 6 rfl) ?_
        refine lv_iadd hx hb dX9_beads_88 ?_
        refine lv_iload hx hb dX9_beads_89 (lv_at hl 0 rfl) ?_
        refine lv_iconst (v := 5) hx hb dX9_beads_91 (by decide) ?_
        refine lv_idiv hx hb dX9_beads_92 (by decide) ?_
        refine lv_iadd hx hb dX9_beads_93 ?_
        refine lv_istore (lv' := [(8, .int ((v5 + v6) + (((a1 - (12 * v5)) - (7 * v6)) / 5))), (7, .int ((a1 - (12 * v5)) - (7 * v6))), (1, .int a1), (2, .int a2), (3, .int v3), (4, .int v4), (5, .int v5), (6, .int v6)]) hx hb dX9_beads_94 hl (by decide) rfl (fun ls hl => ?_)
        refine lv_iload_n hx hb dX9_beads_96 rfl (lv_at hl 4 rfl) ?_
        refine lv_bipush (v := (-6)) hx hb dX9_beads_97 (by decide) ?_
        refine lv_icmp_ne (tgt := 107) hx hb dX9_beads_99 (by decide) (fun hc => ?_) (fun hc => ?_)
        · have hf := ff hf hc
          refine lv_iload_n hx hb dX9_beads_107 rfl (lv_at hl 4 rfl) ?_
          refine lv_iload hx hb dX9_beads_108 (lv_at hl 0 rfl) ?_
          refine va_mmin hx hb (hml.trans hl.1.symm) hown (hts _ mX9_beads_c198) (hts _ mX9_beads_smin) (hts _ mX9_beads_iMath) (hts _ mX9_beads_cdmin) (Nat.le_of_ble_eq_true rfl) (Nat.le_of_ble_eq_true rfl) (Nat.zero_le _) (Nat.zero_le _) dX9_beads_110 ?_
          exact BX9_beads_113 C hK hP hk32 hk44 (lv_sub hl [2, 3, 5, 6, 7] rfl) hf
        · have hf := ft hf hc
          refine lv_iload hx hb dX9_beads_102 (lv_at hl 0 rfl) ?_
          refine lv_goto (tgt := 113) hx hb dX9_beads_104 (by decide) ?_
          exact BX9_beads_113 C hK hP hk32 hk44 (lv_sub hl [2, 3, 5, 6, 7] rfl) hf
      · have hf := ff hf hc
        refine lv_goto (tgt := 117) hx hb dX9_beads_81 (by decide) ?_
        refine lv_iinc (v := v6 + 1) (lv' := [(6, .int (v6 + 1)), (7, .int ((a1 - (12 * v5)) - (7 * v6))), (1, .int a1), (2, .int a2), (3, .int v3), (4, .int v4), (5, .int v5)]) hx hb dX9_beads_117 hl (k := 6) rfl rfl (by decide) rfl (fun ls hl => ?_)
        refine lv_goto (tgt := 44) hx hb dX9_beads_120 (by decide) ?_
        exact hk44 _ _ _ _ _ (lv_sub hl [2, 3, 4, 5, 6, 0] rfl) hf
def bX9_beads_32 (k32 : Int32 × Int32 × Int32 → Option (Int32)) (a1 : Int32) (a2 : Int32) (v3 : Int32) (v4 : Int32) (v5 : Int32) : Option (Int32) :=
  if a1 < (12 * v5) then if a2 = 0 then some v3 else some v4 else loopF (fun k q => bX9_beads_44 k32 k a1 q.1 q.2.1 q.2.2.1 q.2.2.2) FU (v3, v4, v5, 0)
set_option maxRecDepth 100000 in
set_option maxHeartbeats 4000000 in
theorem BX9_beads_32 {p : Program} {l : Launch} {e : Env} {s : State} {m : MethodId} {below : List Frame} {meth : Method} {c : Code} {D : va_G} {ty : TY} {A_t A_t_house A_t_pad A_t_hours A_t_laws A_t_sights A_t_worlds A_t_trialYear A_t_images : Nat} {a1 : Int32} {a2 : Int32} {q0 : Int32} (C : cx p s m [.ref A_t, .int a1, .int a2] meth c cX9_beads 9 (some .int) RX9 wsX9_beads) (hK : KK D ty s) (hP : va_P D vwCl [(A_t, .inr (8, [.ref A_t_house, .ref A_t_pad, .ref A_t_hours, .ref A_t_laws, .ref A_t_sights, .ref A_t_worlds, .ref A_t_trialYear, .ref A_t_images]))] s.heap)   : ∀ (n : Nat) (v3 : Int32) (v4 : Int32) (v5 : Int32) (ls : Array Slot), lv_has ls 9 [(1, .int a1), (2, .int a2), (3, .int v3), (4, .int v4), (5, .int v5)] → loopF (fun k q => bX9_beads_32 k a1 a2 q.1 q.2.1 q.2.2) n (v3, v4, v5) = some q0 → WRi p l e rmX9_beads s m [.ref A_t, .int a1, .int a2] below meth c q0 (F0 m 32 ls []) := by
  obtain ⟨hx, hb, hr, hml, hown, hts, hlocks⟩ := id C
  intro n
  induction n with
  | zero =>
    intro v3 v4 v5 ls hl hf
    cases hf
  | succ n ih =>
    intro v3 v4 v5 ls hl hf
    have hf : bX9_beads_32 (loopF (fun k q => bX9_beads_32 k a1 a2 q.1 q.2.1 q.2.2) n) a1 a2 v3 v4 v5 = some q0 := hf
    have hk32 := ih
    unfold bX9_beads_32 at hf
    refine lv_bipush (v := 12) hx hb dX9_beads_32 (by decide) ?_
    refine lv_iload hx hb dX9_beads_34 (lv_at hl 4 rfl) ?_
    refine lv_imul hx hb dX9_beads_36 ?_
    refine lv_iload_n hx hb dX9_beads_37 rfl (lv_at hl 0 rfl) ?_
    refine lv_icmp_gt (tgt := 129) hx hb dX9_beads_38 (by decide) (fun hc => ?_) (fun hc => ?_)
    · have hf := ft hf hc
      refine lv_iload_n hx hb dX9_beads_129 rfl (lv_at hl 1 rfl) ?_
      refine lv_if_ne (tgt := 137) hx hb dX9_beads_130 (by decide) (fun hc => ?_) (fun hc => ?_)
      · have hf := ff hf hc
        refine lv_iload hx hb dX9_beads_137 (lv_at hl 3 rfl) ?_
        exact ret_ri hx hb hr hlocks hf dX9_beads_139
      · have hf := ft hf hc
        refine lv_iload_n hx hb dX9_beads_133 rfl (lv_at hl 2 rfl) ?_
        refine lv_goto (tgt := 139) hx hb dX9_beads_134 (by decide) ?_
        exact ret_ri hx hb hr hlocks hf dX9_beads_139
    · have hf := ff hf hc
      refine lv_iconst (v := 0) hx hb dX9_beads_41 (by decide) ?_
      refine lv_istore (lv' := [(6, .int 0), (1, .int a1), (2, .int a2), (3, .int v3), (4, .int v4), (5, .int v5)]) hx hb dX9_beads_42 hl (by decide) rfl (fun ls hl => ?_)
      exact BX9_beads_44 C hK hP hk32 FU _ _ _ _ _ (lv_sub hl [1, 2, 3, 4, 5, 0] rfl) hf
def fX9_beads (a1 : Int32) (a2 : Int32) : Option (Int32) :=
  (fX9_isWithin a1 0 200).bind fun r5 => if r5 = 0 then some (-2) else (fX9_isWithin a2 0 1).bind fun r14 => if r14 = 0 then some (-2) else loopF (fun k q => bX9_beads_32 k a1 a2 q.1 q.2.1 q.2.2) FU ((-6), 0, 0)
set_option maxRecDepth 100000 in
set_option maxHeartbeats 4000000 in
theorem CX9_beads (l : Launch) {D : va_G} {ty : TY} {A_t A_t_house A_t_pad A_t_hours A_t_laws A_t_sights A_t_worlds A_t_trialYear A_t_images : Nat} {a1 : Int32} {a2 : Int32} {q0 : Int32} (hf : fX9_beads a1 a2 = some q0) : ROi l yX9_beads wsX9_beads rmX9_beads D ty [.ref A_t, .int a1, .int a2] [(A_t, .inr (8, [.ref A_t_house, .ref A_t_pad, .ref A_t_hours, .ref A_t_laws, .ref A_t_sights, .ref A_t_worlds, .ref A_t_trialYear, .ref A_t_images]))] q0 := by
  refine ROi.start (cc := cX9_beads) (maxL := 9) (ret := (some .int)) (own := RX9) (by decide) rfl rfl (Nat.le_of_ble_eq_true rfl) ?_
  intro p e s m below meth c ls C hK hP hl
  obtain ⟨hx, hb, hr, hml, hown, hts, hlocks⟩ := id C
  have hl : lv_has ls 9 [(0, .ref A_t), (1, .int a1), (2, .int a2)] := hl
  unfold fX9_beads at hf
  refine lv_iload_n hx hb dX9_beads_0 rfl (lv_at hl 1 rfl) ?_
  refine lv_iconst (v := 0) hx hb dX9_beads_1 (by decide) ?_
  refine lv_sipush (v := 200) hx hb dX9_beads_2 (by decide) ?_
  obtain ⟨r5, hr5, hf⟩ := bnd hf
  have hPc : va_P D vwCl [] _ := hP.sub [] rfl
  refine callS_ri (As := [.int a1, .int 0, .int 200]) (rest := []) ⟨hx, hb, hml, hown, hts⟩ (CX9_isWithin l hr5) (va_cwS 3 hts gX9_beads_X9_isWithin rfl rfl rfl kkX9_isWithin.2 ⟨Nat.le_of_ble_eq_true rfl, Nat.le_of_ble_eq_true rfl⟩) hK hPc hl.1 rfl (Nat.le_of_ble_eq_true rfl) dX9_beads_5 ⟨Nat.zero_le _, Nat.zero_le _⟩ ?_
  refine lv_if_eq (tgt := 20) hx hb dX9_beads_8 (by decide) (fun hc => ?_) (fun hc => ?_)
  · have hf := ft hf hc
    refine lv_bipush (v := (-2)) hx hb dX9_beads_20 (by decide) ?_
    exact ret_ri hx hb hr hlocks hf dX9_beads_22
  · have hf := ff hf hc
    refine lv_iload_n hx hb dX9_beads_11 rfl (lv_at hl 2 rfl) ?_
    refine lv_iconst (v := 0) hx hb dX9_beads_12 (by decide) ?_
    refine lv_iconst (v := 1) hx hb dX9_beads_13 (by decide) ?_
    obtain ⟨r14, hr14, hf⟩ := bnd hf
    have hPc : va_P D vwCl [] _ := hP.sub [] rfl
    refine callS_ri (As := [.int a2, .int 0, .int 1]) (rest := []) ⟨hx, hb, hml, hown, hts⟩ (CX9_isWithin l hr14) (va_cwS 3 hts gX9_beads_X9_isWithin rfl rfl rfl kkX9_isWithin.2 ⟨Nat.le_of_ble_eq_true rfl, Nat.le_of_ble_eq_true rfl⟩) hK hPc hl.1 rfl (Nat.le_of_ble_eq_true rfl) dX9_beads_14 ⟨Nat.zero_le _, Nat.zero_le _⟩ ?_
    refine lv_if_ne (tgt := 23) hx hb dX9_beads_17 (by decide) (fun hc => ?_) (fun hc => ?_)
    · have hf := ff hf hc
      refine lv_bipush (v := (-6)) hx hb dX9_beads_23 (by decide) ?_
      refine lv_istore_n (lv' := [(3, .int (-6)), (0, .ref A_t), (1, .int a1), (2, .int a2)]) hx hb dX9_beads_25 rfl hl (by decide) rfl (fun ls hl => ?_)
      refine lv_iconst (v := 0) hx hb dX9_beads_26 (by decide) ?_
      refine lv_istore (lv' := [(4, .int 0), (3, .int (-6)), (0, .ref A_t), (1, .int a1), (2, .int a2)]) hx hb dX9_beads_27 hl (by decide) rfl (fun ls hl => ?_)
      refine lv_iconst (v := 0) hx hb dX9_beads_29 (by decide) ?_
      refine lv_istore (lv' := [(5, .int 0), (4, .int 0), (3, .int (-6)), (0, .ref A_t), (1, .int a1), (2, .int a2)]) hx hb dX9_beads_30 hl (by decide) rfl (fun ls hl => ?_)
      exact BX9_beads_32 C hK hP  FU _ _ _ _ (lv_sub hl [4, 5, 2, 1, 0] rfl) hf
    · have hf := ft hf hc
      refine lv_bipush (v := (-2)) hx hb dX9_beads_20 (by decide) ?_
      exact ret_ri hx hb hr hlocks hf dX9_beads_22
/-! ===== SilenceCount.bees(IIII)J ===== -/
abbrev rmX9_bees : Room := { frames := 3, cells := 0, slots := 0, locals := 66 }
theorem kkX9_bees : yX9_bees.cls = RX9 ∧ yX9_bees.cls ≠ "java/lang/invoke/MethodHandle" ∧ yX9_bees.cls ≠ "java/lang/invoke/VarHandle" ∧ (parseMethodDescriptor yX9_bees.desc).map (fun d => d.parameters.length) = some 4 := by decide +kernel
theorem mX9_bees_k222 : Cond.constantLong RX9 222 (-1000000000000000002) ∈ wsX9_bees := by decide +kernel
theorem mX9_bees_f10 : Cond.fieldLink RX9 10 "SilenceCount" "house" "LSilenceCount$House;" ∈ wsX9_bees := by decide +kernel
theorem mX9_bees_k224 : Cond.constantLong RX9 224 (-1000000000000000003) ∈ wsX9_bees := by decide +kernel
theorem wX9_bees_X9 : ∀ w ∈ u_ws RX9 TX9 8, w ∈ wsX9_bees := by decide +kernel
def bX9_bees_86 (t_house_start : Int32) (t_house_counts : Nat → Int32) (t_house_paces : Nat → Int32) (a4 : Int32) (v6 : Int64) (s0 : Int32) (s1 : Int32) (s2 : Int32) (s3 : Int32) : Option (Int64) :=
  (fX0_beesInTenths t_house_start t_house_counts t_house_paces s3 s2 s1 s0).bind fun r86 => (fX0_partInLowestTerms r86 v6 a4).bind fun r97 => some r97
set_option maxRecDepth 100000 in
set_option maxHeartbeats 4000000 in
theorem BX9_bees_86 {p : Program} {l : Launch} {e : Env} {s : State} {m : MethodId} {below : List Frame} {meth : Method} {c : Code} {D : va_G} {ty : TY} {A_t A_t_pad A_t_hours A_t_laws A_t_sights A_t_worlds A_t_trialYear A_t_images A_t_house A_t_house_counts A_t_house_paces : Nat} {t_house_there : Int32} {t_house_awake : Int32} {t_house_start : Int32} {t_house_sharp : Int32} {t_house_counts : Nat → Int32} {t_house_paces : Nat → Int32} {a1 : Int32} {a2 : Int32} {a3 : Int32} {a4 : Int32} {q0 : Int64} (C : cx p s m [.ref A_t, .int a1, .int a2, .int a3, .int a4] meth c cX9_bees 10 (some .long) RX9 wsX9_bees) (hK : KK D ty s) (hP : va_P D vwCl [(A_t, .inr (8, [.ref A_t_house, .ref A_t_pad, .ref A_t_hours, .ref A_t_laws, .ref A_t_sights, .ref A_t_worlds, .ref A_t_trialYear, .ref A_t_images])), (A_t_house, .inr (1, [.int t_house_there, .int t_house_awake, .int t_house_start, .int t_house_sharp, .ref A_t_house_counts, .ref A_t_house_paces])), (A_t_house_counts, .inl (ty.1, 8, .inl t_house_counts)), (A_t_house_paces, .inl (ty.1, 8, .inl t_house_paces))] s.heap)   {v6 : Int64} {s0 : Int32} {s1 : Int32} {s2 : Int32} {s3 : Int32} {ls : Array Slot} (hl : lv_has ls 10 [(4, .int a4), (6, .long v6)]) (hf : bX9_bees_86 t_house_start t_house_counts t_house_paces a4 v6 s0 s1 s2 s3 = some q0) : WRl p l e rmX9_bees s m [.ref A_t, .int a1, .int a2, .int a3, .int a4] below meth c q0 (F0 m 86 ls [.int s0, .int s1, .int s2, .int s3, .ref A_t_house]) := by
  obtain ⟨hx, hb, hr, hml, hown, hts, hlocks⟩ := id C
  unfold bX9_bees_86 at hf
  obtain ⟨r86, hr86, hf⟩ := bnd hf
  have hPc : va_P D vwCl [(A_t_house, .inr (1, [.int t_house_there, .int t_house_awake, .int t_house_start, .int t_house_sharp, .ref A_t_house_counts, .ref A_t_house_paces])), (A_t_house_counts, .inl (ty.1, 8, .inl t_house_counts)), (A_t_house_paces, .inl (ty.1, 8, .inl t_house_paces))] _ := hP.sub [1, 2, 3] rfl
  refine callS_rl (As := [.ref A_t_house, .int s3, .int s2, .int s1, .int s0]) (rest := []) ⟨hx, hb, hml, hown, hts⟩ (CX0_beesInTenths l hr86) (va_cwS 5 hts gX9_bees_X0_beesInTenths rfl rfl rfl kkX0_beesInTenths.2 ⟨Nat.le_of_ble_eq_true rfl, Nat.le_of_ble_eq_true rfl⟩) hK hPc hl.1 rfl (Nat.le_of_ble_eq_true rfl) dX9_bees_86 ⟨Nat.zero_le _, Nat.zero_le _⟩ ?_
  refine lv_lstore (lv' := [(8, .long r86), (4, .int a4), (6, .long v6)]) hx hb dX9_bees_89 hl (by decide) rfl (fun ls hl => ?_)
  refine lv_lload hx hb dX9_bees_91 (lv_at hl 0 rfl) ?_
  refine lv_lload hx hb dX9_bees_93 (lv_at hl 2 rfl) ?_
  refine lv_iload hx hb dX9_bees_95 (lv_at hl 1 rfl) ?_
  obtain ⟨r97, hr97, hf⟩ := bnd hf
  have hPc : va_P D vwCl [] _ := hP.sub [] rfl
  refine callS_rl (As := [.long r86, .long v6, .int a4]) (rest := []) ⟨hx, hb, hml, hown, hts⟩ (CX0_partInLowestTerms l hr97) (va_cwS 3 hts gX9_bees_X0_partInLowestTerms rfl rfl rfl kkX0_partInLowestTerms.2 ⟨Nat.le_of_ble_eq_true rfl, Nat.le_of_ble_eq_true rfl⟩) hK hPc hl.1 rfl (Nat.le_of_ble_eq_true rfl) dX9_bees_97 ⟨Nat.zero_le _, Nat.zero_le _⟩ ?_
  exact ret_rl hx hb hr hlocks hf dX9_bees_100
def fX9_bees (t_house_awake : Int32) (t_house_start : Int32) (t_house_counts : Nat → Int32) (t_house_paces : Nat → Int32) (a1 : Int32) (a2 : Int32) (a3 : Int32) (a4 : Int32) : Option (Int64) :=
  (fX9_isWithin a1 0 10).bind fun r4 => if r4 = 0 then some (-1000000000000000002) else (fX9_isWithin a2 0 10).bind fun r14 => if r14 = 0 then some (-1000000000000000002) else (fX9_isWithin a3 0 1).bind fun r23 => if r23 = 0 then some (-1000000000000000002) else (fX9_isWithin a4 0 1).bind fun r33 => if r33 = 0 then some (-1000000000000000002) else (fX2_foremost t_house_awake t_house_counts).bind fun r47 => if r47 = (-1) then some (-1000000000000000003) else (fX0_powerOfTen a1).bind fun r63 => if a3 = 1 then bX9_bees_86 t_house_start t_house_counts t_house_paces a4 r63 1 a2 a1 r47 else bX9_bees_86 t_house_start t_house_counts t_house_paces a4 r63 0 a2 a1 r47
set_option maxRecDepth 100000 in
set_option maxHeartbeats 4000000 in
theorem CX9_bees (l : Launch) {D : va_G} {ty : TY} {A_t A_t_pad A_t_hours A_t_laws A_t_sights A_t_worlds A_t_trialYear A_t_images A_t_house A_t_house_counts A_t_house_paces : Nat} {t_house_there : Int32} {t_house_awake : Int32} {t_house_start : Int32} {t_house_sharp : Int32} {t_house_counts : Nat → Int32} {t_house_paces : Nat → Int32} {a1 : Int32} {a2 : Int32} {a3 : Int32} {a4 : Int32} {q0 : Int64} (hf : fX9_bees t_house_awake t_house_start t_house_counts t_house_paces a1 a2 a3 a4 = some q0) : ROl l yX9_bees wsX9_bees rmX9_bees D ty [.ref A_t, .int a1, .int a2, .int a3, .int a4] [(A_t, .inr (8, [.ref A_t_house, .ref A_t_pad, .ref A_t_hours, .ref A_t_laws, .ref A_t_sights, .ref A_t_worlds, .ref A_t_trialYear, .ref A_t_images])), (A_t_house, .inr (1, [.int t_house_there, .int t_house_awake, .int t_house_start, .int t_house_sharp, .ref A_t_house_counts, .ref A_t_house_paces])), (A_t_house_counts, .inl (ty.1, 8, .inl t_house_counts)), (A_t_house_paces, .inl (ty.1, 8, .inl t_house_paces))] q0 := by
  refine ROl.start (cc := cX9_bees) (maxL := 10) (ret := (some .long)) (own := RX9) (by decide) rfl rfl (Nat.le_of_ble_eq_true rfl) ?_
  intro p e s m below meth c ls C hK hP hl
  obtain ⟨hx, hb, hr, hml, hown, hts, hlocks⟩ := id C
  have hl : lv_has ls 10 [(0, .ref A_t), (1, .int a1), (2, .int a2), (3, .int a3), (4, .int a4)] := hl
  unfold fX9_bees at hf
  refine lv_iload_n hx hb dX9_bees_0 rfl (lv_at hl 1 rfl) ?_
  refine lv_iconst (v := 0) hx hb dX9_bees_1 (by decide) ?_
  refine lv_bipush (v := 10) hx hb dX9_bees_2 (by decide) ?_
  obtain ⟨r4, hr4, hf⟩ := bnd hf
  have hPc : va_P D vwCl [] _ := hP.sub [] rfl
  refine callS_ri (As := [.int a1, .int 0, .int 10]) (rest := []) ⟨hx, hb, hml, hown, hts⟩ (CX9_isWithin l hr4) (va_cwS 3 hts gX9_bees_X9_isWithin rfl rfl rfl kkX9_isWithin.2 ⟨Nat.le_of_ble_eq_true rfl, Nat.le_of_ble_eq_true rfl⟩) hK hPc hl.1 rfl (Nat.le_of_ble_eq_true rfl) dX9_bees_4 ⟨Nat.zero_le _, Nat.zero_le _⟩ ?_
  refine lv_if_eq (tgt := 39) hx hb dX9_bees_7 (by decide) (fun hc => ?_) (fun hc => ?_)
  · have hf := ft hf hc
    refine lv_ldc2 (v := (-1000000000000000002)) hx hb hown (hts _ mX9_bees_k222) dX9_bees_39 ?_
    exact ret_rl hx hb hr hlocks hf dX9_bees_42
  · have hf := ff hf hc
    refine lv_iload_n hx hb dX9_bees_10 rfl (lv_at hl 2 rfl) ?_
    refine lv_iconst (v := 0) hx hb dX9_bees_11 (by decide) ?_
    refine lv_bipush (v := 10) hx hb dX9_bees_12 (by decide) ?_
    obtain ⟨r14, hr14, hf⟩ := bnd hf
    have hPc : va_P D vwCl [] _ := hP.sub [] rfl
    refine callS_ri (As := [.int a2, .int 0, .int 10]) (rest := []) ⟨hx, hb, hml, hown, hts⟩ (CX9_isWithin l hr14) (va_cwS 3 hts gX9_bees_X9_isWithin rfl rfl rfl kkX9_isWithin.2 ⟨Nat.le_of_ble_eq_true rfl, Nat.le_of_ble_eq_true rfl⟩) hK hPc hl.1 rfl (Nat.le_of_ble_eq_true rfl) dX9_bees_14 ⟨Nat.zero_le _, Nat.zero_le _⟩ ?_
    refine lv_if_eq (tgt := 39) hx hb dX9_bees_17 (by decide) (fun hc => ?_) (fun hc => ?_)
    · have hf := ft hf hc
      refine lv_ldc2 (v := (-1000000000000000002)) hx hb hown (hts _ mX9_bees_k222) dX9_bees_39 ?_
      exact ret_rl hx hb hr hlocks hf dX9_bees_42
    · have hf := ff hf hc
      refine lv_iload_n hx hb dX9_bees_20 rfl (lv_at hl 3 rfl) ?_
      refine lv_iconst (v := 0) hx hb dX9_bees_21 (by decide) ?_
      refine lv_iconst (v := 1) hx hb dX9_bees_22 (by decide) ?_
      obtain ⟨r23, hr23, hf⟩ := bnd hf
      have hPc : va_P D vwCl [] _ := hP.sub [] rfl
      refine callS_ri (As := [.int a3, .int 0, .int 1]) (rest := []) ⟨hx, hb, hml, hown, hts⟩ (CX9_isWithin l hr23) (va_cwS 3 hts gX9_bees_X9_isWithin rfl rfl rfl kkX9_isWithin.2 ⟨Nat.le_of_ble_eq_true rfl, Nat.le_of_ble_eq_true rfl⟩) hK hPc hl.1 rfl (Nat.le_of_ble_eq_true rfl) dX9_bees_23 ⟨Nat.zero_le _, Nat.zero_le _⟩ ?_
      refine lv_if_eq (tgt := 39) hx hb dX9_bees_26 (by decide) (fun hc => ?_) (fun hc => ?_)
      · have hf := ft hf hc
        refine lv_ldc2 (v := (-1000000000000000002)) hx hb hown (hts _ mX9_bees_k222) dX9_bees_39 ?_
        exact ret_rl hx hb hr hlocks hf dX9_bees_42
      · have hf := ff hf hc
        refine lv_iload hx hb dX9_bees_29 (lv_at hl 4 rfl) ?_
        refine lv_iconst (v := 0) hx hb dX9_bees_31 (by decide) ?_
        refine lv_iconst (v := 1) hx hb dX9_bees_32 (by decide) ?_
        obtain ⟨r33, hr33, hf⟩ := bnd hf
        have hPc : va_P D vwCl [] _ := hP.sub [] rfl
        refine callS_ri (As := [.int a4, .int 0, .int 1]) (rest := []) ⟨hx, hb, hml, hown, hts⟩ (CX9_isWithin l hr33) (va_cwS 3 hts gX9_bees_X9_isWithin rfl rfl rfl kkX9_isWithin.2 ⟨Nat.le_of_ble_eq_true rfl, Nat.le_of_ble_eq_true rfl⟩) hK hPc hl.1 rfl (Nat.le_of_ble_eq_true rfl) dX9_bees_33 ⟨Nat.zero_le _, Nat.zero_le _⟩ ?_
        refine lv_if_ne (tgt := 43) hx hb dX9_bees_36 (by decide) (fun hc => ?_) (fun hc => ?_)
        · have hf := ff hf hc
          refine lv_aload_n hx hb dX9_bees_43 rfl (lv_at hl 0 rfl) ?_
          refine va_get (D := D) (ci := 8) (v := .ref A_t_house) (C := RX9) (T := TX9) (N := 8) hx hb hts wX9_bees_X9 hown hK.1 hP 0 rfl rfl 0 (by decide) (hts _ mX9_bees_f10) (fun _ h9 => h9) rfl dX9_bees_44 ?_
          obtain ⟨r47, hr47, hf⟩ := bnd hf
          have hPc : va_P D vwCl [(A_t_house, .inr (1, [.int t_house_there, .int t_house_awake, .int t_house_start, .int t_house_sharp, .ref A_t_house_counts, .ref A_t_house_paces])), (A_t_house_counts, .inl (ty.1, 8, .inl t_house_counts)), (A_t_house_paces, .inl (ty.1, 8, .inl t_house_paces))] _ := hP.sub [1, 2, 3] rfl
          refine callV_ri (As := []) (rest := []) ⟨hx, hb, hml, hown, hts⟩ (CX2_foremost l hr47) (cwV 0 hts gX9_bees_X2_foremost rfl rfl rfl kkX2_foremost ⟨Nat.le_of_ble_eq_true rfl, Nat.le_of_ble_eq_true rfl⟩) hK hPc 0 rfl rfl rfl hl.1 rfl (Nat.le_of_ble_eq_true rfl) dX9_bees_47 ⟨Nat.zero_le _, Nat.zero_le _⟩ ?_
          refine lv_istore (lv' := [(5, .int r47), (0, .ref A_t), (1, .int a1), (2, .int a2), (3, .int a3), (4, .int a4)]) hx hb dX9_bees_50 hl (by decide) rfl (fun ls hl => ?_)
          refine lv_iload hx hb dX9_bees_52 (lv_at hl 0 rfl) ?_
          refine lv_iconst (v := (-1)) hx hb dX9_bees_54 (by decide) ?_
          refine lv_icmp_ne (tgt := 62) hx hb dX9_bees_55 (by decide) (fun hc => ?_) (fun hc => ?_)
          · have hf := ff hf hc
            refine lv_iload_n hx hb dX9_bees_62 rfl (lv_at hl 2 rfl) ?_
            obtain ⟨r63, hr63, hf⟩ := bnd hf
            have hPc : va_P D vwCl [] _ := hP.sub [] rfl
            refine callS_rl (As := [.int a1]) (rest := []) ⟨hx, hb, hml, hown, hts⟩ (CX0_powerOfTen l hr63) (va_cwS 1 hts gX9_bees_X0_powerOfTen rfl rfl rfl kkX0_powerOfTen.2 ⟨Nat.le_of_ble_eq_true rfl, Nat.le_of_ble_eq_true rfl⟩) hK hPc hl.1 rfl (Nat.le_of_ble_eq_true rfl) dX9_bees_63 ⟨Nat.zero_le _, Nat.zero_le _⟩ ?_
            refine lv_lstore (lv' := [(6, .long r63), (5, .int r47), (0, .ref A_t), (1, .int a1), (2, .int a2), (3, .int a3), (4, .int a4)]) hx hb dX9_bees_66 hl (by decide) rfl (fun ls hl => ?_)
            refine lv_aload_n hx hb dX9_bees_68 rfl (lv_at hl 2 rfl) ?_
            refine va_get (D := D) (ci := 8) (v := .ref A_t_house) (C := RX9) (T := TX9) (N := 8) hx hb hts wX9_bees_X9 hown hK.1 hP 0 rfl rfl 0 (by decide) (hts _ mX9_bees_f10) (fun _ h9 => h9) rfl dX9_bees_69 ?_
            refine lv_iload hx hb dX9_bees_72 (lv_at hl 1 rfl) ?_
            refine lv_iload_n hx hb dX9_bees_74 rfl (lv_at hl 3 rfl) ?_
            refine lv_iload_n hx hb dX9_bees_75 rfl (lv_at hl 4 rfl) ?_
            refine lv_iload_n hx hb dX9_bees_76 rfl (lv_at hl 5 rfl) ?_
            refine lv_iconst (v := 1) hx hb dX9_bees_77 (by decide) ?_
            refine lv_icmp_ne (tgt := 85) hx hb dX9_bees_78 (by decide) (fun hc => ?_) (fun hc => ?_)
            · have hf := ff hf hc
              refine lv_iconst (v := 0) hx hb dX9_bees_85 (by decide) ?_
              exact BX9_bees_86 C hK hP  (lv_sub hl [6, 0] rfl) hf
            · have hf := ft hf hc
              refine lv_iconst (v := 1) hx hb dX9_bees_81 (by decide) ?_
              refine lv_goto (tgt := 86) hx hb dX9_bees_82 (by decide) ?_
              exact BX9_bees_86 C hK hP  (lv_sub hl [6, 0] rfl) hf
          · have hf := ft hf hc
            refine lv_ldc2 (v := (-1000000000000000003)) hx hb hown (hts _ mX9_bees_k224) dX9_bees_58 ?_
            exact ret_rl hx hb hr hlocks hf dX9_bees_61
        · have hf := ft hf hc
          refine lv_ldc2 (v := (-1000000000000000002)) hx hb hown (hts _ mX9_bees_k222) dX9_bees_39 ?_
          exact ret_rl hx hb hr hlocks hf dX9_bees_42
/-! ===== SilenceCount.behind(II)I ===== -/
abbrev rmX9_behind : Room := { frames := 6, cells := 0, slots := 0, locals := 137 }
theorem kkX9_behind : yX9_behind.cls = RX9 ∧ yX9_behind.cls ≠ "java/lang/invoke/MethodHandle" ∧ yX9_behind.cls ≠ "java/lang/invoke/VarHandle" ∧ (parseMethodDescriptor yX9_behind.desc).map (fun d => d.parameters.length) = some 2 := by decide +kernel
theorem mX9_behind_f10 : Cond.fieldLink RX9 10 "SilenceCount" "house" "LSilenceCount$House;" ∈ wsX9_behind := by decide +kernel
theorem mX9_behind_f26 : Cond.fieldLink RX9 26 "SilenceCount" "hours" "LSilenceCount$Hours;" ∈ wsX9_behind := by decide +kernel
theorem mX9_behind_f19 : Cond.fieldLink RX9 19 "SilenceCount" "pad" "LSilenceCount$Pad;" ∈ wsX9_behind := by decide +kernel
theorem mX9_behind_f134 : Cond.fieldLink RX9 134 "SilenceCount$Hours" "house" "LSilenceCount$House;" ∈ wsX9_behind := by decide +kernel
theorem wX9_behind_X1 : ∀ w ∈ u_ws RX1 TX1 7, w ∈ wsX9_behind := by decide +kernel
theorem wX9_behind_X9 : ∀ w ∈ u_ws RX9 TX9 8, w ∈ wsX9_behind := by decide +kernel
def fX9_behind (t_house_there : Int32) (t_house_awake : Int32) (t_house_start : Int32) (t_house_sharp : Int32) (t_house_counts : Nat → Int32) (t_house_paces : Nat → Int32) (t_pad_size : Int32) (t_pad_acts : Int32) (t_pad_signs : Nat → Int32) (t_pad_actMonks : Nat → Int32) (t_pad_actSigns : Nat → Int32) (t_hours_hasFault : Int32) (t_hours_wrongAct : Int32) (t_hours_why : Int32) (t_hours_breathsSoFar : Int32) (t_hours_breathOfFirstNought : Int32) (t_hours_firstNoticed : Int32) (t_hours_house_there : Int32) (t_hours_house_awake : Int32) (t_hours_house_start : Int32) (t_hours_house_sharp : Int32) (t_hours_house_counts : Nat → Int32) (t_hours_house_paces : Nat → Int32) (a1 : Int32) (a2 : Int32) : Option (Int32 × Int32 × (Nat → Int32) × (Nat → Int32) × Int32 × Int32 × Int32 × Int32 × Int32 × Int32 × Int32 × Int32 × Int32 × Int32 × (Nat → Int32) × (Nat → Int32)) :=
  (fX2_isThere t_house_there a1).bind fun r5 => if r5 = 0 then some ((-1), t_pad_acts, t_pad_actMonks, t_pad_actSigns, t_hours_hasFault, t_hours_wrongAct, t_hours_why, t_hours_breathsSoFar, t_hours_breathOfFirstNought, t_hours_firstNoticed, t_hours_house_there, t_hours_house_awake, t_hours_house_start, t_hours_house_sharp, t_hours_house_counts, t_hours_house_paces) else (fX9_isWithin a2 0 1).bind fun r16 => if r16 = 0 then some ((-2), t_pad_acts, t_pad_actMonks, t_pad_actSigns, t_hours_hasFault, t_hours_wrongAct, t_hours_why, t_hours_breathsSoFar, t_hours_breathOfFirstNought, t_hours_firstNoticed, t_hours_house_there, t_hours_house_awake, t_hours_house_start, t_hours_house_sharp, t_hours_house_counts, t_hours_house_paces) else (fX1_follow t_hours_hasFault t_hours_wrongAct t_hours_why t_hours_breathsSoFar t_hours_breathOfFirstNought t_hours_firstNoticed t_hours_house_there t_hours_house_awake t_hours_house_start t_hours_house_sharp t_hours_house_counts t_hours_house_paces t_pad_size t_pad_acts t_pad_signs t_pad_actMonks t_pad_actSigns t_house_there t_house_awake t_house_start t_house_sharp t_house_counts t_house_paces).bind fun r37 => if r37.1 = 0 then some ((-5), r37.2.2.2.2.2.2.2.2.2.2.2.2.2.1, r37.2.2.2.2.2.2.2.2.2.2.2.2.2.2.1, r37.2.2.2.2.2.2.2.2.2.2.2.2.2.2.2, r37.2.1, r37.2.2.1, r37.2.2.2.1, r37.2.2.2.2.1, r37.2.2.2.2.2.1, r37.2.2.2.2.2.2.1, r37.2.2.2.2.2.2.2.1, r37.2.2.2.2.2.2.2.2.1, r37.2.2.2.2.2.2.2.2.2.1, r37.2.2.2.2.2.2.2.2.2.2.1, r37.2.2.2.2.2.2.2.2.2.2.2.1, r37.2.2.2.2.2.2.2.2.2.2.2.2.1) else (fX2_tell r37.2.2.2.2.2.2.2.2.1 r37.2.2.2.2.2.2.2.2.2.2.2.1 a1 a2).bind fun r52 => some (r52, r37.2.2.2.2.2.2.2.2.2.2.2.2.2.1, r37.2.2.2.2.2.2.2.2.2.2.2.2.2.2.1, r37.2.2.2.2.2.2.2.2.2.2.2.2.2.2.2, r37.2.1, r37.2.2.1, r37.2.2.2.1, r37.2.2.2.2.1, r37.2.2.2.2.2.1, r37.2.2.2.2.2.2.1, r37.2.2.2.2.2.2.2.1, r37.2.2.2.2.2.2.2.2.1, r37.2.2.2.2.2.2.2.2.2.1, r37.2.2.2.2.2.2.2.2.2.2.1, r37.2.2.2.2.2.2.2.2.2.2.2.1, r37.2.2.2.2.2.2.2.2.2.2.2.2.1)
set_option maxRecDepth 100000 in
set_option maxHeartbeats 4000000 in
theorem CX9_behind (l : Launch) {D : va_G} {ty : TY} {A_t A_t_laws A_t_sights A_t_worlds A_t_trialYear A_t_images A_t_house A_t_house_counts A_t_house_paces A_t_pad A_t_pad_signs A_t_pad_actMonks A_t_pad_actSigns A_t_hours A_t_hours_house A_t_hours_house_counts A_t_hours_house_paces : Nat} {t_house_there : Int32} {t_house_awake : Int32} {t_house_start : Int32} {t_house_sharp : Int32} {t_house_counts : Nat → Int32} {t_house_paces : Nat → Int32} {t_pad_size : Int32} {t_pad_acts : Int32} {t_pad_signs : Nat → Int32} {t_pad_actMonks : Nat → Int32} {t_pad_actSigns : Nat → Int32} {t_hours_hasFault : Int32} {t_hours_wrongAct : Int32} {t_hours_why : Int32} {t_hours_breathsSoFar : Int32} {t_hours_breathOfFirstNought : Int32} {t_hours_firstNoticed : Int32} {t_hours_house_there : Int32} {t_hours_house_awake : Int32} {t_hours_house_start : Int32} {t_hours_house_sharp : Int32} {t_hours_house_counts : Nat → Int32} {t_hours_house_paces : Nat → Int32} {a1 : Int32} {a2 : Int32} {q0 : Int32 × Int32 × (Nat → Int32) × (Nat → Int32) × Int32 × Int32 × Int32 × Int32 × Int32 × Int32 × Int32 × Int32 × Int32 × Int32 × (Nat → Int32) × (Nat → Int32)} (hf : fX9_behind t_house_there t_house_awake t_house_start t_house_sharp t_house_counts t_house_paces t_pad_size t_pad_acts t_pad_signs t_pad_actMonks t_pad_actSigns t_hours_hasFault t_hours_wrongAct t_hours_why t_hours_breathsSoFar t_hours_breathOfFirstNought t_hours_firstNoticed t_hours_house_there t_hours_house_awake t_hours_house_start t_hours_house_sharp t_hours_house_counts t_hours_house_paces a1 a2 = some q0) : RWi l yX9_behind wsX9_behind rmX9_behind D ty [.ref A_t, .int a1, .int a2] [(A_t, .inr (8, [.ref A_t_house, .ref A_t_pad, .ref A_t_hours, .ref A_t_laws, .ref A_t_sights, .ref A_t_worlds, .ref A_t_trialYear, .ref A_t_images])), (A_t_house, .inr (1, [.int t_house_there, .int t_house_awake, .int t_house_start, .int t_house_sharp, .ref A_t_house_counts, .ref A_t_house_paces])), (A_t_house_counts, .inl (ty.1, 8, .inl t_house_counts)), (A_t_house_paces, .inl (ty.1, 8, .inl t_house_paces)), (A_t_pad, .inr (4, [.int t_pad_size, .ref A_t_pad_signs, .int t_pad_acts, .ref A_t_pad_actMonks, .ref A_t_pad_actSigns])), (A_t_pad_signs, .inl (ty.1, 60, .inl t_pad_signs)), (A_t_pad_actMonks, .inl (ty.1, 60, .inl t_pad_actMonks)), (A_t_pad_actSigns, .inl (ty.1, 60, .inl t_pad_actSigns)), (A_t_hours, .inr (0, [.ref A_t_hours_house, .int t_hours_hasFault, .int t_hours_wrongAct, .int t_hours_why, .int t_hours_breathsSoFar, .int t_hours_breathOfFirstNought, .int t_hours_firstNoticed])), (A_t_hours_house, .inr (1, [.int t_hours_house_there, .int t_hours_house_awake, .int t_hours_house_start, .int t_hours_house_sharp, .ref A_t_hours_house_counts, .ref A_t_hours_house_paces])), (A_t_hours_house_counts, .inl (ty.1, 8, .inl t_hours_house_counts)), (A_t_hours_house_paces, .inl (ty.1, 8, .inl t_hours_house_paces))] q0.1 [(A_t, .inr (8, [.ref A_t_house, .ref A_t_pad, .ref A_t_hours, .ref A_t_laws, .ref A_t_sights, .ref A_t_worlds, .ref A_t_trialYear, .ref A_t_images])), (A_t_house, .inr (1, [.int t_house_there, .int t_house_awake, .int t_house_start, .int t_house_sharp, .ref A_t_house_counts, .ref A_t_house_paces])), (A_t_house_counts, .inl (ty.1, 8, .inl t_house_counts)), (A_t_house_paces, .inl (ty.1, 8, .inl t_house_paces)), (A_t_pad, .inr (4, [.int t_pad_size, .ref A_t_pad_signs, .int q0.2.1, .ref A_t_pad_actMonks, .ref A_t_pad_actSigns])), (A_t_pad_signs, .inl (ty.1, 60, .inl t_pad_signs)), (A_t_pad_actMonks, .inl (ty.1, 60, .inl q0.2.2.1)), (A_t_pad_actSigns, .inl (ty.1, 60, .inl q0.2.2.2.1)), (A_t_hours, .inr (0, [.ref A_t_hours_house, .int q0.2.2.2.2.1, .int q0.2.2.2.2.2.1, .int q0.2.2.2.2.2.2.1, .int q0.2.2.2.2.2.2.2.1, .int q0.2.2.2.2.2.2.2.2.1, .int q0.2.2.2.2.2.2.2.2.2.1])), (A_t_hours_house, .inr (1, [.int q0.2.2.2.2.2.2.2.2.2.2.1, .int q0.2.2.2.2.2.2.2.2.2.2.2.1, .int q0.2.2.2.2.2.2.2.2.2.2.2.2.1, .int q0.2.2.2.2.2.2.2.2.2.2.2.2.2.1, .ref A_t_hours_house_counts, .ref A_t_hours_house_paces])), (A_t_hours_house_counts, .inl (ty.1, 8, .inl q0.2.2.2.2.2.2.2.2.2.2.2.2.2.2.1)), (A_t_hours_house_paces, .inl (ty.1, 8, .inl q0.2.2.2.2.2.2.2.2.2.2.2.2.2.2.2))] := by
  refine RWi.start (cc := cX9_behind) (maxL := 3) (ret := (some .int)) (own := RX9) (by decide) rfl rfl (Nat.le_of_ble_eq_true rfl) ?_
  intro p e s m below meth c ls C hK hP hD hS hl
  obtain ⟨WC, hWC⟩ : ∃ w : va_W, w = [(A_t, .inr (8, [.ref A_t_house, .ref A_t_pad, .ref A_t_hours, .ref A_t_laws, .ref A_t_sights, .ref A_t_worlds, .ref A_t_trialYear, .ref A_t_images])), (A_t_house, .inr (1, [.int t_house_there, .int t_house_awake, .int t_house_start, .int t_house_sharp, .ref A_t_house_counts, .ref A_t_house_paces])), (A_t_house_counts, .inl (ty.1, 8, .inl t_house_counts)), (A_t_house_paces, .inl (ty.1, 8, .inl t_house_paces)), (A_t_pad, .inr (4, [.int t_pad_size, .ref A_t_pad_signs, .int t_pad_acts, .ref A_t_pad_actMonks, .ref A_t_pad_actSigns])), (A_t_pad_signs, .inl (ty.1, 60, .inl t_pad_signs)), (A_t_pad_actMonks, .inl (ty.1, 60, .inl t_pad_actMonks)), (A_t_pad_actSigns, .inl (ty.1, 60, .inl t_pad_actSigns)), (A_t_hours, .inr (0, [.ref A_t_hours_house, .int t_hours_hasFault, .int t_hours_wrongAct, .int t_hours_why, .int t_hours_breathsSoFar, .int t_hours_breathOfFirstNought, .int t_hours_firstNoticed])), (A_t_hours_house, .inr (1, [.int t_hours_house_there, .int t_hours_house_awake, .int t_hours_house_start, .int t_hours_house_sharp, .ref A_t_hours_house_counts, .ref A_t_hours_house_paces])), (A_t_hours_house_counts, .inl (ty.1, 8, .inl t_hours_house_counts)), (A_t_hours_house_paces, .inl (ty.1, 8, .inl t_hours_house_paces))] := ⟨_, rfl⟩
  rw [← hWC] at hD hS ⊢
  have hD : va_D (va_A WC s.heap.size) [(A_t, .inr (8, [.ref A_t_house, .ref A_t_pad, .ref A_t_hours, .ref A_t_laws, .ref A_t_sights, .ref A_t_worlds, .ref A_t_trialYear, .ref A_t_images])), (A_t_house, .inr (1, [.int t_house_there, .int t_house_awake, .int t_house_start, .int t_house_sharp, .ref A_t_house_counts, .ref A_t_house_paces])), (A_t_house_counts, .inl (ty.1, 8, .inl t_house_counts)), (A_t_house_paces, .inl (ty.1, 8, .inl t_house_paces)), (A_t_pad, .inr (4, [.int t_pad_size, .ref A_t_pad_signs, .int t_pad_acts, .ref A_t_pad_actMonks, .ref A_t_pad_actSigns])), (A_t_pad_signs, .inl (ty.1, 60, .inl t_pad_signs)), (A_t_pad_actMonks, .inl (ty.1, 60, .inl t_pad_actMonks)), (A_t_pad_actSigns, .inl (ty.1, 60, .inl t_pad_actSigns)), (A_t_hours, .inr (0, [.ref A_t_hours_house, .int t_hours_hasFault, .int t_hours_wrongAct, .int t_hours_why, .int t_hours_breathsSoFar, .int t_hours_breathOfFirstNought, .int t_hours_firstNoticed])), (A_t_hours_house, .inr (1, [.int t_hours_house_there, .int t_hours_house_awake, .int t_hours_house_start, .int t_hours_house_sharp, .ref A_t_hours_house_counts, .ref A_t_hours_house_paces])), (A_t_hours_house_counts, .inl (ty.1, 8, .inl t_hours_house_counts)), (A_t_hours_house_paces, .inl (ty.1, 8, .inl t_hours_house_paces))] := by rw [← hWC]; exact hD
  obtain ⟨hx, hb, hr, hml, hown, hts, hlocks⟩ := id C
  have hl : lv_has ls 3 [(0, .ref A_t), (1, .int a1), (2, .int a2)] := hl
  unfold fX9_behind at hf
  refine lv_aload_n hx hb dX9_behind_0 rfl (lv_at hl 0 rfl) ?_
  refine va_get (D := D) (ci := 8) (v := .ref A_t_house) (C := RX9) (T := TX9) (N := 8) hx hb hts wX9_behind_X9 hown hK.1 hP 0 rfl rfl 0 (by decide) (hts _ mX9_behind_f10) (fun _ h9 => h9) rfl dX9_behind_1 ?_
  refine lv_iload_n hx hb dX9_behind_4 rfl (lv_at hl 1 rfl) ?_
  obtain ⟨r5, hr5, hf⟩ := bnd hf
  have hPc : va_P D vwCl [(A_t_house, .inr (1, [.int t_house_there, .int t_house_awake, .int t_house_start, .int t_house_sharp, .ref A_t_house_counts, .ref A_t_house_paces])), (A_t_house_counts, .inl (ty.1, 8, .inl t_house_counts)), (A_t_house_paces, .inl (ty.1, 8, .inl t_house_paces))] _ := hP.sub [1, 2, 3] rfl
  refine callV_ri (As := [.int a1]) (rest := []) ⟨hx, hb, hml, hown, hts⟩ (CX2_isThere l hr5) (cwV 1 hts gX9_behind_X2_isThere rfl rfl rfl kkX2_isThere ⟨Nat.le_of_ble_eq_true rfl, Nat.le_of_ble_eq_true rfl⟩) hK hPc 0 rfl rfl rfl hl.1 rfl (Nat.le_of_ble_eq_true rfl) dX9_behind_5 ⟨Nat.zero_le _, Nat.zero_le _⟩ ?_
  refine lv_if_ne (tgt := 13) hx hb dX9_behind_8 (by decide) (fun hc => ?_) (fun hc => ?_)
  · have hf := ff hf hc
    refine lv_iload_n hx hb dX9_behind_13 rfl (lv_at hl 2 rfl) ?_
    refine lv_iconst (v := 0) hx hb dX9_behind_14 (by decide) ?_
    refine lv_iconst (v := 1) hx hb dX9_behind_15 (by decide) ?_
    obtain ⟨r16, hr16, hf⟩ := bnd hf
    have hPc : va_P D vwCl [] _ := hP.sub [] rfl
    refine callS_ri (As := [.int a2, .int 0, .int 1]) (rest := []) ⟨hx, hb, hml, hown, hts⟩ (CX9_isWithin l hr16) (va_cwS 3 hts gX9_behind_X9_isWithin rfl rfl rfl kkX9_isWithin.2 ⟨Nat.le_of_ble_eq_true rfl, Nat.le_of_ble_eq_true rfl⟩) hK hPc hl.1 rfl (Nat.le_of_ble_eq_true rfl) dX9_behind_16 ⟨Nat.zero_le _, Nat.zero_le _⟩ ?_
    refine lv_if_ne (tgt := 25) hx hb dX9_behind_19 (by decide) (fun hc => ?_) (fun hc => ?_)
    · have hf := ff hf hc
      refine lv_aload_n hx hb dX9_behind_25 rfl (lv_at hl 0 rfl) ?_
      refine va_get (D := D) (ci := 8) (v := .ref A_t_hours) (C := RX9) (T := TX9) (N := 8) hx hb hts wX9_behind_X9 hown hK.1 hP 0 rfl rfl 2 (by decide) (hts _ mX9_behind_f26) (fun _ h9 => h9) rfl dX9_behind_26 ?_
      refine lv_aload_n hx hb dX9_behind_29 rfl (lv_at hl 0 rfl) ?_
      refine va_get (D := D) (ci := 8) (v := .ref A_t_pad) (C := RX9) (T := TX9) (N := 8) hx hb hts wX9_behind_X9 hown hK.1 hP 0 rfl rfl 1 (by decide) (hts _ mX9_behind_f19) (fun _ h9 => h9) rfl dX9_behind_30 ?_
      refine lv_aload_n hx hb dX9_behind_33 rfl (lv_at hl 0 rfl) ?_
      refine va_get (D := D) (ci := 8) (v := .ref A_t_house) (C := RX9) (T := TX9) (N := 8) hx hb hts wX9_behind_X9 hown hK.1 hP 0 rfl rfl 0 (by decide) (hts _ mX9_behind_f10) (fun _ h9 => h9) rfl dX9_behind_34 ?_
      obtain ⟨r37, hr37, hf⟩ := bnd hf
      refine callV_wi (As := [.ref A_t_pad, .ref A_t_house]) (rest := []) ⟨hx, hb, hml, hown, hts⟩ (CX1_follow l hr37) (cwV 2 hts gX9_behind_X1_follow rfl rfl rfl kkX1_follow ⟨Nat.le_of_ble_eq_true rfl, Nat.le_of_ble_eq_true rfl⟩) hK hP hD hS (fun _ h => Or.inr h) [8, 9, 10, 11, 4, 5, 6, 7, 1, 2, 3] [0] [0, 9, 10, 11, 5, 6, 7, 8, 1, 2, 3, 4] rfl (by decide) (by decide) rfl rfl 0 rfl rfl rfl hl.1 rfl (Nat.le_of_ble_eq_true rfl) dX9_behind_37 ⟨Nat.zero_le _, Nat.zero_le _⟩ (fun H locs hP hD hS => ?_)
      have hP : va_P D vwCl [(A_t, .inr (8, [.ref A_t_house, .ref A_t_pad, .ref A_t_hours, .ref A_t_laws, .ref A_t_sights, .ref A_t_worlds, .ref A_t_trialYear, .ref A_t_images])), (A_t_house, .inr (1, [.int t_house_there, .int t_house_awake, .int t_house_start, .int t_house_sharp, .ref A_t_house_counts, .ref A_t_house_paces])), (A_t_house_counts, .inl (ty.1, 8, .inl t_house_counts)), (A_t_house_paces, .inl (ty.1, 8, .inl t_house_paces)), (A_t_pad, .inr (4, [.int t_pad_size, .ref A_t_pad_signs, .int r37.2.2.2.2.2.2.2.2.2.2.2.2.2.1, .ref A_t_pad_actMonks, .ref A_t_pad_actSigns])), (A_t_pad_signs, .inl (ty.1, 60, .inl t_pad_signs)), (A_t_pad_actMonks, .inl (ty.1, 60, .inl r37.2.2.2.2.2.2.2.2.2.2.2.2.2.2.1)), (A_t_pad_actSigns, .inl (ty.1, 60, .inl r37.2.2.2.2.2.2.2.2.2.2.2.2.2.2.2)), (A_t_hours, .inr (0, [.ref A_t_hours_house, .int r37.2.1, .int r37.2.2.1, .int r37.2.2.2.1, .int r37.2.2.2.2.1, .int r37.2.2.2.2.2.1, .int r37.2.2.2.2.2.2.1])), (A_t_hours_house, .inr (1, [.int r37.2.2.2.2.2.2.2.1, .int r37.2.2.2.2.2.2.2.2.1, .int r37.2.2.2.2.2.2.2.2.2.1, .int r37.2.2.2.2.2.2.2.2.2.2.1, .ref A_t_hours_house_counts, .ref A_t_hours_house_paces])), (A_t_hours_house_counts, .inl (ty.1, 8, .inl r37.2.2.2.2.2.2.2.2.2.2.2.1)), (A_t_hours_house_paces, .inl (ty.1, 8, .inl r37.2.2.2.2.2.2.2.2.2.2.2.2.1))] H := hP
      have hD : va_D (va_A WC s.heap.size) [(A_t, .inr (8, [.ref A_t_house, .ref A_t_pad, .ref A_t_hours, .ref A_t_laws, .ref A_t_sights, .ref A_t_worlds, .ref A_t_trialYear, .ref A_t_images])), (A_t_house, .inr (1, [.int t_house_there, .int t_house_awake, .int t_house_start, .int t_house_sharp, .ref A_t_house_counts, .ref A_t_house_paces])), (A_t_house_counts, .inl (ty.1, 8, .inl t_house_counts)), (A_t_house_paces, .inl (ty.1, 8, .inl t_house_paces)), (A_t_pad, .inr (4, [.int t_pad_size, .ref A_t_pad_signs, .int r37.2.2.2.2.2.2.2.2.2.2.2.2.2.1, .ref A_t_pad_actMonks, .ref A_t_pad_actSigns])), (A_t_pad_signs, .inl (ty.1, 60, .inl t_pad_signs)), (A_t_pad_actMonks, .inl (ty.1, 60, .inl r37.2.2.2.2.2.2.2.2.2.2.2.2.2.2.1)), (A_t_pad_actSigns, .inl (ty.1, 60, .inl r37.2.2.2.2.2.2.2.2.2.2.2.2.2.2.2)), (A_t_hours, .inr (0, [.ref A_t_hours_house, .int r37.2.1, .int r37.2.2.1, .int r37.2.2.2.1, .int r37.2.2.2.2.1, .int r37.2.2.2.2.2.1, .int r37.2.2.2.2.2.2.1])), (A_t_hours_house, .inr (1, [.int r37.2.2.2.2.2.2.2.1, .int r37.2.2.2.2.2.2.2.2.1, .int r37.2.2.2.2.2.2.2.2.2.1, .int r37.2.2.2.2.2.2.2.2.2.2.1, .ref A_t_hours_house_counts, .ref A_t_hours_house_paces])), (A_t_hours_house_counts, .inl (ty.1, 8, .inl r37.2.2.2.2.2.2.2.2.2.2.2.1)), (A_t_hours_house_paces, .inl (ty.1, 8, .inl r37.2.2.2.2.2.2.2.2.2.2.2.2.1))] := hD
      refine lv_if_eq (tgt := 58) hx hb dX9_behind_40 (by decide) (fun hc => ?_) (fun hc => ?_)
      · have hf := ft hf hc
        refine lv_bipush (v := (-5)) hx hb dX9_behind_58 (by decide) ?_
        cases hf
        exact ret_wi hx hb hr hlocks hP hD hS dX9_behind_60
      · have hf := ff hf hc
        refine lv_aload_n hx hb dX9_behind_43 rfl (lv_at hl 0 rfl) ?_
        refine va_get (D := D) (ci := 8) (v := .ref A_t_hours) (C := RX9) (T := TX9) (N := 8) hx hb hts wX9_behind_X9 hown hK.1 hP 0 rfl rfl 2 (by decide) (hts _ mX9_behind_f26) (fun _ h9 => h9) rfl dX9_behind_44 ?_
        refine va_get (D := D) (ci := 0) (v := .ref A_t_hours_house) (C := RX1) (T := TX1) (N := 7) hx hb hts wX9_behind_X1 hown hK.1 hP 8 rfl rfl 0 (by decide) (hts _ mX9_behind_f134) (fun _ h9 => h9) rfl dX9_behind_47 ?_
        refine lv_iload_n hx hb dX9_behind_50 rfl (lv_at hl 1 rfl) ?_
        refine lv_iload_n hx hb dX9_behind_51 rfl (lv_at hl 2 rfl) ?_
        obtain ⟨r52, hr52, hf⟩ := bnd hf
        have hPc : va_P D vwCl [(A_t_hours_house, .inr (1, [.int r37.2.2.2.2.2.2.2.1, .int r37.2.2.2.2.2.2.2.2.1, .int r37.2.2.2.2.2.2.2.2.2.1, .int r37.2.2.2.2.2.2.2.2.2.2.1, .ref A_t_hours_house_counts, .ref A_t_hours_house_paces])), (A_t_hours_house_counts, .inl (ty.1, 8, .inl r37.2.2.2.2.2.2.2.2.2.2.2.1)), (A_t_hours_house_paces, .inl (ty.1, 8, .inl r37.2.2.2.2.2.2.2.2.2.2.2.2.1))] _ := hP.sub [9, 10, 11] rfl
        refine callV_ri (As := [.int a1, .int a2]) (rest := []) ⟨hx, hb, hml, hown, hts⟩ (CX2_tell l hr52) (cwV 2 hts gX9_behind_X2_tell rfl rfl rfl kkX2_tell ⟨Nat.le_of_ble_eq_true rfl, Nat.le_of_ble_eq_true rfl⟩) hK hPc 0 rfl rfl rfl hl.1 rfl (Nat.le_of_ble_eq_true rfl) dX9_behind_52 ⟨Nat.zero_le _, Nat.zero_le _⟩ ?_
        refine lv_goto (tgt := 60) hx hb dX9_behind_55 (by decide) ?_
        cases hf
        exact ret_wi hx hb hr hlocks hP hD hS dX9_behind_60
    · have hf := ft hf hc
      refine lv_bipush (v := (-2)) hx hb dX9_behind_22 (by decide) ?_
      cases hf
      exact ret_wi hx hb hr hlocks hP hD hS dX9_behind_24
  · have hf := ft hf hc
    refine lv_iconst (v := (-1)) hx hb dX9_behind_11 (by decide) ?_
    cases hf
    exact ret_wi hx hb hr hlocks hP hD hS dX9_behind_12
/-! ===== SilenceCount.breaths(I)I ===== -/
abbrev rmX9_breaths : Room := { frames := 6, cells := 0, slots := 0, locals := 137 }
theorem kkX9_breaths : yX9_breaths.cls = RX9 ∧ yX9_breaths.cls ≠ "java/lang/invoke/MethodHandle" ∧ yX9_breaths.cls ≠ "java/lang/invoke/VarHandle" ∧ (parseMethodDescriptor yX9_breaths.desc).map (fun d => d.parameters.length) = some 1 := by decide +kernel
theorem mX9_breaths_f26 : Cond.fieldLink RX9 26 "SilenceCount" "hours" "LSilenceCount$Hours;" ∈ wsX9_breaths := by decide +kernel
theorem mX9_breaths_f19 : Cond.fieldLink RX9 19 "SilenceCount" "pad" "LSilenceCount$Pad;" ∈ wsX9_breaths := by decide +kernel
theorem mX9_breaths_f10 : Cond.fieldLink RX9 10 "SilenceCount" "house" "LSilenceCount$House;" ∈ wsX9_breaths := by decide +kernel
theorem mX9_breaths_f149 : Cond.fieldLink RX9 149 "SilenceCount$Hours" "breathOfFirstNought" "I" ∈ wsX9_breaths := by decide +kernel
theorem mX9_breaths_f146 : Cond.fieldLink RX9 146 "SilenceCount$Hours" "breathsSoFar" "I" ∈ wsX9_breaths := by decide +kernel
theorem wX9_breaths_X1 : ∀ w ∈ u_ws RX1 TX1 7, w ∈ wsX9_breaths := by decide +kernel
theorem wX9_breaths_X9 : ∀ w ∈ u_ws RX9 TX9 8, w ∈ wsX9_breaths := by decide +kernel
def fX9_breaths (t_house_there : Int32) (t_house_awake : Int32) (t_house_start : Int32) (t_house_sharp : Int32) (t_house_counts : Nat → Int32) (t_house_paces : Nat → Int32) (t_pad_size : Int32) (t_pad_acts : Int32) (t_pad_signs : Nat → Int32) (t_pad_actMonks : Nat → Int32) (t_pad_actSigns : Nat → Int32) (t_hours_hasFault : Int32) (t_hours_wrongAct : Int32) (t_hours_why : Int32) (t_hours_breathsSoFar : Int32) (t_hours_breathOfFirstNought : Int32) (t_hours_firstNoticed : Int32) (t_hours_house_there : Int32) (t_hours_house_awake : Int32) (t_hours_house_start : Int32) (t_hours_house_sharp : Int32) (t_hours_house_counts : Nat → Int32) (t_hours_house_paces : Nat → Int32) (a1 : Int32) : Option (Int32 × Int32 × (Nat → Int32) × (Nat → Int32) × Int32 × Int32 × Int32 × Int32 × Int32 × Int32 × Int32 × Int32 × Int32 × Int32 × (Nat → Int32) × (Nat → Int32)) :=
  (fX9_isWithin a1 0 1).bind fun r3 => if r3 = 0 then some ((-2), t_pad_acts, t_pad_actMonks, t_pad_actSigns, t_hours_hasFault, t_hours_wrongAct, t_hours_why, t_hours_breathsSoFar, t_hours_breathOfFirstNought, t_hours_firstNoticed, t_hours_house_there, t_hours_house_awake, t_hours_house_start, t_hours_house_sharp, t_hours_house_counts, t_hours_house_paces) else (fX1_follow t_hours_hasFault t_hours_wrongAct t_hours_why t_hours_breathsSoFar t_hours_breathOfFirstNought t_hours_firstNoticed t_hours_house_there t_hours_house_awake t_hours_house_start t_hours_house_sharp t_hours_house_counts t_hours_house_paces t_pad_size t_pad_acts t_pad_signs t_pad_actMonks t_pad_actSigns t_house_there t_house_awake t_house_start t_house_sharp t_house_counts t_house_paces).bind fun r24 => if r24.1 = 0 then some ((-5), r24.2.2.2.2.2.2.2.2.2.2.2.2.2.1, r24.2.2.2.2.2.2.2.2.2.2.2.2.2.2.1, r24.2.2.2.2.2.2.2.2.2.2.2.2.2.2.2, r24.2.1, r24.2.2.1, r24.2.2.2.1, r24.2.2.2.2.1, r24.2.2.2.2.2.1, r24.2.2.2.2.2.2.1, r24.2.2.2.2.2.2.2.1, r24.2.2.2.2.2.2.2.2.1, r24.2.2.2.2.2.2.2.2.2.1, r24.2.2.2.2.2.2.2.2.2.2.1, r24.2.2.2.2.2.2.2.2.2.2.2.1, r24.2.2.2.2.2.2.2.2.2.2.2.2.1) else if a1 = 0 then some (r24.2.2.2.2.1, r24.2.2.2.2.2.2.2.2.2.2.2.2.2.1, r24.2.2.2.2.2.2.2.2.2.2.2.2.2.2.1, r24.2.2.2.2.2.2.2.2.2.2.2.2.2.2.2, r24.2.1, r24.2.2.1, r24.2.2.2.1, r24.2.2.2.2.1, r24.2.2.2.2.2.1, r24.2.2.2.2.2.2.1, r24.2.2.2.2.2.2.2.1, r24.2.2.2.2.2.2.2.2.1, r24.2.2.2.2.2.2.2.2.2.1, r24.2.2.2.2.2.2.2.2.2.2.1, r24.2.2.2.2.2.2.2.2.2.2.2.1, r24.2.2.2.2.2.2.2.2.2.2.2.2.1) else some (r24.2.2.2.2.2.1, r24.2.2.2.2.2.2.2.2.2.2.2.2.2.1, r24.2.2.2.2.2.2.2.2.2.2.2.2.2.2.1, r24.2.2.2.2.2.2.2.2.2.2.2.2.2.2.2, r24.2.1, r24.2.2.1, r24.2.2.2.1, r24.2.2.2.2.1, r24.2.2.2.2.2.1, r24.2.2.2.2.2.2.1, r24.2.2.2.2.2.2.2.1, r24.2.2.2.2.2.2.2.2.1, r24.2.2.2.2.2.2.2.2.2.1, r24.2.2.2.2.2.2.2.2.2.2.1, r24.2.2.2.2.2.2.2.2.2.2.2.1, r24.2.2.2.2.2.2.2.2.2.2.2.2.1)
set_option maxRecDepth 100000 in
set_option maxHeartbeats 4000000 in
theorem CX9_breaths (l : Launch) {D : va_G} {ty : TY} {A_t A_t_laws A_t_sights A_t_worlds A_t_trialYear A_t_images A_t_house A_t_house_counts A_t_house_paces A_t_pad A_t_pad_signs A_t_pad_actMonks A_t_pad_actSigns A_t_hours A_t_hours_house A_t_hours_house_counts A_t_hours_house_paces : Nat} {t_house_there : Int32} {t_house_awake : Int32} {t_house_start : Int32} {t_house_sharp : Int32} {t_house_counts : Nat → Int32} {t_house_paces : Nat → Int32} {t_pad_size : Int32} {t_pad_acts : Int32} {t_pad_signs : Nat → Int32} {t_pad_actMonks : Nat → Int32} {t_pad_actSigns : Nat → Int32} {t_hours_hasFault : Int32} {t_hours_wrongAct : Int32} {t_hours_why : Int32} {t_hours_breathsSoFar : Int32} {t_hours_breathOfFirstNought : Int32} {t_hours_firstNoticed : Int32} {t_hours_house_there : Int32} {t_hours_house_awake : Int32} {t_hours_house_start : Int32} {t_hours_house_sharp : Int32} {t_hours_house_counts : Nat → Int32} {t_hours_house_paces : Nat → Int32} {a1 : Int32} {q0 : Int32 × Int32 × (Nat → Int32) × (Nat → Int32) × Int32 × Int32 × Int32 × Int32 × Int32 × Int32 × Int32 × Int32 × Int32 × Int32 × (Nat → Int32) × (Nat → Int32)} (hf : fX9_breaths t_house_there t_house_awake t_house_start t_house_sharp t_house_counts t_house_paces t_pad_size t_pad_acts t_pad_signs t_pad_actMonks t_pad_actSigns t_hours_hasFault t_hours_wrongAct t_hours_why t_hours_breathsSoFar t_hours_breathOfFirstNought t_hours_firstNoticed t_hours_house_there t_hours_house_awake t_hours_house_start t_hours_house_sharp t_hours_house_counts t_hours_house_paces a1 = some q0) : RWi l yX9_breaths wsX9_breaths rmX9_breaths D ty [.ref A_t, .int a1] [(A_t, .inr (8, [.ref A_t_house, .ref A_t_pad, .ref A_t_hours, .ref A_t_laws, .ref A_t_sights, .ref A_t_worlds, .ref A_t_trialYear, .ref A_t_images])), (A_t_house, .inr (1, [.int t_house_there, .int t_house_awake, .int t_house_start, .int t_house_sharp, .ref A_t_house_counts, .ref A_t_house_paces])), (A_t_house_counts, .inl (ty.1, 8, .inl t_house_counts)), (A_t_house_paces, .inl (ty.1, 8, .inl t_house_paces)), (A_t_pad, .inr (4, [.int t_pad_size, .ref A_t_pad_signs, .int t_pad_acts, .ref A_t_pad_actMonks, .ref A_t_pad_actSigns])), (A_t_pad_signs, .inl (ty.1, 60, .inl t_pad_signs)), (A_t_pad_actMonks, .inl (ty.1, 60, .inl t_pad_actMonks)), (A_t_pad_actSigns, .inl (ty.1, 60, .inl t_pad_actSigns)), (A_t_hours, .inr (0, [.ref A_t_hours_house, .int t_hours_hasFault, .int t_hours_wrongAct, .int t_hours_why, .int t_hours_breathsSoFar, .int t_hours_breathOfFirstNought, .int t_hours_firstNoticed])), (A_t_hours_house, .inr (1, [.int t_hours_house_there, .int t_hours_house_awake, .int t_hours_house_start, .int t_hours_house_sharp, .ref A_t_hours_house_counts, .ref A_t_hours_house_paces])), (A_t_hours_house_counts, .inl (ty.1, 8, .inl t_hours_house_counts)), (A_t_hours_house_paces, .inl (ty.1, 8, .inl t_hours_house_paces))] q0.1 [(A_t, .inr (8, [.ref A_t_house, .ref A_t_pad, .ref A_t_hours, .ref A_t_laws, .ref A_t_sights, .ref A_t_worlds, .ref A_t_trialYear, .ref A_t_images])), (A_t_house, .inr (1, [.int t_house_there, .int t_house_awake, .int t_house_start, .int t_house_sharp, .ref A_t_house_counts, .ref A_t_house_paces])), (A_t_house_counts, .inl (ty.1, 8, .inl t_house_counts)), (A_t_house_paces, .inl (ty.1, 8, .inl t_house_paces)), (A_t_pad, .inr (4, [.int t_pad_size, .ref A_t_pad_signs, .int q0.2.1, .ref A_t_pad_actMonks, .ref A_t_pad_actSigns])), (A_t_pad_signs, .inl (ty.1, 60, .inl t_pad_signs)), (A_t_pad_actMonks, .inl (ty.1, 60, .inl q0.2.2.1)), (A_t_pad_actSigns, .inl (ty.1, 60, .inl q0.2.2.2.1)), (A_t_hours, .inr (0, [.ref A_t_hours_house, .int q0.2.2.2.2.1, .int q0.2.2.2.2.2.1, .int q0.2.2.2.2.2.2.1, .int q0.2.2.2.2.2.2.2.1, .int q0.2.2.2.2.2.2.2.2.1, .int q0.2.2.2.2.2.2.2.2.2.1])), (A_t_hours_house, .inr (1, [.int q0.2.2.2.2.2.2.2.2.2.2.1, .int q0.2.2.2.2.2.2.2.2.2.2.2.1, .int q0.2.2.2.2.2.2.2.2.2.2.2.2.1, .int q0.2.2.2.2.2.2.2.2.2.2.2.2.2.1, .ref A_t_hours_house_counts, .ref A_t_hours_house_paces])), (A_t_hours_house_counts, .inl (ty.1, 8, .inl q0.2.2.2.2.2.2.2.2.2.2.2.2.2.2.1)), (A_t_hours_house_paces, .inl (ty.1, 8, .inl q0.2.2.2.2.2.2.2.2.2.2.2.2.2.2.2))] := by
  refine RWi.start (cc := cX9_breaths) (maxL := 2) (ret := (some .int)) (own := RX9) (by decide) rfl rfl (Nat.le_of_ble_eq_true rfl) ?_
  intro p e s m below meth c ls C hK hP hD hS hl
  obtain ⟨WC, hWC⟩ : ∃ w : va_W, w = [(A_t, .inr (8, [.ref A_t_house, .ref A_t_pad, .ref A_t_hours, .ref A_t_laws, .ref A_t_sights, .ref A_t_worlds, .ref A_t_trialYear, .ref A_t_images])), (A_t_house, .inr (1, [.int t_house_there, .int t_house_awake, .int t_house_start, .int t_house_sharp, .ref A_t_house_counts, .ref A_t_house_paces])), (A_t_house_counts, .inl (ty.1, 8, .inl t_house_counts)), (A_t_house_paces, .inl (ty.1, 8, .inl t_house_paces)), (A_t_pad, .inr (4, [.int t_pad_size, .ref A_t_pad_signs, .int t_pad_acts, .ref A_t_pad_actMonks, .ref A_t_pad_actSigns])), (A_t_pad_signs, .inl (ty.1, 60, .inl t_pad_signs)), (A_t_pad_actMonks, .inl (ty.1, 60, .inl t_pad_actMonks)), (A_t_pad_actSigns, .inl (ty.1, 60, .inl t_pad_actSigns)), (A_t_hours, .inr (0, [.ref A_t_hours_house, .int t_hours_hasFault, .int t_hours_wrongAct, .int t_hours_why, .int t_hours_breathsSoFar, .int t_hours_breathOfFirstNought, .int t_hours_firstNoticed])), (A_t_hours_house, .inr (1, [.int t_hours_house_there, .int t_hours_house_awake, .int t_hours_house_start, .int t_hours_house_sharp, .ref A_t_hours_house_counts, .ref A_t_hours_house_paces])), (A_t_hours_house_counts, .inl (ty.1, 8, .inl t_hours_house_counts)), (A_t_hours_house_paces, .inl (ty.1, 8, .inl t_hours_house_paces))] := ⟨_, rfl⟩
  rw [← hWC] at hD hS ⊢
  have hD : va_D (va_A WC s.heap.size) [(A_t, .inr (8, [.ref A_t_house, .ref A_t_pad, .ref A_t_hours, .ref A_t_laws, .ref A_t_sights, .ref A_t_worlds, .ref A_t_trialYear, .ref A_t_images])), (A_t_house, .inr (1, [.int t_house_there, .int t_house_awake, .int t_house_start, .int t_house_sharp, .ref A_t_house_counts, .ref A_t_house_paces])), (A_t_house_counts, .inl (ty.1, 8, .inl t_house_counts)), (A_t_house_paces, .inl (ty.1, 8, .inl t_house_paces)), (A_t_pad, .inr (4, [.int t_pad_size, .ref A_t_pad_signs, .int t_pad_acts, .ref A_t_pad_actMonks, .ref A_t_pad_actSigns])), (A_t_pad_signs, .inl (ty.1, 60, .inl t_pad_signs)), (A_t_pad_actMonks, .inl (ty.1, 60, .inl t_pad_actMonks)), (A_t_pad_actSigns, .inl (ty.1, 60, .inl t_pad_actSigns)), (A_t_hours, .inr (0, [.ref A_t_hours_house, .int t_hours_hasFault, .int t_hours_wrongAct, .int t_hours_why, .int t_hours_breathsSoFar, .int t_hours_breathOfFirstNought, .int t_hours_firstNoticed])), (A_t_hours_house, .inr (1, [.int t_hours_house_there, .int t_hours_house_awake, .int t_hours_house_start, .int t_hours_house_sharp, .ref A_t_hours_house_counts, .ref A_t_hours_house_paces])), (A_t_hours_house_counts, .inl (ty.1, 8, .inl t_hours_house_counts)), (A_t_hours_house_paces, .inl (ty.1, 8, .inl t_hours_house_paces))] := by rw [← hWC]; exact hD
  obtain ⟨hx, hb, hr, hml, hown, hts, hlocks⟩ := id C
  have hl : lv_has ls 2 [(0, .ref A_t), (1, .int a1)] := hl
  unfold fX9_breaths at hf
  refine lv_iload_n hx hb dX9_breaths_0 rfl (lv_at hl 1 rfl) ?_
  refine lv_iconst (v := 0) hx hb dX9_breaths_1 (by decide) ?_
  refine lv_iconst (v := 1) hx hb dX9_breaths_2 (by decide) ?_
  obtain ⟨r3, hr3, hf⟩ := bnd hf
  have hPc : va_P D vwCl [] _ := hP.sub [] rfl
  refine callS_ri (As := [.int a1, .int 0, .int 1]) (rest := []) ⟨hx, hb, hml, hown, hts⟩ (CX9_isWithin l hr3) (va_cwS 3 hts gX9_breaths_X9_isWithin rfl rfl rfl kkX9_isWithin.2 ⟨Nat.le_of_ble_eq_true rfl, Nat.le_of_ble_eq_true rfl⟩) hK hPc hl.1 rfl (Nat.le_of_ble_eq_true rfl) dX9_breaths_3 ⟨Nat.zero_le _, Nat.zero_le _⟩ ?_
  refine lv_if_ne (tgt := 12) hx hb dX9_breaths_6 (by decide) (fun hc => ?_) (fun hc => ?_)
  · have hf := ff hf hc
    refine lv_aload_n hx hb dX9_breaths_12 rfl (lv_at hl 0 rfl) ?_
    refine va_get (D := D) (ci := 8) (v := .ref A_t_hours) (C := RX9) (T := TX9) (N := 8) hx hb hts wX9_breaths_X9 hown hK.1 hP 0 rfl rfl 2 (by decide) (hts _ mX9_breaths_f26) (fun _ h9 => h9) rfl dX9_breaths_13 ?_
    refine lv_aload_n hx hb dX9_breaths_16 rfl (lv_at hl 0 rfl) ?_
    refine va_get (D := D) (ci := 8) (v := .ref A_t_pad) (C := RX9) (T := TX9) (N := 8) hx hb hts wX9_breaths_X9 hown hK.1 hP 0 rfl rfl 1 (by decide) (hts _ mX9_breaths_f19) (fun _ h9 => h9) rfl dX9_breaths_17 ?_
    refine lv_aload_n hx hb dX9_breaths_20 rfl (lv_at hl 0 rfl) ?_
    refine va_get (D := D) (ci := 8) (v := .ref A_t_house) (C := RX9) (T := TX9) (N := 8) hx hb hts wX9_breaths_X9 hown hK.1 hP 0 rfl rfl 0 (by decide) (hts _ mX9_breaths_f10) (fun _ h9 => h9) rfl dX9_breaths_21 ?_
    obtain ⟨r24, hr24, hf⟩ := bnd hf
    refine callV_wi (As := [.ref A_t_pad, .ref A_t_house]) (rest := []) ⟨hx, hb, hml, hown, hts⟩ (CX1_follow l hr24) (cwV 2 hts gX9_breaths_X1_follow rfl rfl rfl kkX1_follow ⟨Nat.le_of_ble_eq_true rfl, Nat.le_of_ble_eq_true rfl⟩) hK hP hD hS (fun _ h => Or.inr h) [8, 9, 10, 11, 4, 5, 6, 7, 1, 2, 3] [0] [0, 9, 10, 11, 5, 6, 7, 8, 1, 2, 3, 4] rfl (by decide) (by decide) rfl rfl 0 rfl rfl rfl hl.1 rfl (Nat.le_of_ble_eq_true rfl) dX9_breaths_24 ⟨Nat.zero_le _, Nat.zero_le _⟩ (fun H locs hP hD hS => ?_)
    have hP : va_P D vwCl [(A_t, .inr (8, [.ref A_t_house, .ref A_t_pad, .ref A_t_hours, .ref A_t_laws, .ref A_t_sights, .ref A_t_worlds, .ref A_t_trialYear, .ref A_t_images])), (A_t_house, .inr (1, [.int t_house_there, .int t_house_awake, .int t_house_start, .int t_house_sharp, .ref A_t_house_counts, .ref A_t_house_paces])), (A_t_house_counts, .inl (ty.1, 8, .inl t_house_counts)), (A_t_house_paces, .inl (ty.1, 8, .inl t_house_paces)), (A_t_pad, .inr (4, [.int t_pad_size, .ref A_t_pad_signs, .int r24.2.2.2.2.2.2.2.2.2.2.2.2.2.1, .ref A_t_pad_actMonks, .ref A_t_pad_actSigns])), (A_t_pad_signs, .inl (ty.1, 60, .inl t_pad_signs)), (A_t_pad_actMonks, .inl (ty.1, 60, .inl r24.2.2.2.2.2.2.2.2.2.2.2.2.2.2.1)), (A_t_pad_actSigns, .inl (ty.1, 60, .inl r24.2.2.2.2.2.2.2.2.2.2.2.2.2.2.2)), (A_t_hours, .inr (0, [.ref A_t_hours_house, .int r24.2.1, .int r24.2.2.1, .int r24.2.2.2.1, .int r24.2.2.2.2.1, .int r24.2.2.2.2.2.1, .int r24.2.2.2.2.2.2.1])), (A_t_hours_house, .inr (1, [.int r24.2.2.2.2.2.2.2.1, .int r24.2.2.2.2.2.2.2.2.1, .int r24.2.2.2.2.2.2.2.2.2.1, .int r24.2.2.2.2.2.2.2.2.2.2.1, .ref A_t_hours_house_counts, .ref A_t_hours_house_paces])), (A_t_hours_house_counts, .inl (ty.1, 8, .inl r24.2.2.2.2.2.2.2.2.2.2.2.1)), (A_t_hours_house_paces, .inl (ty.1, 8, .inl r24.2.2.2.2.2.2.2.2.2.2.2.2.1))] H := hP
    have hD : va_D (va_A WC s.heap.size) [(A_t, .inr (8, [.ref A_t_house, .ref A_t_pad, .ref A_t_hours, .ref A_t_laws, .ref A_t_sights, .ref A_t_worlds, .ref A_t_trialYear, .ref A_t_images])), (A_t_house, .inr (1, [.int t_house_there, .int t_house_awake, .int t_house_start, .int t_house_sharp, .ref A_t_house_counts, .ref A_t_house_paces])), (A_t_house_counts, .inl (ty.1, 8, .inl t_house_counts)), (A_t_house_paces, .inl (ty.1, 8, .inl t_house_paces)), (A_t_pad, .inr (4, [.int t_pad_size, .ref A_t_pad_signs, .int r24.2.2.2.2.2.2.2.2.2.2.2.2.2.1, .ref A_t_pad_actMonks, .ref A_t_pad_actSigns])), (A_t_pad_signs, .inl (ty.1, 60, .inl t_pad_signs)), (A_t_pad_actMonks, .inl (ty.1, 60, .inl r24.2.2.2.2.2.2.2.2.2.2.2.2.2.2.1)), (A_t_pad_actSigns, .inl (ty.1, 60, .inl r24.2.2.2.2.2.2.2.2.2.2.2.2.2.2.2)), (A_t_hours, .inr (0, [.ref A_t_hours_house, .int r24.2.1, .int r24.2.2.1, .int r24.2.2.2.1, .int r24.2.2.2.2.1, .int r24.2.2.2.2.2.1, .int r24.2.2.2.2.2.2.1])), (A_t_hours_house, .inr (1, [.int r24.2.2.2.2.2.2.2.1, .int r24.2.2.2.2.2.2.2.2.1, .int r24.2.2.2.2.2.2.2.2.2.1, .int r24.2.2.2.2.2.2.2.2.2.2.1, .ref A_t_hours_house_counts, .ref A_t_hours_house_paces])), (A_t_hours_house_counts, .inl (ty.1, 8, .inl r24.2.2.2.2.2.2.2.2.2.2.2.1)), (A_t_hours_house_paces, .inl (ty.1, 8, .inl r24.2.2.2.2.2.2.2.2.2.2.2.2.1))] := hD
    refine lv_if_ne (tgt := 33) hx hb dX9_breaths_27 (by decide) (fun hc => ?_) (fun hc => ?_)
    · have hf := ff hf hc
      refine lv_iload_n hx hb dX9_breaths_33 rfl (lv_at hl 1 rfl) ?_
      refine lv_if_ne (tgt := 47) hx hb dX9_breaths_34 (by decide) (fun hc => ?_) (fun hc => ?_)
      · have hf := ff hf hc
        refine lv_aload_n hx hb dX9_breaths_47 rfl (lv_at hl 0 rfl) ?_
        refine va_get (D := D) (ci := 8) (v := .ref A_t_hours) (C := RX9) (T := TX9) (N := 8) hx hb hts wX9_breaths_X9 hown hK.1 hP 0 rfl rfl 2 (by decide) (hts _ mX9_breaths_f26) (fun _ h9 => h9) rfl dX9_breaths_48 ?_
        refine va_get (D := D) (ci := 0) (v := .int r24.2.2.2.2.2.1) (C := RX1) (T := TX1) (N := 7) hx hb hts wX9_breaths_X1 hown hK.1 hP 8 rfl rfl 5 (by decide) (hts _ mX9_breaths_f149) (fun _ h9 => h9) rfl dX9_breaths_51 ?_
        cases hf
        exact ret_wi hx hb hr hlocks hP hD hS dX9_breaths_54
      · have hf := ft hf hc
        refine lv_aload_n hx hb dX9_breaths_37 rfl (lv_at hl 0 rfl) ?_
        refine va_get (D := D) (ci := 8) (v := .ref A_t_hours) (C := RX9) (T := TX9) (N := 8) hx hb hts wX9_breaths_X9 hown hK.1 hP 0 rfl rfl 2 (by decide) (hts _ mX9_breaths_f26) (fun _ h9 => h9) rfl dX9_breaths_38 ?_
        refine va_get (D := D) (ci := 0) (v := .int r24.2.2.2.2.1) (C := RX1) (T := TX1) (N := 7) hx hb hts wX9_breaths_X1 hown hK.1 hP 8 rfl rfl 4 (by decide) (hts _ mX9_breaths_f146) (fun _ h9 => h9) rfl dX9_breaths_41 ?_
        refine lv_goto (tgt := 54) hx hb dX9_breaths_44 (by decide) ?_
        cases hf
        exact ret_wi hx hb hr hlocks hP hD hS dX9_breaths_54
    · have hf := ft hf hc
      refine lv_bipush (v := (-5)) hx hb dX9_breaths_30 (by decide) ?_
      cases hf
      exact ret_wi hx hb hr hlocks hP hD hS dX9_breaths_32
  · have hf := ft hf hc
    refine lv_bipush (v := (-2)) hx hb dX9_breaths_9 (by decide) ?_
    cases hf
    exact ret_wi hx hb hr hlocks hP hD hS dX9_breaths_11
/-! ===== SilenceCount.changeSharp(I)I ===== -/
abbrev rmX9_changeSharp : Room := { frames := 1, cells := 0, slots := 0, locals := 22 }
theorem kkX9_changeSharp : yX9_changeSharp.cls = RX9 ∧ yX9_changeSharp.cls ≠ "java/lang/invoke/MethodHandle" ∧ yX9_changeSharp.cls ≠ "java/lang/invoke/VarHandle" ∧ (parseMethodDescriptor yX9_changeSharp.desc).map (fun d => d.parameters.length) = some 1 := by decide +kernel
theorem mX9_changeSharp_f10 : Cond.fieldLink RX9 10 "SilenceCount" "house" "LSilenceCount$House;" ∈ wsX9_changeSharp := by decide +kernel
theorem mX9_changeSharp_f107 : Cond.fieldLink RX9 107 "SilenceCount$House" "sharp" "I" ∈ wsX9_changeSharp := by decide +kernel
theorem wX9_changeSharp_X2 : ∀ w ∈ u_ws RX2 TX2 6, w ∈ wsX9_changeSharp := by decide +kernel
theorem wX9_changeSharp_X9 : ∀ w ∈ u_ws RX9 TX9 8, w ∈ wsX9_changeSharp := by decide +kernel
def fX9_changeSharp (t_house_sharp : Int32) (a1 : Int32) : Option (Int32 × Int32) :=
  (fX9_isWithin a1 0 99).bind fun r4 => if r4 = 0 then some ((-2), t_house_sharp) else some (t_house_sharp, a1)
set_option maxRecDepth 100000 in
set_option maxHeartbeats 4000000 in
theorem CX9_changeSharp (l : Launch) {D : va_G} {ty : TY} {A_t A_t_pad A_t_hours A_t_laws A_t_sights A_t_worlds A_t_trialYear A_t_images A_t_house A_t_house_counts A_t_house_paces : Nat} {t_house_there : Int32} {t_house_awake : Int32} {t_house_start : Int32} {t_house_sharp : Int32} {t_house_counts : Nat → Int32} {t_house_paces : Nat → Int32} {a1 : Int32} {q0 : Int32 × Int32} (hf : fX9_changeSharp t_house_sharp a1 = some q0) : RWi l yX9_changeSharp wsX9_changeSharp rmX9_changeSharp D ty [.ref A_t, .int a1] [(A_t, .inr (8, [.ref A_t_house, .ref A_t_pad, .ref A_t_hours, .ref A_t_laws, .ref A_t_sights, .ref A_t_worlds, .ref A_t_trialYear, .ref A_t_images])), (A_t_house, .inr (1, [.int t_house_there, .int t_house_awake, .int t_house_start, .int t_house_sharp, .ref A_t_house_counts, .ref A_t_house_paces])), (A_t_house_counts, .inl (ty.1, 8, .inl t_house_counts)), (A_t_house_paces, .inl (ty.1, 8, .inl t_house_paces))] q0.1 [(A_t, .inr (8, [.ref A_t_house, .ref A_t_pad, .ref A_t_hours, .ref A_t_laws, .ref A_t_sights, .ref A_t_worlds, .ref A_t_trialYear, .ref A_t_images])), (A_t_house, .inr (1, [.int t_house_there, .int t_house_awake, .int t_house_start, .int q0.2, .ref A_t_house_counts, .ref A_t_house_paces])), (A_t_house_counts, .inl (ty.1, 8, .inl t_house_counts)), (A_t_house_paces, .inl (ty.1, 8, .inl t_house_paces))] := by
  refine RWi.start (cc := cX9_changeSharp) (maxL := 3) (ret := (some .int)) (own := RX9) (by decide) rfl rfl (Nat.le_of_ble_eq_true rfl) ?_
  intro p e s m below meth c ls C hK hP hD hS hl
  obtain ⟨WC, hWC⟩ : ∃ w : va_W, w = [(A_t, .inr (8, [.ref A_t_house, .ref A_t_pad, .ref A_t_hours, .ref A_t_laws, .ref A_t_sights, .ref A_t_worlds, .ref A_t_trialYear, .ref A_t_images])), (A_t_house, .inr (1, [.int t_house_there, .int t_house_awake, .int t_house_start, .int t_house_sharp, .ref A_t_house_counts, .ref A_t_house_paces])), (A_t_house_counts, .inl (ty.1, 8, .inl t_house_counts)), (A_t_house_paces, .inl (ty.1, 8, .inl t_house_paces))] := ⟨_, rfl⟩
  rw [← hWC] at hD hS ⊢
  have hD : va_D (va_A WC s.heap.size) [(A_t, .inr (8, [.ref A_t_house, .ref A_t_pad, .ref A_t_hours, .ref A_t_laws, .ref A_t_sights, .ref A_t_worlds, .ref A_t_trialYear, .ref A_t_images])), (A_t_house, .inr (1, [.int t_house_there, .int t_house_awake, .int t_house_start, .int t_house_sharp, .ref A_t_house_counts, .ref A_t_house_paces])), (A_t_house_counts, .inl (ty.1, 8, .inl t_house_counts)), (A_t_house_paces, .inl (ty.1, 8, .inl t_house_paces))] := by rw [← hWC]; exact hD
  obtain ⟨hx, hb, hr, hml, hown, hts, hlocks⟩ := id C
  have hl : lv_has ls 3 [(0, .ref A_t), (1, .int a1)] := hl
  unfold fX9_changeSharp at hf
  refine lv_iload_n hx hb dX9_changeSharp_0 rfl (lv_at hl 1 rfl) ?_
  refine lv_iconst (v := 0) hx hb dX9_changeSharp_1 (by decide) ?_
  refine lv_bipush (v := 99) hx hb dX9_changeSharp_2 (by decide) ?_
  obtain ⟨r4, hr4, hf⟩ := bnd hf
  have hPc : va_P D vwCl [] _ := hP.sub [] rfl
  refine callS_ri (As := [.int a1, .int 0, .int 99]) (rest := []) ⟨hx, hb, hml, hown, hts⟩ (CX9_isWithin l hr4) (va_cwS 3 hts gX9_changeSharp_X9_isWithin rfl rfl rfl kkX9_isWithin.2 ⟨Nat.le_of_ble_eq_true rfl, Nat.le_of_ble_eq_true rfl⟩) hK hPc hl.1 rfl (Nat.le_of_ble_eq_true rfl) dX9_changeSharp_4 ⟨Nat.zero_le _, Nat.zero_le _⟩ ?_
  refine lv_if_ne (tgt := 13) hx hb dX9_changeSharp_7 (by decide) (fun hc => ?_) (fun hc => ?_)
  · have hf := ff hf hc
    refine lv_aload_n hx hb dX9_changeSharp_13 rfl (lv_at hl 0 rfl) ?_
    refine va_get (D := D) (ci := 8) (v := .ref A_t_house) (C := RX9) (T := TX9) (N := 8) hx hb hts wX9_changeSharp_X9 hown hK.1 hP 0 rfl rfl 0 (by decide) (hts _ mX9_changeSharp_f10) (fun _ h9 => h9) rfl dX9_changeSharp_14 ?_
    refine va_get (D := D) (ci := 1) (v := .int t_house_sharp) (C := RX2) (T := TX2) (N := 6) hx hb hts wX9_changeSharp_X2 hown hK.1 hP 1 rfl rfl 3 (by decide) (hts _ mX9_changeSharp_f107) (fun _ h9 => h9) rfl dX9_changeSharp_17 ?_
    refine lv_istore_n (lv' := [(2, .int t_house_sharp), (0, .ref A_t), (1, .int a1)]) hx hb dX9_changeSharp_20 rfl hl (by decide) rfl (fun ls hl => ?_)
    refine lv_aload_n hx hb dX9_changeSharp_21 rfl (lv_at hl 1 rfl) ?_
    refine va_get (D := D) (ci := 8) (v := .ref A_t_house) (C := RX9) (T := TX9) (N := 8) hx hb hts wX9_changeSharp_X9 hown hK.1 hP 0 rfl rfl 0 (by decide) (hts _ mX9_changeSharp_f10) (fun _ h9 => h9) rfl dX9_changeSharp_22 ?_
    refine lv_iload_n hx hb dX9_changeSharp_25 rfl (lv_at hl 2 rfl) ?_
    refine va_put (D := D) (ci := 1) (v := .int a1) (ty := .int) (C := RX2) (T := TX2) (N := 6) hx hb hts wX9_changeSharp_X2 tyX2 tyX2_ok nmX2 hown hK.1 hP hD hS 1 rfl rfl 3 (by decide) (hts _ mX9_changeSharp_f107) (fun _ h9 => h9) rfl (by decide +kernel) rfl rfl (Nat.le_of_ble_eq_true rfl) dX9_changeSharp_26 (fun H locs hP hD hS => ?_)
    have hP : va_P D vwCl [(A_t, .inr (8, [.ref A_t_house, .ref A_t_pad, .ref A_t_hours, .ref A_t_laws, .ref A_t_sights, .ref A_t_worlds, .ref A_t_trialYear, .ref A_t_images])), (A_t_house, .inr (1, [.int t_house_there, .int t_house_awake, .int t_house_start, .int a1, .ref A_t_house_counts, .ref A_t_house_paces])), (A_t_house_counts, .inl (ty.1, 8, .inl t_house_counts)), (A_t_house_paces, .inl (ty.1, 8, .inl t_house_paces))] H := hP
    have hD : va_D (va_A WC s.heap.size) [(A_t, .inr (8, [.ref A_t_house, .ref A_t_pad, .ref A_t_hours, .ref A_t_laws, .ref A_t_sights, .ref A_t_worlds, .ref A_t_trialYear, .ref A_t_images])), (A_t_house, .inr (1, [.int t_house_there, .int t_house_awake, .int t_house_start, .int a1, .ref A_t_house_counts, .ref A_t_house_paces])), (A_t_house_counts, .inl (ty.1, 8, .inl t_house_counts)), (A_t_house_paces, .inl (ty.1, 8, .inl t_house_paces))] := hD
    refine lv_iload_n hx hb dX9_changeSharp_29 rfl (lv_at hl 0 rfl) ?_
    cases hf
    exact ret_wi hx hb hr hlocks hP hD hS dX9_changeSharp_30
  · have hf := ft hf hc
    refine lv_bipush (v := (-2)) hx hb dX9_changeSharp_10 (by decide) ?_
    cases hf
    exact ret_wi hx hb hr hlocks hP hD hS dX9_changeSharp_12
/-! ===== SilenceCount.changeStart(I)I ===== -/
abbrev rmX9_changeStart : Room := { frames := 2, cells := 0, slots := 0, locals := 36 }
theorem kkX9_changeStart : yX9_changeStart.cls = RX9 ∧ yX9_changeStart.cls ≠ "java/lang/invoke/MethodHandle" ∧ yX9_changeStart.cls ≠ "java/lang/invoke/VarHandle" ∧ (parseMethodDescriptor yX9_changeStart.desc).map (fun d => d.parameters.length) = some 1 := by decide +kernel
theorem mX9_changeStart_k103 : Cond.constant RX9 103 (1000000) ∈ wsX9_changeStart := by decide +kernel
theorem mX9_changeStart_f10 : Cond.fieldLink RX9 10 "SilenceCount" "house" "LSilenceCount$House;" ∈ wsX9_changeStart := by decide +kernel
theorem mX9_changeStart_f81 : Cond.fieldLink RX9 81 "SilenceCount$House" "there" "I" ∈ wsX9_changeStart := by decide +kernel
theorem mX9_changeStart_f69 : Cond.fieldLink RX9 69 "SilenceCount$House" "start" "I" ∈ wsX9_changeStart := by decide +kernel
theorem wX9_changeStart_X2 : ∀ w ∈ u_ws RX2 TX2 6, w ∈ wsX9_changeStart := by decide +kernel
theorem wX9_changeStart_X9 : ∀ w ∈ u_ws RX9 TX9 8, w ∈ wsX9_changeStart := by decide +kernel
def fX9_changeStart (t_house_there : Int32) (t_house_start : Int32) (t_house_counts : Nat → Int32) (a1 : Int32) : Option (Int32 × Int32) :=
  (fX9_isWithin a1 1 1000000).bind fun r4 => if r4 = 0 then some ((-2), t_house_start) else (fX2_greatestCount t_house_counts t_house_there).bind fun r24 => if r24 ≤ a1 then some (t_house_start, a1) else some ((-3), t_house_start)
set_option maxRecDepth 100000 in
set_option maxHeartbeats 4000000 in
theorem CX9_changeStart (l : Launch) {D : va_G} {ty : TY} {A_t A_t_pad A_t_hours A_t_laws A_t_sights A_t_worlds A_t_trialYear A_t_images A_t_house A_t_house_counts A_t_house_paces : Nat} {t_house_there : Int32} {t_house_awake : Int32} {t_house_start : Int32} {t_house_sharp : Int32} {t_house_counts : Nat → Int32} {t_house_paces : Nat → Int32} {a1 : Int32} {q0 : Int32 × Int32} (hf : fX9_changeStart t_house_there t_house_start t_house_counts a1 = some q0) : RWi l yX9_changeStart wsX9_changeStart rmX9_changeStart D ty [.ref A_t, .int a1] [(A_t, .inr (8, [.ref A_t_house, .ref A_t_pad, .ref A_t_hours, .ref A_t_laws, .ref A_t_sights, .ref A_t_worlds, .ref A_t_trialYear, .ref A_t_images])), (A_t_house, .inr (1, [.int t_house_there, .int t_house_awake, .int t_house_start, .int t_house_sharp, .ref A_t_house_counts, .ref A_t_house_paces])), (A_t_house_counts, .inl (ty.1, 8, .inl t_house_counts)), (A_t_house_paces, .inl (ty.1, 8, .inl t_house_paces))] q0.1 [(A_t, .inr (8, [.ref A_t_house, .ref A_t_pad, .ref A_t_hours, .ref A_t_laws, .ref A_t_sights, .ref A_t_worlds, .ref A_t_trialYear, .ref A_t_images])), (A_t_house, .inr (1, [.int t_house_there, .int t_house_awake, .int q0.2, .int t_house_sharp, .ref A_t_house_counts, .ref A_t_house_paces])), (A_t_house_counts, .inl (ty.1, 8, .inl t_house_counts)), (A_t_house_paces, .inl (ty.1, 8, .inl t_house_paces))] := by
  refine RWi.start (cc := cX9_changeStart) (maxL := 3) (ret := (some .int)) (own := RX9) (by decide) rfl rfl (Nat.le_of_ble_eq_true rfl) ?_
  intro p e s m below meth c ls C hK hP hD hS hl
  obtain ⟨WC, hWC⟩ : ∃ w : va_W, w = [(A_t, .inr (8, [.ref A_t_house, .ref A_t_pad, .ref A_t_hours, .ref A_t_laws, .ref A_t_sights, .ref A_t_worlds, .ref A_t_trialYear, .ref A_t_images])), (A_t_house, .inr (1, [.int t_house_there, .int t_house_awake, .int t_house_start, .int t_house_sharp, .ref A_t_house_counts, .ref A_t_house_paces])), (A_t_house_counts, .inl (ty.1, 8, .inl t_house_counts)), (A_t_house_paces, .inl (ty.1, 8, .inl t_house_paces))] := ⟨_, rfl⟩
  rw [← hWC] at hD hS ⊢
  have hD : va_D (va_A WC s.heap.size) [(A_t, .inr (8, [.ref A_t_house, .ref A_t_pad, .ref A_t_hours, .ref A_t_laws, .ref A_t_sights, .ref A_t_worlds, .ref A_t_trialYear, .ref A_t_images])), (A_t_house, .inr (1, [.int t_house_there, .int t_house_awake, .int t_house_start, .int t_house_sharp, .ref A_t_house_counts, .ref A_t_house_paces])), (A_t_house_counts, .inl (ty.1, 8, .inl t_house_counts)), (A_t_house_paces, .inl (ty.1, 8, .inl t_house_paces))] := by rw [← hWC]; exact hD
  obtain ⟨hx, hb, hr, hml, hown, hts, hlocks⟩ := id C
  have hl : lv_has ls 3 [(0, .ref A_t), (1, .int a1)] := hl
  unfold fX9_changeStart at hf
  refine lv_iload_n hx hb dX9_changeStart_0 rfl (lv_at hl 1 rfl) ?_
  refine lv_iconst (v := 1) hx hb dX9_changeStart_1 (by decide) ?_
  refine lv_ldc (v := 1000000) hx hb hown (hts _ mX9_changeStart_k103) dX9_changeStart_2 ?_
  obtain ⟨r4, hr4, hf⟩ := bnd hf
  have hPc : va_P D vwCl [] _ := hP.sub [] rfl
  refine callS_ri (As := [.int a1, .int 1, .int 1000000]) (rest := []) ⟨hx, hb, hml, hown, hts⟩ (CX9_isWithin l hr4) (va_cwS 3 hts gX9_changeStart_X9_isWithin rfl rfl rfl kkX9_isWithin.2 ⟨Nat.le_of_ble_eq_true rfl, Nat.le_of_ble_eq_true rfl⟩) hK hPc hl.1 rfl (Nat.le_of_ble_eq_true rfl) dX9_changeStart_4 ⟨Nat.zero_le _, Nat.zero_le _⟩ ?_
  refine lv_if_ne (tgt := 13) hx hb dX9_changeStart_7 (by decide) (fun hc => ?_) (fun hc => ?_)
  · have hf := ff hf hc
    refine lv_aload_n hx hb dX9_changeStart_13 rfl (lv_at hl 0 rfl) ?_
    refine va_get (D := D) (ci := 8) (v := .ref A_t_house) (C := RX9) (T := TX9) (N := 8) hx hb hts wX9_changeStart_X9 hown hK.1 hP 0 rfl rfl 0 (by decide) (hts _ mX9_changeStart_f10) (fun _ h9 => h9) rfl dX9_changeStart_14 ?_
    refine lv_aload_n hx hb dX9_changeStart_17 rfl (lv_at hl 0 rfl) ?_
    refine va_get (D := D) (ci := 8) (v := .ref A_t_house) (C := RX9) (T := TX9) (N := 8) hx hb hts wX9_changeStart_X9 hown hK.1 hP 0 rfl rfl 0 (by decide) (hts _ mX9_changeStart_f10) (fun _ h9 => h9) rfl dX9_changeStart_18 ?_
    refine va_get (D := D) (ci := 1) (v := .int t_house_there) (C := RX2) (T := TX2) (N := 6) hx hb hts wX9_changeStart_X2 hown hK.1 hP 1 rfl rfl 0 (by decide) (hts _ mX9_changeStart_f81) (fun _ h9 => h9) rfl dX9_changeStart_21 ?_
    obtain ⟨r24, hr24, hf⟩ := bnd hf
    have hPc : va_P D vwCl [(A_t_house, .inr (1, [.int t_house_there, .int t_house_awake, .int t_house_start, .int t_house_sharp, .ref A_t_house_counts, .ref A_t_house_paces])), (A_t_house_counts, .inl (ty.1, 8, .inl t_house_counts)), (A_t_house_paces, .inl (ty.1, 8, .inl t_house_paces))] _ := hP.sub [1, 2, 3] rfl
    refine callV_ri (As := [.int t_house_there]) (rest := []) ⟨hx, hb, hml, hown, hts⟩ (CX2_greatestCount l hr24) (cwV 1 hts gX9_changeStart_X2_greatestCount rfl rfl rfl kkX2_greatestCount ⟨Nat.le_of_ble_eq_true rfl, Nat.le_of_ble_eq_true rfl⟩) hK hPc 0 rfl rfl rfl hl.1 rfl (Nat.le_of_ble_eq_true rfl) dX9_changeStart_24 ⟨Nat.zero_le _, Nat.zero_le _⟩ ?_
    refine lv_iload_n hx hb dX9_changeStart_27 rfl (lv_at hl 1 rfl) ?_
    refine lv_icmp_le (tgt := 34) hx hb dX9_changeStart_28 (by decide) (fun hc => ?_) (fun hc => ?_)
    · have hf := ft hf hc
      refine lv_aload_n hx hb dX9_changeStart_34 rfl (lv_at hl 0 rfl) ?_
      refine va_get (D := D) (ci := 8) (v := .ref A_t_house) (C := RX9) (T := TX9) (N := 8) hx hb hts wX9_changeStart_X9 hown hK.1 hP 0 rfl rfl 0 (by decide) (hts _ mX9_changeStart_f10) (fun _ h9 => h9) rfl dX9_changeStart_35 ?_
      refine va_get (D := D) (ci := 1) (v := .int t_house_start) (C := RX2) (T := TX2) (N := 6) hx hb hts wX9_changeStart_X2 hown hK.1 hP 1 rfl rfl 2 (by decide) (hts _ mX9_changeStart_f69) (fun _ h9 => h9) rfl dX9_changeStart_38 ?_
      refine lv_istore_n (lv' := [(2, .int t_house_start), (0, .ref A_t), (1, .int a1)]) hx hb dX9_changeStart_41 rfl hl (by decide) rfl (fun ls hl => ?_)
      refine lv_aload_n hx hb dX9_changeStart_42 rfl (lv_at hl 1 rfl) ?_
      refine va_get (D := D) (ci := 8) (v := .ref A_t_house) (C := RX9) (T := TX9) (N := 8) hx hb hts wX9_changeStart_X9 hown hK.1 hP 0 rfl rfl 0 (by decide) (hts _ mX9_changeStart_f10) (fun _ h9 => h9) rfl dX9_changeStart_43 ?_
      refine lv_iload_n hx hb dX9_changeStart_46 rfl (lv_at hl 2 rfl) ?_
      refine va_put (D := D) (ci := 1) (v := .int a1) (ty := .int) (C := RX2) (T := TX2) (N := 6) hx hb hts wX9_changeStart_X2 tyX2 tyX2_ok nmX2 hown hK.1 hP hD hS 1 rfl rfl 2 (by decide) (hts _ mX9_changeStart_f69) (fun _ h9 => h9) rfl (by decide +kernel) rfl rfl (Nat.le_of_ble_eq_true rfl) dX9_changeStart_47 (fun H locs hP hD hS => ?_)
      have hP : va_P D vwCl [(A_t, .inr (8, [.ref A_t_house, .ref A_t_pad, .ref A_t_hours, .ref A_t_laws, .ref A_t_sights, .ref A_t_worlds, .ref A_t_trialYear, .ref A_t_images])), (A_t_house, .inr (1, [.int t_house_there, .int t_house_awake, .int a1, .int t_house_sharp, .ref A_t_house_counts, .ref A_t_house_paces])), (A_t_house_counts, .inl (ty.1, 8, .inl t_house_counts)), (A_t_house_paces, .inl (ty.1, 8, .inl t_house_paces))] H := hP
      have hD : va_D (va_A WC s.heap.size) [(A_t, .inr (8, [.ref A_t_house, .ref A_t_pad, .ref A_t_hours, .ref A_t_laws, .ref A_t_sights, .ref A_t_worlds, .ref A_t_trialYear, .ref A_t_images])), (A_t_house, .inr (1, [.int t_house_there, .int t_house_awake, .int a1, .int t_house_sharp, .ref A_t_house_counts, .ref A_t_house_paces])), (A_t_house_counts, .inl (ty.1, 8, .inl t_house_counts)), (A_t_house_paces, .inl (ty.1, 8, .inl t_house_paces))] := hD
      refine lv_iload_n hx hb dX9_changeStart_50 rfl (lv_at hl 0 rfl) ?_
      cases hf
      exact ret_wi hx hb hr hlocks hP hD hS dX9_changeStart_51
    · have hf := ff hf hc
      refine lv_bipush (v := (-3)) hx hb dX9_changeStart_31 (by decide) ?_
      cases hf
      exact ret_wi hx hb hr hlocks hP hD hS dX9_changeStart_33
  · have hf := ft hf hc
    refine lv_bipush (v := (-2)) hx hb dX9_changeStart_10 (by decide) ?_
    cases hf
    exact ret_wi hx hb hr hlocks hP hD hS dX9_changeStart_12
/-! ===== SilenceCount.differ()I ===== -/
abbrev rmX9_differ : Room := { frames := 3, cells := 0, slots := 0, locals := 64 }
theorem kkX9_differ : yX9_differ.cls = RX9 ∧ yX9_differ.cls ≠ "java/lang/invoke/MethodHandle" ∧ yX9_differ.cls ≠ "java/lang/invoke/VarHandle" ∧ (parseMethodDescriptor yX9_differ.desc).map (fun d => d.parameters.length) = some 0 := by decide +kernel
theorem mX9_differ_f10 : Cond.fieldLink RX9 10 "SilenceCount" "house" "LSilenceCount$House;" ∈ wsX9_differ := by decide +kernel
theorem wX9_differ_X9 : ∀ w ∈ u_ws RX9 TX9 8, w ∈ wsX9_differ := by decide +kernel
def fX9_differ (t_house_awake : Int32) (t_house_counts : Nat → Int32) : Option (Int32) :=
  (fX2_spread t_house_awake t_house_counts).bind fun r4 => some r4
set_option maxRecDepth 100000 in
set_option maxHeartbeats 4000000 in
theorem CX9_differ (l : Launch) {D : va_G} {ty : TY} {A_t A_t_pad A_t_hours A_t_laws A_t_sights A_t_worlds A_t_trialYear A_t_images A_t_house A_t_house_counts A_t_house_paces : Nat} {t_house_there : Int32} {t_house_awake : Int32} {t_house_start : Int32} {t_house_sharp : Int32} {t_house_counts : Nat → Int32} {t_house_paces : Nat → Int32} {q0 : Int32} (hf : fX9_differ t_house_awake t_house_counts = some q0) : ROi l yX9_differ wsX9_differ rmX9_differ D ty [.ref A_t] [(A_t, .inr (8, [.ref A_t_house, .ref A_t_pad, .ref A_t_hours, .ref A_t_laws, .ref A_t_sights, .ref A_t_worlds, .ref A_t_trialYear, .ref A_t_images])), (A_t_house, .inr (1, [.int t_house_there, .int t_house_awake, .int t_house_start, .int t_house_sharp, .ref A_t_house_counts, .ref A_t_house_paces])), (A_t_house_counts, .inl (ty.1, 8, .inl t_house_counts)), (A_t_house_paces, .inl (ty.1, 8, .inl t_house_paces))] q0 := by
  refine ROi.start (cc := cX9_differ) (maxL := 1) (ret := (some .int)) (own := RX9) (by decide) rfl rfl (Nat.le_of_ble_eq_true rfl) ?_
  intro p e s m below meth c ls C hK hP hl
  obtain ⟨hx, hb, hr, hml, hown, hts, hlocks⟩ := id C
  have hl : lv_has ls 1 [(0, .ref A_t)] := hl
  unfold fX9_differ at hf
  refine lv_aload_n hx hb dX9_differ_0 rfl (lv_at hl 0 rfl) ?_
  refine va_get (D := D) (ci := 8) (v := .ref A_t_house) (C := RX9) (T := TX9) (N := 8) hx hb hts wX9_differ_X9 hown hK.1 hP 0 rfl rfl 0 (by decide) (hts _ mX9_differ_f10) (fun _ h9 => h9) rfl dX9_differ_1 ?_
  obtain ⟨r4, hr4, hf⟩ := bnd hf
  have hPc : va_P D vwCl [(A_t_house, .inr (1, [.int t_house_there, .int t_house_awake, .int t_house_start, .int t_house_sharp, .ref A_t_house_counts, .ref A_t_house_paces])), (A_t_house_counts, .inl (ty.1, 8, .inl t_house_counts)), (A_t_house_paces, .inl (ty.1, 8, .inl t_house_paces))] _ := hP.sub [1, 2, 3] rfl
  refine callV_ri (As := []) (rest := []) ⟨hx, hb, hml, hown, hts⟩ (CX2_spread l hr4) (cwV 0 hts gX9_differ_X2_spread rfl rfl rfl kkX2_spread ⟨Nat.le_of_ble_eq_true rfl, Nat.le_of_ble_eq_true rfl⟩) hK hPc 0 rfl rfl rfl hl.1 rfl (Nat.le_of_ble_eq_true rfl) dX9_differ_4 ⟨Nat.zero_le _, Nat.zero_le _⟩ ?_
  exact ret_ri hx hb hr hlocks hf dX9_differ_7
/-! ===== SilenceCount.done()I ===== -/
abbrev rmX9_done : Room := { frames := 6, cells := 0, slots := 0, locals := 137 }
theorem kkX9_done : yX9_done.cls = RX9 ∧ yX9_done.cls ≠ "java/lang/invoke/MethodHandle" ∧ yX9_done.cls ≠ "java/lang/invoke/VarHandle" ∧ (parseMethodDescriptor yX9_done.desc).map (fun d => d.parameters.length) = some 0 := by decide +kernel
theorem mX9_done_f26 : Cond.fieldLink RX9 26 "SilenceCount" "hours" "LSilenceCount$Hours;" ∈ wsX9_done := by decide +kernel
theorem mX9_done_f19 : Cond.fieldLink RX9 19 "SilenceCount" "pad" "LSilenceCount$Pad;" ∈ wsX9_done := by decide +kernel
theorem mX9_done_f10 : Cond.fieldLink RX9 10 "SilenceCount" "house" "LSilenceCount$House;" ∈ wsX9_done := by decide +kernel
theorem mX9_done_f134 : Cond.fieldLink RX9 134 "SilenceCount$Hours" "house" "LSilenceCount$House;" ∈ wsX9_done := by decide +kernel
theorem mX9_done_f139 : Cond.fieldLink RX9 139 "SilenceCount$Pad" "acts" "I" ∈ wsX9_done := by decide +kernel
theorem mX9_done_f113 : Cond.fieldLink RX9 113 "SilenceCount$Pad" "size" "I" ∈ wsX9_done := by decide +kernel
theorem wX9_done_X1 : ∀ w ∈ u_ws RX1 TX1 7, w ∈ wsX9_done := by decide +kernel
theorem wX9_done_X5 : ∀ w ∈ u_ws RX5 TX5 5, w ∈ wsX9_done := by decide +kernel
theorem wX9_done_X9 : ∀ w ∈ u_ws RX9 TX9 8, w ∈ wsX9_done := by decide +kernel
def fX9_done (t_house_there : Int32) (t_house_awake : Int32) (t_house_start : Int32) (t_house_sharp : Int32) (t_house_counts : Nat → Int32) (t_house_paces : Nat → Int32) (t_pad_size : Int32) (t_pad_acts : Int32) (t_pad_signs : Nat → Int32) (t_pad_actMonks : Nat → Int32) (t_pad_actSigns : Nat → Int32) (t_hours_hasFault : Int32) (t_hours_wrongAct : Int32) (t_hours_why : Int32) (t_hours_breathsSoFar : Int32) (t_hours_breathOfFirstNought : Int32) (t_hours_firstNoticed : Int32) (t_hours_house_there : Int32) (t_hours_house_awake : Int32) (t_hours_house_start : Int32) (t_hours_house_sharp : Int32) (t_hours_house_counts : Nat → Int32) (t_hours_house_paces : Nat → Int32) : Option (Int32 × Int32 × Int32 × Int32 × Int32 × (Nat → Int32) × (Nat → Int32) × Int32 × Int32 × (Nat → Int32) × (Nat → Int32) × Int32 × Int32 × Int32 × Int32 × Int32 × Int32 × Int32 × Int32 × Int32 × Int32 × (Nat → Int32) × (Nat → Int32)) :=
  (fX1_follow t_hours_hasFault t_hours_wrongAct t_hours_why t_hours_breathsSoFar t_hours_breathOfFirstNought t_hours_firstNoticed t_hours_house_there t_hours_house_awake t_hours_house_start t_hours_house_sharp t_hours_house_counts t_hours_house_paces t_pad_size t_pad_acts t_pad_signs t_pad_actMonks t_pad_actSigns t_house_there t_house_awake t_house_start t_house_sharp t_house_counts t_house_paces).bind fun r12 => if r12.1 = 0 then some ((-5), t_house_there, t_house_awake, t_house_start, t_house_sharp, t_house_counts, t_house_paces, t_pad_size, r12.2.2.2.2.2.2.2.2.2.2.2.2.2.1, r12.2.2.2.2.2.2.2.2.2.2.2.2.2.2.1, r12.2.2.2.2.2.2.2.2.2.2.2.2.2.2.2, r12.2.1, r12.2.2.1, r12.2.2.2.1, r12.2.2.2.2.1, r12.2.2.2.2.2.1, r12.2.2.2.2.2.2.1, r12.2.2.2.2.2.2.2.1, r12.2.2.2.2.2.2.2.2.1, r12.2.2.2.2.2.2.2.2.2.1, r12.2.2.2.2.2.2.2.2.2.2.1, r12.2.2.2.2.2.2.2.2.2.2.2.1, r12.2.2.2.2.2.2.2.2.2.2.2.2.1) else (fX2_copyFrom t_house_there t_house_awake t_house_start t_house_sharp t_house_counts t_house_paces r12.2.2.2.2.2.2.2.1 r12.2.2.2.2.2.2.2.2.1 r12.2.2.2.2.2.2.2.2.2.1 r12.2.2.2.2.2.2.2.2.2.2.1 r12.2.2.2.2.2.2.2.2.2.2.2.1 r12.2.2.2.2.2.2.2.2.2.2.2.2.1).bind fun r32 => some (r12.2.2.2.2.2.2.2.2.2.2.2.2.2.1, r32.1, r32.2.1, r32.2.2.1, r32.2.2.2.1, r32.2.2.2.2.1, r32.2.2.2.2.2, 0, r12.2.2.2.2.2.2.2.2.2.2.2.2.2.1, r12.2.2.2.2.2.2.2.2.2.2.2.2.2.2.1, r12.2.2.2.2.2.2.2.2.2.2.2.2.2.2.2, r12.2.1, r12.2.2.1, r12.2.2.2.1, r12.2.2.2.2.1, r12.2.2.2.2.2.1, r12.2.2.2.2.2.2.1, r12.2.2.2.2.2.2.2.1, r12.2.2.2.2.2.2.2.2.1, r12.2.2.2.2.2.2.2.2.2.1, r12.2.2.2.2.2.2.2.2.2.2.1, r12.2.2.2.2.2.2.2.2.2.2.2.1, r12.2.2.2.2.2.2.2.2.2.2.2.2.1)
set_option maxRecDepth 100000 in
set_option maxHeartbeats 4000000 in
theorem CX9_done (l : Launch) {D : va_G} {ty : TY} {A_t A_t_laws A_t_sights A_t_worlds A_t_trialYear A_t_images A_t_house A_t_house_counts A_t_house_paces A_t_pad A_t_pad_signs A_t_pad_actMonks A_t_pad_actSigns A_t_hours A_t_hours_house A_t_hours_house_counts A_t_hours_house_paces : Nat} {t_house_there : Int32} {t_house_awake : Int32} {t_house_start : Int32} {t_house_sharp : Int32} {t_house_counts : Nat → Int32} {t_house_paces : Nat → Int32} {t_pad_size : Int32} {t_pad_acts : Int32} {t_pad_signs : Nat → Int32} {t_pad_actMonks : Nat → Int32} {t_pad_actSigns : Nat → Int32} {t_hours_hasFault : Int32} {t_hours_wrongAct : Int32} {t_hours_why : Int32} {t_hours_breathsSoFar : Int32} {t_hours_breathOfFirstNought : Int32} {t_hours_firstNoticed : Int32} {t_hours_house_there : Int32} {t_hours_house_awake : Int32} {t_hours_house_start : Int32} {t_hours_house_sharp : Int32} {t_hours_house_counts : Nat → Int32} {t_hours_house_paces : Nat → Int32} {q0 : Int32 × Int32 × Int32 × Int32 × Int32 × (Nat → Int32) × (Nat → Int32) × Int32 × Int32 × (Nat → Int32) × (Nat → Int32) × Int32 × Int32 × Int32 × Int32 × Int32 × Int32 × Int32 × Int32 × Int32 × Int32 × (Nat → Int32) × (Nat → Int32)} (hf : fX9_done t_house_there t_house_awake t_house_start t_house_sharp t_house_counts t_house_paces t_pad_size t_pad_acts t_pad_signs t_pad_actMonks t_pad_actSigns t_hours_hasFault t_hours_wrongAct t_hours_why t_hours_breathsSoFar t_hours_breathOfFirstNought t_hours_firstNoticed t_hours_house_there t_hours_house_awake t_hours_house_start t_hours_house_sharp t_hours_house_counts t_hours_house_paces = some q0) : RWi l yX9_done wsX9_done rmX9_done D ty [.ref A_t] [(A_t, .inr (8, [.ref A_t_house, .ref A_t_pad, .ref A_t_hours, .ref A_t_laws, .ref A_t_sights, .ref A_t_worlds, .ref A_t_trialYear, .ref A_t_images])), (A_t_house, .inr (1, [.int t_house_there, .int t_house_awake, .int t_house_start, .int t_house_sharp, .ref A_t_house_counts, .ref A_t_house_paces])), (A_t_house_counts, .inl (ty.1, 8, .inl t_house_counts)), (A_t_house_paces, .inl (ty.1, 8, .inl t_house_paces)), (A_t_pad, .inr (4, [.int t_pad_size, .ref A_t_pad_signs, .int t_pad_acts, .ref A_t_pad_actMonks, .ref A_t_pad_actSigns])), (A_t_pad_signs, .inl (ty.1, 60, .inl t_pad_signs)), (A_t_pad_actMonks, .inl (ty.1, 60, .inl t_pad_actMonks)), (A_t_pad_actSigns, .inl (ty.1, 60, .inl t_pad_actSigns)), (A_t_hours, .inr (0, [.ref A_t_hours_house, .int t_hours_hasFault, .int t_hours_wrongAct, .int t_hours_why, .int t_hours_breathsSoFar, .int t_hours_breathOfFirstNought, .int t_hours_firstNoticed])), (A_t_hours_house, .inr (1, [.int t_hours_house_there, .int t_hours_house_awake, .int t_hours_house_start, .int t_hours_house_sharp, .ref A_t_hours_house_counts, .ref A_t_hours_house_paces])), (A_t_hours_house_counts, .inl (ty.1, 8, .inl t_hours_house_counts)), (A_t_hours_house_paces, .inl (ty.1, 8, .inl t_hours_house_paces))] q0.1 [(A_t, .inr (8, [.ref A_t_house, .ref A_t_pad, .ref A_t_hours, .ref A_t_laws, .ref A_t_sights, .ref A_t_worlds, .ref A_t_trialYear, .ref A_t_images])), (A_t_house, .inr (1, [.int q0.2.1, .int q0.2.2.1, .int q0.2.2.2.1, .int q0.2.2.2.2.1, .ref A_t_house_counts, .ref A_t_house_paces])), (A_t_house_counts, .inl (ty.1, 8, .inl q0.2.2.2.2.2.1)), (A_t_house_paces, .inl (ty.1, 8, .inl q0.2.2.2.2.2.2.1)), (A_t_pad, .inr (4, [.int q0.2.2.2.2.2.2.2.1, .ref A_t_pad_signs, .int q0.2.2.2.2.2.2.2.2.1, .ref A_t_pad_actMonks, .ref A_t_pad_actSigns])), (A_t_pad_signs, .inl (ty.1, 60, .inl t_pad_signs)), (A_t_pad_actMonks, .inl (ty.1, 60, .inl q0.2.2.2.2.2.2.2.2.2.1)), (A_t_pad_actSigns, .inl (ty.1, 60, .inl q0.2.2.2.2.2.2.2.2.2.2.1)), (A_t_hours, .inr (0, [.ref A_t_hours_house, .int q0.2.2.2.2.2.2.2.2.2.2.2.1, .int q0.2.2.2.2.2.2.2.2.2.2.2.2.1, .int q0.2.2.2.2.2.2.2.2.2.2.2.2.2.1, .int q0.2.2.2.2.2.2.2.2.2.2.2.2.2.2.1, .int q0.2.2.2.2.2.2.2.2.2.2.2.2.2.2.2.1, .int q0.2.2.2.2.2.2.2.2.2.2.2.2.2.2.2.2.1])), (A_t_hours_house, .inr (1, [.int q0.2.2.2.2.2.2.2.2.2.2.2.2.2.2.2.2.2.1, .int q0.2.2.2.2.2.2.2.2.2.2.2.2.2.2.2.2.2.2.1, .int q0.2.2.2.2.2.2.2.2.2.2.2.2.2.2.2.2.2.2.2.1, .int q0.2.2.2.2.2.2.2.2.2.2.2.2.2.2.2.2.2.2.2.2.1, .ref A_t_hours_house_counts, .ref A_t_hours_house_paces])), (A_t_hours_house_counts, .inl (ty.1, 8, .inl q0.2.2.2.2.2.2.2.2.2.2.2.2.2.2.2.2.2.2.2.2.2.1)), (A_t_hours_house_paces, .inl (ty.1, 8, .inl q0.2.2.2.2.2.2.2.2.2.2.2.2.2.2.2.2.2.2.2.2.2.2))] := by
  refine RWi.start (cc := cX9_done) (maxL := 1) (ret := (some .int)) (own := RX9) (by decide) rfl rfl (Nat.le_of_ble_eq_true rfl) ?_
  intro p e s m below meth c ls C hK hP hD hS hl
  obtain ⟨WC, hWC⟩ : ∃ w : va_W, w = [(A_t, .inr (8, [.ref A_t_house, .ref A_t_pad, .ref A_t_hours, .ref A_t_laws, .ref A_t_sights, .ref A_t_worlds, .ref A_t_trialYear, .ref A_t_images])), (A_t_house, .inr (1, [.int t_house_there, .int t_house_awake, .int t_house_start, .int t_house_sharp, .ref A_t_house_counts, .ref A_t_house_paces])), (A_t_house_counts, .inl (ty.1, 8, .inl t_house_counts)), (A_t_house_paces, .inl (ty.1, 8, .inl t_house_paces)), (A_t_pad, .inr (4, [.int t_pad_size, .ref A_t_pad_signs, .int t_pad_acts, .ref A_t_pad_actMonks, .ref A_t_pad_actSigns])), (A_t_pad_signs, .inl (ty.1, 60, .inl t_pad_signs)), (A_t_pad_actMonks, .inl (ty.1, 60, .inl t_pad_actMonks)), (A_t_pad_actSigns, .inl (ty.1, 60, .inl t_pad_actSigns)), (A_t_hours, .inr (0, [.ref A_t_hours_house, .int t_hours_hasFault, .int t_hours_wrongAct, .int t_hours_why, .int t_hours_breathsSoFar, .int t_hours_breathOfFirstNought, .int t_hours_firstNoticed])), (A_t_hours_house, .inr (1, [.int t_hours_house_there, .int t_hours_house_awake, .int t_hours_house_start, .int t_hours_house_sharp, .ref A_t_hours_house_counts, .ref A_t_hours_house_paces])), (A_t_hours_house_counts, .inl (ty.1, 8, .inl t_hours_house_counts)), (A_t_hours_house_paces, .inl (ty.1, 8, .inl t_hours_house_paces))] := ⟨_, rfl⟩
  rw [← hWC] at hD hS ⊢
  have hD : va_D (va_A WC s.heap.size) [(A_t, .inr (8, [.ref A_t_house, .ref A_t_pad, .ref A_t_hours, .ref A_t_laws, .ref A_t_sights, .ref A_t_worlds, .ref A_t_trialYear, .ref A_t_images])), (A_t_house, .inr (1, [.int t_house_there, .int t_house_awake, .int t_house_start, .int t_house_sharp, .ref A_t_house_counts, .ref A_t_house_paces])), (A_t_house_counts, .inl (ty.1, 8, .inl t_house_counts)), (A_t_house_paces, .inl (ty.1, 8, .inl t_house_paces)), (A_t_pad, .inr (4, [.int t_pad_size, .ref A_t_pad_signs, .int t_pad_acts, .ref A_t_pad_actMonks, .ref A_t_pad_actSigns])), (A_t_pad_signs, .inl (ty.1, 60, .inl t_pad_signs)), (A_t_pad_actMonks, .inl (ty.1, 60, .inl t_pad_actMonks)), (A_t_pad_actSigns, .inl (ty.1, 60, .inl t_pad_actSigns)), (A_t_hours, .inr (0, [.ref A_t_hours_house, .int t_hours_hasFault, .int t_hours_wrongAct, .int t_hours_why, .int t_hours_breathsSoFar, .int t_hours_breathOfFirstNought, .int t_hours_firstNoticed])), (A_t_hours_house, .inr (1, [.int t_hours_house_there, .int t_hours_house_awake, .int t_hours_house_start, .int t_hours_house_sharp, .ref A_t_hours_house_counts, .ref A_t_hours_house_paces])), (A_t_hours_house_counts, .inl (ty.1, 8, .inl t_hours_house_counts)), (A_t_hours_house_paces, .inl (ty.1, 8, .inl t_hours_house_paces))] := by rw [← hWC]; exact hD
  obtain ⟨hx, hb, hr, hml, hown, hts, hlocks⟩ := id C
  have hl : lv_has ls 1 [(0, .ref A_t)] := hl
  unfold fX9_done at hf
  refine lv_aload_n hx hb dX9_done_0 rfl (lv_at hl 0 rfl) ?_
  refine va_get (D := D) (ci := 8) (v := .ref A_t_hours) (C := RX9) (T := TX9) (N := 8) hx hb hts wX9_done_X9 hown hK.1 hP 0 rfl rfl 2 (by decide) (hts _ mX9_done_f26) (fun _ h9 => h9) rfl dX9_done_1 ?_
  refine lv_aload_n hx hb dX9_done_4 rfl (lv_at hl 0 rfl) ?_
  refine va_get (D := D) (ci := 8) (v := .ref A_t_pad) (C := RX9) (T := TX9) (N := 8) hx hb hts wX9_done_X9 hown hK.1 hP 0 rfl rfl 1 (by decide) (hts _ mX9_done_f19) (fun _ h9 => h9) rfl dX9_done_5 ?_
  refine lv_aload_n hx hb dX9_done_8 rfl (lv_at hl 0 rfl) ?_
  refine va_get (D := D) (ci := 8) (v := .ref A_t_house) (C := RX9) (T := TX9) (N := 8) hx hb hts wX9_done_X9 hown hK.1 hP 0 rfl rfl 0 (by decide) (hts _ mX9_done_f10) (fun _ h9 => h9) rfl dX9_done_9 ?_
  obtain ⟨r12, hr12, hf⟩ := bnd hf
  refine callV_wi (As := [.ref A_t_pad, .ref A_t_house]) (rest := []) ⟨hx, hb, hml, hown, hts⟩ (CX1_follow l hr12) (cwV 2 hts gX9_done_X1_follow rfl rfl rfl kkX1_follow ⟨Nat.le_of_ble_eq_true rfl, Nat.le_of_ble_eq_true rfl⟩) hK hP hD hS (fun _ h => Or.inr h) [8, 9, 10, 11, 4, 5, 6, 7, 1, 2, 3] [0] [0, 9, 10, 11, 5, 6, 7, 8, 1, 2, 3, 4] rfl (by decide) (by decide) rfl rfl 0 rfl rfl rfl hl.1 rfl (Nat.le_of_ble_eq_true rfl) dX9_done_12 ⟨Nat.zero_le _, Nat.zero_le _⟩ (fun H locs hP hD hS => ?_)
  have hP : va_P D vwCl [(A_t, .inr (8, [.ref A_t_house, .ref A_t_pad, .ref A_t_hours, .ref A_t_laws, .ref A_t_sights, .ref A_t_worlds, .ref A_t_trialYear, .ref A_t_images])), (A_t_house, .inr (1, [.int t_house_there, .int t_house_awake, .int t_house_start, .int t_house_sharp, .ref A_t_house_counts, .ref A_t_house_paces])), (A_t_house_counts, .inl (ty.1, 8, .inl t_house_counts)), (A_t_house_paces, .inl (ty.1, 8, .inl t_house_paces)), (A_t_pad, .inr (4, [.int t_pad_size, .ref A_t_pad_signs, .int r12.2.2.2.2.2.2.2.2.2.2.2.2.2.1, .ref A_t_pad_actMonks, .ref A_t_pad_actSigns])), (A_t_pad_signs, .inl (ty.1, 60, .inl t_pad_signs)), (A_t_pad_actMonks, .inl (ty.1, 60, .inl r12.2.2.2.2.2.2.2.2.2.2.2.2.2.2.1)), (A_t_pad_actSigns, .inl (ty.1, 60, .inl r12.2.2.2.2.2.2.2.2.2.2.2.2.2.2.2)), (A_t_hours, .inr (0, [.ref A_t_hours_house, .int r12.2.1, .int r12.2.2.1, .int r12.2.2.2.1, .int r12.2.2.2.2.1, .int r12.2.2.2.2.2.1, .int r12.2.2.2.2.2.2.1])), (A_t_hours_house, .inr (1, [.int r12.2.2.2.2.2.2.2.1, .int r12.2.2.2.2.2.2.2.2.1, .int r12.2.2.2.2.2.2.2.2.2.1, .int r12.2.2.2.2.2.2.2.2.2.2.1, .ref A_t_hours_house_counts, .ref A_t_hours_house_paces])), (A_t_hours_house_counts, .inl (ty.1, 8, .inl r12.2.2.2.2.2.2.2.2.2.2.2.1)), (A_t_hours_house_paces, .inl (ty.1, 8, .inl r12.2.2.2.2.2.2.2.2.2.2.2.2.1))] H := hP
  have hD : va_D (va_A WC s.heap.size) [(A_t, .inr (8, [.ref A_t_house, .ref A_t_pad, .ref A_t_hours, .ref A_t_laws, .ref A_t_sights, .ref A_t_worlds, .ref A_t_trialYear, .ref A_t_images])), (A_t_house, .inr (1, [.int t_house_there, .int t_house_awake, .int t_house_start, .int t_house_sharp, .ref A_t_house_counts, .ref A_t_house_paces])), (A_t_house_counts, .inl (ty.1, 8, .inl t_house_counts)), (A_t_house_paces, .inl (ty.1, 8, .inl t_house_paces)), (A_t_pad, .inr (4, [.int t_pad_size, .ref A_t_pad_signs, .int r12.2.2.2.2.2.2.2.2.2.2.2.2.2.1, .ref A_t_pad_actMonks, .ref A_t_pad_actSigns])), (A_t_pad_signs, .inl (ty.1, 60, .inl t_pad_signs)), (A_t_pad_actMonks, .inl (ty.1, 60, .inl r12.2.2.2.2.2.2.2.2.2.2.2.2.2.2.1)), (A_t_pad_actSigns, .inl (ty.1, 60, .inl r12.2.2.2.2.2.2.2.2.2.2.2.2.2.2.2)), (A_t_hours, .inr (0, [.ref A_t_hours_house, .int r12.2.1, .int r12.2.2.1, .int r12.2.2.2.1, .int r12.2.2.2.2.1, .int r12.2.2.2.2.2.1, .int r12.2.2.2.2.2.2.1])), (A_t_hours_house, .inr (1, [.int r12.2.2.2.2.2.2.2.1, .int r12.2.2.2.2.2.2.2.2.1, .int r12.2.2.2.2.2.2.2.2.2.1, .int r12.2.2.2.2.2.2.2.2.2.2.1, .ref A_t_hours_house_counts, .ref A_t_hours_house_paces])), (A_t_hours_house_counts, .inl (ty.1, 8, .inl r12.2.2.2.2.2.2.2.2.2.2.2.1)), (A_t_hours_house_paces, .inl (ty.1, 8, .inl r12.2.2.2.2.2.2.2.2.2.2.2.2.1))] := hD
  refine lv_if_ne (tgt := 21) hx hb dX9_done_15 (by decide) (fun hc => ?_) (fun hc => ?_)
  · have hf := ff hf hc
    refine lv_aload_n hx hb dX9_done_21 rfl (lv_at hl 0 rfl) ?_
    refine va_get (D := D) (ci := 8) (v := .ref A_t_house) (C := RX9) (T := TX9) (N := 8) hx hb hts wX9_done_X9 hown hK.1 hP 0 rfl rfl 0 (by decide) (hts _ mX9_done_f10) (fun _ h9 => h9) rfl dX9_done_22 ?_
    refine lv_aload_n hx hb dX9_done_25 rfl (lv_at hl 0 rfl) ?_
    refine va_get (D := D) (ci := 8) (v := .ref A_t_hours) (C := RX9) (T := TX9) (N := 8) hx hb hts wX9_done_X9 hown hK.1 hP 0 rfl rfl 2 (by decide) (hts _ mX9_done_f26) (fun _ h9 => h9) rfl dX9_done_26 ?_
    refine va_get (D := D) (ci := 0) (v := .ref A_t_hours_house) (C := RX1) (T := TX1) (N := 7) hx hb hts wX9_done_X1 hown hK.1 hP 8 rfl rfl 0 (by decide) (hts _ mX9_done_f134) (fun _ h9 => h9) rfl dX9_done_29 ?_
    obtain ⟨r32, hr32, hf⟩ := bnd hf
    refine callV_wv (As := [.ref A_t_hours_house]) (rest := []) ⟨hx, hb, hml, hown, hts⟩ (CX2_copyFrom l hr32) (cwV 1 hts gX9_done_X2_copyFrom rfl rfl rfl kkX2_copyFrom ⟨Nat.le_of_ble_eq_true rfl, Nat.le_of_ble_eq_true rfl⟩) hK hP hD hS (fun _ h => Or.inr h) [1, 2, 3, 9, 10, 11] [0, 4, 5, 6, 7, 8] [0, 6, 7, 8, 1, 2, 3, 4, 5, 9, 10, 11] rfl (by decide) (by decide) rfl rfl 0 rfl rfl rfl hl.1 rfl (Nat.le_of_ble_eq_true rfl) dX9_done_32 ⟨Nat.zero_le _, Nat.zero_le _⟩ (fun H locs hP hD hS => ?_)
    have hP : va_P D vwCl [(A_t, .inr (8, [.ref A_t_house, .ref A_t_pad, .ref A_t_hours, .ref A_t_laws, .ref A_t_sights, .ref A_t_worlds, .ref A_t_trialYear, .ref A_t_images])), (A_t_house, .inr (1, [.int r32.1, .int r32.2.1, .int r32.2.2.1, .int r32.2.2.2.1, .ref A_t_house_counts, .ref A_t_house_paces])), (A_t_house_counts, .inl (ty.1, 8, .inl r32.2.2.2.2.1)), (A_t_house_paces, .inl (ty.1, 8, .inl r32.2.2.2.2.2)), (A_t_pad, .inr (4, [.int t_pad_size, .ref A_t_pad_signs, .int r12.2.2.2.2.2.2.2.2.2.2.2.2.2.1, .ref A_t_pad_actMonks, .ref A_t_pad_actSigns])), (A_t_pad_signs, .inl (ty.1, 60, .inl t_pad_signs)), (A_t_pad_actMonks, .inl (ty.1, 60, .inl r12.2.2.2.2.2.2.2.2.2.2.2.2.2.2.1)), (A_t_pad_actSigns, .inl (ty.1, 60, .inl r12.2.2.2.2.2.2.2.2.2.2.2.2.2.2.2)), (A_t_hours, .inr (0, [.ref A_t_hours_house, .int r12.2.1, .int r12.2.2.1, .int r12.2.2.2.1, .int r12.2.2.2.2.1, .int r12.2.2.2.2.2.1, .int r12.2.2.2.2.2.2.1])), (A_t_hours_house, .inr (1, [.int r12.2.2.2.2.2.2.2.1, .int r12.2.2.2.2.2.2.2.2.1, .int r12.2.2.2.2.2.2.2.2.2.1, .int r12.2.2.2.2.2.2.2.2.2.2.1, .ref A_t_hours_house_counts, .ref A_t_hours_house_paces])), (A_t_hours_house_counts, .inl (ty.1, 8, .inl r12.2.2.2.2.2.2.2.2.2.2.2.1)), (A_t_hours_house_paces, .inl (ty.1, 8, .inl r12.2.2.2.2.2.2.2.2.2.2.2.2.1))] H := hP
    have hD : va_D (va_A WC s.heap.size) [(A_t, .inr (8, [.ref A_t_house, .ref A_t_pad, .ref A_t_hours, .ref A_t_laws, .ref A_t_sights, .ref A_t_worlds, .ref A_t_trialYear, .ref A_t_images])), (A_t_house, .inr (1, [.int r32.1, .int r32.2.1, .int r32.2.2.1, .int r32.2.2.2.1, .ref A_t_house_counts, .ref A_t_house_paces])), (A_t_house_counts, .inl (ty.1, 8, .inl r32.2.2.2.2.1)), (A_t_house_paces, .inl (ty.1, 8, .inl r32.2.2.2.2.2)), (A_t_pad, .inr (4, [.int t_pad_size, .ref A_t_pad_signs, .int r12.2.2.2.2.2.2.2.2.2.2.2.2.2.1, .ref A_t_pad_actMonks, .ref A_t_pad_actSigns])), (A_t_pad_signs, .inl (ty.1, 60, .inl t_pad_signs)), (A_t_pad_actMonks, .inl (ty.1, 60, .inl r12.2.2.2.2.2.2.2.2.2.2.2.2.2.2.1)), (A_t_pad_actSigns, .inl (ty.1, 60, .inl r12.2.2.2.2.2.2.2.2.2.2.2.2.2.2.2)), (A_t_hours, .inr (0, [.ref A_t_hours_house, .int r12.2.1, .int r12.2.2.1, .int r12.2.2.2.1, .int r12.2.2.2.2.1, .int r12.2.2.2.2.2.1, .int r12.2.2.2.2.2.2.1])), (A_t_hours_house, .inr (1, [.int r12.2.2.2.2.2.2.2.1, .int r12.2.2.2.2.2.2.2.2.1, .int r12.2.2.2.2.2.2.2.2.2.1, .int r12.2.2.2.2.2.2.2.2.2.2.1, .ref A_t_hours_house_counts, .ref A_t_hours_house_paces])), (A_t_hours_house_counts, .inl (ty.1, 8, .inl r12.2.2.2.2.2.2.2.2.2.2.2.1)), (A_t_hours_house_paces, .inl (ty.1, 8, .inl r12.2.2.2.2.2.2.2.2.2.2.2.2.1))] := hD
    refine lv_aload_n hx hb dX9_done_35 rfl (lv_at hl 0 rfl) ?_
    refine va_get (D := D) (ci := 8) (v := .ref A_t_pad) (C := RX9) (T := TX9) (N := 8) hx hb hts wX9_done_X9 hown hK.1 hP 0 rfl rfl 1 (by decide) (hts _ mX9_done_f19) (fun _ h9 => h9) rfl dX9_done_36 ?_
    refine lv_iconst (v := 0) hx hb dX9_done_39 (by decide) ?_
    refine va_put (D := D) (ci := 4) (v := .int 0) (ty := .int) (C := RX5) (T := TX5) (N := 5) hx hb hts wX9_done_X5 tyX5 tyX5_ok nmX5 hown hK.1 hP hD hS 4 rfl rfl 0 (by decide) (hts _ mX9_done_f113) (fun _ h9 => h9) rfl (by decide +kernel) rfl rfl (Nat.le_of_ble_eq_true rfl) dX9_done_40 (fun H locs hP hD hS => ?_)
    have hP : va_P D vwCl [(A_t, .inr (8, [.ref A_t_house, .ref A_t_pad, .ref A_t_hours, .ref A_t_laws, .ref A_t_sights, .ref A_t_worlds, .ref A_t_trialYear, .ref A_t_images])), (A_t_house, .inr (1, [.int r32.1, .int r32.2.1, .int r32.2.2.1, .int r32.2.2.2.1, .ref A_t_house_counts, .ref A_t_house_paces])), (A_t_house_counts, .inl (ty.1, 8, .inl r32.2.2.2.2.1)), (A_t_house_paces, .inl (ty.1, 8, .inl r32.2.2.2.2.2)), (A_t_pad, .inr (4, [.int 0, .ref A_t_pad_signs, .int r12.2.2.2.2.2.2.2.2.2.2.2.2.2.1, .ref A_t_pad_actMonks, .ref A_t_pad_actSigns])), (A_t_pad_signs, .inl (ty.1, 60, .inl t_pad_signs)), (A_t_pad_actMonks, .inl (ty.1, 60, .inl r12.2.2.2.2.2.2.2.2.2.2.2.2.2.2.1)), (A_t_pad_actSigns, .inl (ty.1, 60, .inl r12.2.2.2.2.2.2.2.2.2.2.2.2.2.2.2)), (A_t_hours, .inr (0, [.ref A_t_hours_house, .int r12.2.1, .int r12.2.2.1, .int r12.2.2.2.1, .int r12.2.2.2.2.1, .int r12.2.2.2.2.2.1, .int r12.2.2.2.2.2.2.1])), (A_t_hours_house, .inr (1, [.int r12.2.2.2.2.2.2.2.1, .int r12.2.2.2.2.2.2.2.2.1, .int r12.2.2.2.2.2.2.2.2.2.1, .int r12.2.2.2.2.2.2.2.2.2.2.1, .ref A_t_hours_house_counts, .ref A_t_hours_house_paces])), (A_t_hours_house_counts, .inl (ty.1, 8, .inl r12.2.2.2.2.2.2.2.2.2.2.2.1)), (A_t_hours_house_paces, .inl (ty.1, 8, .inl r12.2.2.2.2.2.2.2.2.2.2.2.2.1))] H := hP
    have hD : va_D (va_A WC s.heap.size) [(A_t, .inr (8, [.ref A_t_house, .ref A_t_pad, .ref A_t_hours, .ref A_t_laws, .ref A_t_sights, .ref A_t_worlds, .ref A_t_trialYear, .ref A_t_images])), (A_t_house, .inr (1, [.int r32.1, .int r32.2.1, .int r32.2.2.1, .int r32.2.2.2.1, .ref A_t_house_counts, .ref A_t_house_paces])), (A_t_house_counts, .inl (ty.1, 8, .inl r32.2.2.2.2.1)), (A_t_house_paces, .inl (ty.1, 8, .inl r32.2.2.2.2.2)), (A_t_pad, .inr (4, [.int 0, .ref A_t_pad_signs, .int r12.2.2.2.2.2.2.2.2.2.2.2.2.2.1, .ref A_t_pad_actMonks, .ref A_t_pad_actSigns])), (A_t_pad_signs, .inl (ty.1, 60, .inl t_pad_signs)), (A_t_pad_actMonks, .inl (ty.1, 60, .inl r12.2.2.2.2.2.2.2.2.2.2.2.2.2.2.1)), (A_t_pad_actSigns, .inl (ty.1, 60, .inl r12.2.2.2.2.2.2.2.2.2.2.2.2.2.2.2)), (A_t_hours, .inr (0, [.ref A_t_hours_house, .int r12.2.1, .int r12.2.2.1, .int r12.2.2.2.1, .int r12.2.2.2.2.1, .int r12.2.2.2.2.2.1, .int r12.2.2.2.2.2.2.1])), (A_t_hours_house, .inr (1, [.int r12.2.2.2.2.2.2.2.1, .int r12.2.2.2.2.2.2.2.2.1, .int r12.2.2.2.2.2.2.2.2.2.1, .int r12.2.2.2.2.2.2.2.2.2.2.1, .ref A_t_hours_house_counts, .ref A_t_hours_house_paces])), (A_t_hours_house_counts, .inl (ty.1, 8, .inl r12.2.2.2.2.2.2.2.2.2.2.2.1)), (A_t_hours_house_paces, .inl (ty.1, 8, .inl r12.2.2.2.2.2.2.2.2.2.2.2.2.1))] := hD
    refine lv_aload_n hx hb dX9_done_43 rfl (lv_at hl 0 rfl) ?_
    refine va_get (D := D) (ci := 8) (v := .ref A_t_pad) (C := RX9) (T := TX9) (N := 8) hx hb hts wX9_done_X9 hown hK.1 hP 0 rfl rfl 1 (by decide) (hts _ mX9_done_f19) (fun _ h9 => h9) rfl dX9_done_44 ?_
    refine va_get (D := D) (ci := 4) (v := .int r12.2.2.2.2.2.2.2.2.2.2.2.2.2.1) (C := RX5) (T := TX5) (N := 5) hx hb hts wX9_done_X5 hown hK.1 hP 4 rfl rfl 2 (by decide) (hts _ mX9_done_f139) (fun _ h9 => h9) rfl dX9_done_47 ?_
    cases hf
    exact ret_wi hx hb hr hlocks hP hD hS dX9_done_50
  · have hf := ft hf hc
    refine lv_bipush (v := (-5)) hx hb dX9_done_18 (by decide) ?_
    cases hf
    exact ret_wi hx hb hr hlocks hP hD hS dX9_done_20
/-! ===== SilenceCount.elbows(I)I ===== -/
abbrev rmX9_elbows : Room := { frames := 3, cells := 0, slots := 0, locals := 68 }
theorem kkX9_elbows : yX9_elbows.cls = RX9 ∧ yX9_elbows.cls ≠ "java/lang/invoke/MethodHandle" ∧ yX9_elbows.cls ≠ "java/lang/invoke/VarHandle" ∧ (parseMethodDescriptor yX9_elbows.desc).map (fun d => d.parameters.length) = some 1 := by decide +kernel
theorem mX9_elbows_f10 : Cond.fieldLink RX9 10 "SilenceCount" "house" "LSilenceCount$House;" ∈ wsX9_elbows := by decide +kernel
theorem mX9_elbows_f165 : Cond.fieldLink RX9 165 "SilenceCount$House" "awake" "I" ∈ wsX9_elbows := by decide +kernel
theorem wX9_elbows_X2 : ∀ w ∈ u_ws RX2 TX2 6, w ∈ wsX9_elbows := by decide +kernel
theorem wX9_elbows_X9 : ∀ w ∈ u_ws RX9 TX9 8, w ∈ wsX9_elbows := by decide +kernel
def fX9_elbows (t_house_awake : Int32) (t_house_counts : Nat → Int32) (a1 : Int32) : Option (Int32) :=
  (fX9_isWithin a1 0 1).bind fun r3 => if r3 = 0 then some (-2) else if t_house_awake = 0 then some (-6) else (fX2_commonestCount t_house_awake t_house_counts).bind fun r29 => if a1 = 0 then (fJ6_bitCount_0f7a4 t_house_awake).bind fun r44 => (fX2_howManyAwakeAt t_house_awake t_house_counts r29).bind fun r52 => some (r44 - r52) else some r29
set_option maxRecDepth 100000 in
set_option maxHeartbeats 4000000 in
theorem CX9_elbows (l : Launch) {D : va_G} {ty : TY} {A_t A_t_pad A_t_hours A_t_laws A_t_sights A_t_worlds A_t_trialYear A_t_images A_t_house A_t_house_counts A_t_house_paces : Nat} {t_house_there : Int32} {t_house_awake : Int32} {t_house_start : Int32} {t_house_sharp : Int32} {t_house_counts : Nat → Int32} {t_house_paces : Nat → Int32} {a1 : Int32} {q0 : Int32} (hf : fX9_elbows t_house_awake t_house_counts a1 = some q0) : ROi l yX9_elbows wsX9_elbows rmX9_elbows D ty [.ref A_t, .int a1] [(A_t, .inr (8, [.ref A_t_house, .ref A_t_pad, .ref A_t_hours, .ref A_t_laws, .ref A_t_sights, .ref A_t_worlds, .ref A_t_trialYear, .ref A_t_images])), (A_t_house, .inr (1, [.int t_house_there, .int t_house_awake, .int t_house_start, .int t_house_sharp, .ref A_t_house_counts, .ref A_t_house_paces])), (A_t_house_counts, .inl (ty.1, 8, .inl t_house_counts)), (A_t_house_paces, .inl (ty.1, 8, .inl t_house_paces))] q0 := by
  refine ROi.start (cc := cX9_elbows) (maxL := 3) (ret := (some .int)) (own := RX9) (by decide) rfl rfl (Nat.le_of_ble_eq_true rfl) ?_
  intro p e s m below meth c ls C hK hP hl
  obtain ⟨hx, hb, hr, hml, hown, hts, hlocks⟩ := id C
  have hl : lv_has ls 3 [(0, .ref A_t), (1, .int a1)] := hl
  unfold fX9_elbows at hf
  refine lv_iload_n hx hb dX9_elbows_0 rfl (lv_at hl 1 rfl) ?_
  refine lv_iconst (v := 0) hx hb dX9_elbows_1 (by decide) ?_
  refine lv_iconst (v := 1) hx hb dX9_elbows_2 (by decide) ?_
  obtain ⟨r3, hr3, hf⟩ := bnd hf
  have hPc : va_P D vwCl [] _ := hP.sub [] rfl
  refine callS_ri (As := [.int a1, .int 0, .int 1]) (rest := []) ⟨hx, hb, hml, hown, hts⟩ (CX9_isWithin l hr3) (va_cwS 3 hts gX9_elbows_X9_isWithin rfl rfl rfl kkX9_isWithin.2 ⟨Nat.le_of_ble_eq_true rfl, Nat.le_of_ble_eq_true rfl⟩) hK hPc hl.1 rfl (Nat.le_of_ble_eq_true rfl) dX9_elbows_3 ⟨Nat.zero_le _, Nat.zero_le _⟩ ?_
  refine lv_if_ne (tgt := 12) hx hb dX9_elbows_6 (by decide) (fun hc => ?_) (fun hc => ?_)
  · have hf := ff hf hc
    refine lv_aload_n hx hb dX9_elbows_12 rfl (lv_at hl 0 rfl) ?_
    refine va_get (D := D) (ci := 8) (v := .ref A_t_house) (C := RX9) (T := TX9) (N := 8) hx hb hts wX9_elbows_X9 hown hK.1 hP 0 rfl rfl 0 (by decide) (hts _ mX9_elbows_f10) (fun _ h9 => h9) rfl dX9_elbows_13 ?_
    refine va_get (D := D) (ci := 1) (v := .int t_house_awake) (C := RX2) (T := TX2) (N := 6) hx hb hts wX9_elbows_X2 hown hK.1 hP 1 rfl rfl 1 (by decide) (hts _ mX9_elbows_f165) (fun _ h9 => h9) rfl dX9_elbows_16 ?_
    refine lv_if_ne (tgt := 25) hx hb dX9_elbows_19 (by decide) (fun hc => ?_) (fun hc => ?_)
    · have hf := ff hf hc
      refine lv_aload_n hx hb dX9_elbows_25 rfl (lv_at hl 0 rfl) ?_
      refine va_get (D := D) (ci := 8) (v := .ref A_t_house) (C := RX9) (T := TX9) (N := 8) hx hb hts wX9_elbows_X9 hown hK.1 hP 0 rfl rfl 0 (by decide) (hts _ mX9_elbows_f10) (fun _ h9 => h9) rfl dX9_elbows_26 ?_
      obtain ⟨r29, hr29, hf⟩ := bnd hf
      have hPc : va_P D vwCl [(A_t_house, .inr (1, [.int t_house_there, .int t_house_awake, .int t_house_start, .int t_house_sharp, .ref A_t_house_counts, .ref A_t_house_paces])), (A_t_house_counts, .inl (ty.1, 8, .inl t_house_counts)), (A_t_house_paces, .inl (ty.1, 8, .inl t_house_paces))] _ := hP.sub [1, 2, 3] rfl
      refine callV_ri (As := []) (rest := []) ⟨hx, hb, hml, hown, hts⟩ (CX2_commonestCount l hr29) (cwV 0 hts gX9_elbows_X2_commonestCount rfl rfl rfl kkX2_commonestCount ⟨Nat.le_of_ble_eq_true rfl, Nat.le_of_ble_eq_true rfl⟩) hK hPc 0 rfl rfl rfl hl.1 rfl (Nat.le_of_ble_eq_true rfl) dX9_elbows_29 ⟨Nat.zero_le _, Nat.zero_le _⟩ ?_
      refine lv_istore_n (lv' := [(2, .int r29), (0, .ref A_t), (1, .int a1)]) hx hb dX9_elbows_32 rfl hl (by decide) rfl (fun ls hl => ?_)
      refine lv_iload_n hx hb dX9_elbows_33 rfl (lv_at hl 2 rfl) ?_
      refine lv_if_ne (tgt := 59) hx hb dX9_elbows_34 (by decide) (fun hc => ?_) (fun hc => ?_)
      · have hf := ff hf hc
        refine lv_iload_n hx hb dX9_elbows_59 rfl (lv_at hl 0 rfl) ?_
        exact ret_ri hx hb hr hlocks hf dX9_elbows_60
      · have hf := ft hf hc
        refine lv_aload_n hx hb dX9_elbows_37 rfl (lv_at hl 1 rfl) ?_
        refine va_get (D := D) (ci := 8) (v := .ref A_t_house) (C := RX9) (T := TX9) (N := 8) hx hb hts wX9_elbows_X9 hown hK.1 hP 0 rfl rfl 0 (by decide) (hts _ mX9_elbows_f10) (fun _ h9 => h9) rfl dX9_elbows_38 ?_
        refine va_get (D := D) (ci := 1) (v := .int t_house_awake) (C := RX2) (T := TX2) (N := 6) hx hb hts wX9_elbows_X2 hown hK.1 hP 1 rfl rfl 1 (by decide) (hts _ mX9_elbows_f165) (fun _ h9 => h9) rfl dX9_elbows_41 ?_
        obtain ⟨r44, hr44, hf⟩ := bnd hf
        have hPc : va_P D vwCl [] _ := hP.sub [] rfl
        refine callS_ri (As := [.int t_house_awake]) (rest := []) ⟨hx, hb, hml, hown, hts⟩ (CJ6_bitCount_0f7a4 l hr44) (va_cwS 1 hts gX9_elbows_J6_bitCount_0f7a4 rfl rfl rfl kkJ6_bitCount_0f7a4.2 ⟨Nat.le_of_ble_eq_true rfl, Nat.le_of_ble_eq_true rfl⟩) hK hPc hl.1 rfl (Nat.le_of_ble_eq_true rfl) dX9_elbows_44 ⟨Nat.zero_le _, Nat.zero_le _⟩ ?_
        refine lv_aload_n hx hb dX9_elbows_47 rfl (lv_at hl 1 rfl) ?_
        refine va_get (D := D) (ci := 8) (v := .ref A_t_house) (C := RX9) (T := TX9) (N := 8) hx hb hts wX9_elbows_X9 hown hK.1 hP 0 rfl rfl 0 (by decide) (hts _ mX9_elbows_f10) (fun _ h9 => h9) rfl dX9_elbows_48 ?_
        refine lv_iload_n hx hb dX9_elbows_51 rfl (lv_at hl 0 rfl) ?_
        obtain ⟨r52, hr52, hf⟩ := bnd hf
        have hPc : va_P D vwCl [(A_t_house, .inr (1, [.int t_house_there, .int t_house_awake, .int t_house_start, .int t_house_sharp, .ref A_t_house_counts, .ref A_t_house_paces])), (A_t_house_counts, .inl (ty.1, 8, .inl t_house_counts)), (A_t_house_paces, .inl (ty.1, 8, .inl t_house_paces))] _ := hP.sub [1, 2, 3] rfl
        refine callV_ri (As := [.int r29]) (rest := [.int r44]) ⟨hx, hb, hml, hown, hts⟩ (CX2_howManyAwakeAt l hr52) (cwV 1 hts gX9_elbows_X2_howManyAwakeAt rfl rfl rfl kkX2_howManyAwakeAt ⟨Nat.le_of_ble_eq_true rfl, Nat.le_of_ble_eq_true rfl⟩) hK hPc 0 rfl rfl rfl hl.1 rfl (Nat.le_of_ble_eq_true rfl) dX9_elbows_52 ⟨Nat.zero_le _, Nat.zero_le _⟩ ?_
        refine lv_isub hx hb dX9_elbows_55 ?_
        refine lv_goto (tgt := 60) hx hb dX9_elbows_56 (by decide) ?_
        exact ret_ri hx hb hr hlocks hf dX9_elbows_60
    · have hf := ft hf hc
      refine lv_bipush (v := (-6)) hx hb dX9_elbows_22 (by decide) ?_
      exact ret_ri hx hb hr hlocks hf dX9_elbows_24
  · have hf := ft hf hc
    refine lv_bipush (v := (-2)) hx hb dX9_elbows_9 (by decide) ?_
    exact ret_ri hx hb hr hlocks hf dX9_elbows_11
/-! ===== SilenceCount.ends(I)I ===== -/
abbrev rmX9_ends : Room := { frames := 2, cells := 0, slots := 0, locals := 36 }
theorem kkX9_ends : yX9_ends.cls = RX9 ∧ yX9_ends.cls ≠ "java/lang/invoke/MethodHandle" ∧ yX9_ends.cls ≠ "java/lang/invoke/VarHandle" ∧ (parseMethodDescriptor yX9_ends.desc).map (fun d => d.parameters.length) = some 1 := by decide +kernel
theorem mX9_ends_f10 : Cond.fieldLink RX9 10 "SilenceCount" "house" "LSilenceCount$House;" ∈ wsX9_ends := by decide +kernel
theorem mX9_ends_f165 : Cond.fieldLink RX9 165 "SilenceCount$House" "awake" "I" ∈ wsX9_ends := by decide +kernel
theorem wX9_ends_X2 : ∀ w ∈ u_ws RX2 TX2 6, w ∈ wsX9_ends := by decide +kernel
theorem wX9_ends_X9 : ∀ w ∈ u_ws RX9 TX9 8, w ∈ wsX9_ends := by decide +kernel
def fX9_ends (t_house_there : Int32) (t_house_awake : Int32) (t_house_counts : Nat → Int32) (t_house_paces : Nat → Int32) (a1 : Int32) : Option (Int32) :=
  if a1 = (-1) then (fX2_breathsToEnd t_house_counts t_house_paces t_house_awake).bind fun r16 => some r16 else (fX2_isThere t_house_there a1).bind fun r25 => if r25 = 0 then some (-1) else (fX2_breathsToEnd t_house_counts t_house_paces (t_house_awake &&& (1 <<< (a1 &&& 31)))).bind fun r48 => some r48
set_option maxRecDepth 100000 in
set_option maxHeartbeats 4000000 in
theorem CX9_ends (l : Launch) {D : va_G} {ty : TY} {A_t A_t_pad A_t_hours A_t_laws A_t_sights A_t_worlds A_t_trialYear A_t_images A_t_house A_t_house_counts A_t_house_paces : Nat} {t_house_there : Int32} {t_house_awake : Int32} {t_house_start : Int32} {t_house_sharp : Int32} {t_house_counts : Nat → Int32} {t_house_paces : Nat → Int32} {a1 : Int32} {q0 : Int32} (hf : fX9_ends t_house_there t_house_awake t_house_counts t_house_paces a1 = some q0) : ROi l yX9_ends wsX9_ends rmX9_ends D ty [.ref A_t, .int a1] [(A_t, .inr (8, [.ref A_t_house, .ref A_t_pad, .ref A_t_hours, .ref A_t_laws, .ref A_t_sights, .ref A_t_worlds, .ref A_t_trialYear, .ref A_t_images])), (A_t_house, .inr (1, [.int t_house_there, .int t_house_awake, .int t_house_start, .int t_house_sharp, .ref A_t_house_counts, .ref A_t_house_paces])), (A_t_house_counts, .inl (ty.1, 8, .inl t_house_counts)), (A_t_house_paces, .inl (ty.1, 8, .inl t_house_paces))] q0 := by
  refine ROi.start (cc := cX9_ends) (maxL := 2) (ret := (some .int)) (own := RX9) (by decide) rfl rfl (Nat.le_of_ble_eq_true rfl) ?_
  intro p e s m below meth c ls C hK hP hl
  obtain ⟨hx, hb, hr, hml, hown, hts, hlocks⟩ := id C
  have hl : lv_has ls 2 [(0, .ref A_t), (1, .int a1)] := hl
  unfold fX9_ends at hf
  refine lv_iload_n hx hb dX9_ends_0 rfl (lv_at hl 1 rfl) ?_
  refine lv_iconst (v := (-1)) hx hb dX9_ends_1 (by decide) ?_
  refine lv_icmp_ne (tgt := 20) hx hb dX9_ends_2 (by decide) (fun hc => ?_) (fun hc => ?_)
  · have hf := ff hf hc
    refine lv_aload_n hx hb dX9_ends_20 rfl (lv_at hl 0 rfl) ?_
    refine va_get (D := D) (ci := 8) (v := .ref A_t_house) (C := RX9) (T := TX9) (N := 8) hx hb hts wX9_ends_X9 hown hK.1 hP 0 rfl rfl 0 (by decide) (hts _ mX9_ends_f10) (fun _ h9 => h9) rfl dX9_ends_21 ?_
    refine lv_iload_n hx hb dX9_ends_24 rfl (lv_at hl 1 rfl) ?_
    obtain ⟨r25, hr25, hf⟩ := bnd hf
    have hPc : va_P D vwCl [(A_t_house, .inr (1, [.int t_house_there, .int t_house_awake, .int t_house_start, .int t_house_sharp, .ref A_t_house_counts, .ref A_t_house_paces])), (A_t_house_counts, .inl (ty.1, 8, .inl t_house_counts)), (A_t_house_paces, .inl (ty.1, 8, .inl t_house_paces))] _ := hP.sub [1, 2, 3] rfl
    refine callV_ri (As := [.int a1]) (rest := []) ⟨hx, hb, hml, hown, hts⟩ (CX2_isThere l hr25) (cwV 1 hts gX9_ends_X2_isThere rfl rfl rfl kkX2_isThere ⟨Nat.le_of_ble_eq_true rfl, Nat.le_of_ble_eq_true rfl⟩) hK hPc 0 rfl rfl rfl hl.1 rfl (Nat.le_of_ble_eq_true rfl) dX9_ends_25 ⟨Nat.zero_le _, Nat.zero_le _⟩ ?_
    refine lv_if_ne (tgt := 33) hx hb dX9_ends_28 (by decide) (fun hc => ?_) (fun hc => ?_)
    · have hf := ff hf hc
      refine lv_aload_n hx hb dX9_ends_33 rfl (lv_at hl 0 rfl) ?_
      refine va_get (D := D) (ci := 8) (v := .ref A_t_house) (C := RX9) (T := TX9) (N := 8) hx hb hts wX9_ends_X9 hown hK.1 hP 0 rfl rfl 0 (by decide) (hts _ mX9_ends_f10) (fun _ h9 => h9) rfl dX9_ends_34 ?_
      refine lv_aload_n hx hb dX9_ends_37 rfl (lv_at hl 0 rfl) ?_
      refine va_get (D := D) (ci := 8) (v := .ref A_t_house) (C := RX9) (T := TX9) (N := 8) hx hb hts wX9_ends_X9 hown hK.1 hP 0 rfl rfl 0 (by decide) (hts _ mX9_ends_f10) (fun _ h9 => h9) rfl dX9_ends_38 ?_
      refine va_get (D := D) (ci := 1) (v := .int t_house_awake) (C := RX2) (T := TX2) (N := 6) hx hb hts wX9_ends_X2 hown hK.1 hP 1 rfl rfl 1 (by decide) (hts _ mX9_ends_f165) (fun _ h9 => h9) rfl dX9_ends_41 ?_
      refine lv_iconst (v := 1) hx hb dX9_ends_44 (by decide) ?_
      refine lv_iload_n hx hb dX9_ends_45 rfl (lv_at hl 1 rfl) ?_
      refine lv_ishl hx hb dX9_ends_46 ?_
      refine lv_iand hx hb dX9_ends_47 ?_
      obtain ⟨r48, hr48, hf⟩ := bnd hf
      have hPc : va_P D vwCl [(A_t_house, .inr (1, [.int t_house_there, .int t_house_awake, .int t_house_start, .int t_house_sharp, .ref A_t_house_counts, .ref A_t_house_paces])), (A_t_house_counts, .inl (ty.1, 8, .inl t_house_counts)), (A_t_house_paces, .inl (ty.1, 8, .inl t_house_paces))] _ := hP.sub [1, 2, 3] rfl
      refine callV_ri (As := [.int (t_house_awake &&& (1 <<< (a1 &&& 31)))]) (rest := []) ⟨hx, hb, hml, hown, hts⟩ (CX2_breathsToEnd l hr48) (cwV 1 hts gX9_ends_X2_breathsToEnd rfl rfl rfl kkX2_breathsToEnd ⟨Nat.le_of_ble_eq_true rfl, Nat.le_of_ble_eq_true rfl⟩) hK hPc 0 rfl rfl rfl hl.1 rfl (Nat.le_of_ble_eq_true rfl) dX9_ends_48 ⟨Nat.zero_le _, Nat.zero_le _⟩ ?_
      exact ret_ri hx hb hr hlocks hf dX9_ends_51
    · have hf := ft hf hc
      refine lv_iconst (v := (-1)) hx hb dX9_ends_31 (by decide) ?_
      exact ret_ri hx hb hr hlocks hf dX9_ends_32
  · have hf := ft hf hc
    refine lv_aload_n hx hb dX9_ends_5 rfl (lv_at hl 0 rfl) ?_
    refine va_get (D := D) (ci := 8) (v := .ref A_t_house) (C := RX9) (T := TX9) (N := 8) hx hb hts wX9_ends_X9 hown hK.1 hP 0 rfl rfl 0 (by decide) (hts _ mX9_ends_f10) (fun _ h9 => h9) rfl dX9_ends_6 ?_
    refine lv_aload_n hx hb dX9_ends_9 rfl (lv_at hl 0 rfl) ?_
    refine va_get (D := D) (ci := 8) (v := .ref A_t_house) (C := RX9) (T := TX9) (N := 8) hx hb hts wX9_ends_X9 hown hK.1 hP 0 rfl rfl 0 (by decide) (hts _ mX9_ends_f10) (fun _ h9 => h9) rfl dX9_ends_10 ?_
    refine va_get (D := D) (ci := 1) (v := .int t_house_awake) (C := RX2) (T := TX2) (N := 6) hx hb hts wX9_ends_X2 hown hK.1 hP 1 rfl rfl 1 (by decide) (hts _ mX9_ends_f165) (fun _ h9 => h9) rfl dX9_ends_13 ?_
    obtain ⟨r16, hr16, hf⟩ := bnd hf
    have hPc : va_P D vwCl [(A_t_house, .inr (1, [.int t_house_there, .int t_house_awake, .int t_house_start, .int t_house_sharp, .ref A_t_house_counts, .ref A_t_house_paces])), (A_t_house_counts, .inl (ty.1, 8, .inl t_house_counts)), (A_t_house_paces, .inl (ty.1, 8, .inl t_house_paces))] _ := hP.sub [1, 2, 3] rfl
    refine callV_ri (As := [.int t_house_awake]) (rest := []) ⟨hx, hb, hml, hown, hts⟩ (CX2_breathsToEnd l hr16) (cwV 1 hts gX9_ends_X2_breathsToEnd rfl rfl rfl kkX2_breathsToEnd ⟨Nat.le_of_ble_eq_true rfl, Nat.le_of_ble_eq_true rfl⟩) hK hPc 0 rfl rfl rfl hl.1 rfl (Nat.le_of_ble_eq_true rfl) dX9_ends_16 ⟨Nat.zero_le _, Nat.zero_le _⟩ ?_
    exact ret_ri hx hb hr hlocks hf dX9_ends_19
/-! ===== SilenceCount.fault()I ===== -/
abbrev rmX9_fault : Room := { frames := 4, cells := 0, slots := 0, locals := 82 }
theorem kkX9_fault : yX9_fault.cls = RX9 ∧ yX9_fault.cls ≠ "java/lang/invoke/MethodHandle" ∧ yX9_fault.cls ≠ "java/lang/invoke/VarHandle" ∧ (parseMethodDescriptor yX9_fault.desc).map (fun d => d.parameters.length) = some 0 := by decide +kernel
theorem mX9_fault_f19 : Cond.fieldLink RX9 19 "SilenceCount" "pad" "LSilenceCount$Pad;" ∈ wsX9_fault := by decide +kernel
theorem wX9_fault_X9 : ∀ w ∈ u_ws RX9 TX9 8, w ∈ wsX9_fault := by decide +kernel
def fX9_fault (t_pad_size : Int32) (t_pad_acts : Int32) (t_pad_signs : Nat → Int32) (t_pad_actMonks : Nat → Int32) (t_pad_actSigns : Nat → Int32) : Option (Int32 × Int32 × (Nat → Int32) × (Nat → Int32)) :=
  (fX5_readActs t_pad_size t_pad_acts t_pad_signs t_pad_actMonks t_pad_actSigns).bind fun r4 => some (r4.1, r4.2.1, r4.2.2.1, r4.2.2.2)
set_option maxRecDepth 100000 in
set_option maxHeartbeats 4000000 in
theorem CX9_fault (l : Launch) {D : va_G} {ty : TY} {A_t A_t_house A_t_hours A_t_laws A_t_sights A_t_worlds A_t_trialYear A_t_images A_t_pad A_t_pad_signs A_t_pad_actMonks A_t_pad_actSigns : Nat} {t_pad_size : Int32} {t_pad_acts : Int32} {t_pad_signs : Nat → Int32} {t_pad_actMonks : Nat → Int32} {t_pad_actSigns : Nat → Int32} {q0 : Int32 × Int32 × (Nat → Int32) × (Nat → Int32)} (hf : fX9_fault t_pad_size t_pad_acts t_pad_signs t_pad_actMonks t_pad_actSigns = some q0) : RWi l yX9_fault wsX9_fault rmX9_fault D ty [.ref A_t] [(A_t, .inr (8, [.ref A_t_house, .ref A_t_pad, .ref A_t_hours, .ref A_t_laws, .ref A_t_sights, .ref A_t_worlds, .ref A_t_trialYear, .ref A_t_images])), (A_t_pad, .inr (4, [.int t_pad_size, .ref A_t_pad_signs, .int t_pad_acts, .ref A_t_pad_actMonks, .ref A_t_pad_actSigns])), (A_t_pad_signs, .inl (ty.1, 60, .inl t_pad_signs)), (A_t_pad_actMonks, .inl (ty.1, 60, .inl t_pad_actMonks)), (A_t_pad_actSigns, .inl (ty.1, 60, .inl t_pad_actSigns))] q0.1 [(A_t, .inr (8, [.ref A_t_house, .ref A_t_pad, .ref A_t_hours, .ref A_t_laws, .ref A_t_sights, .ref A_t_worlds, .ref A_t_trialYear, .ref A_t_images])), (A_t_pad, .inr (4, [.int t_pad_size, .ref A_t_pad_signs, .int q0.2.1, .ref A_t_pad_actMonks, .ref A_t_pad_actSigns])), (A_t_pad_signs, .inl (ty.1, 60, .inl t_pad_signs)), (A_t_pad_actMonks, .inl (ty.1, 60, .inl q0.2.2.1)), (A_t_pad_actSigns, .inl (ty.1, 60, .inl q0.2.2.2))] := by
  refine RWi.start (cc := cX9_fault) (maxL := 1) (ret := (some .int)) (own := RX9) (by decide) rfl rfl (Nat.le_of_ble_eq_true rfl) ?_
  intro p e s m below meth c ls C hK hP hD hS hl
  obtain ⟨WC, hWC⟩ : ∃ w : va_W, w = [(A_t, .inr (8, [.ref A_t_house, .ref A_t_pad, .ref A_t_hours, .ref A_t_laws, .ref A_t_sights, .ref A_t_worlds, .ref A_t_trialYear, .ref A_t_images])), (A_t_pad, .inr (4, [.int t_pad_size, .ref A_t_pad_signs, .int t_pad_acts, .ref A_t_pad_actMonks, .ref A_t_pad_actSigns])), (A_t_pad_signs, .inl (ty.1, 60, .inl t_pad_signs)), (A_t_pad_actMonks, .inl (ty.1, 60, .inl t_pad_actMonks)), (A_t_pad_actSigns, .inl (ty.1, 60, .inl t_pad_actSigns))] := ⟨_, rfl⟩
  rw [← hWC] at hD hS ⊢
  have hD : va_D (va_A WC s.heap.size) [(A_t, .inr (8, [.ref A_t_house, .ref A_t_pad, .ref A_t_hours, .ref A_t_laws, .ref A_t_sights, .ref A_t_worlds, .ref A_t_trialYear, .ref A_t_images])), (A_t_pad, .inr (4, [.int t_pad_size, .ref A_t_pad_signs, .int t_pad_acts, .ref A_t_pad_actMonks, .ref A_t_pad_actSigns])), (A_t_pad_signs, .inl (ty.1, 60, .inl t_pad_signs)), (A_t_pad_actMonks, .inl (ty.1, 60, .inl t_pad_actMonks)), (A_t_pad_actSigns, .inl (ty.1, 60, .inl t_pad_actSigns))] := by rw [← hWC]; exact hD
  obtain ⟨hx, hb, hr, hml, hown, hts, hlocks⟩ := id C
  have hl : lv_has ls 1 [(0, .ref A_t)] := hl
  unfold fX9_fault at hf
  refine lv_aload_n hx hb dX9_fault_0 rfl (lv_at hl 0 rfl) ?_
  refine va_get (D := D) (ci := 8) (v := .ref A_t_pad) (C := RX9) (T := TX9) (N := 8) hx hb hts wX9_fault_X9 hown hK.1 hP 0 rfl rfl 1 (by decide) (hts _ mX9_fault_f19) (fun _ h9 => h9) rfl dX9_fault_1 ?_
  obtain ⟨r4, hr4, hf⟩ := bnd hf
  refine callV_wi (As := []) (rest := []) ⟨hx, hb, hml, hown, hts⟩ (CX5_readActs l hr4) (cwV 0 hts gX9_fault_X5_readActs rfl rfl rfl kkX5_readActs ⟨Nat.le_of_ble_eq_true rfl, Nat.le_of_ble_eq_true rfl⟩) hK hP hD hS (fun _ h => Or.inr h) [1, 2, 3, 4] [0] [0, 1, 2, 3, 4] rfl (by decide) (by decide) rfl rfl 0 rfl rfl rfl hl.1 rfl (Nat.le_of_ble_eq_true rfl) dX9_fault_4 ⟨Nat.zero_le _, Nat.zero_le _⟩ (fun H locs hP hD hS => ?_)
  have hP : va_P D vwCl [(A_t, .inr (8, [.ref A_t_house, .ref A_t_pad, .ref A_t_hours, .ref A_t_laws, .ref A_t_sights, .ref A_t_worlds, .ref A_t_trialYear, .ref A_t_images])), (A_t_pad, .inr (4, [.int t_pad_size, .ref A_t_pad_signs, .int r4.2.1, .ref A_t_pad_actMonks, .ref A_t_pad_actSigns])), (A_t_pad_signs, .inl (ty.1, 60, .inl t_pad_signs)), (A_t_pad_actMonks, .inl (ty.1, 60, .inl r4.2.2.1)), (A_t_pad_actSigns, .inl (ty.1, 60, .inl r4.2.2.2))] H := hP
  have hD : va_D (va_A WC s.heap.size) [(A_t, .inr (8, [.ref A_t_house, .ref A_t_pad, .ref A_t_hours, .ref A_t_laws, .ref A_t_sights, .ref A_t_worlds, .ref A_t_trialYear, .ref A_t_images])), (A_t_pad, .inr (4, [.int t_pad_size, .ref A_t_pad_signs, .int r4.2.1, .ref A_t_pad_actMonks, .ref A_t_pad_actSigns])), (A_t_pad_signs, .inl (ty.1, 60, .inl t_pad_signs)), (A_t_pad_actMonks, .inl (ty.1, 60, .inl r4.2.2.1)), (A_t_pad_actSigns, .inl (ty.1, 60, .inl r4.2.2.2))] := hD
  cases hf
  exact ret_wi hx hb hr hlocks hP hD hS dX9_fault_7
/-! ===== SilenceCount.forget()I ===== -/
abbrev rmX9_forget : Room := { frames := 0, cells := 0, slots := 0, locals := 0 }
theorem kkX9_forget : yX9_forget.cls = RX9 ∧ yX9_forget.cls ≠ "java/lang/invoke/MethodHandle" ∧ yX9_forget.cls ≠ "java/lang/invoke/VarHandle" ∧ (parseMethodDescriptor yX9_forget.desc).map (fun d => d.parameters.length) = some 0 := by decide +kernel
theorem mX9_forget_f40 : Cond.fieldLink RX9 40 "SilenceCount" "sights" "LSilenceCount$Sights;" ∈ wsX9_forget := by decide +kernel
theorem mX9_forget_f206 : Cond.fieldLink RX9 206 "SilenceCount$Sights" "size" "I" ∈ wsX9_forget := by decide +kernel
theorem wX9_forget_X6 : ∀ w ∈ u_ws RX6 TX6 4, w ∈ wsX9_forget := by decide +kernel
theorem wX9_forget_X9 : ∀ w ∈ u_ws RX9 TX9 8, w ∈ wsX9_forget := by decide +kernel
def fX9_forget (t_sights_size : Int32) : Option (Int32 × Int32) :=
  some (t_sights_size, 0)
set_option maxRecDepth 100000 in
set_option maxHeartbeats 4000000 in
theorem CX9_forget (l : Launch) {D : va_G} {ty : TY} {A_t A_t_house A_t_pad A_t_hours A_t_laws A_t_worlds A_t_trialYear A_t_images A_t_sights A_t_sights_monks A_t_sights_breaths A_t_sights_bowed : Nat} {t_sights_size : Int32} {t_sights_monks : Nat → Int32} {t_sights_breaths : Nat → Int32} {t_sights_bowed : Nat → Int32} {q0 : Int32 × Int32} (hf : fX9_forget t_sights_size = some q0) : RWi l yX9_forget wsX9_forget rmX9_forget D ty [.ref A_t] [(A_t, .inr (8, [.ref A_t_house, .ref A_t_pad, .ref A_t_hours, .ref A_t_laws, .ref A_t_sights, .ref A_t_worlds, .ref A_t_trialYear, .ref A_t_images])), (A_t_sights, .inr (5, [.int t_sights_size, .ref A_t_sights_monks, .ref A_t_sights_breaths, .ref A_t_sights_bowed])), (A_t_sights_monks, .inl (ty.1, 8, .inl t_sights_monks)), (A_t_sights_breaths, .inl (ty.1, 8, .inl t_sights_breaths)), (A_t_sights_bowed, .inl (ty.2.2.1, 8, .inl t_sights_bowed))] q0.1 [(A_t, .inr (8, [.ref A_t_house, .ref A_t_pad, .ref A_t_hours, .ref A_t_laws, .ref A_t_sights, .ref A_t_worlds, .ref A_t_trialYear, .ref A_t_images])), (A_t_sights, .inr (5, [.int q0.2, .ref A_t_sights_monks, .ref A_t_sights_breaths, .ref A_t_sights_bowed])), (A_t_sights_monks, .inl (ty.1, 8, .inl t_sights_monks)), (A_t_sights_breaths, .inl (ty.1, 8, .inl t_sights_breaths)), (A_t_sights_bowed, .inl (ty.2.2.1, 8, .inl t_sights_bowed))] := by
  refine RWi.start (cc := cX9_forget) (maxL := 2) (ret := (some .int)) (own := RX9) (by decide) rfl rfl (Nat.le_of_ble_eq_true rfl) ?_
  intro p e s m below meth c ls C hK hP hD hS hl
  obtain ⟨WC, hWC⟩ : ∃ w : va_W, w = [(A_t, .inr (8, [.ref A_t_house, .ref A_t_pad, .ref A_t_hours, .ref A_t_laws, .ref A_t_sights, .ref A_t_worlds, .ref A_t_trialYear, .ref A_t_images])), (A_t_sights, .inr (5, [.int t_sights_size, .ref A_t_sights_monks, .ref A_t_sights_breaths, .ref A_t_sights_bowed])), (A_t_sights_monks, .inl (ty.1, 8, .inl t_sights_monks)), (A_t_sights_breaths, .inl (ty.1, 8, .inl t_sights_breaths)), (A_t_sights_bowed, .inl (ty.2.2.1, 8, .inl t_sights_bowed))] := ⟨_, rfl⟩
  rw [← hWC] at hD hS ⊢
  have hD : va_D (va_A WC s.heap.size) [(A_t, .inr (8, [.ref A_t_house, .ref A_t_pad, .ref A_t_hours, .ref A_t_laws, .ref A_t_sights, .ref A_t_worlds, .ref A_t_trialYear, .ref A_t_images])), (A_t_sights, .inr (5, [.int t_sights_size, .ref A_t_sights_monks, .ref A_t_sights_breaths, .ref A_t_sights_bowed])), (A_t_sights_monks, .inl (ty.1, 8, .inl t_sights_monks)), (A_t_sights_breaths, .inl (ty.1, 8, .inl t_sights_breaths)), (A_t_sights_bowed, .inl (ty.2.2.1, 8, .inl t_sights_bowed))] := by rw [← hWC]; exact hD
  obtain ⟨hx, hb, hr, hml, hown, hts, hlocks⟩ := id C
  have hl : lv_has ls 2 [(0, .ref A_t)] := hl
  unfold fX9_forget at hf
  refine lv_aload_n hx hb dX9_forget_0 rfl (lv_at hl 0 rfl) ?_
  refine va_get (D := D) (ci := 8) (v := .ref A_t_sights) (C := RX9) (T := TX9) (N := 8) hx hb hts wX9_forget_X9 hown hK.1 hP 0 rfl rfl 4 (by decide) (hts _ mX9_forget_f40) (fun _ h9 => h9) rfl dX9_forget_1 ?_
  refine va_get (D := D) (ci := 5) (v := .int t_sights_size) (C := RX6) (T := TX6) (N := 4) hx hb hts wX9_forget_X6 hown hK.1 hP 1 rfl rfl 0 (by decide) (hts _ mX9_forget_f206) (fun _ h9 => h9) rfl dX9_forget_4 ?_
  refine lv_istore_n (lv' := [(1, .int t_sights_size), (0, .ref A_t)]) hx hb dX9_forget_7 rfl hl (by decide) rfl (fun ls hl => ?_)
  refine lv_aload_n hx hb dX9_forget_8 rfl (lv_at hl 1 rfl) ?_
  refine va_get (D := D) (ci := 8) (v := .ref A_t_sights) (C := RX9) (T := TX9) (N := 8) hx hb hts wX9_forget_X9 hown hK.1 hP 0 rfl rfl 4 (by decide) (hts _ mX9_forget_f40) (fun _ h9 => h9) rfl dX9_forget_9 ?_
  refine lv_iconst (v := 0) hx hb dX9_forget_12 (by decide) ?_
  refine va_put (D := D) (ci := 5) (v := .int 0) (ty := .int) (C := RX6) (T := TX6) (N := 4) hx hb hts wX9_forget_X6 tyX6 tyX6_ok nmX6 hown hK.1 hP hD hS 1 rfl rfl 0 (by decide) (hts _ mX9_forget_f206) (fun _ h9 => h9) rfl (by decide +kernel) rfl rfl (Nat.le_of_ble_eq_true rfl) dX9_forget_13 (fun H locs hP hD hS => ?_)
  have hP : va_P D vwCl [(A_t, .inr (8, [.ref A_t_house, .ref A_t_pad, .ref A_t_hours, .ref A_t_laws, .ref A_t_sights, .ref A_t_worlds, .ref A_t_trialYear, .ref A_t_images])), (A_t_sights, .inr (5, [.int 0, .ref A_t_sights_monks, .ref A_t_sights_breaths, .ref A_t_sights_bowed])), (A_t_sights_monks, .inl (ty.1, 8, .inl t_sights_monks)), (A_t_sights_breaths, .inl (ty.1, 8, .inl t_sights_breaths)), (A_t_sights_bowed, .inl (ty.2.2.1, 8, .inl t_sights_bowed))] H := hP
  have hD : va_D (va_A WC s.heap.size) [(A_t, .inr (8, [.ref A_t_house, .ref A_t_pad, .ref A_t_hours, .ref A_t_laws, .ref A_t_sights, .ref A_t_worlds, .ref A_t_trialYear, .ref A_t_images])), (A_t_sights, .inr (5, [.int 0, .ref A_t_sights_monks, .ref A_t_sights_breaths, .ref A_t_sights_bowed])), (A_t_sights_monks, .inl (ty.1, 8, .inl t_sights_monks)), (A_t_sights_breaths, .inl (ty.1, 8, .inl t_sights_breaths)), (A_t_sights_bowed, .inl (ty.2.2.1, 8, .inl t_sights_bowed))] := hD
  refine lv_iload_n hx hb dX9_forget_16 rfl (lv_at hl 0 rfl) ?_
  cases hf
  exact ret_wi hx hb hr hlocks hP hD hS dX9_forget_17
/-! ===== SilenceCount.image(I)I ===== -/
abbrev rmX9_image : Room := { frames := 3, cells := 0, slots := 0, locals := 61 }
theorem kkX9_image : yX9_image.cls = RX9 ∧ yX9_image.cls ≠ "java/lang/invoke/MethodHandle" ∧ yX9_image.cls ≠ "java/lang/invoke/VarHandle" ∧ (parseMethodDescriptor yX9_image.desc).map (fun d => d.parameters.length) = some 1 := by decide +kernel
theorem mX9_image_f61 : Cond.fieldLink RX9 61 "SilenceCount" "images" "[LSilenceCount$Image;" ∈ wsX9_image := by decide +kernel
theorem mX9_image_f10 : Cond.fieldLink RX9 10 "SilenceCount" "house" "LSilenceCount$House;" ∈ wsX9_image := by decide +kernel
theorem mX9_image_f40 : Cond.fieldLink RX9 40 "SilenceCount" "sights" "LSilenceCount$Sights;" ∈ wsX9_image := by decide +kernel
theorem wX9_image_X9 : ∀ w ∈ u_ws RX9 TX9 8, w ∈ wsX9_image := by decide +kernel
def fX9_image (t_house_there : Int32) (t_house_awake : Int32) (t_house_start : Int32) (t_house_sharp : Int32) (t_house_counts : Nat → Int32) (t_house_paces : Nat → Int32) (t_sights_size : Int32) (t_sights_monks : Nat → Int32) (t_sights_breaths : Nat → Int32) (t_sights_bowed : Nat → Int32) (t_images_0_isKept : Int32) (t_images_0_house_there : Int32) (t_images_0_house_awake : Int32) (t_images_0_house_start : Int32) (t_images_0_house_sharp : Int32) (t_images_0_house_counts : Nat → Int32) (t_images_0_house_paces : Nat → Int32) (t_images_0_sights_size : Int32) (t_images_0_sights_monks : Nat → Int32) (t_images_0_sights_breaths : Nat → Int32) (t_images_0_sights_bowed : Nat → Int32) (t_images_1_isKept : Int32) (t_images_1_house_there : Int32) (t_images_1_house_awake : Int32) (t_images_1_house_start : Int32) (t_images_1_house_sharp : Int32) (t_images_1_house_counts : Nat → Int32) (t_images_1_house_paces : Nat → Int32) (t_images_1_sights_size : Int32) (t_images_1_sights_monks : Nat → Int32) (t_images_1_sights_breaths : Nat → Int32) (t_images_1_sights_bowed : Nat → Int32) (a1 : Int32) : Option (Int32 × Int32 × Int32 × Int32 × Int32 × Int32 × (Nat → Int32) × (Nat → Int32) × Int32 × (Nat → Int32) × (Nat → Int32) × (Nat → Int32) × Int32 × Int32 × Int32 × Int32 × Int32 × (Nat → Int32) × (Nat → Int32) × Int32 × (Nat → Int32) × (Nat → Int32) × (Nat → Int32)) :=
  (fX9_isWithin a1 0 (2 - 1)).bind fun r9 => if r9 = 0 then some ((-2), t_images_0_isKept, t_images_0_house_there, t_images_0_house_awake, t_images_0_house_start, t_images_0_house_sharp, t_images_0_house_counts, t_images_0_house_paces, t_images_0_sights_size, t_images_0_sights_monks, t_images_0_sights_breaths, t_images_0_sights_bowed, t_images_1_isKept, t_images_1_house_there, t_images_1_house_awake, t_images_1_house_start, t_images_1_house_sharp, t_images_1_house_counts, t_images_1_house_paces, t_images_1_sights_size, t_images_1_sights_monks, t_images_1_sights_breaths, t_images_1_sights_bowed) else if a1 = 0 then (fX3_keep t_images_0_isKept t_images_0_house_there t_images_0_house_awake t_images_0_house_start t_images_0_house_sharp t_images_0_house_counts t_images_0_house_paces t_images_0_sights_size t_images_0_sights_monks t_images_0_sights_breaths t_images_0_sights_bowed t_house_there t_house_awake t_house_start t_house_sharp t_house_counts t_house_paces t_sights_size t_sights_monks t_sights_breaths t_sights_bowed).bind fun r32 => some (1, r32.1, r32.2.1, r32.2.2.1, r32.2.2.2.1, r32.2.2.2.2.1, r32.2.2.2.2.2.1, r32.2.2.2.2.2.2.1, r32.2.2.2.2.2.2.2.1, r32.2.2.2.2.2.2.2.2.1, r32.2.2.2.2.2.2.2.2.2.1, r32.2.2.2.2.2.2.2.2.2.2, t_images_1_isKept, t_images_1_house_there, t_images_1_house_awake, t_images_1_house_start, t_images_1_house_sharp, t_images_1_house_counts, t_images_1_house_paces, t_images_1_sights_size, t_images_1_sights_monks, t_images_1_sights_breaths, t_images_1_sights_bowed) else if a1 = 1 then (fX3_keep t_images_1_isKept t_images_1_house_there t_images_1_house_awake t_images_1_house_start t_images_1_house_sharp t_images_1_house_counts t_images_1_house_paces t_images_1_sights_size t_images_1_sights_monks t_images_1_sights_breaths t_images_1_sights_bowed t_house_there t_house_awake t_house_start t_house_sharp t_house_counts t_house_paces t_sights_size t_sights_monks t_sights_breaths t_sights_bowed).bind fun r32 => some (1, t_images_0_isKept, t_images_0_house_there, t_images_0_house_awake, t_images_0_house_start, t_images_0_house_sharp, t_images_0_house_counts, t_images_0_house_paces, t_images_0_sights_size, t_images_0_sights_monks, t_images_0_sights_breaths, t_images_0_sights_bowed, r32.1, r32.2.1, r32.2.2.1, r32.2.2.2.1, r32.2.2.2.2.1, r32.2.2.2.2.2.1, r32.2.2.2.2.2.2.1, r32.2.2.2.2.2.2.2.1, r32.2.2.2.2.2.2.2.2.1, r32.2.2.2.2.2.2.2.2.2.1, r32.2.2.2.2.2.2.2.2.2.2) else none
set_option maxRecDepth 100000 in
set_option maxHeartbeats 4000000 in
theorem CX9_image (l : Launch) {D : va_G} {ty : TY} {A_t A_t_pad A_t_hours A_t_laws A_t_worlds A_t_trialYear A_t_house A_t_house_counts A_t_house_paces A_t_sights A_t_sights_monks A_t_sights_breaths A_t_sights_bowed A_t_images A_t_images_0 A_t_images_0_house A_t_images_0_house_counts A_t_images_0_house_paces A_t_images_0_sights A_t_images_0_sights_monks A_t_images_0_sights_breaths A_t_images_0_sights_bowed A_t_images_1 A_t_images_1_house A_t_images_1_house_counts A_t_images_1_house_paces A_t_images_1_sights A_t_images_1_sights_monks A_t_images_1_sights_breaths A_t_images_1_sights_bowed : Nat} {t_house_there : Int32} {t_house_awake : Int32} {t_house_start : Int32} {t_house_sharp : Int32} {t_house_counts : Nat → Int32} {t_house_paces : Nat → Int32} {t_sights_size : Int32} {t_sights_monks : Nat → Int32} {t_sights_breaths : Nat → Int32} {t_sights_bowed : Nat → Int32} {t_images_0_isKept : Int32} {t_images_0_house_there : Int32} {t_images_0_house_awake : Int32} {t_images_0_house_start : Int32} {t_images_0_house_sharp : Int32} {t_images_0_house_counts : Nat → Int32} {t_images_0_house_paces : Nat → Int32} {t_images_0_sights_size : Int32} {t_images_0_sights_monks : Nat → Int32} {t_images_0_sights_breaths : Nat → Int32} {t_images_0_sights_bowed : Nat → Int32} {t_images_1_isKept : Int32} {t_images_1_house_there : Int32} {t_images_1_house_awake : Int32} {t_images_1_house_start : Int32} {t_images_1_house_sharp : Int32} {t_images_1_house_counts : Nat → Int32} {t_images_1_house_paces : Nat → Int32} {t_images_1_sights_size : Int32} {t_images_1_sights_monks : Nat → Int32} {t_images_1_sights_breaths : Nat → Int32} {t_images_1_sights_bowed : Nat → Int32} {a1 : Int32} {q0 : Int32 × Int32 × Int32 × Int32 × Int32 × Int32 × (Nat → Int32) × (Nat → Int32) × Int32 × (Nat → Int32) × (Nat → Int32) × (Nat → Int32) × Int32 × Int32 × Int32 × Int32 × Int32 × (Nat → Int32) × (Nat → Int32) × Int32 × (Nat → Int32) × (Nat → Int32) × (Nat → Int32)} (hf : fX9_image t_house_there t_house_awake t_house_start t_house_sharp t_house_counts t_house_paces t_sights_size t_sights_monks t_sights_breaths t_sights_bowed t_images_0_isKept t_images_0_house_there t_images_0_house_awake t_images_0_house_start t_images_0_house_sharp t_images_0_house_counts t_images_0_house_paces t_images_0_sights_size t_images_0_sights_monks t_images_0_sights_breaths t_images_0_sights_bowed t_images_1_isKept t_images_1_house_there t_images_1_house_awake t_images_1_house_start t_images_1_house_sharp t_images_1_house_counts t_images_1_house_paces t_images_1_sights_size t_images_1_sights_monks t_images_1_sights_breaths t_images_1_sights_bowed a1 = some q0) : RWi l yX9_image wsX9_image rmX9_image D ty [.ref A_t, .int a1] [(A_t, .inr (8, [.ref A_t_house, .ref A_t_pad, .ref A_t_hours, .ref A_t_laws, .ref A_t_sights, .ref A_t_worlds, .ref A_t_trialYear, .ref A_t_images])), (A_t_house, .inr (1, [.int t_house_there, .int t_house_awake, .int t_house_start, .int t_house_sharp, .ref A_t_house_counts, .ref A_t_house_paces])), (A_t_house_counts, .inl (ty.1, 8, .inl t_house_counts)), (A_t_house_paces, .inl (ty.1, 8, .inl t_house_paces)), (A_t_sights, .inr (5, [.int t_sights_size, .ref A_t_sights_monks, .ref A_t_sights_breaths, .ref A_t_sights_bowed])), (A_t_sights_monks, .inl (ty.1, 8, .inl t_sights_monks)), (A_t_sights_breaths, .inl (ty.1, 8, .inl t_sights_breaths)), (A_t_sights_bowed, .inl (ty.2.2.1, 8, .inl t_sights_bowed)), (A_t_images, .inl (ty.2.2.2, 2, .inr (.inr (.inr (.inr (im2 A_t_images_0 A_t_images_1)))))), (A_t_images_0, .inr (2, [.int t_images_0_isKept, .ref A_t_images_0_house, .ref A_t_images_0_sights])), (A_t_images_0_house, .inr (1, [.int t_images_0_house_there, .int t_images_0_house_awake, .int t_images_0_house_start, .int t_images_0_house_sharp, .ref A_t_images_0_house_counts, .ref A_t_images_0_house_paces])), (A_t_images_0_house_counts, .inl (ty.1, 8, .inl t_images_0_house_counts)), (A_t_images_0_house_paces, .inl (ty.1, 8, .inl t_images_0_house_paces)), (A_t_images_0_sights, .inr (5, [.int t_images_0_sights_size, .ref A_t_images_0_sights_monks, .ref A_t_images_0_sights_breaths, .ref A_t_images_0_sights_bowed])), (A_t_images_0_sights_monks, .inl (ty.1, 8, .inl t_images_0_sights_monks)), (A_t_images_0_sights_breaths, .inl (ty.1, 8, .inl t_images_0_sights_breaths)), (A_t_images_0_sights_bowed, .inl (ty.2.2.1, 8, .inl t_images_0_sights_bowed)), (A_t_images_1, .inr (2, [.int t_images_1_isKept, .ref A_t_images_1_house, .ref A_t_images_1_sights])), (A_t_images_1_house, .inr (1, [.int t_images_1_house_there, .int t_images_1_house_awake, .int t_images_1_house_start, .int t_images_1_house_sharp, .ref A_t_images_1_house_counts, .ref A_t_images_1_house_paces])), (A_t_images_1_house_counts, .inl (ty.1, 8, .inl t_images_1_house_counts)), (A_t_images_1_house_paces, .inl (ty.1, 8, .inl t_images_1_house_paces)), (A_t_images_1_sights, .inr (5, [.int t_images_1_sights_size, .ref A_t_images_1_sights_monks, .ref A_t_images_1_sights_breaths, .ref A_t_images_1_sights_bowed])), (A_t_images_1_sights_monks, .inl (ty.1, 8, .inl t_images_1_sights_monks)), (A_t_images_1_sights_breaths, .inl (ty.1, 8, .inl t_images_1_sights_breaths)), (A_t_images_1_sights_bowed, .inl (ty.2.2.1, 8, .inl t_images_1_sights_bowed))] q0.1 [(A_t, .inr (8, [.ref A_t_house, .ref A_t_pad, .ref A_t_hours, .ref A_t_laws, .ref A_t_sights, .ref A_t_worlds, .ref A_t_trialYear, .ref A_t_images])), (A_t_house, .inr (1, [.int t_house_there, .int t_house_awake, .int t_house_start, .int t_house_sharp, .ref A_t_house_counts, .ref A_t_house_paces])), (A_t_house_counts, .inl (ty.1, 8, .inl t_house_counts)), (A_t_house_paces, .inl (ty.1, 8, .inl t_house_paces)), (A_t_sights, .inr (5, [.int t_sights_size, .ref A_t_sights_monks, .ref A_t_sights_breaths, .ref A_t_sights_bowed])), (A_t_sights_monks, .inl (ty.1, 8, .inl t_sights_monks)), (A_t_sights_breaths, .inl (ty.1, 8, .inl t_sights_breaths)), (A_t_sights_bowed, .inl (ty.2.2.1, 8, .inl t_sights_bowed)), (A_t_images, .inl (ty.2.2.2, 2, .inr (.inr (.inr (.inr (im2 A_t_images_0 A_t_images_1)))))), (A_t_images_0, .inr (2, [.int q0.2.1, .ref A_t_images_0_house, .ref A_t_images_0_sights])), (A_t_images_0_house, .inr (1, [.int q0.2.2.1, .int q0.2.2.2.1, .int q0.2.2.2.2.1, .int q0.2.2.2.2.2.1, .ref A_t_images_0_house_counts, .ref A_t_images_0_house_paces])), (A_t_images_0_house_counts, .inl (ty.1, 8, .inl q0.2.2.2.2.2.2.1)), (A_t_images_0_house_paces, .inl (ty.1, 8, .inl q0.2.2.2.2.2.2.2.1)), (A_t_images_0_sights, .inr (5, [.int q0.2.2.2.2.2.2.2.2.1, .ref A_t_images_0_sights_monks, .ref A_t_images_0_sights_breaths, .ref A_t_images_0_sights_bowed])), (A_t_images_0_sights_monks, .inl (ty.1, 8, .inl q0.2.2.2.2.2.2.2.2.2.1)), (A_t_images_0_sights_breaths, .inl (ty.1, 8, .inl q0.2.2.2.2.2.2.2.2.2.2.1)), (A_t_images_0_sights_bowed, .inl (ty.2.2.1, 8, .inl q0.2.2.2.2.2.2.2.2.2.2.2.1)), (A_t_images_1, .inr (2, [.int q0.2.2.2.2.2.2.2.2.2.2.2.2.1, .ref A_t_images_1_house, .ref A_t_images_1_sights])), (A_t_images_1_house, .inr (1, [.int q0.2.2.2.2.2.2.2.2.2.2.2.2.2.1, .int q0.2.2.2.2.2.2.2.2.2.2.2.2.2.2.1, .int q0.2.2.2.2.2.2.2.2.2.2.2.2.2.2.2.1, .int q0.2.2.2.2.2.2.2.2.2.2.2.2.2.2.2.2.1, .ref A_t_images_1_house_counts, .ref A_t_images_1_house_paces])), (A_t_images_1_house_counts, .inl (ty.1, 8, .inl q0.2.2.2.2.2.2.2.2.2.2.2.2.2.2.2.2.2.1)), (A_t_images_1_house_paces, .inl (ty.1, 8, .inl q0.2.2.2.2.2.2.2.2.2.2.2.2.2.2.2.2.2.2.1)), (A_t_images_1_sights, .inr (5, [.int q0.2.2.2.2.2.2.2.2.2.2.2.2.2.2.2.2.2.2.2.1, .ref A_t_images_1_sights_monks, .ref A_t_images_1_sights_breaths, .ref A_t_images_1_sights_bowed])), (A_t_images_1_sights_monks, .inl (ty.1, 8, .inl q0.2.2.2.2.2.2.2.2.2.2.2.2.2.2.2.2.2.2.2.2.1)), (A_t_images_1_sights_breaths, .inl (ty.1, 8, .inl q0.2.2.2.2.2.2.2.2.2.2.2.2.2.2.2.2.2.2.2.2.2.1)), (A_t_images_1_sights_bowed, .inl (ty.2.2.1, 8, .inl q0.2.2.2.2.2.2.2.2.2.2.2.2.2.2.2.2.2.2.2.2.2.2))] := by
  refine RWi.start (cc := cX9_image) (maxL := 2) (ret := (some .int)) (own := RX9) (by decide) rfl rfl (Nat.le_of_ble_eq_true rfl) ?_
  intro p e s m below meth c ls C hK hP hD hS hl
  obtain ⟨WC, hWC⟩ : ∃ w : va_W, w = [(A_t, .inr (8, [.ref A_t_house, .ref A_t_pad, .ref A_t_hours, .ref A_t_laws, .ref A_t_sights, .ref A_t_worlds, .ref A_t_trialYear, .ref A_t_images])), (A_t_house, .inr (1, [.int t_house_there, .int t_house_awake, .int t_house_start, .int t_house_sharp, .ref A_t_house_counts, .ref A_t_house_paces])), (A_t_house_counts, .inl (ty.1, 8, .inl t_house_counts)), (A_t_house_paces, .inl (ty.1, 8, .inl t_house_paces)), (A_t_sights, .inr (5, [.int t_sights_size, .ref A_t_sights_monks, .ref A_t_sights_breaths, .ref A_t_sights_bowed])), (A_t_sights_monks, .inl (ty.1, 8, .inl t_sights_monks)), (A_t_sights_breaths, .inl (ty.1, 8, .inl t_sights_breaths)), (A_t_sights_bowed, .inl (ty.2.2.1, 8, .inl t_sights_bowed)), (A_t_images, .inl (ty.2.2.2, 2, .inr (.inr (.inr (.inr (im2 A_t_images_0 A_t_images_1)))))), (A_t_images_0, .inr (2, [.int t_images_0_isKept, .ref A_t_images_0_house, .ref A_t_images_0_sights])), (A_t_images_0_house, .inr (1, [.int t_images_0_house_there, .int t_images_0_house_awake, .int t_images_0_house_start, .int t_images_0_house_sharp, .ref A_t_images_0_house_counts, .ref A_t_images_0_house_paces])), (A_t_images_0_house_counts, .inl (ty.1, 8, .inl t_images_0_house_counts)), (A_t_images_0_house_paces, .inl (ty.1, 8, .inl t_images_0_house_paces)), (A_t_images_0_sights, .inr (5, [.int t_images_0_sights_size, .ref A_t_images_0_sights_monks, .ref A_t_images_0_sights_breaths, .ref A_t_images_0_sights_bowed])), (A_t_images_0_sights_monks, .inl (ty.1, 8, .inl t_images_0_sights_monks)), (A_t_images_0_sights_breaths, .inl (ty.1, 8, .inl t_images_0_sights_breaths)), (A_t_images_0_sights_bowed, .inl (ty.2.2.1, 8, .inl t_images_0_sights_bowed)), (A_t_images_1, .inr (2, [.int t_images_1_isKept, .ref A_t_images_1_house, .ref A_t_images_1_sights])), (A_t_images_1_house, .inr (1, [.int t_images_1_house_there, .int t_images_1_house_awake, .int t_images_1_house_start, .int t_images_1_house_sharp, .ref A_t_images_1_house_counts, .ref A_t_images_1_house_paces])), (A_t_images_1_house_counts, .inl (ty.1, 8, .inl t_images_1_house_counts)), (A_t_images_1_house_paces, .inl (ty.1, 8, .inl t_images_1_house_paces)), (A_t_images_1_sights, .inr (5, [.int t_images_1_sights_size, .ref A_t_images_1_sights_monks, .ref A_t_images_1_sights_breaths, .ref A_t_images_1_sights_bowed])), (A_t_images_1_sights_monks, .inl (ty.1, 8, .inl t_images_1_sights_monks)), (A_t_images_1_sights_breaths, .inl (ty.1, 8, .inl t_images_1_sights_breaths)), (A_t_images_1_sights_bowed, .inl (ty.2.2.1, 8, .inl t_images_1_sights_bowed))] := ⟨_, rfl⟩
  rw [← hWC] at hD hS ⊢
  have hD : va_D (va_A WC s.heap.size) [(A_t, .inr (8, [.ref A_t_house, .ref A_t_pad, .ref A_t_hours, .ref A_t_laws, .ref A_t_sights, .ref A_t_worlds, .ref A_t_trialYear, .ref A_t_images])), (A_t_house, .inr (1, [.int t_house_there, .int t_house_awake, .int t_house_start, .int t_house_sharp, .ref A_t_house_counts, .ref A_t_house_paces])), (A_t_house_counts, .inl (ty.1, 8, .inl t_house_counts)), (A_t_house_paces, .inl (ty.1, 8, .inl t_house_paces)), (A_t_sights, .inr (5, [.int t_sights_size, .ref A_t_sights_monks, .ref A_t_sights_breaths, .ref A_t_sights_bowed])), (A_t_sights_monks, .inl (ty.1, 8, .inl t_sights_monks)), (A_t_sights_breaths, .inl (ty.1, 8, .inl t_sights_breaths)), (A_t_sights_bowed, .inl (ty.2.2.1, 8, .inl t_sights_bowed)), (A_t_images, .inl (ty.2.2.2, 2, .inr (.inr (.inr (.inr (im2 A_t_images_0 A_t_images_1)))))), (A_t_images_0, .inr (2, [.int t_images_0_isKept, .ref A_t_images_0_house, .ref A_t_images_0_sights])), (A_t_images_0_house, .inr (1, [.int t_images_0_house_there, .int t_images_0_house_awake, .int t_images_0_house_start, .int t_images_0_house_sharp, .ref A_t_images_0_house_counts, .ref A_t_images_0_house_paces])), (A_t_images_0_house_counts, .inl (ty.1, 8, .inl t_images_0_house_counts)), (A_t_images_0_house_paces, .inl (ty.1, 8, .inl t_images_0_house_paces)), (A_t_images_0_sights, .inr (5, [.int t_images_0_sights_size, .ref A_t_images_0_sights_monks, .ref A_t_images_0_sights_breaths, .ref A_t_images_0_sights_bowed])), (A_t_images_0_sights_monks, .inl (ty.1, 8, .inl t_images_0_sights_monks)), (A_t_images_0_sights_breaths, .inl (ty.1, 8, .inl t_images_0_sights_breaths)), (A_t_images_0_sights_bowed, .inl (ty.2.2.1, 8, .inl t_images_0_sights_bowed)), (A_t_images_1, .inr (2, [.int t_images_1_isKept, .ref A_t_images_1_house, .ref A_t_images_1_sights])), (A_t_images_1_house, .inr (1, [.int t_images_1_house_there, .int t_images_1_house_awake, .int t_images_1_house_start, .int t_images_1_house_sharp, .ref A_t_images_1_house_counts, .ref A_t_images_1_house_paces])), (A_t_images_1_house_counts, .inl (ty.1, 8, .inl t_images_1_house_counts)), (A_t_images_1_house_paces, .inl (ty.1, 8, .inl t_images_1_house_paces)), (A_t_images_1_sights, .inr (5, [.int t_images_1_sights_size, .ref A_t_images_1_sights_monks, .ref A_t_images_1_sights_breaths, .ref A_t_images_1_sights_bowed])), (A_t_images_1_sights_monks, .inl (ty.1, 8, .inl t_images_1_sights_monks)), (A_t_images_1_sights_breaths, .inl (ty.1, 8, .inl t_images_1_sights_breaths)), (A_t_images_1_sights_bowed, .inl (ty.2.2.1, 8, .inl t_images_1_sights_bowed))] := by rw [← hWC]; exact hD
  obtain ⟨hx, hb, hr, hml, hown, hts, hlocks⟩ := id C
  have hl : lv_has ls 2 [(0, .ref A_t), (1, .int a1)] := hl
  unfold fX9_image at hf
  refine lv_iload_n hx hb dX9_image_0 rfl (lv_at hl 1 rfl) ?_
  refine lv_iconst (v := 0) hx hb dX9_image_1 (by decide) ?_
  refine lv_aload_n hx hb dX9_image_2 rfl (lv_at hl 0 rfl) ?_
  refine va_get (D := D) (ci := 8) (v := .ref A_t_images) (C := RX9) (T := TX9) (N := 8) hx hb hts wX9_image_X9 hown hK.1 hP 0 rfl rfl 7 (by decide) (hts _ mX9_image_f61) (fun _ h9 => h9) rfl dX9_image_3 ?_
  refine va_alen (v := 2) hx hb hK.1 hP 8 3 rfl rfl rfl dX9_image_6 ?_
  refine lv_iconst (v := 1) hx hb dX9_image_7 (by decide) ?_
  refine lv_isub hx hb dX9_image_8 ?_
  obtain ⟨r9, hr9, hf⟩ := bnd hf
  have hPc : va_P D vwCl [] _ := hP.sub [] rfl
  refine callS_ri (As := [.int a1, .int 0, .int (2 - 1)]) (rest := []) ⟨hx, hb, hml, hown, hts⟩ (CX9_isWithin l hr9) (va_cwS 3 hts gX9_image_X9_isWithin rfl rfl rfl kkX9_isWithin.2 ⟨Nat.le_of_ble_eq_true rfl, Nat.le_of_ble_eq_true rfl⟩) hK hPc hl.1 rfl (Nat.le_of_ble_eq_true rfl) dX9_image_9 ⟨Nat.zero_le _, Nat.zero_le _⟩ ?_
  refine lv_if_ne (tgt := 18) hx hb dX9_image_12 (by decide) (fun hc => ?_) (fun hc => ?_)
  · have hf := ff hf hc
    refine lv_aload_n hx hb dX9_image_18 rfl (lv_at hl 0 rfl) ?_
    refine va_get (D := D) (ci := 8) (v := .ref A_t_images) (C := RX9) (T := TX9) (N := 8) hx hb hts wX9_image_X9 hown hK.1 hP 0 rfl rfl 7 (by decide) (hts _ mX9_image_f61) (fun _ h9 => h9) rfl dX9_image_19 ?_
    refine lv_iload_n hx hb dX9_image_22 rfl (lv_at hl 1 rfl) ?_
    by_cases hc0 : a1 = 0
    · have hf := ft hf hc0
      refine va_aldq (C := "SilenceCount$Image") hx hb hK.1 hP 8 3 rfl rfl (by rw [hc0]; unfold vp_in; decide) dX9_image_23 ?_
      refine W.eq (g2 := F0 m 24 ls [.ref A_t_images_0]) (by rw [hc0] <;> rfl) ?_
      refine lv_aload_n hx hb dX9_image_24 rfl (lv_at hl 0 rfl) ?_
      refine va_get (D := D) (ci := 8) (v := .ref A_t_house) (C := RX9) (T := TX9) (N := 8) hx hb hts wX9_image_X9 hown hK.1 hP 0 rfl rfl 0 (by decide) (hts _ mX9_image_f10) (fun _ h9 => h9) rfl dX9_image_25 ?_
      refine lv_aload_n hx hb dX9_image_28 rfl (lv_at hl 0 rfl) ?_
      refine va_get (D := D) (ci := 8) (v := .ref A_t_sights) (C := RX9) (T := TX9) (N := 8) hx hb hts wX9_image_X9 hown hK.1 hP 0 rfl rfl 4 (by decide) (hts _ mX9_image_f40) (fun _ h9 => h9) rfl dX9_image_29 ?_
      obtain ⟨r32, hr32, hf⟩ := bnd hf
      refine callV_wv (As := [.ref A_t_house, .ref A_t_sights]) (rest := []) ⟨hx, hb, hml, hown, hts⟩ (CX3_keep l hr32) (cwV 2 hts gX9_image_X3_keep rfl rfl rfl kkX3_keep ⟨Nat.le_of_ble_eq_true rfl, Nat.le_of_ble_eq_true rfl⟩) hK hP hD hS (fun _ h => Or.inr h) [9, 10, 11, 12, 13, 14, 15, 16, 1, 2, 3, 4, 5, 6, 7] [0, 8, 17, 18, 19, 20, 21, 22, 23, 24] [0, 18, 19, 20, 21, 22, 23, 24, 1, 10, 11, 12, 13, 14, 15, 16, 17, 2, 3, 4, 5, 6, 7, 8, 9] rfl (by decide) (by decide) rfl rfl 0 rfl rfl rfl hl.1 rfl (Nat.le_of_ble_eq_true rfl) dX9_image_32 ⟨Nat.zero_le _, Nat.zero_le _⟩ (fun H locs hP hD hS => ?_)
      have hP : va_P D vwCl [(A_t, .inr (8, [.ref A_t_house, .ref A_t_pad, .ref A_t_hours, .ref A_t_laws, .ref A_t_sights, .ref A_t_worlds, .ref A_t_trialYear, .ref A_t_images])), (A_t_house, .inr (1, [.int t_house_there, .int t_house_awake, .int t_house_start, .int t_house_sharp, .ref A_t_house_counts, .ref A_t_house_paces])), (A_t_house_counts, .inl (ty.1, 8, .inl t_house_counts)), (A_t_house_paces, .inl (ty.1, 8, .inl t_house_paces)), (A_t_sights, .inr (5, [.int t_sights_size, .ref A_t_sights_monks, .ref A_t_sights_breaths, .ref A_t_sights_bowed])), (A_t_sights_monks, .inl (ty.1, 8, .inl t_sights_monks)), (A_t_sights_breaths, .inl (ty.1, 8, .inl t_sights_breaths)), (A_t_sights_bowed, .inl (ty.2.2.1, 8, .inl t_sights_bowed)), (A_t_images, .inl (ty.2.2.2, 2, .inr (.inr (.inr (.inr (im2 A_t_images_0 A_t_images_1)))))), (A_t_images_0, .inr (2, [.int r32.1, .ref A_t_images_0_house, .ref A_t_images_0_sights])), (A_t_images_0_house, .inr (1, [.int r32.2.1, .int r32.2.2.1, .int r32.2.2.2.1, .int r32.2.2.2.2.1, .ref A_t_images_0_house_counts, .ref A_t_images_0_house_paces])), (A_t_images_0_house_counts, .inl (ty.1, 8, .inl r32.2.2.2.2.2.1)), (A_t_images_0_house_paces, .inl (ty.1, 8, .inl r32.2.2.2.2.2.2.1)), (A_t_images_0_sights, .inr (5, [.int r32.2.2.2.2.2.2.2.1, .ref A_t_images_0_sights_monks, .ref A_t_images_0_sights_breaths, .ref A_t_images_0_sights_bowed])), (A_t_images_0_sights_monks, .inl (ty.1, 8, .inl r32.2.2.2.2.2.2.2.2.1)), (A_t_images_0_sights_breaths, .inl (ty.1, 8, .inl r32.2.2.2.2.2.2.2.2.2.1)), (A_t_images_0_sights_bowed, .inl (ty.2.2.1, 8, .inl r32.2.2.2.2.2.2.2.2.2.2)), (A_t_images_1, .inr (2, [.int t_images_1_isKept, .ref A_t_images_1_house, .ref A_t_images_1_sights])), (A_t_images_1_house, .inr (1, [.int t_images_1_house_there, .int t_images_1_house_awake, .int t_images_1_house_start, .int t_images_1_house_sharp, .ref A_t_images_1_house_counts, .ref A_t_images_1_house_paces])), (A_t_images_1_house_counts, .inl (ty.1, 8, .inl t_images_1_house_counts)), (A_t_images_1_house_paces, .inl (ty.1, 8, .inl t_images_1_house_paces)), (A_t_images_1_sights, .inr (5, [.int t_images_1_sights_size, .ref A_t_images_1_sights_monks, .ref A_t_images_1_sights_breaths, .ref A_t_images_1_sights_bowed])), (A_t_images_1_sights_monks, .inl (ty.1, 8, .inl t_images_1_sights_monks)), (A_t_images_1_sights_breaths, .inl (ty.1, 8, .inl t_images_1_sights_breaths)), (A_t_images_1_sights_bowed, .inl (ty.2.2.1, 8, .inl t_images_1_sights_bowed))] H := hP
      have hD : va_D (va_A WC s.heap.size) [(A_t, .inr (8, [.ref A_t_house, .ref A_t_pad, .ref A_t_hours, .ref A_t_laws, .ref A_t_sights, .ref A_t_worlds, .ref A_t_trialYear, .ref A_t_images])), (A_t_house, .inr (1, [.int t_house_there, .int t_house_awake, .int t_house_start, .int t_house_sharp, .ref A_t_house_counts, .ref A_t_house_paces])), (A_t_house_counts, .inl (ty.1, 8, .inl t_house_counts)), (A_t_house_paces, .inl (ty.1, 8, .inl t_house_paces)), (A_t_sights, .inr (5, [.int t_sights_size, .ref A_t_sights_monks, .ref A_t_sights_breaths, .ref A_t_sights_bowed])), (A_t_sights_monks, .inl (ty.1, 8, .inl t_sights_monks)), (A_t_sights_breaths, .inl (ty.1, 8, .inl t_sights_breaths)), (A_t_sights_bowed, .inl (ty.2.2.1, 8, .inl t_sights_bowed)), (A_t_images, .inl (ty.2.2.2, 2, .inr (.inr (.inr (.inr (im2 A_t_images_0 A_t_images_1)))))), (A_t_images_0, .inr (2, [.int r32.1, .ref A_t_images_0_house, .ref A_t_images_0_sights])), (A_t_images_0_house, .inr (1, [.int r32.2.1, .int r32.2.2.1, .int r32.2.2.2.1, .int r32.2.2.2.2.1, .ref A_t_images_0_house_counts, .ref A_t_images_0_house_paces])), (A_t_images_0_house_counts, .inl (ty.1, 8, .inl r32.2.2.2.2.2.1)), (A_t_images_0_house_paces, .inl (ty.1, 8, .inl r32.2.2.2.2.2.2.1)), (A_t_images_0_sights, .inr (5, [.int r32.2.2.2.2.2.2.2.1, .ref A_t_images_0_sights_monks, .ref A_t_images_0_sights_breaths, .ref A_t_images_0_sights_bowed])), (A_t_images_0_sights_monks, .inl (ty.1, 8, .inl r32.2.2.2.2.2.2.2.2.1)), (A_t_images_0_sights_breaths, .inl (ty.1, 8, .inl r32.2.2.2.2.2.2.2.2.2.1)), (A_t_images_0_sights_bowed, .inl (ty.2.2.1, 8, .inl r32.2.2.2.2.2.2.2.2.2.2)), (A_t_images_1, .inr (2, [.int t_images_1_isKept, .ref A_t_images_1_house, .ref A_t_images_1_sights])), (A_t_images_1_house, .inr (1, [.int t_images_1_house_there, .int t_images_1_house_awake, .int t_images_1_house_start, .int t_images_1_house_sharp, .ref A_t_images_1_house_counts, .ref A_t_images_1_house_paces])), (A_t_images_1_house_counts, .inl (ty.1, 8, .inl t_images_1_house_counts)), (A_t_images_1_house_paces, .inl (ty.1, 8, .inl t_images_1_house_paces)), (A_t_images_1_sights, .inr (5, [.int t_images_1_sights_size, .ref A_t_images_1_sights_monks, .ref A_t_images_1_sights_breaths, .ref A_t_images_1_sights_bowed])), (A_t_images_1_sights_monks, .inl (ty.1, 8, .inl t_images_1_sights_monks)), (A_t_images_1_sights_breaths, .inl (ty.1, 8, .inl t_images_1_sights_breaths)), (A_t_images_1_sights_bowed, .inl (ty.2.2.1, 8, .inl t_images_1_sights_bowed))] := hD
      refine lv_iconst (v := 1) hx hb dX9_image_35 (by decide) ?_
      cases hf
      exact ret_wi hx hb hr hlocks hP hD hS dX9_image_36
    · have hf := ff hf hc0
      by_cases hc1 : a1 = 1
      · have hf := ft hf hc1
        refine va_aldq (C := "SilenceCount$Image") hx hb hK.1 hP 8 3 rfl rfl (by rw [hc1]; unfold vp_in; decide) dX9_image_23 ?_
        refine W.eq (g2 := F0 m 24 ls [.ref A_t_images_1]) (by rw [hc1] <;> rfl) ?_
        refine lv_aload_n hx hb dX9_image_24 rfl (lv_at hl 0 rfl) ?_
        refine va_get (D := D) (ci := 8) (v := .ref A_t_house) (C := RX9) (T := TX9) (N := 8) hx hb hts wX9_image_X9 hown hK.1 hP 0 rfl rfl 0 (by decide) (hts _ mX9_image_f10) (fun _ h9 => h9) rfl dX9_image_25 ?_
        refine lv_aload_n hx hb dX9_image_28 rfl (lv_at hl 0 rfl) ?_
        refine va_get (D := D) (ci := 8) (v := .ref A_t_sights) (C := RX9) (T := TX9) (N := 8) hx hb hts wX9_image_X9 hown hK.1 hP 0 rfl rfl 4 (by decide) (hts _ mX9_image_f40) (fun _ h9 => h9) rfl dX9_image_29 ?_
        obtain ⟨r32, hr32, hf⟩ := bnd hf
        refine callV_wv (As := [.ref A_t_house, .ref A_t_sights]) (rest := []) ⟨hx, hb, hml, hown, hts⟩ (CX3_keep l hr32) (cwV 2 hts gX9_image_X3_keep rfl rfl rfl kkX3_keep ⟨Nat.le_of_ble_eq_true rfl, Nat.le_of_ble_eq_true rfl⟩) hK hP hD hS (fun _ h => Or.inr h) [17, 18, 19, 20, 21, 22, 23, 24, 1, 2, 3, 4, 5, 6, 7] [0, 8, 9, 10, 11, 12, 13, 14, 15, 16] [0, 18, 19, 20, 21, 22, 23, 24, 1, 2, 3, 4, 5, 6, 7, 8, 9, 10, 11, 12, 13, 14, 15, 16, 17] rfl (by decide) (by decide) rfl rfl 0 rfl rfl rfl hl.1 rfl (Nat.le_of_ble_eq_true rfl) dX9_image_32 ⟨Nat.zero_le _, Nat.zero_le _⟩ (fun H locs hP hD hS => ?_)
        have hP : va_P D vwCl [(A_t, .inr (8, [.ref A_t_house, .ref A_t_pad, .ref A_t_hours, .ref A_t_laws, .ref A_t_sights, .ref A_t_worlds, .ref A_t_trialYear, .ref A_t_images])), (A_t_house, .inr (1, [.int t_house_there, .int t_house_awake, .int t_house_start, .int t_house_sharp, .ref A_t_house_counts, .ref A_t_house_paces])), (A_t_house_counts, .inl (ty.1, 8, .inl t_house_counts)), (A_t_house_paces, .inl (ty.1, 8, .inl t_house_paces)), (A_t_sights, .inr (5, [.int t_sights_size, .ref A_t_sights_monks, .ref A_t_sights_breaths, .ref A_t_sights_bowed])), (A_t_sights_monks, .inl (ty.1, 8, .inl t_sights_monks)), (A_t_sights_breaths, .inl (ty.1, 8, .inl t_sights_breaths)), (A_t_sights_bowed, .inl (ty.2.2.1, 8, .inl t_sights_bowed)), (A_t_images, .inl (ty.2.2.2, 2, .inr (.inr (.inr (.inr (im2 A_t_images_0 A_t_images_1)))))), (A_t_images_0, .inr (2, [.int t_images_0_isKept, .ref A_t_images_0_house, .ref A_t_images_0_sights])), (A_t_images_0_house, .inr (1, [.int t_images_0_house_there, .int t_images_0_house_awake, .int t_images_0_house_start, .int t_images_0_house_sharp, .ref A_t_images_0_house_counts, .ref A_t_images_0_house_paces])), (A_t_images_0_house_counts, .inl (ty.1, 8, .inl t_images_0_house_counts)), (A_t_images_0_house_paces, .inl (ty.1, 8, .inl t_images_0_house_paces)), (A_t_images_0_sights, .inr (5, [.int t_images_0_sights_size, .ref A_t_images_0_sights_monks, .ref A_t_images_0_sights_breaths, .ref A_t_images_0_sights_bowed])), (A_t_images_0_sights_monks, .inl (ty.1, 8, .inl t_images_0_sights_monks)), (A_t_images_0_sights_breaths, .inl (ty.1, 8, .inl t_images_0_sights_breaths)), (A_t_images_0_sights_bowed, .inl (ty.2.2.1, 8, .inl t_images_0_sights_bowed)), (A_t_images_1, .inr (2, [.int r32.1, .ref A_t_images_1_house, .ref A_t_images_1_sights])), (A_t_images_1_house, .inr (1, [.int r32.2.1, .int r32.2.2.1, .int r32.2.2.2.1, .int r32.2.2.2.2.1, .ref A_t_images_1_house_counts, .ref A_t_images_1_house_paces])), (A_t_images_1_house_counts, .inl (ty.1, 8, .inl r32.2.2.2.2.2.1)), (A_t_images_1_house_paces, .inl (ty.1, 8, .inl r32.2.2.2.2.2.2.1)), (A_t_images_1_sights, .inr (5, [.int r32.2.2.2.2.2.2.2.1, .ref A_t_images_1_sights_monks, .ref A_t_images_1_sights_breaths, .ref A_t_images_1_sights_bowed])), (A_t_images_1_sights_monks, .inl (ty.1, 8, .inl r32.2.2.2.2.2.2.2.2.1)), (A_t_images_1_sights_breaths, .inl (ty.1, 8, .inl r32.2.2.2.2.2.2.2.2.2.1)), (A_t_images_1_sights_bowed, .inl (ty.2.2.1, 8, .inl r32.2.2.2.2.2.2.2.2.2.2))] H := hP
        have hD : va_D (va_A WC s.heap.size) [(A_t, .inr (8, [.ref A_t_house, .ref A_t_pad, .ref A_t_hours, .ref A_t_laws, .ref A_t_sights, .ref A_t_worlds, .ref A_t_trialYear, .ref A_t_images])), (A_t_house, .inr (1, [.int t_house_there, .int t_house_awake, .int t_house_start, .int t_house_sharp, .ref A_t_house_counts, .ref A_t_house_paces])), (A_t_house_counts, .inl (ty.1, 8, .inl t_house_counts)), (A_t_house_paces, .inl (ty.1, 8, .inl t_house_paces)), (A_t_sights, .inr (5, [.int t_sights_size, .ref A_t_sights_monks, .ref A_t_sights_breaths, .ref A_t_sights_bowed])), (A_t_sights_monks, .inl (ty.1, 8, .inl t_sights_monks)), (A_t_sights_breaths, .inl (ty.1, 8, .inl t_sights_breaths)), (A_t_sights_bowed, .inl (ty.2.2.1, 8, .inl t_sights_bowed)), (A_t_images, .inl (ty.2.2.2, 2, .inr (.inr (.inr (.inr (im2 A_t_images_0 A_t_images_1)))))), (A_t_images_0, .inr (2, [.int t_images_0_isKept, .ref A_t_images_0_house, .ref A_t_images_0_sights])), (A_t_images_0_house, .inr (1, [.int t_images_0_house_there, .int t_images_0_house_awake, .int t_images_0_house_start, .int t_images_0_house_sharp, .ref A_t_images_0_house_counts, .ref A_t_images_0_house_paces])), (A_t_images_0_house_counts, .inl (ty.1, 8, .inl t_images_0_house_counts)), (A_t_images_0_house_paces, .inl (ty.1, 8, .inl t_images_0_house_paces)), (A_t_images_0_sights, .inr (5, [.int t_images_0_sights_size, .ref A_t_images_0_sights_monks, .ref A_t_images_0_sights_breaths, .ref A_t_images_0_sights_bowed])), (A_t_images_0_sights_monks, .inl (ty.1, 8, .inl t_images_0_sights_monks)), (A_t_images_0_sights_breaths, .inl (ty.1, 8, .inl t_images_0_sights_breaths)), (A_t_images_0_sights_bowed, .inl (ty.2.2.1, 8, .inl t_images_0_sights_bowed)), (A_t_images_1, .inr (2, [.int r32.1, .ref A_t_images_1_house, .ref A_t_images_1_sights])), (A_t_images_1_house, .inr (1, [.int r32.2.1, .int r32.2.2.1, .int r32.2.2.2.1, .int r32.2.2.2.2.1, .ref A_t_images_1_house_counts, .ref A_t_images_1_house_paces])), (A_t_images_1_house_counts, .inl (ty.1, 8, .inl r32.2.2.2.2.2.1)), (A_t_images_1_house_paces, .inl (ty.1, 8, .inl r32.2.2.2.2.2.2.1)), (A_t_images_1_sights, .inr (5, [.int r32.2.2.2.2.2.2.2.1, .ref A_t_images_1_sights_monks, .ref A_t_images_1_sights_breaths, .ref A_t_images_1_sights_bowed])), (A_t_images_1_sights_monks, .inl (ty.1, 8, .inl r32.2.2.2.2.2.2.2.2.1)), (A_t_images_1_sights_breaths, .inl (ty.1, 8, .inl r32.2.2.2.2.2.2.2.2.2.1)), (A_t_images_1_sights_bowed, .inl (ty.2.2.1, 8, .inl r32.2.2.2.2.2.2.2.2.2.2))] := hD
        refine lv_iconst (v := 1) hx hb dX9_image_35 (by decide) ?_
        cases hf
        exact ret_wi hx hb hr hlocks hP hD hS dX9_image_36
      · have hf := ff hf hc1
        cases hf
  · have hf := ft hf hc
    refine lv_bipush (v := (-2)) hx hb dX9_image_15 (by decide) ?_
    cases hf
    exact ret_wi hx hb hr hlocks hP hD hS dX9_image_17
/-! ===== SilenceCount.judge(I)I ===== -/
abbrev rmX9_judge : Room := { frames := 6, cells := 0, slots := 0, locals := 137 }
theorem kkX9_judge : yX9_judge.cls = RX9 ∧ yX9_judge.cls ≠ "java/lang/invoke/MethodHandle" ∧ yX9_judge.cls ≠ "java/lang/invoke/VarHandle" ∧ (parseMethodDescriptor yX9_judge.desc).map (fun d => d.parameters.length) = some 1 := by decide +kernel
theorem mX9_judge_f26 : Cond.fieldLink RX9 26 "SilenceCount" "hours" "LSilenceCount$Hours;" ∈ wsX9_judge := by decide +kernel
theorem mX9_judge_f19 : Cond.fieldLink RX9 19 "SilenceCount" "pad" "LSilenceCount$Pad;" ∈ wsX9_judge := by decide +kernel
theorem mX9_judge_f10 : Cond.fieldLink RX9 10 "SilenceCount" "house" "LSilenceCount$House;" ∈ wsX9_judge := by decide +kernel
theorem mX9_judge_f124 : Cond.fieldLink RX9 124 "SilenceCount$Hours" "hasFault" "Z" ∈ wsX9_judge := by decide +kernel
theorem mX9_judge_f131 : Cond.fieldLink RX9 131 "SilenceCount$Hours" "why" "I" ∈ wsX9_judge := by decide +kernel
theorem mX9_judge_f128 : Cond.fieldLink RX9 128 "SilenceCount$Hours" "wrongAct" "I" ∈ wsX9_judge := by decide +kernel
theorem wX9_judge_X1 : ∀ w ∈ u_ws RX1 TX1 7, w ∈ wsX9_judge := by decide +kernel
theorem wX9_judge_X9 : ∀ w ∈ u_ws RX9 TX9 8, w ∈ wsX9_judge := by decide +kernel
def fX9_judge (t_house_there : Int32) (t_house_awake : Int32) (t_house_start : Int32) (t_house_sharp : Int32) (t_house_counts : Nat → Int32) (t_house_paces : Nat → Int32) (t_pad_size : Int32) (t_pad_acts : Int32) (t_pad_signs : Nat → Int32) (t_pad_actMonks : Nat → Int32) (t_pad_actSigns : Nat → Int32) (t_hours_hasFault : Int32) (t_hours_wrongAct : Int32) (t_hours_why : Int32) (t_hours_breathsSoFar : Int32) (t_hours_breathOfFirstNought : Int32) (t_hours_firstNoticed : Int32) (t_hours_house_there : Int32) (t_hours_house_awake : Int32) (t_hours_house_start : Int32) (t_hours_house_sharp : Int32) (t_hours_house_counts : Nat → Int32) (t_hours_house_paces : Nat → Int32) (a1 : Int32) : Option (Int32 × Int32 × (Nat → Int32) × (Nat → Int32) × Int32 × Int32 × Int32 × Int32 × Int32 × Int32 × Int32 × Int32 × Int32 × Int32 × (Nat → Int32) × (Nat → Int32)) :=
  (fX9_isWithin a1 0 1).bind fun r3 => if r3 = 0 then some ((-2), t_pad_acts, t_pad_actMonks, t_pad_actSigns, t_hours_hasFault, t_hours_wrongAct, t_hours_why, t_hours_breathsSoFar, t_hours_breathOfFirstNought, t_hours_firstNoticed, t_hours_house_there, t_hours_house_awake, t_hours_house_start, t_hours_house_sharp, t_hours_house_counts, t_hours_house_paces) else (fX1_follow t_hours_hasFault t_hours_wrongAct t_hours_why t_hours_breathsSoFar t_hours_breathOfFirstNought t_hours_firstNoticed t_hours_house_there t_hours_house_awake t_hours_house_start t_hours_house_sharp t_hours_house_counts t_hours_house_paces t_pad_size t_pad_acts t_pad_signs t_pad_actMonks t_pad_actSigns t_house_there t_house_awake t_house_start t_house_sharp t_house_counts t_house_paces).bind fun r24 => if r24.2.1 = 0 then if a1 = 0 then some (r24.2.2.1, r24.2.2.2.2.2.2.2.2.2.2.2.2.2.1, r24.2.2.2.2.2.2.2.2.2.2.2.2.2.2.1, r24.2.2.2.2.2.2.2.2.2.2.2.2.2.2.2, r24.2.1, r24.2.2.1, r24.2.2.2.1, r24.2.2.2.2.1, r24.2.2.2.2.2.1, r24.2.2.2.2.2.2.1, r24.2.2.2.2.2.2.2.1, r24.2.2.2.2.2.2.2.2.1, r24.2.2.2.2.2.2.2.2.2.1, r24.2.2.2.2.2.2.2.2.2.2.1, r24.2.2.2.2.2.2.2.2.2.2.2.1, r24.2.2.2.2.2.2.2.2.2.2.2.2.1) else some (r24.2.2.2.1, r24.2.2.2.2.2.2.2.2.2.2.2.2.2.1, r24.2.2.2.2.2.2.2.2.2.2.2.2.2.2.1, r24.2.2.2.2.2.2.2.2.2.2.2.2.2.2.2, r24.2.1, r24.2.2.1, r24.2.2.2.1, r24.2.2.2.2.1, r24.2.2.2.2.2.1, r24.2.2.2.2.2.2.1, r24.2.2.2.2.2.2.2.1, r24.2.2.2.2.2.2.2.2.1, r24.2.2.2.2.2.2.2.2.2.1, r24.2.2.2.2.2.2.2.2.2.2.1, r24.2.2.2.2.2.2.2.2.2.2.2.1, r24.2.2.2.2.2.2.2.2.2.2.2.2.1) else some ((-5), r24.2.2.2.2.2.2.2.2.2.2.2.2.2.1, r24.2.2.2.2.2.2.2.2.2.2.2.2.2.2.1, r24.2.2.2.2.2.2.2.2.2.2.2.2.2.2.2, r24.2.1, r24.2.2.1, r24.2.2.2.1, r24.2.2.2.2.1, r24.2.2.2.2.2.1, r24.2.2.2.2.2.2.1, r24.2.2.2.2.2.2.2.1, r24.2.2.2.2.2.2.2.2.1, r24.2.2.2.2.2.2.2.2.2.1, r24.2.2.2.2.2.2.2.2.2.2.1, r24.2.2.2.2.2.2.2.2.2.2.2.1, r24.2.2.2.2.2.2.2.2.2.2.2.2.1)
set_option maxRecDepth 100000 in
set_option maxHeartbeats 4000000 in
theorem CX9_judge (l : Launch) {D : va_G} {ty : TY} {A_t A_t_laws A_t_sights A_t_worlds A_t_trialYear A_t_images A_t_house A_t_house_counts A_t_house_paces A_t_pad A_t_pad_signs A_t_pad_actMonks A_t_pad_actSigns A_t_hours A_t_hours_house A_t_hours_house_counts A_t_hours_house_paces : Nat} {t_house_there : Int32} {t_house_awake : Int32} {t_house_start : Int32} {t_house_sharp : Int32} {t_house_counts : Nat → Int32} {t_house_paces : Nat → Int32} {t_pad_size : Int32} {t_pad_acts : Int32} {t_pad_signs : Nat → Int32} {t_pad_actMonks : Nat → Int32} {t_pad_actSigns : Nat → Int32} {t_hours_hasFault : Int32} {t_hours_wrongAct : Int32} {t_hours_why : Int32} {t_hours_breathsSoFar : Int32} {t_hours_breathOfFirstNought : Int32} {t_hours_firstNoticed : Int32} {t_hours_house_there : Int32} {t_hours_house_awake : Int32} {t_hours_house_start : Int32} {t_hours_house_sharp : Int32} {t_hours_house_counts : Nat → Int32} {t_hours_house_paces : Nat → Int32} {a1 : Int32} {q0 : Int32 × Int32 × (Nat → Int32) × (Nat → Int32) × Int32 × Int32 × Int32 × Int32 × Int32 × Int32 × Int32 × Int32 × Int32 × Int32 × (Nat → Int32) × (Nat → Int32)} (hf : fX9_judge t_house_there t_house_awake t_house_start t_house_sharp t_house_counts t_house_paces t_pad_size t_pad_acts t_pad_signs t_pad_actMonks t_pad_actSigns t_hours_hasFault t_hours_wrongAct t_hours_why t_hours_breathsSoFar t_hours_breathOfFirstNought t_hours_firstNoticed t_hours_house_there t_hours_house_awake t_hours_house_start t_hours_house_sharp t_hours_house_counts t_hours_house_paces a1 = some q0) : RWi l yX9_judge wsX9_judge rmX9_judge D ty [.ref A_t, .int a1] [(A_t, .inr (8, [.ref A_t_house, .ref A_t_pad, .ref A_t_hours, .ref A_t_laws, .ref A_t_sights, .ref A_t_worlds, .ref A_t_trialYear, .ref A_t_images])), (A_t_house, .inr (1, [.int t_house_there, .int t_house_awake, .int t_house_start, .int t_house_sharp, .ref A_t_house_counts, .ref A_t_house_paces])), (A_t_house_counts, .inl (ty.1, 8, .inl t_house_counts)), (A_t_house_paces, .inl (ty.1, 8, .inl t_house_paces)), (A_t_pad, .inr (4, [.int t_pad_size, .ref A_t_pad_signs, .int t_pad_acts, .ref A_t_pad_actMonks, .ref A_t_pad_actSigns])), (A_t_pad_signs, .inl (ty.1, 60, .inl t_pad_signs)), (A_t_pad_actMonks, .inl (ty.1, 60, .inl t_pad_actMonks)), (A_t_pad_actSigns, .inl (ty.1, 60, .inl t_pad_actSigns)), (A_t_hours, .inr (0, [.ref A_t_hours_house, .int t_hours_hasFault, .int t_hours_wrongAct, .int t_hours_why, .int t_hours_breathsSoFar, .int t_hours_breathOfFirstNought, .int t_hours_firstNoticed])), (A_t_hours_house, .inr (1, [.int t_hours_house_there, .int t_hours_house_awake, .int t_hours_house_start, .int t_hours_house_sharp, .ref A_t_hours_house_counts, .ref A_t_hours_house_paces])), (A_t_hours_house_counts, .inl (ty.1, 8, .inl t_hours_house_counts)), (A_t_hours_house_paces, .inl (ty.1, 8, .inl t_hours_house_paces))] q0.1 [(A_t, .inr (8, [.ref A_t_house, .ref A_t_pad, .ref A_t_hours, .ref A_t_laws, .ref A_t_sights, .ref A_t_worlds, .ref A_t_trialYear, .ref A_t_images])), (A_t_house, .inr (1, [.int t_house_there, .int t_house_awake, .int t_house_start, .int t_house_sharp, .ref A_t_house_counts, .ref A_t_house_paces])), (A_t_house_counts, .inl (ty.1, 8, .inl t_house_counts)), (A_t_house_paces, .inl (ty.1, 8, .inl t_house_paces)), (A_t_pad, .inr (4, [.int t_pad_size, .ref A_t_pad_signs, .int q0.2.1, .ref A_t_pad_actMonks, .ref A_t_pad_actSigns])), (A_t_pad_signs, .inl (ty.1, 60, .inl t_pad_signs)), (A_t_pad_actMonks, .inl (ty.1, 60, .inl q0.2.2.1)), (A_t_pad_actSigns, .inl (ty.1, 60, .inl q0.2.2.2.1)), (A_t_hours, .inr (0, [.ref A_t_hours_house, .int q0.2.2.2.2.1, .int q0.2.2.2.2.2.1, .int q0.2.2.2.2.2.2.1, .int q0.2.2.2.2.2.2.2.1, .int q0.2.2.2.2.2.2.2.2.1, .int q0.2.2.2.2.2.2.2.2.2.1])), (A_t_hours_house, .inr (1, [.int q0.2.2.2.2.2.2.2.2.2.2.1, .int q0.2.2.2.2.2.2.2.2.2.2.2.1, .int q0.2.2.2.2.2.2.2.2.2.2.2.2.1, .int q0.2.2.2.2.2.2.2.2.2.2.2.2.2.1, .ref A_t_hours_house_counts, .ref A_t_hours_house_paces])), (A_t_hours_house_counts, .inl (ty.1, 8, .inl q0.2.2.2.2.2.2.2.2.2.2.2.2.2.2.1)), (A_t_hours_house_paces, .inl (ty.1, 8, .inl q0.2.2.2.2.2.2.2.2.2.2.2.2.2.2.2))] := by
  refine RWi.start (cc := cX9_judge) (maxL := 2) (ret := (some .int)) (own := RX9) (by decide) rfl rfl (Nat.le_of_ble_eq_true rfl) ?_
  intro p e s m below meth c ls C hK hP hD hS hl
  obtain ⟨WC, hWC⟩ : ∃ w : va_W, w = [(A_t, .inr (8, [.ref A_t_house, .ref A_t_pad, .ref A_t_hours, .ref A_t_laws, .ref A_t_sights, .ref A_t_worlds, .ref A_t_trialYear, .ref A_t_images])), (A_t_house, .inr (1, [.int t_house_there, .int t_house_awake, .int t_house_start, .int t_house_sharp, .ref A_t_house_counts, .ref A_t_house_paces])), (A_t_house_counts, .inl (ty.1, 8, .inl t_house_counts)), (A_t_house_paces, .inl (ty.1, 8, .inl t_house_paces)), (A_t_pad, .inr (4, [.int t_pad_size, .ref A_t_pad_signs, .int t_pad_acts, .ref A_t_pad_actMonks, .ref A_t_pad_actSigns])), (A_t_pad_signs, .inl (ty.1, 60, .inl t_pad_signs)), (A_t_pad_actMonks, .inl (ty.1, 60, .inl t_pad_actMonks)), (A_t_pad_actSigns, .inl (ty.1, 60, .inl t_pad_actSigns)), (A_t_hours, .inr (0, [.ref A_t_hours_house, .int t_hours_hasFault, .int t_hours_wrongAct, .int t_hours_why, .int t_hours_breathsSoFar, .int t_hours_breathOfFirstNought, .int t_hours_firstNoticed])), (A_t_hours_house, .inr (1, [.int t_hours_house_there, .int t_hours_house_awake, .int t_hours_house_start, .int t_hours_house_sharp, .ref A_t_hours_house_counts, .ref A_t_hours_house_paces])), (A_t_hours_house_counts, .inl (ty.1, 8, .inl t_hours_house_counts)), (A_t_hours_house_paces, .inl (ty.1, 8, .inl t_hours_house_paces))] := ⟨_, rfl⟩
  rw [← hWC] at hD hS ⊢
  have hD : va_D (va_A WC s.heap.size) [(A_t, .inr (8, [.ref A_t_house, .ref A_t_pad, .ref A_t_hours, .ref A_t_laws, .ref A_t_sights, .ref A_t_worlds, .ref A_t_trialYear, .ref A_t_images])), (A_t_house, .inr (1, [.int t_house_there, .int t_house_awake, .int t_house_start, .int t_house_sharp, .ref A_t_house_counts, .ref A_t_house_paces])), (A_t_house_counts, .inl (ty.1, 8, .inl t_house_counts)), (A_t_house_paces, .inl (ty.1, 8, .inl t_house_paces)), (A_t_pad, .inr (4, [.int t_pad_size, .ref A_t_pad_signs, .int t_pad_acts, .ref A_t_pad_actMonks, .ref A_t_pad_actSigns])), (A_t_pad_signs, .inl (ty.1, 60, .inl t_pad_signs)), (A_t_pad_actMonks, .inl (ty.1, 60, .inl t_pad_actMonks)), (A_t_pad_actSigns, .inl (ty.1, 60, .inl t_pad_actSigns)), (A_t_hours, .inr (0, [.ref A_t_hours_house, .int t_hours_hasFault, .int t_hours_wrongAct, .int t_hours_why, .int t_hours_breathsSoFar, .int t_hours_breathOfFirstNought, .int t_hours_firstNoticed])), (A_t_hours_house, .inr (1, [.int t_hours_house_there, .int t_hours_house_awake, .int t_hours_house_start, .int t_hours_house_sharp, .ref A_t_hours_house_counts, .ref A_t_hours_house_paces])), (A_t_hours_house_counts, .inl (ty.1, 8, .inl t_hours_house_counts)), (A_t_hours_house_paces, .inl (ty.1, 8, .inl t_hours_house_paces))] := by rw [← hWC]; exact hD
  obtain ⟨hx, hb, hr, hml, hown, hts, hlocks⟩ := id C
  have hl : lv_has ls 2 [(0, .ref A_t), (1, .int a1)] := hl
  unfold fX9_judge at hf
  refine lv_iload_n hx hb dX9_judge_0 rfl (lv_at hl 1 rfl) ?_
  refine lv_iconst (v := 0) hx hb dX9_judge_1 (by decide) ?_
  refine lv_iconst (v := 1) hx hb dX9_judge_2 (by decide) ?_
  obtain ⟨r3, hr3, hf⟩ := bnd hf
  have hPc : va_P D vwCl [] _ := hP.sub [] rfl
  refine callS_ri (As := [.int a1, .int 0, .int 1]) (rest := []) ⟨hx, hb, hml, hown, hts⟩ (CX9_isWithin l hr3) (va_cwS 3 hts gX9_judge_X9_isWithin rfl rfl rfl kkX9_isWithin.2 ⟨Nat.le_of_ble_eq_true rfl, Nat.le_of_ble_eq_true rfl⟩) hK hPc hl.1 rfl (Nat.le_of_ble_eq_true rfl) dX9_judge_3 ⟨Nat.zero_le _, Nat.zero_le _⟩ ?_
  refine lv_if_ne (tgt := 12) hx hb dX9_judge_6 (by decide) (fun hc => ?_) (fun hc => ?_)
  · have hf := ff hf hc
    refine lv_aload_n hx hb dX9_judge_12 rfl (lv_at hl 0 rfl) ?_
    refine va_get (D := D) (ci := 8) (v := .ref A_t_hours) (C := RX9) (T := TX9) (N := 8) hx hb hts wX9_judge_X9 hown hK.1 hP 0 rfl rfl 2 (by decide) (hts _ mX9_judge_f26) (fun _ h9 => h9) rfl dX9_judge_13 ?_
    refine lv_aload_n hx hb dX9_judge_16 rfl (lv_at hl 0 rfl) ?_
    refine va_get (D := D) (ci := 8) (v := .ref A_t_pad) (C := RX9) (T := TX9) (N := 8) hx hb hts wX9_judge_X9 hown hK.1 hP 0 rfl rfl 1 (by decide) (hts _ mX9_judge_f19) (fun _ h9 => h9) rfl dX9_judge_17 ?_
    refine lv_aload_n hx hb dX9_judge_20 rfl (lv_at hl 0 rfl) ?_
    refine va_get (D := D) (ci := 8) (v := .ref A_t_house) (C := RX9) (T := TX9) (N := 8) hx hb hts wX9_judge_X9 hown hK.1 hP 0 rfl rfl 0 (by decide) (hts _ mX9_judge_f10) (fun _ h9 => h9) rfl dX9_judge_21 ?_
    obtain ⟨r24, hr24, hf⟩ := bnd hf
    refine callV_wi (As := [.ref A_t_pad, .ref A_t_house]) (rest := []) ⟨hx, hb, hml, hown, hts⟩ (CX1_follow l hr24) (cwV 2 hts gX9_judge_X1_follow rfl rfl rfl kkX1_follow ⟨Nat.le_of_ble_eq_true rfl, Nat.le_of_ble_eq_true rfl⟩) hK hP hD hS (fun _ h => Or.inr h) [8, 9, 10, 11, 4, 5, 6, 7, 1, 2, 3] [0] [0, 9, 10, 11, 5, 6, 7, 8, 1, 2, 3, 4] rfl (by decide) (by decide) rfl rfl 0 rfl rfl rfl hl.1 rfl (Nat.le_of_ble_eq_true rfl) dX9_judge_24 ⟨Nat.zero_le _, Nat.zero_le _⟩ (fun H locs hP hD hS => ?_)
    have hP : va_P D vwCl [(A_t, .inr (8, [.ref A_t_house, .ref A_t_pad, .ref A_t_hours, .ref A_t_laws, .ref A_t_sights, .ref A_t_worlds, .ref A_t_trialYear, .ref A_t_images])), (A_t_house, .inr (1, [.int t_house_there, .int t_house_awake, .int t_house_start, .int t_house_sharp, .ref A_t_house_counts, .ref A_t_house_paces])), (A_t_house_counts, .inl (ty.1, 8, .inl t_house_counts)), (A_t_house_paces, .inl (ty.1, 8, .inl t_house_paces)), (A_t_pad, .inr (4, [.int t_pad_size, .ref A_t_pad_signs, .int r24.2.2.2.2.2.2.2.2.2.2.2.2.2.1, .ref A_t_pad_actMonks, .ref A_t_pad_actSigns])), (A_t_pad_signs, .inl (ty.1, 60, .inl t_pad_signs)), (A_t_pad_actMonks, .inl (ty.1, 60, .inl r24.2.2.2.2.2.2.2.2.2.2.2.2.2.2.1)), (A_t_pad_actSigns, .inl (ty.1, 60, .inl r24.2.2.2.2.2.2.2.2.2.2.2.2.2.2.2)), (A_t_hours, .inr (0, [.ref A_t_hours_house, .int r24.2.1, .int r24.2.2.1, .int r24.2.2.2.1, .int r24.2.2.2.2.1, .int r24.2.2.2.2.2.1, .int r24.2.2.2.2.2.2.1])), (A_t_hours_house, .inr (1, [.int r24.2.2.2.2.2.2.2.1, .int r24.2.2.2.2.2.2.2.2.1, .int r24.2.2.2.2.2.2.2.2.2.1, .int r24.2.2.2.2.2.2.2.2.2.2.1, .ref A_t_hours_house_counts, .ref A_t_hours_house_paces])), (A_t_hours_house_counts, .inl (ty.1, 8, .inl r24.2.2.2.2.2.2.2.2.2.2.2.1)), (A_t_hours_house_paces, .inl (ty.1, 8, .inl r24.2.2.2.2.2.2.2.2.2.2.2.2.1))] H := hP
    have hD : va_D (va_A WC s.heap.size) [(A_t, .inr (8, [.ref A_t_house, .ref A_t_pad, .ref A_t_hours, .ref A_t_laws, .ref A_t_sights, .ref A_t_worlds, .ref A_t_trialYear, .ref A_t_images])), (A_t_house, .inr (1, [.int t_house_there, .int t_house_awake, .int t_house_start, .int t_house_sharp, .ref A_t_house_counts, .ref A_t_house_paces])), (A_t_house_counts, .inl (ty.1, 8, .inl t_house_counts)), (A_t_house_paces, .inl (ty.1, 8, .inl t_house_paces)), (A_t_pad, .inr (4, [.int t_pad_size, .ref A_t_pad_signs, .int r24.2.2.2.2.2.2.2.2.2.2.2.2.2.1, .ref A_t_pad_actMonks, .ref A_t_pad_actSigns])), (A_t_pad_signs, .inl (ty.1, 60, .inl t_pad_signs)), (A_t_pad_actMonks, .inl (ty.1, 60, .inl r24.2.2.2.2.2.2.2.2.2.2.2.2.2.2.1)), (A_t_pad_actSigns, .inl (ty.1, 60, .inl r24.2.2.2.2.2.2.2.2.2.2.2.2.2.2.2)), (A_t_hours, .inr (0, [.ref A_t_hours_house, .int r24.2.1, .int r24.2.2.1, .int r24.2.2.2.1, .int r24.2.2.2.2.1, .int r24.2.2.2.2.2.1, .int r24.2.2.2.2.2.2.1])), (A_t_hours_house, .inr (1, [.int r24.2.2.2.2.2.2.2.1, .int r24.2.2.2.2.2.2.2.2.1, .int r24.2.2.2.2.2.2.2.2.2.1, .int r24.2.2.2.2.2.2.2.2.2.2.1, .ref A_t_hours_house_counts, .ref A_t_hours_house_paces])), (A_t_hours_house_counts, .inl (ty.1, 8, .inl r24.2.2.2.2.2.2.2.2.2.2.2.1)), (A_t_hours_house_paces, .inl (ty.1, 8, .inl r24.2.2.2.2.2.2.2.2.2.2.2.2.1))] := hD
    refine lv_pop hx hb dX9_judge_27 rfl ?_
    refine lv_aload_n hx hb dX9_judge_28 rfl (lv_at hl 0 rfl) ?_
    refine va_get (D := D) (ci := 8) (v := .ref A_t_hours) (C := RX9) (T := TX9) (N := 8) hx hb hts wX9_judge_X9 hown hK.1 hP 0 rfl rfl 2 (by decide) (hts _ mX9_judge_f26) (fun _ h9 => h9) rfl dX9_judge_29 ?_
    refine va_get (D := D) (ci := 0) (v := .int r24.2.1) (C := RX1) (T := TX1) (N := 7) hx hb hts wX9_judge_X1 hown hK.1 hP 8 rfl rfl 1 (by decide) (hts _ mX9_judge_f124) (fun _ h9 => h9) rfl dX9_judge_32 ?_
    refine lv_if_eq (tgt := 41) hx hb dX9_judge_35 (by decide) (fun hc => ?_) (fun hc => ?_)
    · have hf := ft hf hc
      refine lv_iload_n hx hb dX9_judge_41 rfl (lv_at hl 1 rfl) ?_
      refine lv_if_ne (tgt := 55) hx hb dX9_judge_42 (by decide) (fun hc => ?_) (fun hc => ?_)
      · have hf := ff hf hc
        refine lv_aload_n hx hb dX9_judge_55 rfl (lv_at hl 0 rfl) ?_
        refine va_get (D := D) (ci := 8) (v := .ref A_t_hours) (C := RX9) (T := TX9) (N := 8) hx hb hts wX9_judge_X9 hown hK.1 hP 0 rfl rfl 2 (by decide) (hts _ mX9_judge_f26) (fun _ h9 => h9) rfl dX9_judge_56 ?_
        refine va_get (D := D) (ci := 0) (v := .int r24.2.2.2.1) (C := RX1) (T := TX1) (N := 7) hx hb hts wX9_judge_X1 hown hK.1 hP 8 rfl rfl 3 (by decide) (hts _ mX9_judge_f131) (fun _ h9 => h9) rfl dX9_judge_59 ?_
        cases hf
        exact ret_wi hx hb hr hlocks hP hD hS dX9_judge_62
      · have hf := ft hf hc
        refine lv_aload_n hx hb dX9_judge_45 rfl (lv_at hl 0 rfl) ?_
        refine va_get (D := D) (ci := 8) (v := .ref A_t_hours) (C := RX9) (T := TX9) (N := 8) hx hb hts wX9_judge_X9 hown hK.1 hP 0 rfl rfl 2 (by decide) (hts _ mX9_judge_f26) (fun _ h9 => h9) rfl dX9_judge_46 ?_
        refine va_get (D := D) (ci := 0) (v := .int r24.2.2.1) (C := RX1) (T := TX1) (N := 7) hx hb hts wX9_judge_X1 hown hK.1 hP 8 rfl rfl 2 (by decide) (hts _ mX9_judge_f128) (fun _ h9 => h9) rfl dX9_judge_49 ?_
        refine lv_goto (tgt := 62) hx hb dX9_judge_52 (by decide) ?_
        cases hf
        exact ret_wi hx hb hr hlocks hP hD hS dX9_judge_62
    · have hf := ff hf hc
      refine lv_bipush (v := (-5)) hx hb dX9_judge_38 (by decide) ?_
      cases hf
      exact ret_wi hx hb hr hlocks hP hD hS dX9_judge_40
  · have hf := ft hf hc
    refine lv_bipush (v := (-2)) hx hb dX9_judge_9 (by decide) ?_
    cases hf
    exact ret_wi hx hb hr hlocks hP hD hS dX9_judge_11
/-! ===== SilenceCount.leave(I)I ===== -/
abbrev rmX9_leave : Room := { frames := 1, cells := 0, slots := 0, locals := 21 }
theorem kkX9_leave : yX9_leave.cls = RX9 ∧ yX9_leave.cls ≠ "java/lang/invoke/MethodHandle" ∧ yX9_leave.cls ≠ "java/lang/invoke/VarHandle" ∧ (parseMethodDescriptor yX9_leave.desc).map (fun d => d.parameters.length) = some 1 := by decide +kernel
theorem mX9_leave_f10 : Cond.fieldLink RX9 10 "SilenceCount" "house" "LSilenceCount$House;" ∈ wsX9_leave := by decide +kernel
theorem mX9_leave_f81 : Cond.fieldLink RX9 81 "SilenceCount$House" "there" "I" ∈ wsX9_leave := by decide +kernel
theorem wX9_leave_X2 : ∀ w ∈ u_ws RX2 TX2 6, w ∈ wsX9_leave := by decide +kernel
theorem wX9_leave_X9 : ∀ w ∈ u_ws RX9 TX9 8, w ∈ wsX9_leave := by decide +kernel
def fX9_leave (t_house_there : Int32) (t_house_awake : Int32) (a1 : Int32) : Option (Int32 × Int32 × Int32) :=
  (fX2_isThere t_house_there a1).bind fun r5 => if r5 = 0 then some ((-1), t_house_there, t_house_awake) else (fX2_dismiss t_house_there t_house_awake a1).bind fun r18 => (fJ6_bitCount_0f7a4 r18.1).bind fun r28 => some (r28, r18.1, r18.2)
set_option maxRecDepth 100000 in
set_option maxHeartbeats 4000000 in
theorem CX9_leave (l : Launch) {D : va_G} {ty : TY} {A_t A_t_pad A_t_hours A_t_laws A_t_sights A_t_worlds A_t_trialYear A_t_images A_t_house A_t_house_counts A_t_house_paces : Nat} {t_house_there : Int32} {t_house_awake : Int32} {t_house_start : Int32} {t_house_sharp : Int32} {t_house_counts : Nat → Int32} {t_house_paces : Nat → Int32} {a1 : Int32} {q0 : Int32 × Int32 × Int32} (hf : fX9_leave t_house_there t_house_awake a1 = some q0) : RWi l yX9_leave wsX9_leave rmX9_leave D ty [.ref A_t, .int a1] [(A_t, .inr (8, [.ref A_t_house, .ref A_t_pad, .ref A_t_hours, .ref A_t_laws, .ref A_t_sights, .ref A_t_worlds, .ref A_t_trialYear, .ref A_t_images])), (A_t_house, .inr (1, [.int t_house_there, .int t_house_awake, .int t_house_start, .int t_house_sharp, .ref A_t_house_counts, .ref A_t_house_paces])), (A_t_house_counts, .inl (ty.1, 8, .inl t_house_counts)), (A_t_house_paces, .inl (ty.1, 8, .inl t_house_paces))] q0.1 [(A_t, .inr (8, [.ref A_t_house, .ref A_t_pad, .ref A_t_hours, .ref A_t_laws, .ref A_t_sights, .ref A_t_worlds, .ref A_t_trialYear, .ref A_t_images])), (A_t_house, .inr (1, [.int q0.2.1, .int q0.2.2, .int t_house_start, .int t_house_sharp, .ref A_t_house_counts, .ref A_t_house_paces])), (A_t_house_counts, .inl (ty.1, 8, .inl t_house_counts)), (A_t_house_paces, .inl (ty.1, 8, .inl t_house_paces))] := by
  refine RWi.start (cc := cX9_leave) (maxL := 2) (ret := (some .int)) (own := RX9) (by decide) rfl rfl (Nat.le_of_ble_eq_true rfl) ?_
  intro p e s m below meth c ls C hK hP hD hS hl
  obtain ⟨WC, hWC⟩ : ∃ w : va_W, w = [(A_t, .inr (8, [.ref A_t_house, .ref A_t_pad, .ref A_t_hours, .ref A_t_laws, .ref A_t_sights, .ref A_t_worlds, .ref A_t_trialYear, .ref A_t_images])), (A_t_house, .inr (1, [.int t_house_there, .int t_house_awake, .int t_house_start, .int t_house_sharp, .ref A_t_house_counts, .ref A_t_house_paces])), (A_t_house_counts, .inl (ty.1, 8, .inl t_house_counts)), (A_t_house_paces, .inl (ty.1, 8, .inl t_house_paces))] := ⟨_, rfl⟩
  rw [← hWC] at hD hS ⊢
  have hD : va_D (va_A WC s.heap.size) [(A_t, .inr (8, [.ref A_t_house, .ref A_t_pad, .ref A_t_hours, .ref A_t_laws, .ref A_t_sights, .ref A_t_worlds, .ref A_t_trialYear, .ref A_t_images])), (A_t_house, .inr (1, [.int t_house_there, .int t_house_awake, .int t_house_start, .int t_house_sharp, .ref A_t_house_counts, .ref A_t_house_paces])), (A_t_house_counts, .inl (ty.1, 8, .inl t_house_counts)), (A_t_house_paces, .inl (ty.1, 8, .inl t_house_paces))] := by rw [← hWC]; exact hD
  obtain ⟨hx, hb, hr, hml, hown, hts, hlocks⟩ := id C
  have hl : lv_has ls 2 [(0, .ref A_t), (1, .int a1)] := hl
  unfold fX9_leave at hf
  refine lv_aload_n hx hb dX9_leave_0 rfl (lv_at hl 0 rfl) ?_
  refine va_get (D := D) (ci := 8) (v := .ref A_t_house) (C := RX9) (T := TX9) (N := 8) hx hb hts wX9_leave_X9 hown hK.1 hP 0 rfl rfl 0 (by decide) (hts _ mX9_leave_f10) (fun _ h9 => h9) rfl dX9_leave_1 ?_
  refine lv_iload_n hx hb dX9_leave_4 rfl (lv_at hl 1 rfl) ?_
  obtain ⟨r5, hr5, hf⟩ := bnd hf
  have hPc : va_P D vwCl [(A_t_house, .inr (1, [.int t_house_there, .int t_house_awake, .int t_house_start, .int t_house_sharp, .ref A_t_house_counts, .ref A_t_house_paces])), (A_t_house_counts, .inl (ty.1, 8, .inl t_house_counts)), (A_t_house_paces, .inl (ty.1, 8, .inl t_house_paces))] _ := hP.sub [1, 2, 3] rfl
  refine callV_ri (As := [.int a1]) (rest := []) ⟨hx, hb, hml, hown, hts⟩ (CX2_isThere l hr5) (cwV 1 hts gX9_leave_X2_isThere rfl rfl rfl kkX2_isThere ⟨Nat.le_of_ble_eq_true rfl, Nat.le_of_ble_eq_true rfl⟩) hK hPc 0 rfl rfl rfl hl.1 rfl (Nat.le_of_ble_eq_true rfl) dX9_leave_5 ⟨Nat.zero_le _, Nat.zero_le _⟩ ?_
  refine lv_if_ne (tgt := 13) hx hb dX9_leave_8 (by decide) (fun hc => ?_) (fun hc => ?_)
  · have hf := ff hf hc
    refine lv_aload_n hx hb dX9_leave_13 rfl (lv_at hl 0 rfl) ?_
    refine va_get (D := D) (ci := 8) (v := .ref A_t_house) (C := RX9) (T := TX9) (N := 8) hx hb hts wX9_leave_X9 hown hK.1 hP 0 rfl rfl 0 (by decide) (hts _ mX9_leave_f10) (fun _ h9 => h9) rfl dX9_leave_14 ?_
    refine lv_iload_n hx hb dX9_leave_17 rfl (lv_at hl 1 rfl) ?_
    obtain ⟨r18, hr18, hf⟩ := bnd hf
    refine callV_wv (As := [.int a1]) (rest := []) ⟨hx, hb, hml, hown, hts⟩ (CX2_dismiss l hr18) (cwV 1 hts gX9_leave_X2_dismiss rfl rfl rfl kkX2_dismiss ⟨Nat.le_of_ble_eq_true rfl, Nat.le_of_ble_eq_true rfl⟩) hK hP hD hS (fun _ h => Or.inr h) [1, 2, 3] [0] [0, 1, 2, 3] rfl (by decide) (by decide) rfl rfl 0 rfl rfl rfl hl.1 rfl (Nat.le_of_ble_eq_true rfl) dX9_leave_18 ⟨Nat.zero_le _, Nat.zero_le _⟩ (fun H locs hP hD hS => ?_)
    have hP : va_P D vwCl [(A_t, .inr (8, [.ref A_t_house, .ref A_t_pad, .ref A_t_hours, .ref A_t_laws, .ref A_t_sights, .ref A_t_worlds, .ref A_t_trialYear, .ref A_t_images])), (A_t_house, .inr (1, [.int r18.1, .int r18.2, .int t_house_start, .int t_house_sharp, .ref A_t_house_counts, .ref A_t_house_paces])), (A_t_house_counts, .inl (ty.1, 8, .inl t_house_counts)), (A_t_house_paces, .inl (ty.1, 8, .inl t_house_paces))] H := hP
    have hD : va_D (va_A WC s.heap.size) [(A_t, .inr (8, [.ref A_t_house, .ref A_t_pad, .ref A_t_hours, .ref A_t_laws, .ref A_t_sights, .ref A_t_worlds, .ref A_t_trialYear, .ref A_t_images])), (A_t_house, .inr (1, [.int r18.1, .int r18.2, .int t_house_start, .int t_house_sharp, .ref A_t_house_counts, .ref A_t_house_paces])), (A_t_house_counts, .inl (ty.1, 8, .inl t_house_counts)), (A_t_house_paces, .inl (ty.1, 8, .inl t_house_paces))] := hD
    refine lv_aload_n hx hb dX9_leave_21 rfl (lv_at hl 0 rfl) ?_
    refine va_get (D := D) (ci := 8) (v := .ref A_t_house) (C := RX9) (T := TX9) (N := 8) hx hb hts wX9_leave_X9 hown hK.1 hP 0 rfl rfl 0 (by decide) (hts _ mX9_leave_f10) (fun _ h9 => h9) rfl dX9_leave_22 ?_
    refine va_get (D := D) (ci := 1) (v := .int r18.1) (C := RX2) (T := TX2) (N := 6) hx hb hts wX9_leave_X2 hown hK.1 hP 1 rfl rfl 0 (by decide) (hts _ mX9_leave_f81) (fun _ h9 => h9) rfl dX9_leave_25 ?_
    obtain ⟨r28, hr28, hf⟩ := bnd hf
    have hPc : va_P D vwCl [] _ := hP.sub [] rfl
    refine callS_ri (As := [.int r18.1]) (rest := []) ⟨hx, hb, hml, hown, hts⟩ (CJ6_bitCount_0f7a4 l hr28) (va_cwS 1 hts gX9_leave_J6_bitCount_0f7a4 rfl rfl rfl kkJ6_bitCount_0f7a4.2 ⟨Nat.le_of_ble_eq_true rfl, Nat.le_of_ble_eq_true rfl⟩) hK hPc hl.1 rfl (Nat.le_of_ble_eq_true rfl) dX9_leave_28 ⟨Nat.zero_le _, Nat.zero_le _⟩ ?_
    cases hf
    exact ret_wi hx hb hr hlocks hP hD hS dX9_leave_31
  · have hf := ft hf hc
    refine lv_iconst (v := (-1)) hx hb dX9_leave_11 (by decide) ?_
    cases hf
    exact ret_wi hx hb hr hlocks hP hD hS dX9_leave_12
/-! ===== SilenceCount.meet(II)I ===== -/
abbrev rmX9_meet : Room := { frames := 3, cells := 0, slots := 0, locals := 61 }
theorem kkX9_meet : yX9_meet.cls = RX9 ∧ yX9_meet.cls ≠ "java/lang/invoke/MethodHandle" ∧ yX9_meet.cls ≠ "java/lang/invoke/VarHandle" ∧ (parseMethodDescriptor yX9_meet.desc).map (fun d => d.parameters.length) = some 2 := by decide +kernel
theorem mX9_meet_f10 : Cond.fieldLink RX9 10 "SilenceCount" "house" "LSilenceCount$House;" ∈ wsX9_meet := by decide +kernel
theorem wX9_meet_X9 : ∀ w ∈ u_ws RX9 TX9 8, w ∈ wsX9_meet := by decide +kernel
def fX9_meet (t_house_awake : Int32) (t_house_counts : Nat → Int32) (t_house_paces : Nat → Int32) (a1 : Int32) (a2 : Int32) : Option (Int32) :=
  if a1 = a2 then some (-1) else (fX2_isAwake t_house_awake a1).bind fun r10 => if r10 = 0 then some (-1) else (fX2_isAwake t_house_awake a2).bind fun r21 => if r21 = 0 then some (-1) else (fX2_breathsToMeet t_house_counts t_house_paces a1 a2).bind fun r35 => some r35
set_option maxRecDepth 100000 in
set_option maxHeartbeats 4000000 in
theorem CX9_meet (l : Launch) {D : va_G} {ty : TY} {A_t A_t_pad A_t_hours A_t_laws A_t_sights A_t_worlds A_t_trialYear A_t_images A_t_house A_t_house_counts A_t_house_paces : Nat} {t_house_there : Int32} {t_house_awake : Int32} {t_house_start : Int32} {t_house_sharp : Int32} {t_house_counts : Nat → Int32} {t_house_paces : Nat → Int32} {a1 : Int32} {a2 : Int32} {q0 : Int32} (hf : fX9_meet t_house_awake t_house_counts t_house_paces a1 a2 = some q0) : ROi l yX9_meet wsX9_meet rmX9_meet D ty [.ref A_t, .int a1, .int a2] [(A_t, .inr (8, [.ref A_t_house, .ref A_t_pad, .ref A_t_hours, .ref A_t_laws, .ref A_t_sights, .ref A_t_worlds, .ref A_t_trialYear, .ref A_t_images])), (A_t_house, .inr (1, [.int t_house_there, .int t_house_awake, .int t_house_start, .int t_house_sharp, .ref A_t_house_counts, .ref A_t_house_paces])), (A_t_house_counts, .inl (ty.1, 8, .inl t_house_counts)), (A_t_house_paces, .inl (ty.1, 8, .inl t_house_paces))] q0 := by
  refine ROi.start (cc := cX9_meet) (maxL := 3) (ret := (some .int)) (own := RX9) (by decide) rfl rfl (Nat.le_of_ble_eq_true rfl) ?_
  intro p e s m below meth c ls C hK hP hl
  obtain ⟨hx, hb, hr, hml, hown, hts, hlocks⟩ := id C
  have hl : lv_has ls 3 [(0, .ref A_t), (1, .int a1), (2, .int a2)] := hl
  unfold fX9_meet at hf
  refine lv_iload_n hx hb dX9_meet_0 rfl (lv_at hl 1 rfl) ?_
  refine lv_iload_n hx hb dX9_meet_1 rfl (lv_at hl 2 rfl) ?_
  refine lv_icmp_eq (tgt := 27) hx hb dX9_meet_2 (by decide) (fun hc => ?_) (fun hc => ?_)
  · have hf := ft hf hc
    refine lv_iconst (v := (-1)) hx hb dX9_meet_27 (by decide) ?_
    exact ret_ri hx hb hr hlocks hf dX9_meet_28
  · have hf := ff hf hc
    refine lv_aload_n hx hb dX9_meet_5 rfl (lv_at hl 0 rfl) ?_
    refine va_get (D := D) (ci := 8) (v := .ref A_t_house) (C := RX9) (T := TX9) (N := 8) hx hb hts wX9_meet_X9 hown hK.1 hP 0 rfl rfl 0 (by decide) (hts _ mX9_meet_f10) (fun _ h9 => h9) rfl dX9_meet_6 ?_
    refine lv_iload_n hx hb dX9_meet_9 rfl (lv_at hl 1 rfl) ?_
    obtain ⟨r10, hr10, hf⟩ := bnd hf
    have hPc : va_P D vwCl [(A_t_house, .inr (1, [.int t_house_there, .int t_house_awake, .int t_house_start, .int t_house_sharp, .ref A_t_house_counts, .ref A_t_house_paces])), (A_t_house_counts, .inl (ty.1, 8, .inl t_house_counts)), (A_t_house_paces, .inl (ty.1, 8, .inl t_house_paces))] _ := hP.sub [1, 2, 3] rfl
    refine callV_ri (As := [.int a1]) (rest := []) ⟨hx, hb, hml, hown, hts⟩ (CX2_isAwake l hr10) (cwV 1 hts gX9_meet_X2_isAwake rfl rfl rfl kkX2_isAwake ⟨Nat.le_of_ble_eq_true rfl, Nat.le_of_ble_eq_true rfl⟩) hK hPc 0 rfl rfl rfl hl.1 rfl (Nat.le_of_ble_eq_true rfl) dX9_meet_10 ⟨Nat.zero_le _, Nat.zero_le _⟩ ?_
    refine lv_if_eq (tgt := 27) hx hb dX9_meet_13 (by decide) (fun hc => ?_) (fun hc => ?_)
    · have hf := ft hf hc
      refine lv_iconst (v := (-1)) hx hb dX9_meet_27 (by decide) ?_
      exact ret_ri hx hb hr hlocks hf dX9_meet_28
    · have hf := ff hf hc
      refine lv_aload_n hx hb dX9_meet_16 rfl (lv_at hl 0 rfl) ?_
      refine va_get (D := D) (ci := 8) (v := .ref A_t_house) (C := RX9) (T := TX9) (N := 8) hx hb hts wX9_meet_X9 hown hK.1 hP 0 rfl rfl 0 (by decide) (hts _ mX9_meet_f10) (fun _ h9 => h9) rfl dX9_meet_17 ?_
      refine lv_iload_n hx hb dX9_meet_20 rfl (lv_at hl 2 rfl) ?_
      obtain ⟨r21, hr21, hf⟩ := bnd hf
      have hPc : va_P D vwCl [(A_t_house, .inr (1, [.int t_house_there, .int t_house_awake, .int t_house_start, .int t_house_sharp, .ref A_t_house_counts, .ref A_t_house_paces])), (A_t_house_counts, .inl (ty.1, 8, .inl t_house_counts)), (A_t_house_paces, .inl (ty.1, 8, .inl t_house_paces))] _ := hP.sub [1, 2, 3] rfl
      refine callV_ri (As := [.int a2]) (rest := []) ⟨hx, hb, hml, hown, hts⟩ (CX2_isAwake l hr21) (cwV 1 hts gX9_meet_X2_isAwake rfl rfl rfl kkX2_isAwake ⟨Nat.le_of_ble_eq_true rfl, Nat.le_of_ble_eq_true rfl⟩) hK hPc 0 rfl rfl rfl hl.1 rfl (Nat.le_of_ble_eq_true rfl) dX9_meet_21 ⟨Nat.zero_le _, Nat.zero_le _⟩ ?_
      refine lv_if_ne (tgt := 29) hx hb dX9_meet_24 (by decide) (fun hc => ?_) (fun hc => ?_)
      · have hf := ff hf hc
        refine lv_aload_n hx hb dX9_meet_29 rfl (lv_at hl 0 rfl) ?_
        refine va_get (D := D) (ci := 8) (v := .ref A_t_house) (C := RX9) (T := TX9) (N := 8) hx hb hts wX9_meet_X9 hown hK.1 hP 0 rfl rfl 0 (by decide) (hts _ mX9_meet_f10) (fun _ h9 => h9) rfl dX9_meet_30 ?_
        refine lv_iload_n hx hb dX9_meet_33 rfl (lv_at hl 1 rfl) ?_
        refine lv_iload_n hx hb dX9_meet_34 rfl (lv_at hl 2 rfl) ?_
        obtain ⟨r35, hr35, hf⟩ := bnd hf
        have hPc : va_P D vwCl [(A_t_house, .inr (1, [.int t_house_there, .int t_house_awake, .int t_house_start, .int t_house_sharp, .ref A_t_house_counts, .ref A_t_house_paces])), (A_t_house_counts, .inl (ty.1, 8, .inl t_house_counts)), (A_t_house_paces, .inl (ty.1, 8, .inl t_house_paces))] _ := hP.sub [1, 2, 3] rfl
        refine callV_ri (As := [.int a1, .int a2]) (rest := []) ⟨hx, hb, hml, hown, hts⟩ (CX2_breathsToMeet l hr35) (cwV 2 hts gX9_meet_X2_breathsToMeet rfl rfl rfl kkX2_breathsToMeet ⟨Nat.le_of_ble_eq_true rfl, Nat.le_of_ble_eq_true rfl⟩) hK hPc 0 rfl rfl rfl hl.1 rfl (Nat.le_of_ble_eq_true rfl) dX9_meet_35 ⟨Nat.zero_le _, Nat.zero_le _⟩ ?_
        exact ret_ri hx hb hr hlocks hf dX9_meet_38
      · have hf := ft hf hc
        refine lv_iconst (v := (-1)) hx hb dX9_meet_27 (by decide) ?_
        exact ret_ri hx hb hr hlocks hf dX9_meet_28
/-! ===== SilenceCount.monk(III)I ===== -/
abbrev rmX9_monk : Room := { frames := 1, cells := 0, slots := 0, locals := 23 }
theorem kkX9_monk : yX9_monk.cls = RX9 ∧ yX9_monk.cls ≠ "java/lang/invoke/MethodHandle" ∧ yX9_monk.cls ≠ "java/lang/invoke/VarHandle" ∧ (parseMethodDescriptor yX9_monk.desc).map (fun d => d.parameters.length) = some 3 := by decide +kernel
theorem mX9_monk_f10 : Cond.fieldLink RX9 10 "SilenceCount" "house" "LSilenceCount$House;" ∈ wsX9_monk := by decide +kernel
theorem mX9_monk_f69 : Cond.fieldLink RX9 69 "SilenceCount$House" "start" "I" ∈ wsX9_monk := by decide +kernel
theorem mX9_monk_f81 : Cond.fieldLink RX9 81 "SilenceCount$House" "there" "I" ∈ wsX9_monk := by decide +kernel
theorem wX9_monk_X2 : ∀ w ∈ u_ws RX2 TX2 6, w ∈ wsX9_monk := by decide +kernel
theorem wX9_monk_X9 : ∀ w ∈ u_ws RX9 TX9 8, w ∈ wsX9_monk := by decide +kernel
def fX9_monk (t_house_there : Int32) (t_house_awake : Int32) (t_house_start : Int32) (t_house_counts : Nat → Int32) (t_house_paces : Nat → Int32) (a1 : Int32) (a2 : Int32) (a3 : Int32) : Option (Int32 × Int32 × Int32 × (Nat → Int32) × (Nat → Int32)) :=
  (fX9_isMonk a1).bind fun r1 => if r1 = 0 then some ((-1), t_house_there, t_house_awake, t_house_counts, t_house_paces) else (fX9_isWithin a2 0 t_house_start).bind fun r18 => if r18 = 0 then some ((-2), t_house_there, t_house_awake, t_house_counts, t_house_paces) else (fX9_isWithin a3 1 9).bind fun r28 => if r28 = 0 then some ((-2), t_house_there, t_house_awake, t_house_counts, t_house_paces) else (fX2_settle t_house_there t_house_awake t_house_counts t_house_paces a1 a2 a3).bind fun r44 => (fJ6_bitCount_0f7a4 r44.1).bind fun r54 => some (r54, r44.1, r44.2.1, r44.2.2.1, r44.2.2.2)
set_option maxRecDepth 100000 in
set_option maxHeartbeats 4000000 in
theorem CX9_monk (l : Launch) {D : va_G} {ty : TY} {A_t A_t_pad A_t_hours A_t_laws A_t_sights A_t_worlds A_t_trialYear A_t_images A_t_house A_t_house_counts A_t_house_paces : Nat} {t_house_there : Int32} {t_house_awake : Int32} {t_house_start : Int32} {t_house_sharp : Int32} {t_house_counts : Nat → Int32} {t_house_paces : Nat → Int32} {a1 : Int32} {a2 : Int32} {a3 : Int32} {q0 : Int32 × Int32 × Int32 × (Nat → Int32) × (Nat → Int32)} (hf : fX9_monk t_house_there t_house_awake t_house_start t_house_counts t_house_paces a1 a2 a3 = some q0) : RWi l yX9_monk wsX9_monk rmX9_monk D ty [.ref A_t, .int a1, .int a2, .int a3] [(A_t, .inr (8, [.ref A_t_house, .ref A_t_pad, .ref A_t_hours, .ref A_t_laws, .ref A_t_sights, .ref A_t_worlds, .ref A_t_trialYear, .ref A_t_images])), (A_t_house, .inr (1, [.int t_house_there, .int t_house_awake, .int t_house_start, .int t_house_sharp, .ref A_t_house_counts, .ref A_t_house_paces])), (A_t_house_counts, .inl (ty.1, 8, .inl t_house_counts)), (A_t_house_paces, .inl (ty.1, 8, .inl t_house_paces))] q0.1 [(A_t, .inr (8, [.ref A_t_house, .ref A_t_pad, .ref A_t_hours, .ref A_t_laws, .ref A_t_sights, .ref A_t_worlds, .ref A_t_trialYear, .ref A_t_images])), (A_t_house, .inr (1, [.int q0.2.1, .int q0.2.2.1, .int t_house_start, .int t_house_sharp, .ref A_t_house_counts, .ref A_t_house_paces])), (A_t_house_counts, .inl (ty.1, 8, .inl q0.2.2.2.1)), (A_t_house_paces, .inl (ty.1, 8, .inl q0.2.2.2.2))] := by
  refine RWi.start (cc := cX9_monk) (maxL := 4) (ret := (some .int)) (own := RX9) (by decide) rfl rfl (Nat.le_of_ble_eq_true rfl) ?_
  intro p e s m below meth c ls C hK hP hD hS hl
  obtain ⟨WC, hWC⟩ : ∃ w : va_W, w = [(A_t, .inr (8, [.ref A_t_house, .ref A_t_pad, .ref A_t_hours, .ref A_t_laws, .ref A_t_sights, .ref A_t_worlds, .ref A_t_trialYear, .ref A_t_images])), (A_t_house, .inr (1, [.int t_house_there, .int t_house_awake, .int t_house_start, .int t_house_sharp, .ref A_t_house_counts, .ref A_t_house_paces])), (A_t_house_counts, .inl (ty.1, 8, .inl t_house_counts)), (A_t_house_paces, .inl (ty.1, 8, .inl t_house_paces))] := ⟨_, rfl⟩
  rw [← hWC] at hD hS ⊢
  have hD : va_D (va_A WC s.heap.size) [(A_t, .inr (8, [.ref A_t_house, .ref A_t_pad, .ref A_t_hours, .ref A_t_laws, .ref A_t_sights, .ref A_t_worlds, .ref A_t_trialYear, .ref A_t_images])), (A_t_house, .inr (1, [.int t_house_there, .int t_house_awake, .int t_house_start, .int t_house_sharp, .ref A_t_house_counts, .ref A_t_house_paces])), (A_t_house_counts, .inl (ty.1, 8, .inl t_house_counts)), (A_t_house_paces, .inl (ty.1, 8, .inl t_house_paces))] := by rw [← hWC]; exact hD
  obtain ⟨hx, hb, hr, hml, hown, hts, hlocks⟩ := id C
  have hl : lv_has ls 4 [(0, .ref A_t), (1, .int a1), (2, .int a2), (3, .int a3)] := hl
  unfold fX9_monk at hf
  refine lv_iload_n hx hb dX9_monk_0 rfl (lv_at hl 1 rfl) ?_
  obtain ⟨r1, hr1, hf⟩ := bnd hf
  have hPc : va_P D vwCl [] _ := hP.sub [] rfl
  refine callS_ri (As := [.int a1]) (rest := []) ⟨hx, hb, hml, hown, hts⟩ (CX9_isMonk l hr1) (va_cwS 1 hts gX9_monk_X9_isMonk rfl rfl rfl kkX9_isMonk.2 ⟨Nat.le_of_ble_eq_true rfl, Nat.le_of_ble_eq_true rfl⟩) hK hPc hl.1 rfl (Nat.le_of_ble_eq_true rfl) dX9_monk_1 ⟨Nat.zero_le _, Nat.zero_le _⟩ ?_
  refine lv_if_ne (tgt := 9) hx hb dX9_monk_4 (by decide) (fun hc => ?_) (fun hc => ?_)
  · have hf := ff hf hc
    refine lv_iload_n hx hb dX9_monk_9 rfl (lv_at hl 2 rfl) ?_
    refine lv_iconst (v := 0) hx hb dX9_monk_10 (by decide) ?_
    refine lv_aload_n hx hb dX9_monk_11 rfl (lv_at hl 0 rfl) ?_
    refine va_get (D := D) (ci := 8) (v := .ref A_t_house) (C := RX9) (T := TX9) (N := 8) hx hb hts wX9_monk_X9 hown hK.1 hP 0 rfl rfl 0 (by decide) (hts _ mX9_monk_f10) (fun _ h9 => h9) rfl dX9_monk_12 ?_
    refine va_get (D := D) (ci := 1) (v := .int t_house_start) (C := RX2) (T := TX2) (N := 6) hx hb hts wX9_monk_X2 hown hK.1 hP 1 rfl rfl 2 (by decide) (hts _ mX9_monk_f69) (fun _ h9 => h9) rfl dX9_monk_15 ?_
    obtain ⟨r18, hr18, hf⟩ := bnd hf
    have hPc : va_P D vwCl [] _ := hP.sub [] rfl
    refine callS_ri (As := [.int a2, .int 0, .int t_house_start]) (rest := []) ⟨hx, hb, hml, hown, hts⟩ (CX9_isWithin l hr18) (va_cwS 3 hts gX9_monk_X9_isWithin rfl rfl rfl kkX9_isWithin.2 ⟨Nat.le_of_ble_eq_true rfl, Nat.le_of_ble_eq_true rfl⟩) hK hPc hl.1 rfl (Nat.le_of_ble_eq_true rfl) dX9_monk_18 ⟨Nat.zero_le _, Nat.zero_le _⟩ ?_
    refine lv_if_eq (tgt := 34) hx hb dX9_monk_21 (by decide) (fun hc => ?_) (fun hc => ?_)
    · have hf := ft hf hc
      refine lv_bipush (v := (-2)) hx hb dX9_monk_34 (by decide) ?_
      cases hf
      exact ret_wi hx hb hr hlocks hP hD hS dX9_monk_36
    · have hf := ff hf hc
      refine lv_iload_n hx hb dX9_monk_24 rfl (lv_at hl 3 rfl) ?_
      refine lv_iconst (v := 1) hx hb dX9_monk_25 (by decide) ?_
      refine lv_bipush (v := 9) hx hb dX9_monk_26 (by decide) ?_
      obtain ⟨r28, hr28, hf⟩ := bnd hf
      have hPc : va_P D vwCl [] _ := hP.sub [] rfl
      refine callS_ri (As := [.int a3, .int 1, .int 9]) (rest := []) ⟨hx, hb, hml, hown, hts⟩ (CX9_isWithin l hr28) (va_cwS 3 hts gX9_monk_X9_isWithin rfl rfl rfl kkX9_isWithin.2 ⟨Nat.le_of_ble_eq_true rfl, Nat.le_of_ble_eq_true rfl⟩) hK hPc hl.1 rfl (Nat.le_of_ble_eq_true rfl) dX9_monk_28 ⟨Nat.zero_le _, Nat.zero_le _⟩ ?_
      refine lv_if_ne (tgt := 37) hx hb dX9_monk_31 (by decide) (fun hc => ?_) (fun hc => ?_)
      · have hf := ff hf hc
        refine lv_aload_n hx hb dX9_monk_37 rfl (lv_at hl 0 rfl) ?_
        refine va_get (D := D) (ci := 8) (v := .ref A_t_house) (C := RX9) (T := TX9) (N := 8) hx hb hts wX9_monk_X9 hown hK.1 hP 0 rfl rfl 0 (by decide) (hts _ mX9_monk_f10) (fun _ h9 => h9) rfl dX9_monk_38 ?_
        refine lv_iload_n hx hb dX9_monk_41 rfl (lv_at hl 1 rfl) ?_
        refine lv_iload_n hx hb dX9_monk_42 rfl (lv_at hl 2 rfl) ?_
        refine lv_iload_n hx hb dX9_monk_43 rfl (lv_at hl 3 rfl) ?_
        obtain ⟨r44, hr44, hf⟩ := bnd hf
        refine callV_wv (As := [.int a1, .int a2, .int a3]) (rest := []) ⟨hx, hb, hml, hown, hts⟩ (CX2_settle l hr44) (cwV 3 hts gX9_monk_X2_settle rfl rfl rfl kkX2_settle ⟨Nat.le_of_ble_eq_true rfl, Nat.le_of_ble_eq_true rfl⟩) hK hP hD hS (fun _ h => Or.inr h) [1, 2, 3] [0] [0, 1, 2, 3] rfl (by decide) (by decide) rfl rfl 0 rfl rfl rfl hl.1 rfl (Nat.le_of_ble_eq_true rfl) dX9_monk_44 ⟨Nat.zero_le _, Nat.zero_le _⟩ (fun H locs hP hD hS => ?_)
        have hP : va_P D vwCl [(A_t, .inr (8, [.ref A_t_house, .ref A_t_pad, .ref A_t_hours, .ref A_t_laws, .ref A_t_sights, .ref A_t_worlds, .ref A_t_trialYear, .ref A_t_images])), (A_t_house, .inr (1, [.int r44.1, .int r44.2.1, .int t_house_start, .int t_house_sharp, .ref A_t_house_counts, .ref A_t_house_paces])), (A_t_house_counts, .inl (ty.1, 8, .inl r44.2.2.1)), (A_t_house_paces, .inl (ty.1, 8, .inl r44.2.2.2))] H := hP
        have hD : va_D (va_A WC s.heap.size) [(A_t, .inr (8, [.ref A_t_house, .ref A_t_pad, .ref A_t_hours, .ref A_t_laws, .ref A_t_sights, .ref A_t_worlds, .ref A_t_trialYear, .ref A_t_images])), (A_t_house, .inr (1, [.int r44.1, .int r44.2.1, .int t_house_start, .int t_house_sharp, .ref A_t_house_counts, .ref A_t_house_paces])), (A_t_house_counts, .inl (ty.1, 8, .inl r44.2.2.1)), (A_t_house_paces, .inl (ty.1, 8, .inl r44.2.2.2))] := hD
        refine lv_aload_n hx hb dX9_monk_47 rfl (lv_at hl 0 rfl) ?_
        refine va_get (D := D) (ci := 8) (v := .ref A_t_house) (C := RX9) (T := TX9) (N := 8) hx hb hts wX9_monk_X9 hown hK.1 hP 0 rfl rfl 0 (by decide) (hts _ mX9_monk_f10) (fun _ h9 => h9) rfl dX9_monk_48 ?_
        refine va_get (D := D) (ci := 1) (v := .int r44.1) (C := RX2) (T := TX2) (N := 6) hx hb hts wX9_monk_X2 hown hK.1 hP 1 rfl rfl 0 (by decide) (hts _ mX9_monk_f81) (fun _ h9 => h9) rfl dX9_monk_51 ?_
        obtain ⟨r54, hr54, hf⟩ := bnd hf
        have hPc : va_P D vwCl [] _ := hP.sub [] rfl
        refine callS_ri (As := [.int r44.1]) (rest := []) ⟨hx, hb, hml, hown, hts⟩ (CJ6_bitCount_0f7a4 l hr54) (va_cwS 1 hts gX9_monk_J6_bitCount_0f7a4 rfl rfl rfl kkJ6_bitCount_0f7a4.2 ⟨Nat.le_of_ble_eq_true rfl, Nat.le_of_ble_eq_true rfl⟩) hK hPc hl.1 rfl (Nat.le_of_ble_eq_true rfl) dX9_monk_54 ⟨Nat.zero_le _, Nat.zero_le _⟩ ?_
        cases hf
        exact ret_wi hx hb hr hlocks hP hD hS dX9_monk_57
      · have hf := ft hf hc
        refine lv_bipush (v := (-2)) hx hb dX9_monk_34 (by decide) ?_
        cases hf
        exact ret_wi hx hb hr hlocks hP hD hS dX9_monk_36
  · have hf := ft hf hc
    refine lv_iconst (v := (-1)) hx hb dX9_monk_7 (by decide) ?_
    cases hf
    exact ret_wi hx hb hr hlocks hP hD hS dX9_monk_8
/-! ===== SilenceCount.next(II)I ===== -/
abbrev rmX9_next : Room := { frames := 3, cells := 0, slots := 0, locals := 66 }
theorem kkX9_next : yX9_next.cls = RX9 ∧ yX9_next.cls ≠ "java/lang/invoke/MethodHandle" ∧ yX9_next.cls ≠ "java/lang/invoke/VarHandle" ∧ (parseMethodDescriptor yX9_next.desc).map (fun d => d.parameters.length) = some 2 := by decide +kernel
theorem mX9_next_k103 : Cond.constant RX9 103 (1000000) ∈ wsX9_next := by decide +kernel
def fX9_next (a1 : Int32) (a2 : Int32) : Option (Int32) :=
  (fX9_isLaw a1).bind fun r1 => if r1 = 0 then some (-2) else (fX9_isWithin a2 0 1000000).bind fun r11 => if r11 = 0 then some (-2) else (fX4_nearestAtOrBelow a1 a2).bind fun r22 => some r22
set_option maxRecDepth 100000 in
set_option maxHeartbeats 4000000 in
theorem CX9_next (l : Launch) {D : va_G} {ty : TY} {A_t A_t_house A_t_pad A_t_hours A_t_laws A_t_sights A_t_worlds A_t_trialYear A_t_images : Nat} {a1 : Int32} {a2 : Int32} {q0 : Int32} (hf : fX9_next a1 a2 = some q0) : ROi l yX9_next wsX9_next rmX9_next D ty [.ref A_t, .int a1, .int a2] [(A_t, .inr (8, [.ref A_t_house, .ref A_t_pad, .ref A_t_hours, .ref A_t_laws, .ref A_t_sights, .ref A_t_worlds, .ref A_t_trialYear, .ref A_t_images]))] q0 := by
  refine ROi.start (cc := cX9_next) (maxL := 3) (ret := (some .int)) (own := RX9) (by decide) rfl rfl (Nat.le_of_ble_eq_true rfl) ?_
  intro p e s m below meth c ls C hK hP hl
  obtain ⟨hx, hb, hr, hml, hown, hts, hlocks⟩ := id C
  have hl : lv_has ls 3 [(0, .ref A_t), (1, .int a1), (2, .int a2)] := hl
  unfold fX9_next at hf
  refine lv_iload_n hx hb dX9_next_0 rfl (lv_at hl 1 rfl) ?_
  obtain ⟨r1, hr1, hf⟩ := bnd hf
  have hPc : va_P D vwCl [] _ := hP.sub [] rfl
  refine callS_ri (As := [.int a1]) (rest := []) ⟨hx, hb, hml, hown, hts⟩ (CX9_isLaw l hr1) (va_cwS 1 hts gX9_next_X9_isLaw rfl rfl rfl kkX9_isLaw.2 ⟨Nat.le_of_ble_eq_true rfl, Nat.le_of_ble_eq_true rfl⟩) hK hPc hl.1 rfl (Nat.le_of_ble_eq_true rfl) dX9_next_1 ⟨Nat.zero_le _, Nat.zero_le _⟩ ?_
  refine lv_if_eq (tgt := 17) hx hb dX9_next_4 (by decide) (fun hc => ?_) (fun hc => ?_)
  · have hf := ft hf hc
    refine lv_bipush (v := (-2)) hx hb dX9_next_17 (by decide) ?_
    exact ret_ri hx hb hr hlocks hf dX9_next_19
  · have hf := ff hf hc
    refine lv_iload_n hx hb dX9_next_7 rfl (lv_at hl 2 rfl) ?_
    refine lv_iconst (v := 0) hx hb dX9_next_8 (by decide) ?_
    refine lv_ldc (v := 1000000) hx hb hown (hts _ mX9_next_k103) dX9_next_9 ?_
    obtain ⟨r11, hr11, hf⟩ := bnd hf
    have hPc : va_P D vwCl [] _ := hP.sub [] rfl
    refine callS_ri (As := [.int a2, .int 0, .int 1000000]) (rest := []) ⟨hx, hb, hml, hown, hts⟩ (CX9_isWithin l hr11) (va_cwS 3 hts gX9_next_X9_isWithin rfl rfl rfl kkX9_isWithin.2 ⟨Nat.le_of_ble_eq_true rfl, Nat.le_of_ble_eq_true rfl⟩) hK hPc hl.1 rfl (Nat.le_of_ble_eq_true rfl) dX9_next_11 ⟨Nat.zero_le _, Nat.zero_le _⟩ ?_
    refine lv_if_ne (tgt := 20) hx hb dX9_next_14 (by decide) (fun hc => ?_) (fun hc => ?_)
    · have hf := ff hf hc
      refine lv_iload_n hx hb dX9_next_20 rfl (lv_at hl 1 rfl) ?_
      refine lv_iload_n hx hb dX9_next_21 rfl (lv_at hl 2 rfl) ?_
      obtain ⟨r22, hr22, hf⟩ := bnd hf
      have hPc : va_P D vwCl [] _ := hP.sub [] rfl
      refine callS_ri (As := [.int a1, .int a2]) (rest := []) ⟨hx, hb, hml, hown, hts⟩ (CX4_nearestAtOrBelow l hr22) (va_cwS 2 hts gX9_next_X4_nearestAtOrBelow rfl rfl rfl kkX4_nearestAtOrBelow.2 ⟨Nat.le_of_ble_eq_true rfl, Nat.le_of_ble_eq_true rfl⟩) hK hPc hl.1 rfl (Nat.le_of_ble_eq_true rfl) dX9_next_22 ⟨Nat.zero_le _, Nat.zero_le _⟩ ?_
      exact ret_ri hx hb hr hlocks hf dX9_next_25
    · have hf := ft hf hc
      refine lv_bipush (v := (-2)) hx hb dX9_next_17 (by decide) ?_
      exact ret_ri hx hb hr hlocks hf dX9_next_19
/-! ===== SilenceCount.noticed()I ===== -/
abbrev rmX9_noticed : Room := { frames := 6, cells := 0, slots := 0, locals := 137 }
theorem kkX9_noticed : yX9_noticed.cls = RX9 ∧ yX9_noticed.cls ≠ "java/lang/invoke/MethodHandle" ∧ yX9_noticed.cls ≠ "java/lang/invoke/VarHandle" ∧ (parseMethodDescriptor yX9_noticed.desc).map (fun d => d.parameters.length) = some 0 := by decide +kernel
theorem mX9_noticed_f26 : Cond.fieldLink RX9 26 "SilenceCount" "hours" "LSilenceCount$Hours;" ∈ wsX9_noticed := by decide +kernel
theorem mX9_noticed_f19 : Cond.fieldLink RX9 19 "SilenceCount" "pad" "LSilenceCount$Pad;" ∈ wsX9_noticed := by decide +kernel
theorem mX9_noticed_f10 : Cond.fieldLink RX9 10 "SilenceCount" "house" "LSilenceCount$House;" ∈ wsX9_noticed := by decide +kernel
theorem mX9_noticed_f152 : Cond.fieldLink RX9 152 "SilenceCount$Hours" "firstNoticed" "I" ∈ wsX9_noticed := by decide +kernel
theorem wX9_noticed_X1 : ∀ w ∈ u_ws RX1 TX1 7, w ∈ wsX9_noticed := by decide +kernel
theorem wX9_noticed_X9 : ∀ w ∈ u_ws RX9 TX9 8, w ∈ wsX9_noticed := by decide +kernel
def fX9_noticed (t_house_there : Int32) (t_house_awake : Int32) (t_house_start : Int32) (t_house_sharp : Int32) (t_house_counts : Nat → Int32) (t_house_paces : Nat → Int32) (t_pad_size : Int32) (t_pad_acts : Int32) (t_pad_signs : Nat → Int32) (t_pad_actMonks : Nat → Int32) (t_pad_actSigns : Nat → Int32) (t_hours_hasFault : Int32) (t_hours_wrongAct : Int32) (t_hours_why : Int32) (t_hours_breathsSoFar : Int32) (t_hours_breathOfFirstNought : Int32) (t_hours_firstNoticed : Int32) (t_hours_house_there : Int32) (t_hours_house_awake : Int32) (t_hours_house_start : Int32) (t_hours_house_sharp : Int32) (t_hours_house_counts : Nat → Int32) (t_hours_house_paces : Nat → Int32) : Option (Int32 × Int32 × (Nat → Int32) × (Nat → Int32) × Int32 × Int32 × Int32 × Int32 × Int32 × Int32 × Int32 × Int32 × Int32 × Int32 × (Nat → Int32) × (Nat → Int32)) :=
  (fX1_follow t_hours_hasFault t_hours_wrongAct t_hours_why t_hours_breathsSoFar t_hours_breathOfFirstNought t_hours_firstNoticed t_hours_house_there t_hours_house_awake t_hours_house_start t_hours_house_sharp t_hours_house_counts t_hours_house_paces t_pad_size t_pad_acts t_pad_signs t_pad_actMonks t_pad_actSigns t_house_there t_house_awake t_house_start t_house_sharp t_house_counts t_house_paces).bind fun r12 => if r12.1 = 0 then some ((-5), r12.2.2.2.2.2.2.2.2.2.2.2.2.2.1, r12.2.2.2.2.2.2.2.2.2.2.2.2.2.2.1, r12.2.2.2.2.2.2.2.2.2.2.2.2.2.2.2, r12.2.1, r12.2.2.1, r12.2.2.2.1, r12.2.2.2.2.1, r12.2.2.2.2.2.1, r12.2.2.2.2.2.2.1, r12.2.2.2.2.2.2.2.1, r12.2.2.2.2.2.2.2.2.1, r12.2.2.2.2.2.2.2.2.2.1, r12.2.2.2.2.2.2.2.2.2.2.1, r12.2.2.2.2.2.2.2.2.2.2.2.1, r12.2.2.2.2.2.2.2.2.2.2.2.2.1) else some (r12.2.2.2.2.2.2.1, r12.2.2.2.2.2.2.2.2.2.2.2.2.2.1, r12.2.2.2.2.2.2.2.2.2.2.2.2.2.2.1, r12.2.2.2.2.2.2.2.2.2.2.2.2.2.2.2, r12.2.1, r12.2.2.1, r12.2.2.2.1, r12.2.2.2.2.1, r12.2.2.2.2.2.1, r12.2.2.2.2.2.2.1, r12.2.2.2.2.2.2.2.1, r12.2.2.2.2.2.2.2.2.1, r12.2.2.2.2.2.2.2.2.2.1, r12.2.2.2.2.2.2.2.2.2.2.1, r12.2.2.2.2.2.2.2.2.2.2.2.1, r12.2.2.2.2.2.2.2.2.2.2.2.2.1)
set_option maxRecDepth 100000 in
set_option maxHeartbeats 4000000 in
theorem CX9_noticed (l : Launch) {D : va_G} {ty : TY} {A_t A_t_laws A_t_sights A_t_worlds A_t_trialYear A_t_images A_t_house A_t_house_counts A_t_house_paces A_t_pad A_t_pad_signs A_t_pad_actMonks A_t_pad_actSigns A_t_hours A_t_hours_house A_t_hours_house_counts A_t_hours_house_paces : Nat} {t_house_there : Int32} {t_house_awake : Int32} {t_house_start : Int32} {t_house_sharp : Int32} {t_house_counts : Nat → Int32} {t_house_paces : Nat → Int32} {t_pad_size : Int32} {t_pad_acts : Int32} {t_pad_signs : Nat → Int32} {t_pad_actMonks : Nat → Int32} {t_pad_actSigns : Nat → Int32} {t_hours_hasFault : Int32} {t_hours_wrongAct : Int32} {t_hours_why : Int32} {t_hours_breathsSoFar : Int32} {t_hours_breathOfFirstNought : Int32} {t_hours_firstNoticed : Int32} {t_hours_house_there : Int32} {t_hours_house_awake : Int32} {t_hours_house_start : Int32} {t_hours_house_sharp : Int32} {t_hours_house_counts : Nat → Int32} {t_hours_house_paces : Nat → Int32} {q0 : Int32 × Int32 × (Nat → Int32) × (Nat → Int32) × Int32 × Int32 × Int32 × Int32 × Int32 × Int32 × Int32 × Int32 × Int32 × Int32 × (Nat → Int32) × (Nat → Int32)} (hf : fX9_noticed t_house_there t_house_awake t_house_start t_house_sharp t_house_counts t_house_paces t_pad_size t_pad_acts t_pad_signs t_pad_actMonks t_pad_actSigns t_hours_hasFault t_hours_wrongAct t_hours_why t_hours_breathsSoFar t_hours_breathOfFirstNought t_hours_firstNoticed t_hours_house_there t_hours_house_awake t_hours_house_start t_hours_house_sharp t_hours_house_counts t_hours_house_paces = some q0) : RWi l yX9_noticed wsX9_noticed rmX9_noticed D ty [.ref A_t] [(A_t, .inr (8, [.ref A_t_house, .ref A_t_pad, .ref A_t_hours, .ref A_t_laws, .ref A_t_sights, .ref A_t_worlds, .ref A_t_trialYear, .ref A_t_images])), (A_t_house, .inr (1, [.int t_house_there, .int t_house_awake, .int t_house_start, .int t_house_sharp, .ref A_t_house_counts, .ref A_t_house_paces])), (A_t_house_counts, .inl (ty.1, 8, .inl t_house_counts)), (A_t_house_paces, .inl (ty.1, 8, .inl t_house_paces)), (A_t_pad, .inr (4, [.int t_pad_size, .ref A_t_pad_signs, .int t_pad_acts, .ref A_t_pad_actMonks, .ref A_t_pad_actSigns])), (A_t_pad_signs, .inl (ty.1, 60, .inl t_pad_signs)), (A_t_pad_actMonks, .inl (ty.1, 60, .inl t_pad_actMonks)), (A_t_pad_actSigns, .inl (ty.1, 60, .inl t_pad_actSigns)), (A_t_hours, .inr (0, [.ref A_t_hours_house, .int t_hours_hasFault, .int t_hours_wrongAct, .int t_hours_why, .int t_hours_breathsSoFar, .int t_hours_breathOfFirstNought, .int t_hours_firstNoticed])), (A_t_hours_house, .inr (1, [.int t_hours_house_there, .int t_hours_house_awake, .int t_hours_house_start, .int t_hours_house_sharp, .ref A_t_hours_house_counts, .ref A_t_hours_house_paces])), (A_t_hours_house_counts, .inl (ty.1, 8, .inl t_hours_house_counts)), (A_t_hours_house_paces, .inl (ty.1, 8, .inl t_hours_house_paces))] q0.1 [(A_t, .inr (8, [.ref A_t_house, .ref A_t_pad, .ref A_t_hours, .ref A_t_laws, .ref A_t_sights, .ref A_t_worlds, .ref A_t_trialYear, .ref A_t_images])), (A_t_house, .inr (1, [.int t_house_there, .int t_house_awake, .int t_house_start, .int t_house_sharp, .ref A_t_house_counts, .ref A_t_house_paces])), (A_t_house_counts, .inl (ty.1, 8, .inl t_house_counts)), (A_t_house_paces, .inl (ty.1, 8, .inl t_house_paces)), (A_t_pad, .inr (4, [.int t_pad_size, .ref A_t_pad_signs, .int q0.2.1, .ref A_t_pad_actMonks, .ref A_t_pad_actSigns])), (A_t_pad_signs, .inl (ty.1, 60, .inl t_pad_signs)), (A_t_pad_actMonks, .inl (ty.1, 60, .inl q0.2.2.1)), (A_t_pad_actSigns, .inl (ty.1, 60, .inl q0.2.2.2.1)), (A_t_hours, .inr (0, [.ref A_t_hours_house, .int q0.2.2.2.2.1, .int q0.2.2.2.2.2.1, .int q0.2.2.2.2.2.2.1, .int q0.2.2.2.2.2.2.2.1, .int q0.2.2.2.2.2.2.2.2.1, .int q0.2.2.2.2.2.2.2.2.2.1])), (A_t_hours_house, .inr (1, [.int q0.2.2.2.2.2.2.2.2.2.2.1, .int q0.2.2.2.2.2.2.2.2.2.2.2.1, .int q0.2.2.2.2.2.2.2.2.2.2.2.2.1, .int q0.2.2.2.2.2.2.2.2.2.2.2.2.2.1, .ref A_t_hours_house_counts, .ref A_t_hours_house_paces])), (A_t_hours_house_counts, .inl (ty.1, 8, .inl q0.2.2.2.2.2.2.2.2.2.2.2.2.2.2.1)), (A_t_hours_house_paces, .inl (ty.1, 8, .inl q0.2.2.2.2.2.2.2.2.2.2.2.2.2.2.2))] := by
  refine RWi.start (cc := cX9_noticed) (maxL := 1) (ret := (some .int)) (own := RX9) (by decide) rfl rfl (Nat.le_of_ble_eq_true rfl) ?_
  intro p e s m below meth c ls C hK hP hD hS hl
  obtain ⟨WC, hWC⟩ : ∃ w : va_W, w = [(A_t, .inr (8, [.ref A_t_house, .ref A_t_pad, .ref A_t_hours, .ref A_t_laws, .ref A_t_sights, .ref A_t_worlds, .ref A_t_trialYear, .ref A_t_images])), (A_t_house, .inr (1, [.int t_house_there, .int t_house_awake, .int t_house_start, .int t_house_sharp, .ref A_t_house_counts, .ref A_t_house_paces])), (A_t_house_counts, .inl (ty.1, 8, .inl t_house_counts)), (A_t_house_paces, .inl (ty.1, 8, .inl t_house_paces)), (A_t_pad, .inr (4, [.int t_pad_size, .ref A_t_pad_signs, .int t_pad_acts, .ref A_t_pad_actMonks, .ref A_t_pad_actSigns])), (A_t_pad_signs, .inl (ty.1, 60, .inl t_pad_signs)), (A_t_pad_actMonks, .inl (ty.1, 60, .inl t_pad_actMonks)), (A_t_pad_actSigns, .inl (ty.1, 60, .inl t_pad_actSigns)), (A_t_hours, .inr (0, [.ref A_t_hours_house, .int t_hours_hasFault, .int t_hours_wrongAct, .int t_hours_why, .int t_hours_breathsSoFar, .int t_hours_breathOfFirstNought, .int t_hours_firstNoticed])), (A_t_hours_house, .inr (1, [.int t_hours_house_there, .int t_hours_house_awake, .int t_hours_house_start, .int t_hours_house_sharp, .ref A_t_hours_house_counts, .ref A_t_hours_house_paces])), (A_t_hours_house_counts, .inl (ty.1, 8, .inl t_hours_house_counts)), (A_t_hours_house_paces, .inl (ty.1, 8, .inl t_hours_house_paces))] := ⟨_, rfl⟩
  rw [← hWC] at hD hS ⊢
  have hD : va_D (va_A WC s.heap.size) [(A_t, .inr (8, [.ref A_t_house, .ref A_t_pad, .ref A_t_hours, .ref A_t_laws, .ref A_t_sights, .ref A_t_worlds, .ref A_t_trialYear, .ref A_t_images])), (A_t_house, .inr (1, [.int t_house_there, .int t_house_awake, .int t_house_start, .int t_house_sharp, .ref A_t_house_counts, .ref A_t_house_paces])), (A_t_house_counts, .inl (ty.1, 8, .inl t_house_counts)), (A_t_house_paces, .inl (ty.1, 8, .inl t_house_paces)), (A_t_pad, .inr (4, [.int t_pad_size, .ref A_t_pad_signs, .int t_pad_acts, .ref A_t_pad_actMonks, .ref A_t_pad_actSigns])), (A_t_pad_signs, .inl (ty.1, 60, .inl t_pad_signs)), (A_t_pad_actMonks, .inl (ty.1, 60, .inl t_pad_actMonks)), (A_t_pad_actSigns, .inl (ty.1, 60, .inl t_pad_actSigns)), (A_t_hours, .inr (0, [.ref A_t_hours_house, .int t_hours_hasFault, .int t_hours_wrongAct, .int t_hours_why, .int t_hours_breathsSoFar, .int t_hours_breathOfFirstNought, .int t_hours_firstNoticed])), (A_t_hours_house, .inr (1, [.int t_hours_house_there, .int t_hours_house_awake, .int t_hours_house_start, .int t_hours_house_sharp, .ref A_t_hours_house_counts, .ref A_t_hours_house_paces])), (A_t_hours_house_counts, .inl (ty.1, 8, .inl t_hours_house_counts)), (A_t_hours_house_paces, .inl (ty.1, 8, .inl t_hours_house_paces))] := by rw [← hWC]; exact hD
  obtain ⟨hx, hb, hr, hml, hown, hts, hlocks⟩ := id C
  have hl : lv_has ls 1 [(0, .ref A_t)] := hl
  unfold fX9_noticed at hf
  refine lv_aload_n hx hb dX9_noticed_0 rfl (lv_at hl 0 rfl) ?_
  refine va_get (D := D) (ci := 8) (v := .ref A_t_hours) (C := RX9) (T := TX9) (N := 8) hx hb hts wX9_noticed_X9 hown hK.1 hP 0 rfl rfl 2 (by decide) (hts _ mX9_noticed_f26) (fun _ h9 => h9) rfl dX9_noticed_1 ?_
  refine lv_aload_n hx hb dX9_noticed_4 rfl (lv_at hl 0 rfl) ?_
  refine va_get (D := D) (ci := 8) (v := .ref A_t_pad) (C := RX9) (T := TX9) (N := 8) hx hb hts wX9_noticed_X9 hown hK.1 hP 0 rfl rfl 1 (by decide) (hts _ mX9_noticed_f19) (fun _ h9 => h9) rfl dX9_noticed_5 ?_
  refine lv_aload_n hx hb dX9_noticed_8 rfl (lv_at hl 0 rfl) ?_
  refine va_get (D := D) (ci := 8) (v := .ref A_t_house) (C := RX9) (T := TX9) (N := 8) hx hb hts wX9_noticed_X9 hown hK.1 hP 0 rfl rfl 0 (by decide) (hts _ mX9_noticed_f10) (fun _ h9 => h9) rfl dX9_noticed_9 ?_
  obtain ⟨r12, hr12, hf⟩ := bnd hf
  refine callV_wi (As := [.ref A_t_pad, .ref A_t_house]) (rest := []) ⟨hx, hb, hml, hown, hts⟩ (CX1_follow l hr12) (cwV 2 hts gX9_noticed_X1_follow rfl rfl rfl kkX1_follow ⟨Nat.le_of_ble_eq_true rfl, Nat.le_of_ble_eq_true rfl⟩) hK hP hD hS (fun _ h => Or.inr h) [8, 9, 10, 11, 4, 5, 6, 7, 1, 2, 3] [0] [0, 9, 10, 11, 5, 6, 7, 8, 1, 2, 3, 4] rfl (by decide) (by decide) rfl rfl 0 rfl rfl rfl hl.1 rfl (Nat.le_of_ble_eq_true rfl) dX9_noticed_12 ⟨Nat.zero_le _, Nat.zero_le _⟩ (fun H locs hP hD hS => ?_)
  have hP : va_P D vwCl [(A_t, .inr (8, [.ref A_t_house, .ref A_t_pad, .ref A_t_hours, .ref A_t_laws, .ref A_t_sights, .ref A_t_worlds, .ref A_t_trialYear, .ref A_t_images])), (A_t_house, .inr (1, [.int t_house_there, .int t_house_awake, .int t_house_start, .int t_house_sharp, .ref A_t_house_counts, .ref A_t_house_paces])), (A_t_house_counts, .inl (ty.1, 8, .inl t_house_counts)), (A_t_house_paces, .inl (ty.1, 8, .inl t_house_paces)), (A_t_pad, .inr (4, [.int t_pad_size, .ref A_t_pad_signs, .int r12.2.2.2.2.2.2.2.2.2.2.2.2.2.1, .ref A_t_pad_actMonks, .ref A_t_pad_actSigns])), (A_t_pad_signs, .inl (ty.1, 60, .inl t_pad_signs)), (A_t_pad_actMonks, .inl (ty.1, 60, .inl r12.2.2.2.2.2.2.2.2.2.2.2.2.2.2.1)), (A_t_pad_actSigns, .inl (ty.1, 60, .inl r12.2.2.2.2.2.2.2.2.2.2.2.2.2.2.2)), (A_t_hours, .inr (0, [.ref A_t_hours_house, .int r12.2.1, .int r12.2.2.1, .int r12.2.2.2.1, .int r12.2.2.2.2.1, .int r12.2.2.2.2.2.1, .int r12.2.2.2.2.2.2.1])), (A_t_hours_house, .inr (1, [.int r12.2.2.2.2.2.2.2.1, .int r12.2.2.2.2.2.2.2.2.1, .int r12.2.2.2.2.2.2.2.2.2.1, .int r12.2.2.2.2.2.2.2.2.2.2.1, .ref A_t_hours_house_counts, .ref A_t_hours_house_paces])), (A_t_hours_house_counts, .inl (ty.1, 8, .inl r12.2.2.2.2.2.2.2.2.2.2.2.1)), (A_t_hours_house_paces, .inl (ty.1, 8, .inl r12.2.2.2.2.2.2.2.2.2.2.2.2.1))] H := hP
  have hD : va_D (va_A WC s.heap.size) [(A_t, .inr (8, [.ref A_t_house, .ref A_t_pad, .ref A_t_hours, .ref A_t_laws, .ref A_t_sights, .ref A_t_worlds, .ref A_t_trialYear, .ref A_t_images])), (A_t_house, .inr (1, [.int t_house_there, .int t_house_awake, .int t_house_start, .int t_house_sharp, .ref A_t_house_counts, .ref A_t_house_paces])), (A_t_house_counts, .inl (ty.1, 8, .inl t_house_counts)), (A_t_house_paces, .inl (ty.1, 8, .inl t_house_paces)), (A_t_pad, .inr (4, [.int t_pad_size, .ref A_t_pad_signs, .int r12.2.2.2.2.2.2.2.2.2.2.2.2.2.1, .ref A_t_pad_actMonks, .ref A_t_pad_actSigns])), (A_t_pad_signs, .inl (ty.1, 60, .inl t_pad_signs)), (A_t_pad_actMonks, .inl (ty.1, 60, .inl r12.2.2.2.2.2.2.2.2.2.2.2.2.2.2.1)), (A_t_pad_actSigns, .inl (ty.1, 60, .inl r12.2.2.2.2.2.2.2.2.2.2.2.2.2.2.2)), (A_t_hours, .inr (0, [.ref A_t_hours_house, .int r12.2.1, .int r12.2.2.1, .int r12.2.2.2.1, .int r12.2.2.2.2.1, .int r12.2.2.2.2.2.1, .int r12.2.2.2.2.2.2.1])), (A_t_hours_house, .inr (1, [.int r12.2.2.2.2.2.2.2.1, .int r12.2.2.2.2.2.2.2.2.1, .int r12.2.2.2.2.2.2.2.2.2.1, .int r12.2.2.2.2.2.2.2.2.2.2.1, .ref A_t_hours_house_counts, .ref A_t_hours_house_paces])), (A_t_hours_house_counts, .inl (ty.1, 8, .inl r12.2.2.2.2.2.2.2.2.2.2.2.1)), (A_t_hours_house_paces, .inl (ty.1, 8, .inl r12.2.2.2.2.2.2.2.2.2.2.2.2.1))] := hD
  refine lv_if_eq (tgt := 28) hx hb dX9_noticed_15 (by decide) (fun hc => ?_) (fun hc => ?_)
  · have hf := ft hf hc
    refine lv_bipush (v := (-5)) hx hb dX9_noticed_28 (by decide) ?_
    cases hf
    exact ret_wi hx hb hr hlocks hP hD hS dX9_noticed_30
  · have hf := ff hf hc
    refine lv_aload_n hx hb dX9_noticed_18 rfl (lv_at hl 0 rfl) ?_
    refine va_get (D := D) (ci := 8) (v := .ref A_t_hours) (C := RX9) (T := TX9) (N := 8) hx hb hts wX9_noticed_X9 hown hK.1 hP 0 rfl rfl 2 (by decide) (hts _ mX9_noticed_f26) (fun _ h9 => h9) rfl dX9_noticed_19 ?_
    refine va_get (D := D) (ci := 0) (v := .int r12.2.2.2.2.2.2.1) (C := RX1) (T := TX1) (N := 7) hx hb hts wX9_noticed_X1 hown hK.1 hP 8 rfl rfl 6 (by decide) (hts _ mX9_noticed_f152) (fun _ h9 => h9) rfl dX9_noticed_22 ?_
    refine lv_goto (tgt := 30) hx hb dX9_noticed_25 (by decide) ?_
    cases hf
    exact ret_wi hx hb hr hlocks hP hD hS dX9_noticed_30
/-! ===== SilenceCount.relays(IIII)I ===== -/
abbrev rmX9_relays : Room := { frames := 1, cells := 0, slots := 0, locals := 24 }
theorem kkX9_relays : yX9_relays.cls = RX9 ∧ yX9_relays.cls ≠ "java/lang/invoke/MethodHandle" ∧ yX9_relays.cls ≠ "java/lang/invoke/VarHandle" ∧ (parseMethodDescriptor yX9_relays.desc).map (fun d => d.parameters.length) = some 4 := by decide +kernel
theorem mX9_relays_f10 : Cond.fieldLink RX9 10 "SilenceCount" "house" "LSilenceCount$House;" ∈ wsX9_relays := by decide +kernel
theorem mX9_relays_f81 : Cond.fieldLink RX9 81 "SilenceCount$House" "there" "I" ∈ wsX9_relays := by decide +kernel
theorem wX9_relays_X2 : ∀ w ∈ u_ws RX2 TX2 6, w ∈ wsX9_relays := by decide +kernel
theorem wX9_relays_X9 : ∀ w ∈ u_ws RX9 TX9 8, w ∈ wsX9_relays := by decide +kernel
def bX9_relays_76 (k76 : Int32 → Option (Int32)) (a1 : Int32) (a2 : Int32) (a3 : Int32) (v5 : Int32) : Option (Int32) :=
  if 8 < v5 then some (-6) else (fX9_canRelay v5 a1 a2 a3).bind fun r88 => if r88 = 0 then k76 (v5 + 1) else some v5
set_option maxRecDepth 100000 in
set_option maxHeartbeats 4000000 in
theorem BX9_relays_76 {p : Program} {l : Launch} {e : Env} {s : State} {m : MethodId} {below : List Frame} {meth : Method} {c : Code} {D : va_G} {ty : TY} {A_t A_t_pad A_t_hours A_t_laws A_t_sights A_t_worlds A_t_trialYear A_t_images A_t_house A_t_house_counts A_t_house_paces : Nat} {t_house_there : Int32} {t_house_awake : Int32} {t_house_start : Int32} {t_house_sharp : Int32} {t_house_counts : Nat → Int32} {t_house_paces : Nat → Int32} {a1 : Int32} {a2 : Int32} {a3 : Int32} {a4 : Int32} {q0 : Int32} (C : cx p s m [.ref A_t, .int a1, .int a2, .int a3, .int a4] meth c cX9_relays 6 (some .int) RX9 wsX9_relays) (hK : KK D ty s) (hP : va_P D vwCl [(A_t, .inr (8, [.ref A_t_house, .ref A_t_pad, .ref A_t_hours, .ref A_t_laws, .ref A_t_sights, .ref A_t_worlds, .ref A_t_trialYear, .ref A_t_images])), (A_t_house, .inr (1, [.int t_house_there, .int t_house_awake, .int t_house_start, .int t_house_sharp, .ref A_t_house_counts, .ref A_t_house_paces])), (A_t_house_counts, .inl (ty.1, 8, .inl t_house_counts)), (A_t_house_paces, .inl (ty.1, 8, .inl t_house_paces))] s.heap)   : ∀ (n : Nat) (v5 : Int32) (ls : Array Slot), lv_has ls 6 [(1, .int a1), (2, .int a2), (3, .int a3), (5, .int v5)] → loopF (fun k q => bX9_relays_76 k a1 a2 a3 q) n (v5) = some q0 → WRi p l e rmX9_relays s m [.ref A_t, .int a1, .int a2, .int a3, .int a4] below meth c q0 (F0 m 76 ls []) := by
  obtain ⟨hx, hb, hr, hml, hown, hts, hlocks⟩ := id C
  intro n
  induction n with
  | zero =>
    intro v5 ls hl hf
    cases hf
  | succ n ih =>
    intro v5 ls hl hf
    have hf : bX9_relays_76 (loopF (fun k q => bX9_relays_76 k a1 a2 a3 q) n) a1 a2 a3 v5 = some q0 := hf
    have hk76 := ih
    unfold bX9_relays_76 at hf
    refine lv_iload hx hb dX9_relays_76 (lv_at hl 3 rfl) ?_
    refine lv_bipush (v := 8) hx hb dX9_relays_78 (by decide) ?_
    refine lv_icmp_gt (tgt := 103) hx hb dX9_relays_80 (by decide) (fun hc => ?_) (fun hc => ?_)
    · have hf := ft hf hc
      refine lv_bipush (v := (-6)) hx hb dX9_relays_103 (by decide) ?_
      exact ret_ri hx hb hr hlocks hf dX9_relays_105
    · have hf := ff hf hc
      refine lv_iload hx hb dX9_relays_83 (lv_at hl 3 rfl) ?_
      refine lv_iload_n hx hb dX9_relays_85 rfl (lv_at hl 0 rfl) ?_
      refine lv_iload_n hx hb dX9_relays_86 rfl (lv_at hl 1 rfl) ?_
      refine lv_iload_n hx hb dX9_relays_87 rfl (lv_at hl 2 rfl) ?_
      obtain ⟨r88, hr88, hf⟩ := bnd hf
      have hPc : va_P D vwCl [] _ := hP.sub [] rfl
      refine callS_ri (As := [.int v5, .int a1, .int a2, .int a3]) (rest := []) ⟨hx, hb, hml, hown, hts⟩ (CX9_canRelay l hr88) (va_cwS 4 hts gX9_relays_X9_canRelay rfl rfl rfl kkX9_canRelay.2 ⟨Nat.le_of_ble_eq_true rfl, Nat.le_of_ble_eq_true rfl⟩) hK hPc hl.1 rfl (Nat.le_of_ble_eq_true rfl) dX9_relays_88 ⟨Nat.zero_le _, Nat.zero_le _⟩ ?_
      refine lv_if_eq (tgt := 97) hx hb dX9_relays_91 (by decide) (fun hc => ?_) (fun hc => ?_)
      · have hf := ft hf hc
        refine lv_iinc (v := v5 + 1) (lv' := [(5, .int (v5 + 1)), (1, .int a1), (2, .int a2), (3, .int a3)]) hx hb dX9_relays_97 hl (k := 3) rfl rfl (by decide) rfl (fun ls hl => ?_)
        refine lv_goto (tgt := 76) hx hb dX9_relays_100 (by decide) ?_
        exact hk76 _ _ (lv_sub hl [1, 2, 3, 0] rfl) hf
      · have hf := ff hf hc
        refine lv_iload hx hb dX9_relays_94 (lv_at hl 3 rfl) ?_
        exact ret_ri hx hb hr hlocks hf dX9_relays_96
def fX9_relays (t_house_there : Int32) (a1 : Int32) (a2 : Int32) (a3 : Int32) (a4 : Int32) : Option (Int32) :=
  (fX9_isWithin a1 1 8).bind fun r4 => if r4 = 0 then some (-2) else (fX9_isWithin a2 1 24).bind fun r14 => if r14 = 0 then some (-2) else (fX9_isWithin a3 1 24).bind fun r24 => if r24 = 0 then some (-2) else (fX9_isWithin a4 0 1).bind fun r34 => if r34 = 0 then some (-2) else if a4 = 0 then (fJ6_bitCount_0f7a4 t_house_there).bind fun r55 => (fX9_canRelay r55 a1 a2 a3).bind fun r61 => if r61 = 0 then some 0 else some 1 else loopF (fun k q => bX9_relays_76 k a1 a2 a3 q) FU (1)
set_option maxRecDepth 100000 in
set_option maxHeartbeats 4000000 in
theorem CX9_relays (l : Launch) {D : va_G} {ty : TY} {A_t A_t_pad A_t_hours A_t_laws A_t_sights A_t_worlds A_t_trialYear A_t_images A_t_house A_t_house_counts A_t_house_paces : Nat} {t_house_there : Int32} {t_house_awake : Int32} {t_house_start : Int32} {t_house_sharp : Int32} {t_house_counts : Nat → Int32} {t_house_paces : Nat → Int32} {a1 : Int32} {a2 : Int32} {a3 : Int32} {a4 : Int32} {q0 : Int32} (hf : fX9_relays t_house_there a1 a2 a3 a4 = some q0) : ROi l yX9_relays wsX9_relays rmX9_relays D ty [.ref A_t, .int a1, .int a2, .int a3, .int a4] [(A_t, .inr (8, [.ref A_t_house, .ref A_t_pad, .ref A_t_hours, .ref A_t_laws, .ref A_t_sights, .ref A_t_worlds, .ref A_t_trialYear, .ref A_t_images])), (A_t_house, .inr (1, [.int t_house_there, .int t_house_awake, .int t_house_start, .int t_house_sharp, .ref A_t_house_counts, .ref A_t_house_paces])), (A_t_house_counts, .inl (ty.1, 8, .inl t_house_counts)), (A_t_house_paces, .inl (ty.1, 8, .inl t_house_paces))] q0 := by
  refine ROi.start (cc := cX9_relays) (maxL := 6) (ret := (some .int)) (own := RX9) (by decide) rfl rfl (Nat.le_of_ble_eq_true rfl) ?_
  intro p e s m below meth c ls C hK hP hl
  obtain ⟨hx, hb, hr, hml, hown, hts, hlocks⟩ := id C
  have hl : lv_has ls 6 [(0, .ref A_t), (1, .int a1), (2, .int a2), (3, .int a3), (4, .int a4)] := hl
  unfold fX9_relays at hf
  refine lv_iload_n hx hb dX9_relays_0 rfl (lv_at hl 1 rfl) ?_
  refine lv_iconst (v := 1) hx hb dX9_relays_1 (by decide) ?_
  refine lv_bipush (v := 8) hx hb dX9_relays_2 (by decide) ?_
  obtain ⟨r4, hr4, hf⟩ := bnd hf
  have hPc : va_P D vwCl [] _ := hP.sub [] rfl
  refine callS_ri (As := [.int a1, .int 1, .int 8]) (rest := []) ⟨hx, hb, hml, hown, hts⟩ (CX9_isWithin l hr4) (va_cwS 3 hts gX9_relays_X9_isWithin rfl rfl rfl kkX9_isWithin.2 ⟨Nat.le_of_ble_eq_true rfl, Nat.le_of_ble_eq_true rfl⟩) hK hPc hl.1 rfl (Nat.le_of_ble_eq_true rfl) dX9_relays_4 ⟨Nat.zero_le _, Nat.zero_le _⟩ ?_
  refine lv_if_eq (tgt := 40) hx hb dX9_relays_7 (by decide) (fun hc => ?_) (fun hc => ?_)
  · have hf := ft hf hc
    refine lv_bipush (v := (-2)) hx hb dX9_relays_40 (by decide) ?_
    exact ret_ri hx hb hr hlocks hf dX9_relays_42
  · have hf := ff hf hc
    refine lv_iload_n hx hb dX9_relays_10 rfl (lv_at hl 2 rfl) ?_
    refine lv_iconst (v := 1) hx hb dX9_relays_11 (by decide) ?_
    refine lv_bipush (v := 24) hx hb dX9_relays_12 (by decide) ?_
    obtain ⟨r14, hr14, hf⟩ := bnd hf
    have hPc : va_P D vwCl [] _ := hP.sub [] rfl
    refine callS_ri (As := [.int a2, .int 1, .int 24]) (rest := []) ⟨hx, hb, hml, hown, hts⟩ (CX9_isWithin l hr14) (va_cwS 3 hts gX9_relays_X9_isWithin rfl rfl rfl kkX9_isWithin.2 ⟨Nat.le_of_ble_eq_true rfl, Nat.le_of_ble_eq_true rfl⟩) hK hPc hl.1 rfl (Nat.le_of_ble_eq_true rfl) dX9_relays_14 ⟨Nat.zero_le _, Nat.zero_le _⟩ ?_
    refine lv_if_eq (tgt := 40) hx hb dX9_relays_17 (by decide) (fun hc => ?_) (fun hc => ?_)
    · have hf := ft hf hc
      refine lv_bipush (v := (-2)) hx hb dX9_relays_40 (by decide) ?_
      exact ret_ri hx hb hr hlocks hf dX9_relays_42
    · have hf := ff hf hc
      refine lv_iload_n hx hb dX9_relays_20 rfl (lv_at hl 3 rfl) ?_
      refine lv_iconst (v := 1) hx hb dX9_relays_21 (by decide) ?_
      refine lv_bipush (v := 24) hx hb dX9_relays_22 (by decide) ?_
      obtain ⟨r24, hr24, hf⟩ := bnd hf
      have hPc : va_P D vwCl [] _ := hP.sub [] rfl
      refine callS_ri (As := [.int a3, .int 1, .int 24]) (rest := []) ⟨hx, hb, hml, hown, hts⟩ (CX9_isWithin l hr24) (va_cwS 3 hts gX9_relays_X9_isWithin rfl rfl rfl kkX9_isWithin.2 ⟨Nat.le_of_ble_eq_true rfl, Nat.le_of_ble_eq_true rfl⟩) hK hPc hl.1 rfl (Nat.le_of_ble_eq_true rfl) dX9_relays_24 ⟨Nat.zero_le _, Nat.zero_le _⟩ ?_
      refine lv_if_eq (tgt := 40) hx hb dX9_relays_27 (by decide) (fun hc => ?_) (fun hc => ?_)
      · have hf := ft hf hc
        refine lv_bipush (v := (-2)) hx hb dX9_relays_40 (by decide) ?_
        exact ret_ri hx hb hr hlocks hf dX9_relays_42
      · have hf := ff hf hc
        refine lv_iload hx hb dX9_relays_30 (lv_at hl 4 rfl) ?_
        refine lv_iconst (v := 0) hx hb dX9_relays_32 (by decide) ?_
        refine lv_iconst (v := 1) hx hb dX9_relays_33 (by decide) ?_
        obtain ⟨r34, hr34, hf⟩ := bnd hf
        have hPc : va_P D vwCl [] _ := hP.sub [] rfl
        refine callS_ri (As := [.int a4, .int 0, .int 1]) (rest := []) ⟨hx, hb, hml, hown, hts⟩ (CX9_isWithin l hr34) (va_cwS 3 hts gX9_relays_X9_isWithin rfl rfl rfl kkX9_isWithin.2 ⟨Nat.le_of_ble_eq_true rfl, Nat.le_of_ble_eq_true rfl⟩) hK hPc hl.1 rfl (Nat.le_of_ble_eq_true rfl) dX9_relays_34 ⟨Nat.zero_le _, Nat.zero_le _⟩ ?_
        refine lv_if_ne (tgt := 43) hx hb dX9_relays_37 (by decide) (fun hc => ?_) (fun hc => ?_)
        · have hf := ff hf hc
          refine lv_iload hx hb dX9_relays_43 (lv_at hl 4 rfl) ?_
          refine lv_if_ne (tgt := 73) hx hb dX9_relays_45 (by decide) (fun hc => ?_) (fun hc => ?_)
          · have hf := ff hf hc
            refine lv_iconst (v := 1) hx hb dX9_relays_73 (by decide) ?_
            refine lv_istore (lv' := [(5, .int 1), (0, .ref A_t), (1, .int a1), (2, .int a2), (3, .int a3), (4, .int a4)]) hx hb dX9_relays_74 hl (by decide) rfl (fun ls hl => ?_)
            exact BX9_relays_76 C hK hP  FU _ _ (lv_sub hl [2, 3, 4, 0] rfl) hf
          · have hf := ft hf hc
            refine lv_aload_n hx hb dX9_relays_48 rfl (lv_at hl 0 rfl) ?_
            refine va_get (D := D) (ci := 8) (v := .ref A_t_house) (C := RX9) (T := TX9) (N := 8) hx hb hts wX9_relays_X9 hown hK.1 hP 0 rfl rfl 0 (by decide) (hts _ mX9_relays_f10) (fun _ h9 => h9) rfl dX9_relays_49 ?_
            refine va_get (D := D) (ci := 1) (v := .int t_house_there) (C := RX2) (T := TX2) (N := 6) hx hb hts wX9_relays_X2 hown hK.1 hP 1 rfl rfl 0 (by decide) (hts _ mX9_relays_f81) (fun _ h9 => h9) rfl dX9_relays_52 ?_
            obtain ⟨r55, hr55, hf⟩ := bnd hf
            have hPc : va_P D vwCl [] _ := hP.sub [] rfl
            refine callS_ri (As := [.int t_house_there]) (rest := []) ⟨hx, hb, hml, hown, hts⟩ (CJ6_bitCount_0f7a4 l hr55) (va_cwS 1 hts gX9_relays_J6_bitCount_0f7a4 rfl rfl rfl kkJ6_bitCount_0f7a4.2 ⟨Nat.le_of_ble_eq_true rfl, Nat.le_of_ble_eq_true rfl⟩) hK hPc hl.1 rfl (Nat.le_of_ble_eq_true rfl) dX9_relays_55 ⟨Nat.zero_le _, Nat.zero_le _⟩ ?_
            refine lv_iload_n hx hb dX9_relays_58 rfl (lv_at hl 1 rfl) ?_
            refine lv_iload_n hx hb dX9_relays_59 rfl (lv_at hl 2 rfl) ?_
            refine lv_iload_n hx hb dX9_relays_60 rfl (lv_at hl 3 rfl) ?_
            obtain ⟨r61, hr61, hf⟩ := bnd hf
            have hPc : va_P D vwCl [] _ := hP.sub [] rfl
            refine callS_ri (As := [.int r55, .int a1, .int a2, .int a3]) (rest := []) ⟨hx, hb, hml, hown, hts⟩ (CX9_canRelay l hr61) (va_cwS 4 hts gX9_relays_X9_canRelay rfl rfl rfl kkX9_canRelay.2 ⟨Nat.le_of_ble_eq_true rfl, Nat.le_of_ble_eq_true rfl⟩) hK hPc hl.1 rfl (Nat.le_of_ble_eq_true rfl) dX9_relays_61 ⟨Nat.zero_le _, Nat.zero_le _⟩ ?_
            refine lv_if_eq (tgt := 71) hx hb dX9_relays_64 (by decide) (fun hc => ?_) (fun hc => ?_)
            · have hf := ft hf hc
              refine lv_iconst (v := 0) hx hb dX9_relays_71 (by decide) ?_
              exact ret_ri hx hb hr hlocks hf dX9_relays_72
            · have hf := ff hf hc
              refine lv_iconst (v := 1) hx hb dX9_relays_67 (by decide) ?_
              refine lv_goto (tgt := 72) hx hb dX9_relays_68 (by decide) ?_
              exact ret_ri hx hb hr hlocks hf dX9_relays_72
        · have hf := ft hf hc
          refine lv_bipush (v := (-2)) hx hb dX9_relays_40 (by decide) ?_
          exact ret_ri hx hb hr hlocks hf dX9_relays_42
/-! ===== SilenceCount.restore(I)I ===== -/
abbrev rmX9_restore : Room := { frames := 3, cells := 0, slots := 0, locals := 61 }
theorem kkX9_restore : yX9_restore.cls = RX9 ∧ yX9_restore.cls ≠ "java/lang/invoke/MethodHandle" ∧ yX9_restore.cls ≠ "java/lang/invoke/VarHandle" ∧ (parseMethodDescriptor yX9_restore.desc).map (fun d => d.parameters.length) = some 1 := by decide +kernel
theorem mX9_restore_f61 : Cond.fieldLink RX9 61 "SilenceCount" "images" "[LSilenceCount$Image;" ∈ wsX9_restore := by decide +kernel
theorem mX9_restore_f255 : Cond.fieldLink RX9 255 "SilenceCount$Image" "isKept" "Z" ∈ wsX9_restore := by decide +kernel
theorem mX9_restore_f10 : Cond.fieldLink RX9 10 "SilenceCount" "house" "LSilenceCount$House;" ∈ wsX9_restore := by decide +kernel
theorem mX9_restore_f40 : Cond.fieldLink RX9 40 "SilenceCount" "sights" "LSilenceCount$Sights;" ∈ wsX9_restore := by decide +kernel
theorem wX9_restore_X3 : ∀ w ∈ u_ws RX3 TX3 3, w ∈ wsX9_restore := by decide +kernel
theorem wX9_restore_X9 : ∀ w ∈ u_ws RX9 TX9 8, w ∈ wsX9_restore := by decide +kernel
def fX9_restore (t_house_there : Int32) (t_house_awake : Int32) (t_house_start : Int32) (t_house_sharp : Int32) (t_house_counts : Nat → Int32) (t_house_paces : Nat → Int32) (t_sights_size : Int32) (t_sights_monks : Nat → Int32) (t_sights_breaths : Nat → Int32) (t_sights_bowed : Nat → Int32) (t_images_0_isKept : Int32) (t_images_0_house_there : Int32) (t_images_0_house_awake : Int32) (t_images_0_house_start : Int32) (t_images_0_house_sharp : Int32) (t_images_0_house_counts : Nat → Int32) (t_images_0_house_paces : Nat → Int32) (t_images_0_sights_size : Int32) (t_images_0_sights_monks : Nat → Int32) (t_images_0_sights_breaths : Nat → Int32) (t_images_0_sights_bowed : Nat → Int32) (t_images_1_isKept : Int32) (t_images_1_house_there : Int32) (t_images_1_house_awake : Int32) (t_images_1_house_start : Int32) (t_images_1_house_sharp : Int32) (t_images_1_house_counts : Nat → Int32) (t_images_1_house_paces : Nat → Int32) (t_images_1_sights_size : Int32) (t_images_1_sights_monks : Nat → Int32) (t_images_1_sights_breaths : Nat → Int32) (t_images_1_sights_bowed : Nat → Int32) (a1 : Int32) : Option (Int32 × Int32 × Int32 × Int32 × Int32 × (Nat → Int32) × (Nat → Int32) × Int32 × (Nat → Int32) × (Nat → Int32) × (Nat → Int32)) :=
  (fX9_isWithin a1 0 (2 - 1)).bind fun r9 => if r9 = 0 then some ((-2), t_house_there, t_house_awake, t_house_start, t_house_sharp, t_house_counts, t_house_paces, t_sights_size, t_sights_monks, t_sights_breaths, t_sights_bowed) else if a1 = 0 then if t_images_0_isKept = 0 then some ((-3), t_house_there, t_house_awake, t_house_start, t_house_sharp, t_house_counts, t_house_paces, t_sights_size, t_sights_monks, t_sights_breaths, t_sights_bowed) else if a1 = 0 then (fX3_giveBack t_images_0_house_there t_images_0_house_awake t_images_0_house_start t_images_0_house_sharp t_images_0_house_counts t_images_0_house_paces t_images_0_sights_size t_images_0_sights_monks t_images_0_sights_breaths t_images_0_sights_bowed t_house_there t_house_awake t_house_start t_house_sharp t_house_counts t_house_paces t_sights_size t_sights_monks t_sights_breaths t_sights_bowed).bind fun r47 => some (1, r47.1, r47.2.1, r47.2.2.1, r47.2.2.2.1, r47.2.2.2.2.1, r47.2.2.2.2.2.1, r47.2.2.2.2.2.2.1, r47.2.2.2.2.2.2.2.1, r47.2.2.2.2.2.2.2.2.1, r47.2.2.2.2.2.2.2.2.2) else if a1 = 1 then (fX3_giveBack t_images_1_house_there t_images_1_house_awake t_images_1_house_start t_images_1_house_sharp t_images_1_house_counts t_images_1_house_paces t_images_1_sights_size t_images_1_sights_monks t_images_1_sights_breaths t_images_1_sights_bowed t_house_there t_house_awake t_house_start t_house_sharp t_house_counts t_house_paces t_sights_size t_sights_monks t_sights_breaths t_sights_bowed).bind fun r47 => some (1, r47.1, r47.2.1, r47.2.2.1, r47.2.2.2.1, r47.2.2.2.2.1, r47.2.2.2.2.2.1, r47.2.2.2.2.2.2.1, r47.2.2.2.2.2.2.2.1, r47.2.2.2.2.2.2.2.2.1, r47.2.2.2.2.2.2.2.2.2) else none else if a1 = 1 then if t_images_1_isKept = 0 then some ((-3), t_house_there, t_house_awake, t_house_start, t_house_sharp, t_house_counts, t_house_paces, t_sights_size, t_sights_monks, t_sights_breaths, t_sights_bowed) else if a1 = 0 then (fX3_giveBack t_images_0_house_there t_images_0_house_awake t_images_0_house_start t_images_0_house_sharp t_images_0_house_counts t_images_0_house_paces t_images_0_sights_size t_images_0_sights_monks t_images_0_sights_breaths t_images_0_sights_bowed t_house_there t_house_awake t_house_start t_house_sharp t_house_counts t_house_paces t_sights_size t_sights_monks t_sights_breaths t_sights_bowed).bind fun r47 => some (1, r47.1, r47.2.1, r47.2.2.1, r47.2.2.2.1, r47.2.2.2.2.1, r47.2.2.2.2.2.1, r47.2.2.2.2.2.2.1, r47.2.2.2.2.2.2.2.1, r47.2.2.2.2.2.2.2.2.1, r47.2.2.2.2.2.2.2.2.2) else if a1 = 1 then (fX3_giveBack t_images_1_house_there t_images_1_house_awake t_images_1_house_start t_images_1_house_sharp t_images_1_house_counts t_images_1_house_paces t_images_1_sights_size t_images_1_sights_monks t_images_1_sights_breaths t_images_1_sights_bowed t_house_there t_house_awake t_house_start t_house_sharp t_house_counts t_house_paces t_sights_size t_sights_monks t_sights_breaths t_sights_bowed).bind fun r47 => some (1, r47.1, r47.2.1, r47.2.2.1, r47.2.2.2.1, r47.2.2.2.2.1, r47.2.2.2.2.2.1, r47.2.2.2.2.2.2.1, r47.2.2.2.2.2.2.2.1, r47.2.2.2.2.2.2.2.2.1, r47.2.2.2.2.2.2.2.2.2) else none else none
set_option maxRecDepth 100000 in
set_option maxHeartbeats 4000000 in
theorem CX9_restore (l : Launch) {D : va_G} {ty : TY} {A_t A_t_pad A_t_hours A_t_laws A_t_worlds A_t_trialYear A_t_house A_t_house_counts A_t_house_paces A_t_sights A_t_sights_monks A_t_sights_breaths A_t_sights_bowed A_t_images A_t_images_0 A_t_images_0_house A_t_images_0_house_counts A_t_images_0_house_paces A_t_images_0_sights A_t_images_0_sights_monks A_t_images_0_sights_breaths A_t_images_0_sights_bowed A_t_images_1 A_t_images_1_house A_t_images_1_house_counts A_t_images_1_house_paces A_t_images_1_sights A_t_images_1_sights_monks A_t_images_1_sights_breaths A_t_images_1_sights_bowed : Nat} {t_house_there : Int32} {t_house_awake : Int32} {t_house_start : Int32} {t_house_sharp : Int32} {t_house_counts : Nat → Int32} {t_house_paces : Nat → Int32} {t_sights_size : Int32} {t_sights_monks : Nat → Int32} {t_sights_breaths : Nat → Int32} {t_sights_bowed : Nat → Int32} {t_images_0_isKept : Int32} {t_images_0_house_there : Int32} {t_images_0_house_awake : Int32} {t_images_0_house_start : Int32} {t_images_0_house_sharp : Int32} {t_images_0_house_counts : Nat → Int32} {t_images_0_house_paces : Nat → Int32} {t_images_0_sights_size : Int32} {t_images_0_sights_monks : Nat → Int32} {t_images_0_sights_breaths : Nat → Int32} {t_images_0_sights_bowed : Nat → Int32} {t_images_1_isKept : Int32} {t_images_1_house_there : Int32} {t_images_1_house_awake : Int32} {t_images_1_house_start : Int32} {t_images_1_house_sharp : Int32} {t_images_1_house_counts : Nat → Int32} {t_images_1_house_paces : Nat → Int32} {t_images_1_sights_size : Int32} {t_images_1_sights_monks : Nat → Int32} {t_images_1_sights_breaths : Nat → Int32} {t_images_1_sights_bowed : Nat → Int32} {a1 : Int32} {q0 : Int32 × Int32 × Int32 × Int32 × Int32 × (Nat → Int32) × (Nat → Int32) × Int32 × (Nat → Int32) × (Nat → Int32) × (Nat → Int32)} (hf : fX9_restore t_house_there t_house_awake t_house_start t_house_sharp t_house_counts t_house_paces t_sights_size t_sights_monks t_sights_breaths t_sights_bowed t_images_0_isKept t_images_0_house_there t_images_0_house_awake t_images_0_house_start t_images_0_house_sharp t_images_0_house_counts t_images_0_house_paces t_images_0_sights_size t_images_0_sights_monks t_images_0_sights_breaths t_images_0_sights_bowed t_images_1_isKept t_images_1_house_there t_images_1_house_awake t_images_1_house_start t_images_1_house_sharp t_images_1_house_counts t_images_1_house_paces t_images_1_sights_size t_images_1_sights_monks t_images_1_sights_breaths t_images_1_sights_bowed a1 = some q0) : RWi l yX9_restore wsX9_restore rmX9_restore D ty [.ref A_t, .int a1] [(A_t, .inr (8, [.ref A_t_house, .ref A_t_pad, .ref A_t_hours, .ref A_t_laws, .ref A_t_sights, .ref A_t_worlds, .ref A_t_trialYear, .ref A_t_images])), (A_t_house, .inr (1, [.int t_house_there, .int t_house_awake, .int t_house_start, .int t_house_sharp, .ref A_t_house_counts, .ref A_t_house_paces])), (A_t_house_counts, .inl (ty.1, 8, .inl t_house_counts)), (A_t_house_paces, .inl (ty.1, 8, .inl t_house_paces)), (A_t_sights, .inr (5, [.int t_sights_size, .ref A_t_sights_monks, .ref A_t_sights_breaths, .ref A_t_sights_bowed])), (A_t_sights_monks, .inl (ty.1, 8, .inl t_sights_monks)), (A_t_sights_breaths, .inl (ty.1, 8, .inl t_sights_breaths)), (A_t_sights_bowed, .inl (ty.2.2.1, 8, .inl t_sights_bowed)), (A_t_images, .inl (ty.2.2.2, 2, .inr (.inr (.inr (.inr (im2 A_t_images_0 A_t_images_1)))))), (A_t_images_0, .inr (2, [.int t_images_0_isKept, .ref A_t_images_0_house, .ref A_t_images_0_sights])), (A_t_images_0_house, .inr (1, [.int t_images_0_house_there, .int t_images_0_house_awake, .int t_images_0_house_start, .int t_images_0_house_sharp, .ref A_t_images_0_house_counts, .ref A_t_images_0_house_paces])), (A_t_images_0_house_counts, .inl (ty.1, 8, .inl t_images_0_house_counts)), (A_t_images_0_house_paces, .inl (ty.1, 8, .inl t_images_0_house_paces)), (A_t_images_0_sights, .inr (5, [.int t_images_0_sights_size, .ref A_t_images_0_sights_monks, .ref A_t_images_0_sights_breaths, .ref A_t_images_0_sights_bowed])), (A_t_images_0_sights_monks, .inl (ty.1, 8, .inl t_images_0_sights_monks)), (A_t_images_0_sights_breaths, .inl (ty.1, 8, .inl t_images_0_sights_breaths)), (A_t_images_0_sights_bowed, .inl (ty.2.2.1, 8, .inl t_images_0_sights_bowed)), (A_t_images_1, .inr (2, [.int t_images_1_isKept, .ref A_t_images_1_house, .ref A_t_images_1_sights])), (A_t_images_1_house, .inr (1, [.int t_images_1_house_there, .int t_images_1_house_awake, .int t_images_1_house_start, .int t_images_1_house_sharp, .ref A_t_images_1_house_counts, .ref A_t_images_1_house_paces])), (A_t_images_1_house_counts, .inl (ty.1, 8, .inl t_images_1_house_counts)), (A_t_images_1_house_paces, .inl (ty.1, 8, .inl t_images_1_house_paces)), (A_t_images_1_sights, .inr (5, [.int t_images_1_sights_size, .ref A_t_images_1_sights_monks, .ref A_t_images_1_sights_breaths, .ref A_t_images_1_sights_bowed])), (A_t_images_1_sights_monks, .inl (ty.1, 8, .inl t_images_1_sights_monks)), (A_t_images_1_sights_breaths, .inl (ty.1, 8, .inl t_images_1_sights_breaths)), (A_t_images_1_sights_bowed, .inl (ty.2.2.1, 8, .inl t_images_1_sights_bowed))] q0.1 [(A_t, .inr (8, [.ref A_t_house, .ref A_t_pad, .ref A_t_hours, .ref A_t_laws, .ref A_t_sights, .ref A_t_worlds, .ref A_t_trialYear, .ref A_t_images])), (A_t_house, .inr (1, [.int q0.2.1, .int q0.2.2.1, .int q0.2.2.2.1, .int q0.2.2.2.2.1, .ref A_t_house_counts, .ref A_t_house_paces])), (A_t_house_counts, .inl (ty.1, 8, .inl q0.2.2.2.2.2.1)), (A_t_house_paces, .inl (ty.1, 8, .inl q0.2.2.2.2.2.2.1)), (A_t_sights, .inr (5, [.int q0.2.2.2.2.2.2.2.1, .ref A_t_sights_monks, .ref A_t_sights_breaths, .ref A_t_sights_bowed])), (A_t_sights_monks, .inl (ty.1, 8, .inl q0.2.2.2.2.2.2.2.2.1)), (A_t_sights_breaths, .inl (ty.1, 8, .inl q0.2.2.2.2.2.2.2.2.2.1)), (A_t_sights_bowed, .inl (ty.2.2.1, 8, .inl q0.2.2.2.2.2.2.2.2.2.2)), (A_t_images, .inl (ty.2.2.2, 2, .inr (.inr (.inr (.inr (im2 A_t_images_0 A_t_images_1)))))), (A_t_images_0, .inr (2, [.int t_images_0_isKept, .ref A_t_images_0_house, .ref A_t_images_0_sights])), (A_t_images_0_house, .inr (1, [.int t_images_0_house_there, .int t_images_0_house_awake, .int t_images_0_house_start, .int t_images_0_house_sharp, .ref A_t_images_0_house_counts, .ref A_t_images_0_house_paces])), (A_t_images_0_house_counts, .inl (ty.1, 8, .inl t_images_0_house_counts)), (A_t_images_0_house_paces, .inl (ty.1, 8, .inl t_images_0_house_paces)), (A_t_images_0_sights, .inr (5, [.int t_images_0_sights_size, .ref A_t_images_0_sights_monks, .ref A_t_images_0_sights_breaths, .ref A_t_images_0_sights_bowed])), (A_t_images_0_sights_monks, .inl (ty.1, 8, .inl t_images_0_sights_monks)), (A_t_images_0_sights_breaths, .inl (ty.1, 8, .inl t_images_0_sights_breaths)), (A_t_images_0_sights_bowed, .inl (ty.2.2.1, 8, .inl t_images_0_sights_bowed)), (A_t_images_1, .inr (2, [.int t_images_1_isKept, .ref A_t_images_1_house, .ref A_t_images_1_sights])), (A_t_images_1_house, .inr (1, [.int t_images_1_house_there, .int t_images_1_house_awake, .int t_images_1_house_start, .int t_images_1_house_sharp, .ref A_t_images_1_house_counts, .ref A_t_images_1_house_paces])), (A_t_images_1_house_counts, .inl (ty.1, 8, .inl t_images_1_house_counts)), (A_t_images_1_house_paces, .inl (ty.1, 8, .inl t_images_1_house_paces)), (A_t_images_1_sights, .inr (5, [.int t_images_1_sights_size, .ref A_t_images_1_sights_monks, .ref A_t_images_1_sights_breaths, .ref A_t_images_1_sights_bowed])), (A_t_images_1_sights_monks, .inl (ty.1, 8, .inl t_images_1_sights_monks)), (A_t_images_1_sights_breaths, .inl (ty.1, 8, .inl t_images_1_sights_breaths)), (A_t_images_1_sights_bowed, .inl (ty.2.2.1, 8, .inl t_images_1_sights_bowed))] := by
  refine RWi.start (cc := cX9_restore) (maxL := 2) (ret := (some .int)) (own := RX9) (by decide) rfl rfl (Nat.le_of_ble_eq_true rfl) ?_
  intro p e s m below meth c ls C hK hP hD hS hl
  obtain ⟨WC, hWC⟩ : ∃ w : va_W, w = [(A_t, .inr (8, [.ref A_t_house, .ref A_t_pad, .ref A_t_hours, .ref A_t_laws, .ref A_t_sights, .ref A_t_worlds, .ref A_t_trialYear, .ref A_t_images])), (A_t_house, .inr (1, [.int t_house_there, .int t_house_awake, .int t_house_start, .int t_house_sharp, .ref A_t_house_counts, .ref A_t_house_paces])), (A_t_house_counts, .inl (ty.1, 8, .inl t_house_counts)), (A_t_house_paces, .inl (ty.1, 8, .inl t_house_paces)), (A_t_sights, .inr (5, [.int t_sights_size, .ref A_t_sights_monks, .ref A_t_sights_breaths, .ref A_t_sights_bowed])), (A_t_sights_monks, .inl (ty.1, 8, .inl t_sights_monks)), (A_t_sights_breaths, .inl (ty.1, 8, .inl t_sights_breaths)), (A_t_sights_bowed, .inl (ty.2.2.1, 8, .inl t_sights_bowed)), (A_t_images, .inl (ty.2.2.2, 2, .inr (.inr (.inr (.inr (im2 A_t_images_0 A_t_images_1)))))), (A_t_images_0, .inr (2, [.int t_images_0_isKept, .ref A_t_images_0_house, .ref A_t_images_0_sights])), (A_t_images_0_house, .inr (1, [.int t_images_0_house_there, .int t_images_0_house_awake, .int t_images_0_house_start, .int t_images_0_house_sharp, .ref A_t_images_0_house_counts, .ref A_t_images_0_house_paces])), (A_t_images_0_house_counts, .inl (ty.1, 8, .inl t_images_0_house_counts)), (A_t_images_0_house_paces, .inl (ty.1, 8, .inl t_images_0_house_paces)), (A_t_images_0_sights, .inr (5, [.int t_images_0_sights_size, .ref A_t_images_0_sights_monks, .ref A_t_images_0_sights_breaths, .ref A_t_images_0_sights_bowed])), (A_t_images_0_sights_monks, .inl (ty.1, 8, .inl t_images_0_sights_monks)), (A_t_images_0_sights_breaths, .inl (ty.1, 8, .inl t_images_0_sights_breaths)), (A_t_images_0_sights_bowed, .inl (ty.2.2.1, 8, .inl t_images_0_sights_bowed)), (A_t_images_1, .inr (2, [.int t_images_1_isKept, .ref A_t_images_1_house, .ref A_t_images_1_sights])), (A_t_images_1_house, .inr (1, [.int t_images_1_house_there, .int t_images_1_house_awake, .int t_images_1_house_start, .int t_images_1_house_sharp, .ref A_t_images_1_house_counts, .ref A_t_images_1_house_paces])), (A_t_images_1_house_counts, .inl (ty.1, 8, .inl t_images_1_house_counts)), (A_t_images_1_house_paces, .inl (ty.1, 8, .inl t_images_1_house_paces)), (A_t_images_1_sights, .inr (5, [.int t_images_1_sights_size, .ref A_t_images_1_sights_monks, .ref A_t_images_1_sights_breaths, .ref A_t_images_1_sights_bowed])), (A_t_images_1_sights_monks, .inl (ty.1, 8, .inl t_images_1_sights_monks)), (A_t_images_1_sights_breaths, .inl (ty.1, 8, .inl t_images_1_sights_breaths)), (A_t_images_1_sights_bowed, .inl (ty.2.2.1, 8, .inl t_images_1_sights_bowed))] := ⟨_, rfl⟩
  rw [← hWC] at hD hS ⊢
  have hD : va_D (va_A WC s.heap.size) [(A_t, .inr (8, [.ref A_t_house, .ref A_t_pad, .ref A_t_hours, .ref A_t_laws, .ref A_t_sights, .ref A_t_worlds, .ref A_t_trialYear, .ref A_t_images])), (A_t_house, .inr (1, [.int t_house_there, .int t_house_awake, .int t_house_start, .int t_house_sharp, .ref A_t_house_counts, .ref A_t_house_paces])), (A_t_house_counts, .inl (ty.1, 8, .inl t_house_counts)), (A_t_house_paces, .inl (ty.1, 8, .inl t_house_paces)), (A_t_sights, .inr (5, [.int t_sights_size, .ref A_t_sights_monks, .ref A_t_sights_breaths, .ref A_t_sights_bowed])), (A_t_sights_monks, .inl (ty.1, 8, .inl t_sights_monks)), (A_t_sights_breaths, .inl (ty.1, 8, .inl t_sights_breaths)), (A_t_sights_bowed, .inl (ty.2.2.1, 8, .inl t_sights_bowed)), (A_t_images, .inl (ty.2.2.2, 2, .inr (.inr (.inr (.inr (im2 A_t_images_0 A_t_images_1)))))), (A_t_images_0, .inr (2, [.int t_images_0_isKept, .ref A_t_images_0_house, .ref A_t_images_0_sights])), (A_t_images_0_house, .inr (1, [.int t_images_0_house_there, .int t_images_0_house_awake, .int t_images_0_house_start, .int t_images_0_house_sharp, .ref A_t_images_0_house_counts, .ref A_t_images_0_house_paces])), (A_t_images_0_house_counts, .inl (ty.1, 8, .inl t_images_0_house_counts)), (A_t_images_0_house_paces, .inl (ty.1, 8, .inl t_images_0_house_paces)), (A_t_images_0_sights, .inr (5, [.int t_images_0_sights_size, .ref A_t_images_0_sights_monks, .ref A_t_images_0_sights_breaths, .ref A_t_images_0_sights_bowed])), (A_t_images_0_sights_monks, .inl (ty.1, 8, .inl t_images_0_sights_monks)), (A_t_images_0_sights_breaths, .inl (ty.1, 8, .inl t_images_0_sights_breaths)), (A_t_images_0_sights_bowed, .inl (ty.2.2.1, 8, .inl t_images_0_sights_bowed)), (A_t_images_1, .inr (2, [.int t_images_1_isKept, .ref A_t_images_1_house, .ref A_t_images_1_sights])), (A_t_images_1_house, .inr (1, [.int t_images_1_house_there, .int t_images_1_house_awake, .int t_images_1_house_start, .int t_images_1_house_sharp, .ref A_t_images_1_house_counts, .ref A_t_images_1_house_paces])), (A_t_images_1_house_counts, .inl (ty.1, 8, .inl t_images_1_house_counts)), (A_t_images_1_house_paces, .inl (ty.1, 8, .inl t_images_1_house_paces)), (A_t_images_1_sights, .inr (5, [.int t_images_1_sights_size, .ref A_t_images_1_sights_monks, .ref A_t_images_1_sights_breaths, .ref A_t_images_1_sights_bowed])), (A_t_images_1_sights_monks, .inl (ty.1, 8, .inl t_images_1_sights_monks)), (A_t_images_1_sights_breaths, .inl (ty.1, 8, .inl t_images_1_sights_breaths)), (A_t_images_1_sights_bowed, .inl (ty.2.2.1, 8, .inl t_images_1_sights_bowed))] := by rw [← hWC]; exact hD
  obtain ⟨hx, hb, hr, hml, hown, hts, hlocks⟩ := id C
  have hl : lv_has ls 2 [(0, .ref A_t), (1, .int a1)] := hl
  unfold fX9_restore at hf
  refine lv_iload_n hx hb dX9_restore_0 rfl (lv_at hl 1 rfl) ?_
  refine lv_iconst (v := 0) hx hb dX9_restore_1 (by decide) ?_
  refine lv_aload_n hx hb dX9_restore_2 rfl (lv_at hl 0 rfl) ?_
  refine va_get (D := D) (ci := 8) (v := .ref A_t_images) (C := RX9) (T := TX9) (N := 8) hx hb hts wX9_restore_X9 hown hK.1 hP 0 rfl rfl 7 (by decide) (hts _ mX9_restore_f61) (fun _ h9 => h9) rfl dX9_restore_3 ?_
  refine va_alen (v := 2) hx hb hK.1 hP 8 3 rfl rfl rfl dX9_restore_6 ?_
  refine lv_iconst (v := 1) hx hb dX9_restore_7 (by decide) ?_
  refine lv_isub hx hb dX9_restore_8 ?_
  obtain ⟨r9, hr9, hf⟩ := bnd hf
  have hPc : va_P D vwCl [] _ := hP.sub [] rfl
  refine callS_ri (As := [.int a1, .int 0, .int (2 - 1)]) (rest := []) ⟨hx, hb, hml, hown, hts⟩ (CX9_isWithin l hr9) (va_cwS 3 hts gX9_restore_X9_isWithin rfl rfl rfl kkX9_isWithin.2 ⟨Nat.le_of_ble_eq_true rfl, Nat.le_of_ble_eq_true rfl⟩) hK hPc hl.1 rfl (Nat.le_of_ble_eq_true rfl) dX9_restore_9 ⟨Nat.zero_le _, Nat.zero_le _⟩ ?_
  refine lv_if_ne (tgt := 18) hx hb dX9_restore_12 (by decide) (fun hc => ?_) (fun hc => ?_)
  · have hf := ff hf hc
    refine lv_aload_n hx hb dX9_restore_18 rfl (lv_at hl 0 rfl) ?_
    refine va_get (D := D) (ci := 8) (v := .ref A_t_images) (C := RX9) (T := TX9) (N := 8) hx hb hts wX9_restore_X9 hown hK.1 hP 0 rfl rfl 7 (by decide) (hts _ mX9_restore_f61) (fun _ h9 => h9) rfl dX9_restore_19 ?_
    refine lv_iload_n hx hb dX9_restore_22 rfl (lv_at hl 1 rfl) ?_
    by_cases hc0 : a1 = 0
    · have hf := ft hf hc0
      refine va_aldq (C := "SilenceCount$Image") hx hb hK.1 hP 8 3 rfl rfl (by rw [hc0]; unfold vp_in; decide) dX9_restore_23 ?_
      refine W.eq (g2 := F0 m 24 ls [.ref A_t_images_0]) (by rw [hc0] <;> rfl) ?_
      refine va_get (D := D) (ci := 2) (v := .int t_images_0_isKept) (C := RX3) (T := TX3) (N := 3) hx hb hts wX9_restore_X3 hown hK.1 hP 9 rfl rfl 0 (by decide) (hts _ mX9_restore_f255) (fun _ h9 => h9) rfl dX9_restore_24 ?_
      refine lv_if_ne (tgt := 33) hx hb dX9_restore_27 (by decide) (fun hc => ?_) (fun hc => ?_)
      · have hf := ff hf hc
        refine lv_aload_n hx hb dX9_restore_33 rfl (lv_at hl 0 rfl) ?_
        refine va_get (D := D) (ci := 8) (v := .ref A_t_images) (C := RX9) (T := TX9) (N := 8) hx hb hts wX9_restore_X9 hown hK.1 hP 0 rfl rfl 7 (by decide) (hts _ mX9_restore_f61) (fun _ h9 => h9) rfl dX9_restore_34 ?_
        refine lv_iload_n hx hb dX9_restore_37 rfl (lv_at hl 1 rfl) ?_
        by_cases hc0 : a1 = 0
        · have hf := ft hf hc0
          refine va_aldq (C := "SilenceCount$Image") hx hb hK.1 hP 8 3 rfl rfl (by rw [hc0]; unfold vp_in; decide) dX9_restore_38 ?_
          refine W.eq (g2 := F0 m 39 ls [.ref A_t_images_0]) (by rw [hc0] <;> rfl) ?_
          refine lv_aload_n hx hb dX9_restore_39 rfl (lv_at hl 0 rfl) ?_
          refine va_get (D := D) (ci := 8) (v := .ref A_t_house) (C := RX9) (T := TX9) (N := 8) hx hb hts wX9_restore_X9 hown hK.1 hP 0 rfl rfl 0 (by decide) (hts _ mX9_restore_f10) (fun _ h9 => h9) rfl dX9_restore_40 ?_
          refine lv_aload_n hx hb dX9_restore_43 rfl (lv_at hl 0 rfl) ?_
          refine va_get (D := D) (ci := 8) (v := .ref A_t_sights) (C := RX9) (T := TX9) (N := 8) hx hb hts wX9_restore_X9 hown hK.1 hP 0 rfl rfl 4 (by decide) (hts _ mX9_restore_f40) (fun _ h9 => h9) rfl dX9_restore_44 ?_
          obtain ⟨r47, hr47, hf⟩ := bnd hf
          refine callV_wv (As := [.ref A_t_house, .ref A_t_sights]) (rest := []) ⟨hx, hb, hml, hown, hts⟩ (CX3_giveBack l hr47) (cwV 2 hts gX9_restore_X3_giveBack rfl rfl rfl kkX3_giveBack ⟨Nat.le_of_ble_eq_true rfl, Nat.le_of_ble_eq_true rfl⟩) hK hP hD hS (fun _ h => Or.inr h) [9, 10, 11, 12, 13, 14, 15, 16, 1, 2, 3, 4, 5, 6, 7] [0, 8, 17, 18, 19, 20, 21, 22, 23, 24] [0, 18, 19, 20, 21, 22, 23, 24, 1, 10, 11, 12, 13, 14, 15, 16, 17, 2, 3, 4, 5, 6, 7, 8, 9] rfl (by decide) (by decide) rfl rfl 0 rfl rfl rfl hl.1 rfl (Nat.le_of_ble_eq_true rfl) dX9_restore_47 ⟨Nat.zero_le _, Nat.zero_le _⟩ (fun H locs hP hD hS => ?_)
          have hP : va_P D vwCl [(A_t, .inr (8, [.ref A_t_house, .ref A_t_pad, .ref A_t_hours, .ref A_t_laws, .ref A_t_sights, .ref A_t_worlds, .ref A_t_trialYear, .ref A_t_images])), (A_t_house, .inr (1, [.int r47.1, .int r47.2.1, .int r47.2.2.1, .int r47.2.2.2.1, .ref A_t_house_counts, .ref A_t_house_paces])), (A_t_house_counts, .inl (ty.1, 8, .inl r47.2.2.2.2.1)), (A_t_house_paces, .inl (ty.1, 8, .inl r47.2.2.2.2.2.1)), (A_t_sights, .inr (5, [.int r47.2.2.2.2.2.2.1, .ref A_t_sights_monks, .ref A_t_sights_breaths, .ref A_t_sights_bowed])), (A_t_sights_monks, .inl (ty.1, 8, .inl r47.2.2.2.2.2.2.2.1)), (A_t_sights_breaths, .inl (ty.1, 8, .inl r47.2.2.2.2.2.2.2.2.1)), (A_t_sights_bowed, .inl (ty.2.2.1, 8, .inl r47.2.2.2.2.2.2.2.2.2)), (A_t_images, .inl (ty.2.2.2, 2, .inr (.inr (.inr (.inr (im2 A_t_images_0 A_t_images_1)))))), (A_t_images_0, .inr (2, [.int t_images_0_isKept, .ref A_t_images_0_house, .ref A_t_images_0_sights])), (A_t_images_0_house, .inr (1, [.int t_images_0_house_there, .int t_images_0_house_awake, .int t_images_0_house_start, .int t_images_0_house_sharp, .ref A_t_images_0_house_counts, .ref A_t_images_0_house_paces])), (A_t_images_0_house_counts, .inl (ty.1, 8, .inl t_images_0_house_counts)), (A_t_images_0_house_paces, .inl (ty.1, 8, .inl t_images_0_house_paces)), (A_t_images_0_sights, .inr (5, [.int t_images_0_sights_size, .ref A_t_images_0_sights_monks, .ref A_t_images_0_sights_breaths, .ref A_t_images_0_sights_bowed])), (A_t_images_0_sights_monks, .inl (ty.1, 8, .inl t_images_0_sights_monks)), (A_t_images_0_sights_breaths, .inl (ty.1, 8, .inl t_images_0_sights_breaths)), (A_t_images_0_sights_bowed, .inl (ty.2.2.1, 8, .inl t_images_0_sights_bowed)), (A_t_images_1, .inr (2, [.int t_images_1_isKept, .ref A_t_images_1_house, .ref A_t_images_1_sights])), (A_t_images_1_house, .inr (1, [.int t_images_1_house_there, .int t_images_1_house_awake, .int t_images_1_house_start, .int t_images_1_house_sharp, .ref A_t_images_1_house_counts, .ref A_t_images_1_house_paces])), (A_t_images_1_house_counts, .inl (ty.1, 8, .inl t_images_1_house_counts)), (A_t_images_1_house_paces, .inl (ty.1, 8, .inl t_images_1_house_paces)), (A_t_images_1_sights, .inr (5, [.int t_images_1_sights_size, .ref A_t_images_1_sights_monks, .ref A_t_images_1_sights_breaths, .ref A_t_images_1_sights_bowed])), (A_t_images_1_sights_monks, .inl (ty.1, 8, .inl t_images_1_sights_monks)), (A_t_images_1_sights_breaths, .inl (ty.1, 8, .inl t_images_1_sights_breaths)), (A_t_images_1_sights_bowed, .inl (ty.2.2.1, 8, .inl t_images_1_sights_bowed))] H := hP
          have hD : va_D (va_A WC s.heap.size) [(A_t, .inr (8, [.ref A_t_house, .ref A_t_pad, .ref A_t_hours, .ref A_t_laws, .ref A_t_sights, .ref A_t_worlds, .ref A_t_trialYear, .ref A_t_images])), (A_t_house, .inr (1, [.int r47.1, .int r47.2.1, .int r47.2.2.1, .int r47.2.2.2.1, .ref A_t_house_counts, .ref A_t_house_paces])), (A_t_house_counts, .inl (ty.1, 8, .inl r47.2.2.2.2.1)), (A_t_house_paces, .inl (ty.1, 8, .inl r47.2.2.2.2.2.1)), (A_t_sights, .inr (5, [.int r47.2.2.2.2.2.2.1, .ref A_t_sights_monks, .ref A_t_sights_breaths, .ref A_t_sights_bowed])), (A_t_sights_monks, .inl (ty.1, 8, .inl r47.2.2.2.2.2.2.2.1)), (A_t_sights_breaths, .inl (ty.1, 8, .inl r47.2.2.2.2.2.2.2.2.1)), (A_t_sights_bowed, .inl (ty.2.2.1, 8, .inl r47.2.2.2.2.2.2.2.2.2)), (A_t_images, .inl (ty.2.2.2, 2, .inr (.inr (.inr (.inr (im2 A_t_images_0 A_t_images_1)))))), (A_t_images_0, .inr (2, [.int t_images_0_isKept, .ref A_t_images_0_house, .ref A_t_images_0_sights])), (A_t_images_0_house, .inr (1, [.int t_images_0_house_there, .int t_images_0_house_awake, .int t_images_0_house_start, .int t_images_0_house_sharp, .ref A_t_images_0_house_counts, .ref A_t_images_0_house_paces])), (A_t_images_0_house_counts, .inl (ty.1, 8, .inl t_images_0_house_counts)), (A_t_images_0_house_paces, .inl (ty.1, 8, .inl t_images_0_house_paces)), (A_t_images_0_sights, .inr (5, [.int t_images_0_sights_size, .ref A_t_images_0_sights_monks, .ref A_t_images_0_sights_breaths, .ref A_t_images_0_sights_bowed])), (A_t_images_0_sights_monks, .inl (ty.1, 8, .inl t_images_0_sights_monks)), (A_t_images_0_sights_breaths, .inl (ty.1, 8, .inl t_images_0_sights_breaths)), (A_t_images_0_sights_bowed, .inl (ty.2.2.1, 8, .inl t_images_0_sights_bowed)), (A_t_images_1, .inr (2, [.int t_images_1_isKept, .ref A_t_images_1_house, .ref A_t_images_1_sights])), (A_t_images_1_house, .inr (1, [.int t_images_1_house_there, .int t_images_1_house_awake, .int t_images_1_house_start, .int t_images_1_house_sharp, .ref A_t_images_1_house_counts, .ref A_t_images_1_house_paces])), (A_t_images_1_house_counts, .inl (ty.1, 8, .inl t_images_1_house_counts)), (A_t_images_1_house_paces, .inl (ty.1, 8, .inl t_images_1_house_paces)), (A_t_images_1_sights, .inr (5, [.int t_images_1_sights_size, .ref A_t_images_1_sights_monks, .ref A_t_images_1_sights_breaths, .ref A_t_images_1_sights_bowed])), (A_t_images_1_sights_monks, .inl (ty.1, 8, .inl t_images_1_sights_monks)), (A_t_images_1_sights_breaths, .inl (ty.1, 8, .inl t_images_1_sights_breaths)), (A_t_images_1_sights_bowed, .inl (ty.2.2.1, 8, .inl t_images_1_sights_bowed))] := hD
          refine lv_iconst (v := 1) hx hb dX9_restore_50 (by decide) ?_
          cases hf
          exact ret_wi hx hb hr hlocks hP hD hS dX9_restore_51
        · have hf := ff hf hc0
          by_cases hc1 : a1 = 1
          · have hf := ft hf hc1
            refine va_aldq (C := "SilenceCount$Image") hx hb hK.1 hP 8 3 rfl rfl (by rw [hc1]; unfold vp_in; decide) dX9_restore_38 ?_
            refine W.eq (g2 := F0 m 39 ls [.ref A_t_images_1]) (by rw [hc1] <;> rfl) ?_
            refine lv_aload_n hx hb dX9_restore_39 rfl (lv_at hl 0 rfl) ?_
            refine va_get (D := D) (ci := 8) (v := .ref A_t_house) (C := RX9) (T := TX9) (N := 8) hx hb hts wX9_restore_X9 hown hK.1 hP 0 rfl rfl 0 (by decide) (hts _ mX9_restore_f10) (fun _ h9 => h9) rfl dX9_restore_40 ?_
            refine lv_aload_n hx hb dX9_restore_43 rfl (lv_at hl 0 rfl) ?_
            refine va_get (D := D) (ci := 8) (v := .ref A_t_sights) (C := RX9) (T := TX9) (N := 8) hx hb hts wX9_restore_X9 hown hK.1 hP 0 rfl rfl 4 (by decide) (hts _ mX9_restore_f40) (fun _ h9 => h9) rfl dX9_restore_44 ?_
            obtain ⟨r47, hr47, hf⟩ := bnd hf
            refine callV_wv (As := [.ref A_t_house, .ref A_t_sights]) (rest := []) ⟨hx, hb, hml, hown, hts⟩ (CX3_giveBack l hr47) (cwV 2 hts gX9_restore_X3_giveBack rfl rfl rfl kkX3_giveBack ⟨Nat.le_of_ble_eq_true rfl, Nat.le_of_ble_eq_true rfl⟩) hK hP hD hS (fun _ h => Or.inr h) [17, 18, 19, 20, 21, 22, 23, 24, 1, 2, 3, 4, 5, 6, 7] [0, 8, 9, 10, 11, 12, 13, 14, 15, 16] [0, 18, 19, 20, 21, 22, 23, 24, 1, 2, 3, 4, 5, 6, 7, 8, 9, 10, 11, 12, 13, 14, 15, 16, 17] rfl (by decide) (by decide) rfl rfl 0 rfl rfl rfl hl.1 rfl (Nat.le_of_ble_eq_true rfl) dX9_restore_47 ⟨Nat.zero_le _, Nat.zero_le _⟩ (fun H locs hP hD hS => ?_)
            have hP : va_P D vwCl [(A_t, .inr (8, [.ref A_t_house, .ref A_t_pad, .ref A_t_hours, .ref A_t_laws, .ref A_t_sights, .ref A_t_worlds, .ref A_t_trialYear, .ref A_t_images])), (A_t_house, .inr (1, [.int r47.1, .int r47.2.1, .int r47.2.2.1, .int r47.2.2.2.1, .ref A_t_house_counts, .ref A_t_house_paces])), (A_t_house_counts, .inl (ty.1, 8, .inl r47.2.2.2.2.1)), (A_t_house_paces, .inl (ty.1, 8, .inl r47.2.2.2.2.2.1)), (A_t_sights, .inr (5, [.int r47.2.2.2.2.2.2.1, .ref A_t_sights_monks, .ref A_t_sights_breaths, .ref A_t_sights_bowed])), (A_t_sights_monks, .inl (ty.1, 8, .inl r47.2.2.2.2.2.2.2.1)), (A_t_sights_breaths, .inl (ty.1, 8, .inl r47.2.2.2.2.2.2.2.2.1)), (A_t_sights_bowed, .inl (ty.2.2.1, 8, .inl r47.2.2.2.2.2.2.2.2.2)), (A_t_images, .inl (ty.2.2.2, 2, .inr (.inr (.inr (.inr (im2 A_t_images_0 A_t_images_1)))))), (A_t_images_0, .inr (2, [.int t_images_0_isKept, .ref A_t_images_0_house, .ref A_t_images_0_sights])), (A_t_images_0_house, .inr (1, [.int t_images_0_house_there, .int t_images_0_house_awake, .int t_images_0_house_start, .int t_images_0_house_sharp, .ref A_t_images_0_house_counts, .ref A_t_images_0_house_paces])), (A_t_images_0_house_counts, .inl (ty.1, 8, .inl t_images_0_house_counts)), (A_t_images_0_house_paces, .inl (ty.1, 8, .inl t_images_0_house_paces)), (A_t_images_0_sights, .inr (5, [.int t_images_0_sights_size, .ref A_t_images_0_sights_monks, .ref A_t_images_0_sights_breaths, .ref A_t_images_0_sights_bowed])), (A_t_images_0_sights_monks, .inl (ty.1, 8, .inl t_images_0_sights_monks)), (A_t_images_0_sights_breaths, .inl (ty.1, 8, .inl t_images_0_sights_breaths)), (A_t_images_0_sights_bowed, .inl (ty.2.2.1, 8, .inl t_images_0_sights_bowed)), (A_t_images_1, .inr (2, [.int t_images_1_isKept, .ref A_t_images_1_house, .ref A_t_images_1_sights])), (A_t_images_1_house, .inr (1, [.int t_images_1_house_there, .int t_images_1_house_awake, .int t_images_1_house_start, .int t_images_1_house_sharp, .ref A_t_images_1_house_counts, .ref A_t_images_1_house_paces])), (A_t_images_1_house_counts, .inl (ty.1, 8, .inl t_images_1_house_counts)), (A_t_images_1_house_paces, .inl (ty.1, 8, .inl t_images_1_house_paces)), (A_t_images_1_sights, .inr (5, [.int t_images_1_sights_size, .ref A_t_images_1_sights_monks, .ref A_t_images_1_sights_breaths, .ref A_t_images_1_sights_bowed])), (A_t_images_1_sights_monks, .inl (ty.1, 8, .inl t_images_1_sights_monks)), (A_t_images_1_sights_breaths, .inl (ty.1, 8, .inl t_images_1_sights_breaths)), (A_t_images_1_sights_bowed, .inl (ty.2.2.1, 8, .inl t_images_1_sights_bowed))] H := hP
            have hD : va_D (va_A WC s.heap.size) [(A_t, .inr (8, [.ref A_t_house, .ref A_t_pad, .ref A_t_hours, .ref A_t_laws, .ref A_t_sights, .ref A_t_worlds, .ref A_t_trialYear, .ref A_t_images])), (A_t_house, .inr (1, [.int r47.1, .int r47.2.1, .int r47.2.2.1, .int r47.2.2.2.1, .ref A_t_house_counts, .ref A_t_house_paces])), (A_t_house_counts, .inl (ty.1, 8, .inl r47.2.2.2.2.1)), (A_t_house_paces, .inl (ty.1, 8, .inl r47.2.2.2.2.2.1)), (A_t_sights, .inr (5, [.int r47.2.2.2.2.2.2.1, .ref A_t_sights_monks, .ref A_t_sights_breaths, .ref A_t_sights_bowed])), (A_t_sights_monks, .inl (ty.1, 8, .inl r47.2.2.2.2.2.2.2.1)), (A_t_sights_breaths, .inl (ty.1, 8, .inl r47.2.2.2.2.2.2.2.2.1)), (A_t_sights_bowed, .inl (ty.2.2.1, 8, .inl r47.2.2.2.2.2.2.2.2.2)), (A_t_images, .inl (ty.2.2.2, 2, .inr (.inr (.inr (.inr (im2 A_t_images_0 A_t_images_1)))))), (A_t_images_0, .inr (2, [.int t_images_0_isKept, .ref A_t_images_0_house, .ref A_t_images_0_sights])), (A_t_images_0_house, .inr (1, [.int t_images_0_house_there, .int t_images_0_house_awake, .int t_images_0_house_start, .int t_images_0_house_sharp, .ref A_t_images_0_house_counts, .ref A_t_images_0_house_paces])), (A_t_images_0_house_counts, .inl (ty.1, 8, .inl t_images_0_house_counts)), (A_t_images_0_house_paces, .inl (ty.1, 8, .inl t_images_0_house_paces)), (A_t_images_0_sights, .inr (5, [.int t_images_0_sights_size, .ref A_t_images_0_sights_monks, .ref A_t_images_0_sights_breaths, .ref A_t_images_0_sights_bowed])), (A_t_images_0_sights_monks, .inl (ty.1, 8, .inl t_images_0_sights_monks)), (A_t_images_0_sights_breaths, .inl (ty.1, 8, .inl t_images_0_sights_breaths)), (A_t_images_0_sights_bowed, .inl (ty.2.2.1, 8, .inl t_images_0_sights_bowed)), (A_t_images_1, .inr (2, [.int t_images_1_isKept, .ref A_t_images_1_house, .ref A_t_images_1_sights])), (A_t_images_1_house, .inr (1, [.int t_images_1_house_there, .int t_images_1_house_awake, .int t_images_1_house_start, .int t_images_1_house_sharp, .ref A_t_images_1_house_counts, .ref A_t_images_1_house_paces])), (A_t_images_1_house_counts, .inl (ty.1, 8, .inl t_images_1_house_counts)), (A_t_images_1_house_paces, .inl (ty.1, 8, .inl t_images_1_house_paces)), (A_t_images_1_sights, .inr (5, [.int t_images_1_sights_size, .ref A_t_images_1_sights_monks, .ref A_t_images_1_sights_breaths, .ref A_t_images_1_sights_bowed])), (A_t_images_1_sights_monks, .inl (ty.1, 8, .inl t_images_1_sights_monks)), (A_t_images_1_sights_breaths, .inl (ty.1, 8, .inl t_images_1_sights_breaths)), (A_t_images_1_sights_bowed, .inl (ty.2.2.1, 8, .inl t_images_1_sights_bowed))] := hD
            refine lv_iconst (v := 1) hx hb dX9_restore_50 (by decide) ?_
            cases hf
            exact ret_wi hx hb hr hlocks hP hD hS dX9_restore_51
          · have hf := ff hf hc1
            cases hf
      · have hf := ft hf hc
        refine lv_bipush (v := (-3)) hx hb dX9_restore_30 (by decide) ?_
        cases hf
        exact ret_wi hx hb hr hlocks hP hD hS dX9_restore_32
    · have hf := ff hf hc0
      by_cases hc1 : a1 = 1
      · have hf := ft hf hc1
        refine va_aldq (C := "SilenceCount$Image") hx hb hK.1 hP 8 3 rfl rfl (by rw [hc1]; unfold vp_in; decide) dX9_restore_23 ?_
        refine W.eq (g2 := F0 m 24 ls [.ref A_t_images_1]) (by rw [hc1] <;> rfl) ?_
        refine va_get (D := D) (ci := 2) (v := .int t_images_1_isKept) (C := RX3) (T := TX3) (N := 3) hx hb hts wX9_restore_X3 hown hK.1 hP 17 rfl rfl 0 (by decide) (hts _ mX9_restore_f255) (fun _ h9 => h9) rfl dX9_restore_24 ?_
        refine lv_if_ne (tgt := 33) hx hb dX9_restore_27 (by decide) (fun hc => ?_) (fun hc => ?_)
        · have hf := ff hf hc
          refine lv_aload_n hx hb dX9_restore_33 rfl (lv_at hl 0 rfl) ?_
          refine va_get (D := D) (ci := 8) (v := .ref A_t_images) (C := RX9) (T := TX9) (N := 8) hx hb hts wX9_restore_X9 hown hK.1 hP 0 rfl rfl 7 (by decide) (hts _ mX9_restore_f61) (fun _ h9 => h9) rfl dX9_restore_34 ?_
          refine lv_iload_n hx hb dX9_restore_37 rfl (lv_at hl 1 rfl) ?_
          by_cases hc0 : a1 = 0
          · have hf := ft hf hc0
            refine va_aldq (C := "SilenceCount$Image") hx hb hK.1 hP 8 3 rfl rfl (by rw [hc0]; unfold vp_in; decide) dX9_restore_38 ?_
            refine W.eq (g2 := F0 m 39 ls [.ref A_t_images_0]) (by rw [hc0] <;> rfl) ?_
            refine lv_aload_n hx hb dX9_restore_39 rfl (lv_at hl 0 rfl) ?_
            refine va_get (D := D) (ci := 8) (v := .ref A_t_house) (C := RX9) (T := TX9) (N := 8) hx hb hts wX9_restore_X9 hown hK.1 hP 0 rfl rfl 0 (by decide) (hts _ mX9_restore_f10) (fun _ h9 => h9) rfl dX9_restore_40 ?_
            refine lv_aload_n hx hb dX9_restore_43 rfl (lv_at hl 0 rfl) ?_
            refine va_get (D := D) (ci := 8) (v := .ref A_t_sights) (C := RX9) (T := TX9) (N := 8) hx hb hts wX9_restore_X9 hown hK.1 hP 0 rfl rfl 4 (by decide) (hts _ mX9_restore_f40) (fun _ h9 => h9) rfl dX9_restore_44 ?_
            obtain ⟨r47, hr47, hf⟩ := bnd hf
            refine callV_wv (As := [.ref A_t_house, .ref A_t_sights]) (rest := []) ⟨hx, hb, hml, hown, hts⟩ (CX3_giveBack l hr47) (cwV 2 hts gX9_restore_X3_giveBack rfl rfl rfl kkX3_giveBack ⟨Nat.le_of_ble_eq_true rfl, Nat.le_of_ble_eq_true rfl⟩) hK hP hD hS (fun _ h => Or.inr h) [9, 10, 11, 12, 13, 14, 15, 16, 1, 2, 3, 4, 5, 6, 7] [0, 8, 17, 18, 19, 20, 21, 22, 23, 24] [0, 18, 19, 20, 21, 22, 23, 24, 1, 10, 11, 12, 13, 14, 15, 16, 17, 2, 3, 4, 5, 6, 7, 8, 9] rfl (by decide) (by decide) rfl rfl 0 rfl rfl rfl hl.1 rfl (Nat.le_of_ble_eq_true rfl) dX9_restore_47 ⟨Nat.zero_le _, Nat.zero_le _⟩ (fun H locs hP hD hS => ?_)
            have hP : va_P D vwCl [(A_t, .inr (8, [.ref A_t_house, .ref A_t_pad, .ref A_t_hours, .ref A_t_laws, .ref A_t_sights, .ref A_t_worlds, .ref A_t_trialYear, .ref A_t_images])), (A_t_house, .inr (1, [.int r47.1, .int r47.2.1, .int r47.2.2.1, .int r47.2.2.2.1, .ref A_t_house_counts, .ref A_t_house_paces])), (A_t_house_counts, .inl (ty.1, 8, .inl r47.2.2.2.2.1)), (A_t_house_paces, .inl (ty.1, 8, .inl r47.2.2.2.2.2.1)), (A_t_sights, .inr (5, [.int r47.2.2.2.2.2.2.1, .ref A_t_sights_monks, .ref A_t_sights_breaths, .ref A_t_sights_bowed])), (A_t_sights_monks, .inl (ty.1, 8, .inl r47.2.2.2.2.2.2.2.1)), (A_t_sights_breaths, .inl (ty.1, 8, .inl r47.2.2.2.2.2.2.2.2.1)), (A_t_sights_bowed, .inl (ty.2.2.1, 8, .inl r47.2.2.2.2.2.2.2.2.2)), (A_t_images, .inl (ty.2.2.2, 2, .inr (.inr (.inr (.inr (im2 A_t_images_0 A_t_images_1)))))), (A_t_images_0, .inr (2, [.int t_images_0_isKept, .ref A_t_images_0_house, .ref A_t_images_0_sights])), (A_t_images_0_house, .inr (1, [.int t_images_0_house_there, .int t_images_0_house_awake, .int t_images_0_house_start, .int t_images_0_house_sharp, .ref A_t_images_0_house_counts, .ref A_t_images_0_house_paces])), (A_t_images_0_house_counts, .inl (ty.1, 8, .inl t_images_0_house_counts)), (A_t_images_0_house_paces, .inl (ty.1, 8, .inl t_images_0_house_paces)), (A_t_images_0_sights, .inr (5, [.int t_images_0_sights_size, .ref A_t_images_0_sights_monks, .ref A_t_images_0_sights_breaths, .ref A_t_images_0_sights_bowed])), (A_t_images_0_sights_monks, .inl (ty.1, 8, .inl t_images_0_sights_monks)), (A_t_images_0_sights_breaths, .inl (ty.1, 8, .inl t_images_0_sights_breaths)), (A_t_images_0_sights_bowed, .inl (ty.2.2.1, 8, .inl t_images_0_sights_bowed)), (A_t_images_1, .inr (2, [.int t_images_1_isKept, .ref A_t_images_1_house, .ref A_t_images_1_sights])), (A_t_images_1_house, .inr (1, [.int t_images_1_house_there, .int t_images_1_house_awake, .int t_images_1_house_start, .int t_images_1_house_sharp, .ref A_t_images_1_house_counts, .ref A_t_images_1_house_paces])), (A_t_images_1_house_counts, .inl (ty.1, 8, .inl t_images_1_house_counts)), (A_t_images_1_house_paces, .inl (ty.1, 8, .inl t_images_1_house_paces)), (A_t_images_1_sights, .inr (5, [.int t_images_1_sights_size, .ref A_t_images_1_sights_monks, .ref A_t_images_1_sights_breaths, .ref A_t_images_1_sights_bowed])), (A_t_images_1_sights_monks, .inl (ty.1, 8, .inl t_images_1_sights_monks)), (A_t_images_1_sights_breaths, .inl (ty.1, 8, .inl t_images_1_sights_breaths)), (A_t_images_1_sights_bowed, .inl (ty.2.2.1, 8, .inl t_images_1_sights_bowed))] H := hP
            have hD : va_D (va_A WC s.heap.size) [(A_t, .inr (8, [.ref A_t_house, .ref A_t_pad, .ref A_t_hours, .ref A_t_laws, .ref A_t_sights, .ref A_t_worlds, .ref A_t_trialYear, .ref A_t_images])), (A_t_house, .inr (1, [.int r47.1, .int r47.2.1, .int r47.2.2.1, .int r47.2.2.2.1, .ref A_t_house_counts, .ref A_t_house_paces])), (A_t_house_counts, .inl (ty.1, 8, .inl r47.2.2.2.2.1)), (A_t_house_paces, .inl (ty.1, 8, .inl r47.2.2.2.2.2.1)), (A_t_sights, .inr (5, [.int r47.2.2.2.2.2.2.1, .ref A_t_sights_monks, .ref A_t_sights_breaths, .ref A_t_sights_bowed])), (A_t_sights_monks, .inl (ty.1, 8, .inl r47.2.2.2.2.2.2.2.1)), (A_t_sights_breaths, .inl (ty.1, 8, .inl r47.2.2.2.2.2.2.2.2.1)), (A_t_sights_bowed, .inl (ty.2.2.1, 8, .inl r47.2.2.2.2.2.2.2.2.2)), (A_t_images, .inl (ty.2.2.2, 2, .inr (.inr (.inr (.inr (im2 A_t_images_0 A_t_images_1)))))), (A_t_images_0, .inr (2, [.int t_images_0_isKept, .ref A_t_images_0_house, .ref A_t_images_0_sights])), (A_t_images_0_house, .inr (1, [.int t_images_0_house_there, .int t_images_0_house_awake, .int t_images_0_house_start, .int t_images_0_house_sharp, .ref A_t_images_0_house_counts, .ref A_t_images_0_house_paces])), (A_t_images_0_house_counts, .inl (ty.1, 8, .inl t_images_0_house_counts)), (A_t_images_0_house_paces, .inl (ty.1, 8, .inl t_images_0_house_paces)), (A_t_images_0_sights, .inr (5, [.int t_images_0_sights_size, .ref A_t_images_0_sights_monks, .ref A_t_images_0_sights_breaths, .ref A_t_images_0_sights_bowed])), (A_t_images_0_sights_monks, .inl (ty.1, 8, .inl t_images_0_sights_monks)), (A_t_images_0_sights_breaths, .inl (ty.1, 8, .inl t_images_0_sights_breaths)), (A_t_images_0_sights_bowed, .inl (ty.2.2.1, 8, .inl t_images_0_sights_bowed)), (A_t_images_1, .inr (2, [.int t_images_1_isKept, .ref A_t_images_1_house, .ref A_t_images_1_sights])), (A_t_images_1_house, .inr (1, [.int t_images_1_house_there, .int t_images_1_house_awake, .int t_images_1_house_start, .int t_images_1_house_sharp, .ref A_t_images_1_house_counts, .ref A_t_images_1_house_paces])), (A_t_images_1_house_counts, .inl (ty.1, 8, .inl t_images_1_house_counts)), (A_t_images_1_house_paces, .inl (ty.1, 8, .inl t_images_1_house_paces)), (A_t_images_1_sights, .inr (5, [.int t_images_1_sights_size, .ref A_t_images_1_sights_monks, .ref A_t_images_1_sights_breaths, .ref A_t_images_1_sights_bowed])), (A_t_images_1_sights_monks, .inl (ty.1, 8, .inl t_images_1_sights_monks)), (A_t_images_1_sights_breaths, .inl (ty.1, 8, .inl t_images_1_sights_breaths)), (A_t_images_1_sights_bowed, .inl (ty.2.2.1, 8, .inl t_images_1_sights_bowed))] := hD
            refine lv_iconst (v := 1) hx hb dX9_restore_50 (by decide) ?_
            cases hf
            exact ret_wi hx hb hr hlocks hP hD hS dX9_restore_51
          · have hf := ff hf hc0
            by_cases hc1 : a1 = 1
            · have hf := ft hf hc1
              refine va_aldq (C := "SilenceCount$Image") hx hb hK.1 hP 8 3 rfl rfl (by rw [hc1]; unfold vp_in; decide) dX9_restore_38 ?_
              refine W.eq (g2 := F0 m 39 ls [.ref A_t_images_1]) (by rw [hc1] <;> rfl) ?_
              refine lv_aload_n hx hb dX9_restore_39 rfl (lv_at hl 0 rfl) ?_
              refine va_get (D := D) (ci := 8) (v := .ref A_t_house) (C := RX9) (T := TX9) (N := 8) hx hb hts wX9_restore_X9 hown hK.1 hP 0 rfl rfl 0 (by decide) (hts _ mX9_restore_f10) (fun _ h9 => h9) rfl dX9_restore_40 ?_
              refine lv_aload_n hx hb dX9_restore_43 rfl (lv_at hl 0 rfl) ?_
              refine va_get (D := D) (ci := 8) (v := .ref A_t_sights) (C := RX9) (T := TX9) (N := 8) hx hb hts wX9_restore_X9 hown hK.1 hP 0 rfl rfl 4 (by decide) (hts _ mX9_restore_f40) (fun _ h9 => h9) rfl dX9_restore_44 ?_
              obtain ⟨r47, hr47, hf⟩ := bnd hf
              refine callV_wv (As := [.ref A_t_house, .ref A_t_sights]) (rest := []) ⟨hx, hb, hml, hown, hts⟩ (CX3_giveBack l hr47) (cwV 2 hts gX9_restore_X3_giveBack rfl rfl rfl kkX3_giveBack ⟨Nat.le_of_ble_eq_true rfl, Nat.le_of_ble_eq_true rfl⟩) hK hP hD hS (fun _ h => Or.inr h) [17, 18, 19, 20, 21, 22, 23, 24, 1, 2, 3, 4, 5, 6, 7] [0, 8, 9, 10, 11, 12, 13, 14, 15, 16] [0, 18, 19, 20, 21, 22, 23, 24, 1, 2, 3, 4, 5, 6, 7, 8, 9, 10, 11, 12, 13, 14, 15, 16, 17] rfl (by decide) (by decide) rfl rfl 0 rfl rfl rfl hl.1 rfl (Nat.le_of_ble_eq_true rfl) dX9_restore_47 ⟨Nat.zero_le _, Nat.zero_le _⟩ (fun H locs hP hD hS => ?_)
              have hP : va_P D vwCl [(A_t, .inr (8, [.ref A_t_house, .ref A_t_pad, .ref A_t_hours, .ref A_t_laws, .ref A_t_sights, .ref A_t_worlds, .ref A_t_trialYear, .ref A_t_images])), (A_t_house, .inr (1, [.int r47.1, .int r47.2.1, .int r47.2.2.1, .int r47.2.2.2.1, .ref A_t_house_counts, .ref A_t_house_paces])), (A_t_house_counts, .inl (ty.1, 8, .inl r47.2.2.2.2.1)), (A_t_house_paces, .inl (ty.1, 8, .inl r47.2.2.2.2.2.1)), (A_t_sights, .inr (5, [.int r47.2.2.2.2.2.2.1, .ref A_t_sights_monks, .ref A_t_sights_breaths, .ref A_t_sights_bowed])), (A_t_sights_monks, .inl (ty.1, 8, .inl r47.2.2.2.2.2.2.2.1)), (A_t_sights_breaths, .inl (ty.1, 8, .inl r47.2.2.2.2.2.2.2.2.1)), (A_t_sights_bowed, .inl (ty.2.2.1, 8, .inl r47.2.2.2.2.2.2.2.2.2)), (A_t_images, .inl (ty.2.2.2, 2, .inr (.inr (.inr (.inr (im2 A_t_images_0 A_t_images_1)))))), (A_t_images_0, .inr (2, [.int t_images_0_isKept, .ref A_t_images_0_house, .ref A_t_images_0_sights])), (A_t_images_0_house, .inr (1, [.int t_images_0_house_there, .int t_images_0_house_awake, .int t_images_0_house_start, .int t_images_0_house_sharp, .ref A_t_images_0_house_counts, .ref A_t_images_0_house_paces])), (A_t_images_0_house_counts, .inl (ty.1, 8, .inl t_images_0_house_counts)), (A_t_images_0_house_paces, .inl (ty.1, 8, .inl t_images_0_house_paces)), (A_t_images_0_sights, .inr (5, [.int t_images_0_sights_size, .ref A_t_images_0_sights_monks, .ref A_t_images_0_sights_breaths, .ref A_t_images_0_sights_bowed])), (A_t_images_0_sights_monks, .inl (ty.1, 8, .inl t_images_0_sights_monks)), (A_t_images_0_sights_breaths, .inl (ty.1, 8, .inl t_images_0_sights_breaths)), (A_t_images_0_sights_bowed, .inl (ty.2.2.1, 8, .inl t_images_0_sights_bowed)), (A_t_images_1, .inr (2, [.int t_images_1_isKept, .ref A_t_images_1_house, .ref A_t_images_1_sights])), (A_t_images_1_house, .inr (1, [.int t_images_1_house_there, .int t_images_1_house_awake, .int t_images_1_house_start, .int t_images_1_house_sharp, .ref A_t_images_1_house_counts, .ref A_t_images_1_house_paces])), (A_t_images_1_house_counts, .inl (ty.1, 8, .inl t_images_1_house_counts)), (A_t_images_1_house_paces, .inl (ty.1, 8, .inl t_images_1_house_paces)), (A_t_images_1_sights, .inr (5, [.int t_images_1_sights_size, .ref A_t_images_1_sights_monks, .ref A_t_images_1_sights_breaths, .ref A_t_images_1_sights_bowed])), (A_t_images_1_sights_monks, .inl (ty.1, 8, .inl t_images_1_sights_monks)), (A_t_images_1_sights_breaths, .inl (ty.1, 8, .inl t_images_1_sights_breaths)), (A_t_images_1_sights_bowed, .inl (ty.2.2.1, 8, .inl t_images_1_sights_bowed))] H := hP
              have hD : va_D (va_A WC s.heap.size) [(A_t, .inr (8, [.ref A_t_house, .ref A_t_pad, .ref A_t_hours, .ref A_t_laws, .ref A_t_sights, .ref A_t_worlds, .ref A_t_trialYear, .ref A_t_images])), (A_t_house, .inr (1, [.int r47.1, .int r47.2.1, .int r47.2.2.1, .int r47.2.2.2.1, .ref A_t_house_counts, .ref A_t_house_paces])), (A_t_house_counts, .inl (ty.1, 8, .inl r47.2.2.2.2.1)), (A_t_house_paces, .inl (ty.1, 8, .inl r47.2.2.2.2.2.1)), (A_t_sights, .inr (5, [.int r47.2.2.2.2.2.2.1, .ref A_t_sights_monks, .ref A_t_sights_breaths, .ref A_t_sights_bowed])), (A_t_sights_monks, .inl (ty.1, 8, .inl r47.2.2.2.2.2.2.2.1)), (A_t_sights_breaths, .inl (ty.1, 8, .inl r47.2.2.2.2.2.2.2.2.1)), (A_t_sights_bowed, .inl (ty.2.2.1, 8, .inl r47.2.2.2.2.2.2.2.2.2)), (A_t_images, .inl (ty.2.2.2, 2, .inr (.inr (.inr (.inr (im2 A_t_images_0 A_t_images_1)))))), (A_t_images_0, .inr (2, [.int t_images_0_isKept, .ref A_t_images_0_house, .ref A_t_images_0_sights])), (A_t_images_0_house, .inr (1, [.int t_images_0_house_there, .int t_images_0_house_awake, .int t_images_0_house_start, .int t_images_0_house_sharp, .ref A_t_images_0_house_counts, .ref A_t_images_0_house_paces])), (A_t_images_0_house_counts, .inl (ty.1, 8, .inl t_images_0_house_counts)), (A_t_images_0_house_paces, .inl (ty.1, 8, .inl t_images_0_house_paces)), (A_t_images_0_sights, .inr (5, [.int t_images_0_sights_size, .ref A_t_images_0_sights_monks, .ref A_t_images_0_sights_breaths, .ref A_t_images_0_sights_bowed])), (A_t_images_0_sights_monks, .inl (ty.1, 8, .inl t_images_0_sights_monks)), (A_t_images_0_sights_breaths, .inl (ty.1, 8, .inl t_images_0_sights_breaths)), (A_t_images_0_sights_bowed, .inl (ty.2.2.1, 8, .inl t_images_0_sights_bowed)), (A_t_images_1, .inr (2, [.int t_images_1_isKept, .ref A_t_images_1_house, .ref A_t_images_1_sights])), (A_t_images_1_house, .inr (1, [.int t_images_1_house_there, .int t_images_1_house_awake, .int t_images_1_house_start, .int t_images_1_house_sharp, .ref A_t_images_1_house_counts, .ref A_t_images_1_house_paces])), (A_t_images_1_house_counts, .inl (ty.1, 8, .inl t_images_1_house_counts)), (A_t_images_1_house_paces, .inl (ty.1, 8, .inl t_images_1_house_paces)), (A_t_images_1_sights, .inr (5, [.int t_images_1_sights_size, .ref A_t_images_1_sights_monks, .ref A_t_images_1_sights_breaths, .ref A_t_images_1_sights_bowed])), (A_t_images_1_sights_monks, .inl (ty.1, 8, .inl t_images_1_sights_monks)), (A_t_images_1_sights_breaths, .inl (ty.1, 8, .inl t_images_1_sights_breaths)), (A_t_images_1_sights_bowed, .inl (ty.2.2.1, 8, .inl t_images_1_sights_bowed))] := hD
              refine lv_iconst (v := 1) hx hb dX9_restore_50 (by decide) ?_
              cases hf
              exact ret_wi hx hb hr hlocks hP hD hS dX9_restore_51
            · have hf := ff hf hc1
              cases hf
        · have hf := ft hf hc
          refine lv_bipush (v := (-3)) hx hb dX9_restore_30 (by decide) ?_
          cases hf
          exact ret_wi hx hb hr hlocks hP hD hS dX9_restore_32
      · have hf := ff hf hc1
        cases hf
  · have hf := ft hf hc
    refine lv_bipush (v := (-2)) hx hb dX9_restore_15 (by decide) ?_
    cases hf
    exact ret_wi hx hb hr hlocks hP hD hS dX9_restore_17
/-! ===== SilenceCount.say(I)I ===== -/
abbrev rmX9_say : Room := { frames := 1, cells := 0, slots := 0, locals := 22 }
theorem kkX9_say : yX9_say.cls = RX9 ∧ yX9_say.cls ≠ "java/lang/invoke/MethodHandle" ∧ yX9_say.cls ≠ "java/lang/invoke/VarHandle" ∧ (parseMethodDescriptor yX9_say.desc).map (fun d => d.parameters.length) = some 1 := by decide +kernel
theorem mX9_say_f19 : Cond.fieldLink RX9 19 "SilenceCount" "pad" "LSilenceCount$Pad;" ∈ wsX9_say := by decide +kernel
theorem mX9_say_f113 : Cond.fieldLink RX9 113 "SilenceCount$Pad" "size" "I" ∈ wsX9_say := by decide +kernel
theorem wX9_say_X5 : ∀ w ∈ u_ws RX5 TX5 5, w ∈ wsX9_say := by decide +kernel
theorem wX9_say_X9 : ∀ w ∈ u_ws RX9 TX9 8, w ∈ wsX9_say := by decide +kernel
def fX9_say (t_pad_size : Int32) (t_pad_signs : Nat → Int32) (a1 : Int32) : Option (Int32 × Int32 × (Nat → Int32)) :=
  (fX9_isWithin a1 33 126).bind fun r5 => if r5 = 0 then some ((-2), t_pad_size, t_pad_signs) else (fX5_add t_pad_size t_pad_signs a1).bind fun r19 => if r19.1 = 0 then some ((-4), r19.2.1, r19.2.2) else some (r19.2.1, r19.2.1, r19.2.2)
set_option maxRecDepth 100000 in
set_option maxHeartbeats 4000000 in
theorem CX9_say (l : Launch) {D : va_G} {ty : TY} {A_t A_t_house A_t_hours A_t_laws A_t_sights A_t_worlds A_t_trialYear A_t_images A_t_pad A_t_pad_signs A_t_pad_actMonks A_t_pad_actSigns : Nat} {t_pad_size : Int32} {t_pad_acts : Int32} {t_pad_signs : Nat → Int32} {t_pad_actMonks : Nat → Int32} {t_pad_actSigns : Nat → Int32} {a1 : Int32} {q0 : Int32 × Int32 × (Nat → Int32)} (hf : fX9_say t_pad_size t_pad_signs a1 = some q0) : RWi l yX9_say wsX9_say rmX9_say D ty [.ref A_t, .int a1] [(A_t, .inr (8, [.ref A_t_house, .ref A_t_pad, .ref A_t_hours, .ref A_t_laws, .ref A_t_sights, .ref A_t_worlds, .ref A_t_trialYear, .ref A_t_images])), (A_t_pad, .inr (4, [.int t_pad_size, .ref A_t_pad_signs, .int t_pad_acts, .ref A_t_pad_actMonks, .ref A_t_pad_actSigns])), (A_t_pad_signs, .inl (ty.1, 60, .inl t_pad_signs)), (A_t_pad_actMonks, .inl (ty.1, 60, .inl t_pad_actMonks)), (A_t_pad_actSigns, .inl (ty.1, 60, .inl t_pad_actSigns))] q0.1 [(A_t, .inr (8, [.ref A_t_house, .ref A_t_pad, .ref A_t_hours, .ref A_t_laws, .ref A_t_sights, .ref A_t_worlds, .ref A_t_trialYear, .ref A_t_images])), (A_t_pad, .inr (4, [.int q0.2.1, .ref A_t_pad_signs, .int t_pad_acts, .ref A_t_pad_actMonks, .ref A_t_pad_actSigns])), (A_t_pad_signs, .inl (ty.1, 60, .inl q0.2.2)), (A_t_pad_actMonks, .inl (ty.1, 60, .inl t_pad_actMonks)), (A_t_pad_actSigns, .inl (ty.1, 60, .inl t_pad_actSigns))] := by
  refine RWi.start (cc := cX9_say) (maxL := 2) (ret := (some .int)) (own := RX9) (by decide) rfl rfl (Nat.le_of_ble_eq_true rfl) ?_
  intro p e s m below meth c ls C hK hP hD hS hl
  obtain ⟨WC, hWC⟩ : ∃ w : va_W, w = [(A_t, .inr (8, [.ref A_t_house, .ref A_t_pad, .ref A_t_hours, .ref A_t_laws, .ref A_t_sights, .ref A_t_worlds, .ref A_t_trialYear, .ref A_t_images])), (A_t_pad, .inr (4, [.int t_pad_size, .ref A_t_pad_signs, .int t_pad_acts, .ref A_t_pad_actMonks, .ref A_t_pad_actSigns])), (A_t_pad_signs, .inl (ty.1, 60, .inl t_pad_signs)), (A_t_pad_actMonks, .inl (ty.1, 60, .inl t_pad_actMonks)), (A_t_pad_actSigns, .inl (ty.1, 60, .inl t_pad_actSigns))] := ⟨_, rfl⟩
  rw [← hWC] at hD hS ⊢
  have hD : va_D (va_A WC s.heap.size) [(A_t, .inr (8, [.ref A_t_house, .ref A_t_pad, .ref A_t_hours, .ref A_t_laws, .ref A_t_sights, .ref A_t_worlds, .ref A_t_trialYear, .ref A_t_images])), (A_t_pad, .inr (4, [.int t_pad_size, .ref A_t_pad_signs, .int t_pad_acts, .ref A_t_pad_actMonks, .ref A_t_pad_actSigns])), (A_t_pad_signs, .inl (ty.1, 60, .inl t_pad_signs)), (A_t_pad_actMonks, .inl (ty.1, 60, .inl t_pad_actMonks)), (A_t_pad_actSigns, .inl (ty.1, 60, .inl t_pad_actSigns))] := by rw [← hWC]; exact hD
  obtain ⟨hx, hb, hr, hml, hown, hts, hlocks⟩ := id C
  have hl : lv_has ls 2 [(0, .ref A_t), (1, .int a1)] := hl
  unfold fX9_say at hf
  refine lv_iload_n hx hb dX9_say_0 rfl (lv_at hl 1 rfl) ?_
  refine lv_bipush (v := 33) hx hb dX9_say_1 (by decide) ?_
  refine lv_bipush (v := 126) hx hb dX9_say_3 (by decide) ?_
  obtain ⟨r5, hr5, hf⟩ := bnd hf
  have hPc : va_P D vwCl [] _ := hP.sub [] rfl
  refine callS_ri (As := [.int a1, .int 33, .int 126]) (rest := []) ⟨hx, hb, hml, hown, hts⟩ (CX9_isWithin l hr5) (va_cwS 3 hts gX9_say_X9_isWithin rfl rfl rfl kkX9_isWithin.2 ⟨Nat.le_of_ble_eq_true rfl, Nat.le_of_ble_eq_true rfl⟩) hK hPc hl.1 rfl (Nat.le_of_ble_eq_true rfl) dX9_say_5 ⟨Nat.zero_le _, Nat.zero_le _⟩ ?_
  refine lv_if_ne (tgt := 14) hx hb dX9_say_8 (by decide) (fun hc => ?_) (fun hc => ?_)
  · have hf := ff hf hc
    refine lv_aload_n hx hb dX9_say_14 rfl (lv_at hl 0 rfl) ?_
    refine va_get (D := D) (ci := 8) (v := .ref A_t_pad) (C := RX9) (T := TX9) (N := 8) hx hb hts wX9_say_X9 hown hK.1 hP 0 rfl rfl 1 (by decide) (hts _ mX9_say_f19) (fun _ h9 => h9) rfl dX9_say_15 ?_
    refine lv_iload_n hx hb dX9_say_18 rfl (lv_at hl 1 rfl) ?_
    obtain ⟨r19, hr19, hf⟩ := bnd hf
    refine callV_wi (As := [.int a1]) (rest := []) ⟨hx, hb, hml, hown, hts⟩ (CX5_add l hr19) (cwV 1 hts gX9_say_X5_add rfl rfl rfl kkX5_add ⟨Nat.le_of_ble_eq_true rfl, Nat.le_of_ble_eq_true rfl⟩) hK hP hD hS (fun _ h => Or.inr h) [1, 2, 3, 4] [0] [0, 1, 2, 3, 4] rfl (by decide) (by decide) rfl rfl 0 rfl rfl rfl hl.1 rfl (Nat.le_of_ble_eq_true rfl) dX9_say_19 ⟨Nat.zero_le _, Nat.zero_le _⟩ (fun H locs hP hD hS => ?_)
    have hP : va_P D vwCl [(A_t, .inr (8, [.ref A_t_house, .ref A_t_pad, .ref A_t_hours, .ref A_t_laws, .ref A_t_sights, .ref A_t_worlds, .ref A_t_trialYear, .ref A_t_images])), (A_t_pad, .inr (4, [.int r19.2.1, .ref A_t_pad_signs, .int t_pad_acts, .ref A_t_pad_actMonks, .ref A_t_pad_actSigns])), (A_t_pad_signs, .inl (ty.1, 60, .inl r19.2.2)), (A_t_pad_actMonks, .inl (ty.1, 60, .inl t_pad_actMonks)), (A_t_pad_actSigns, .inl (ty.1, 60, .inl t_pad_actSigns))] H := hP
    have hD : va_D (va_A WC s.heap.size) [(A_t, .inr (8, [.ref A_t_house, .ref A_t_pad, .ref A_t_hours, .ref A_t_laws, .ref A_t_sights, .ref A_t_worlds, .ref A_t_trialYear, .ref A_t_images])), (A_t_pad, .inr (4, [.int r19.2.1, .ref A_t_pad_signs, .int t_pad_acts, .ref A_t_pad_actMonks, .ref A_t_pad_actSigns])), (A_t_pad_signs, .inl (ty.1, 60, .inl r19.2.2)), (A_t_pad_actMonks, .inl (ty.1, 60, .inl t_pad_actMonks)), (A_t_pad_actSigns, .inl (ty.1, 60, .inl t_pad_actSigns))] := hD
    refine lv_if_eq (tgt := 35) hx hb dX9_say_22 (by decide) (fun hc => ?_) (fun hc => ?_)
    · have hf := ft hf hc
      refine lv_bipush (v := (-4)) hx hb dX9_say_35 (by decide) ?_
      cases hf
      exact ret_wi hx hb hr hlocks hP hD hS dX9_say_37
    · have hf := ff hf hc
      refine lv_aload_n hx hb dX9_say_25 rfl (lv_at hl 0 rfl) ?_
      refine va_get (D := D) (ci := 8) (v := .ref A_t_pad) (C := RX9) (T := TX9) (N := 8) hx hb hts wX9_say_X9 hown hK.1 hP 0 rfl rfl 1 (by decide) (hts _ mX9_say_f19) (fun _ h9 => h9) rfl dX9_say_26 ?_
      refine va_get (D := D) (ci := 4) (v := .int r19.2.1) (C := RX5) (T := TX5) (N := 5) hx hb hts wX9_say_X5 hown hK.1 hP 1 rfl rfl 0 (by decide) (hts _ mX9_say_f113) (fun _ h9 => h9) rfl dX9_say_29 ?_
      refine lv_goto (tgt := 37) hx hb dX9_say_32 (by decide) ?_
      cases hf
      exact ret_wi hx hb hr hlocks hP hD hS dX9_say_37
  · have hf := ft hf hc
    refine lv_bipush (v := (-2)) hx hb dX9_say_11 (by decide) ?_
    cases hf
    exact ret_wi hx hb hr hlocks hP hD hS dX9_say_13
/-! ===== SilenceCount.seen(IIZ)I ===== -/
abbrev rmX9_seen : Room := { frames := 1, cells := 0, slots := 0, locals := 23 }
theorem kkX9_seen : yX9_seen.cls = RX9 ∧ yX9_seen.cls ≠ "java/lang/invoke/MethodHandle" ∧ yX9_seen.cls ≠ "java/lang/invoke/VarHandle" ∧ (parseMethodDescriptor yX9_seen.desc).map (fun d => d.parameters.length) = some 3 := by decide +kernel
theorem mX9_seen_f10 : Cond.fieldLink RX9 10 "SilenceCount" "house" "LSilenceCount$House;" ∈ wsX9_seen := by decide +kernel
theorem mX9_seen_f40 : Cond.fieldLink RX9 40 "SilenceCount" "sights" "LSilenceCount$Sights;" ∈ wsX9_seen := by decide +kernel
theorem mX9_seen_f206 : Cond.fieldLink RX9 206 "SilenceCount$Sights" "size" "I" ∈ wsX9_seen := by decide +kernel
theorem wX9_seen_X6 : ∀ w ∈ u_ws RX6 TX6 4, w ∈ wsX9_seen := by decide +kernel
theorem wX9_seen_X9 : ∀ w ∈ u_ws RX9 TX9 8, w ∈ wsX9_seen := by decide +kernel
def fX9_seen (t_house_there : Int32) (t_sights_size : Int32) (t_sights_monks : Nat → Int32) (t_sights_breaths : Nat → Int32) (t_sights_bowed : Nat → Int32) (a1 : Int32) (a2 : Int32) (a3 : Int32) : Option (Int32 × Int32 × (Nat → Int32) × (Nat → Int32) × (Nat → Int32)) :=
  (fX2_isThere t_house_there a1).bind fun r5 => if r5 = 0 then some ((-1), t_sights_size, t_sights_monks, t_sights_breaths, t_sights_bowed) else (fX9_isWithin a2 0 99).bind fun r17 => if r17 = 0 then some ((-2), t_sights_size, t_sights_monks, t_sights_breaths, t_sights_bowed) else (fX6_add t_sights_size t_sights_monks t_sights_breaths t_sights_bowed a1 a2 a3).bind fun r33 => if r33.1 = 0 then some ((-4), r33.2.1, r33.2.2.1, r33.2.2.2.1, r33.2.2.2.2) else some (r33.2.1, r33.2.1, r33.2.2.1, r33.2.2.2.1, r33.2.2.2.2)
set_option maxRecDepth 100000 in
set_option maxHeartbeats 4000000 in
theorem CX9_seen (l : Launch) {D : va_G} {ty : TY} {A_t A_t_pad A_t_hours A_t_laws A_t_worlds A_t_trialYear A_t_images A_t_house A_t_house_counts A_t_house_paces A_t_sights A_t_sights_monks A_t_sights_breaths A_t_sights_bowed : Nat} {t_house_there : Int32} {t_house_awake : Int32} {t_house_start : Int32} {t_house_sharp : Int32} {t_house_counts : Nat → Int32} {t_house_paces : Nat → Int32} {t_sights_size : Int32} {t_sights_monks : Nat → Int32} {t_sights_breaths : Nat → Int32} {t_sights_bowed : Nat → Int32} {a1 : Int32} {a2 : Int32} {a3 : Int32} {q0 : Int32 × Int32 × (Nat → Int32) × (Nat → Int32) × (Nat → Int32)} (hf : fX9_seen t_house_there t_sights_size t_sights_monks t_sights_breaths t_sights_bowed a1 a2 a3 = some q0) : RWi l yX9_seen wsX9_seen rmX9_seen D ty [.ref A_t, .int a1, .int a2, .int a3] [(A_t, .inr (8, [.ref A_t_house, .ref A_t_pad, .ref A_t_hours, .ref A_t_laws, .ref A_t_sights, .ref A_t_worlds, .ref A_t_trialYear, .ref A_t_images])), (A_t_house, .inr (1, [.int t_house_there, .int t_house_awake, .int t_house_start, .int t_house_sharp, .ref A_t_house_counts, .ref A_t_house_paces])), (A_t_house_counts, .inl (ty.1, 8, .inl t_house_counts)), (A_t_house_paces, .inl (ty.1, 8, .inl t_house_paces)), (A_t_sights, .inr (5, [.int t_sights_size, .ref A_t_sights_monks, .ref A_t_sights_breaths, .ref A_t_sights_bowed])), (A_t_sights_monks, .inl (ty.1, 8, .inl t_sights_monks)), (A_t_sights_breaths, .inl (ty.1, 8, .inl t_sights_breaths)), (A_t_sights_bowed, .inl (ty.2.2.1, 8, .inl t_sights_bowed))] q0.1 [(A_t, .inr (8, [.ref A_t_house, .ref A_t_pad, .ref A_t_hours, .ref A_t_laws, .ref A_t_sights, .ref A_t_worlds, .ref A_t_trialYear, .ref A_t_images])), (A_t_house, .inr (1, [.int t_house_there, .int t_house_awake, .int t_house_start, .int t_house_sharp, .ref A_t_house_counts, .ref A_t_house_paces])), (A_t_house_counts, .inl (ty.1, 8, .inl t_house_counts)), (A_t_house_paces, .inl (ty.1, 8, .inl t_house_paces)), (A_t_sights, .inr (5, [.int q0.2.1, .ref A_t_sights_monks, .ref A_t_sights_breaths, .ref A_t_sights_bowed])), (A_t_sights_monks, .inl (ty.1, 8, .inl q0.2.2.1)), (A_t_sights_breaths, .inl (ty.1, 8, .inl q0.2.2.2.1)), (A_t_sights_bowed, .inl (ty.2.2.1, 8, .inl q0.2.2.2.2))] := by
  refine RWi.start (cc := cX9_seen) (maxL := 4) (ret := (some .int)) (own := RX9) (by decide) rfl rfl (Nat.le_of_ble_eq_true rfl) ?_
  intro p e s m below meth c ls C hK hP hD hS hl
  obtain ⟨WC, hWC⟩ : ∃ w : va_W, w = [(A_t, .inr (8, [.ref A_t_house, .ref A_t_pad, .ref A_t_hours, .ref A_t_laws, .ref A_t_sights, .ref A_t_worlds, .ref A_t_trialYear, .ref A_t_images])), (A_t_house, .inr (1, [.int t_house_there, .int t_house_awake, .int t_house_start, .int t_house_sharp, .ref A_t_house_counts, .ref A_t_house_paces])), (A_t_house_counts, .inl (ty.1, 8, .inl t_house_counts)), (A_t_house_paces, .inl (ty.1, 8, .inl t_house_paces)), (A_t_sights, .inr (5, [.int t_sights_size, .ref A_t_sights_monks, .ref A_t_sights_breaths, .ref A_t_sights_bowed])), (A_t_sights_monks, .inl (ty.1, 8, .inl t_sights_monks)), (A_t_sights_breaths, .inl (ty.1, 8, .inl t_sights_breaths)), (A_t_sights_bowed, .inl (ty.2.2.1, 8, .inl t_sights_bowed))] := ⟨_, rfl⟩
  rw [← hWC] at hD hS ⊢
  have hD : va_D (va_A WC s.heap.size) [(A_t, .inr (8, [.ref A_t_house, .ref A_t_pad, .ref A_t_hours, .ref A_t_laws, .ref A_t_sights, .ref A_t_worlds, .ref A_t_trialYear, .ref A_t_images])), (A_t_house, .inr (1, [.int t_house_there, .int t_house_awake, .int t_house_start, .int t_house_sharp, .ref A_t_house_counts, .ref A_t_house_paces])), (A_t_house_counts, .inl (ty.1, 8, .inl t_house_counts)), (A_t_house_paces, .inl (ty.1, 8, .inl t_house_paces)), (A_t_sights, .inr (5, [.int t_sights_size, .ref A_t_sights_monks, .ref A_t_sights_breaths, .ref A_t_sights_bowed])), (A_t_sights_monks, .inl (ty.1, 8, .inl t_sights_monks)), (A_t_sights_breaths, .inl (ty.1, 8, .inl t_sights_breaths)), (A_t_sights_bowed, .inl (ty.2.2.1, 8, .inl t_sights_bowed))] := by rw [← hWC]; exact hD
  obtain ⟨hx, hb, hr, hml, hown, hts, hlocks⟩ := id C
  have hl : lv_has ls 4 [(0, .ref A_t), (1, .int a1), (2, .int a2), (3, .int a3)] := hl
  unfold fX9_seen at hf
  refine lv_aload_n hx hb dX9_seen_0 rfl (lv_at hl 0 rfl) ?_
  refine va_get (D := D) (ci := 8) (v := .ref A_t_house) (C := RX9) (T := TX9) (N := 8) hx hb hts wX9_seen_X9 hown hK.1 hP 0 rfl rfl 0 (by decide) (hts _ mX9_seen_f10) (fun _ h9 => h9) rfl dX9_seen_1 ?_
  refine lv_iload_n hx hb dX9_seen_4 rfl (lv_at hl 1 rfl) ?_
  obtain ⟨r5, hr5, hf⟩ := bnd hf
  have hPc : va_P D vwCl [(A_t_house, .inr (1, [.int t_house_there, .int t_house_awake, .int t_house_start, .int t_house_sharp, .ref A_t_house_counts, .ref A_t_house_paces])), (A_t_house_counts, .inl (ty.1, 8, .inl t_house_counts)), (A_t_house_paces, .inl (ty.1, 8, .inl t_house_paces))] _ := hP.sub [1, 2, 3] rfl
  refine callV_ri (As := [.int a1]) (rest := []) ⟨hx, hb, hml, hown, hts⟩ (CX2_isThere l hr5) (cwV 1 hts gX9_seen_X2_isThere rfl rfl rfl kkX2_isThere ⟨Nat.le_of_ble_eq_true rfl, Nat.le_of_ble_eq_true rfl⟩) hK hPc 0 rfl rfl rfl hl.1 rfl (Nat.le_of_ble_eq_true rfl) dX9_seen_5 ⟨Nat.zero_le _, Nat.zero_le _⟩ ?_
  refine lv_if_ne (tgt := 13) hx hb dX9_seen_8 (by decide) (fun hc => ?_) (fun hc => ?_)
  · have hf := ff hf hc
    refine lv_iload_n hx hb dX9_seen_13 rfl (lv_at hl 2 rfl) ?_
    refine lv_iconst (v := 0) hx hb dX9_seen_14 (by decide) ?_
    refine lv_bipush (v := 99) hx hb dX9_seen_15 (by decide) ?_
    obtain ⟨r17, hr17, hf⟩ := bnd hf
    have hPc : va_P D vwCl [] _ := hP.sub [] rfl
    refine callS_ri (As := [.int a2, .int 0, .int 99]) (rest := []) ⟨hx, hb, hml, hown, hts⟩ (CX9_isWithin l hr17) (va_cwS 3 hts gX9_seen_X9_isWithin rfl rfl rfl kkX9_isWithin.2 ⟨Nat.le_of_ble_eq_true rfl, Nat.le_of_ble_eq_true rfl⟩) hK hPc hl.1 rfl (Nat.le_of_ble_eq_true rfl) dX9_seen_17 ⟨Nat.zero_le _, Nat.zero_le _⟩ ?_
    refine lv_if_ne (tgt := 26) hx hb dX9_seen_20 (by decide) (fun hc => ?_) (fun hc => ?_)
    · have hf := ff hf hc
      refine lv_aload_n hx hb dX9_seen_26 rfl (lv_at hl 0 rfl) ?_
      refine va_get (D := D) (ci := 8) (v := .ref A_t_sights) (C := RX9) (T := TX9) (N := 8) hx hb hts wX9_seen_X9 hown hK.1 hP 0 rfl rfl 4 (by decide) (hts _ mX9_seen_f40) (fun _ h9 => h9) rfl dX9_seen_27 ?_
      refine lv_iload_n hx hb dX9_seen_30 rfl (lv_at hl 1 rfl) ?_
      refine lv_iload_n hx hb dX9_seen_31 rfl (lv_at hl 2 rfl) ?_
      refine lv_iload_n hx hb dX9_seen_32 rfl (lv_at hl 3 rfl) ?_
      obtain ⟨r33, hr33, hf⟩ := bnd hf
      refine callV_wi (As := [.int a1, .int a2, .int a3]) (rest := []) ⟨hx, hb, hml, hown, hts⟩ (CX6_add l hr33) (cwV 3 hts gX9_seen_X6_add rfl rfl rfl kkX6_add ⟨Nat.le_of_ble_eq_true rfl, Nat.le_of_ble_eq_true rfl⟩) hK hP hD hS (fun _ h => Or.inr h) [4, 5, 6, 7] [0, 1, 2, 3] [0, 1, 2, 3, 4, 5, 6, 7] rfl (by decide) (by decide) rfl rfl 0 rfl rfl rfl hl.1 rfl (Nat.le_of_ble_eq_true rfl) dX9_seen_33 ⟨Nat.zero_le _, Nat.zero_le _⟩ (fun H locs hP hD hS => ?_)
      have hP : va_P D vwCl [(A_t, .inr (8, [.ref A_t_house, .ref A_t_pad, .ref A_t_hours, .ref A_t_laws, .ref A_t_sights, .ref A_t_worlds, .ref A_t_trialYear, .ref A_t_images])), (A_t_house, .inr (1, [.int t_house_there, .int t_house_awake, .int t_house_start, .int t_house_sharp, .ref A_t_house_counts, .ref A_t_house_paces])), (A_t_house_counts, .inl (ty.1, 8, .inl t_house_counts)), (A_t_house_paces, .inl (ty.1, 8, .inl t_house_paces)), (A_t_sights, .inr (5, [.int r33.2.1, .ref A_t_sights_monks, .ref A_t_sights_breaths, .ref A_t_sights_bowed])), (A_t_sights_monks, .inl (ty.1, 8, .inl r33.2.2.1)), (A_t_sights_breaths, .inl (ty.1, 8, .inl r33.2.2.2.1)), (A_t_sights_bowed, .inl (ty.2.2.1, 8, .inl r33.2.2.2.2))] H := hP
      have hD : va_D (va_A WC s.heap.size) [(A_t, .inr (8, [.ref A_t_house, .ref A_t_pad, .ref A_t_hours, .ref A_t_laws, .ref A_t_sights, .ref A_t_worlds, .ref A_t_trialYear, .ref A_t_images])), (A_t_house, .inr (1, [.int t_house_there, .int t_house_awake, .int t_house_start, .int t_house_sharp, .ref A_t_house_counts, .ref A_t_house_paces])), (A_t_house_counts, .inl (ty.1, 8, .inl t_house_counts)), (A_t_house_paces, .inl (ty.1, 8, .inl t_house_paces)), (A_t_sights, .inr (5, [.int r33.2.1, .ref A_t_sights_monks, .ref A_t_sights_breaths, .ref A_t_sights_bowed])), (A_t_sights_monks, .inl (ty.1, 8, .inl r33.2.2.1)), (A_t_sights_breaths, .inl (ty.1, 8, .inl r33.2.2.2.1)), (A_t_sights_bowed, .inl (ty.2.2.1, 8, .inl r33.2.2.2.2))] := hD
      refine lv_if_eq (tgt := 49) hx hb dX9_seen_36 (by decide) (fun hc => ?_) (fun hc => ?_)
      · have hf := ft hf hc
        refine lv_bipush (v := (-4)) hx hb dX9_seen_49 (by decide) ?_
        cases hf
        exact ret_wi hx hb hr hlocks hP hD hS dX9_seen_51
      · have hf := ff hf hc
        refine lv_aload_n hx hb dX9_seen_39 rfl (lv_at hl 0 rfl) ?_
        refine va_get (D := D) (ci := 8) (v := .ref A_t_sights) (C := RX9) (T := TX9) (N := 8) hx hb hts wX9_seen_X9 hown hK.1 hP 0 rfl rfl 4 (by decide) (hts _ mX9_seen_f40) (fun _ h9 => h9) rfl dX9_seen_40 ?_
        refine va_get (D := D) (ci := 5) (v := .int r33.2.1) (C := RX6) (T := TX6) (N := 4) hx hb hts wX9_seen_X6 hown hK.1 hP 4 rfl rfl 0 (by decide) (hts _ mX9_seen_f206) (fun _ h9 => h9) rfl dX9_seen_43 ?_
        refine lv_goto (tgt := 51) hx hb dX9_seen_46 (by decide) ?_
        cases hf
        exact ret_wi hx hb hr hlocks hP hD hS dX9_seen_51
    · have hf := ft hf hc
      refine lv_bipush (v := (-2)) hx hb dX9_seen_23 (by decide) ?_
      cases hf
      exact ret_wi hx hb hr hlocks hP hD hS dX9_seen_25
  · have hf := ft hf hc
    refine lv_iconst (v := (-1)) hx hb dX9_seen_11 (by decide) ?_
    cases hf
    exact ret_wi hx hb hr hlocks hP hD hS dX9_seen_12
/-! ===== SilenceCount.set(II)I ===== -/
abbrev rmX9_set : Room := { frames := 3, cells := 0, slots := 0, locals := 58 }
theorem kkX9_set : yX9_set.cls = RX9 ∧ yX9_set.cls ≠ "java/lang/invoke/MethodHandle" ∧ yX9_set.cls ≠ "java/lang/invoke/VarHandle" ∧ (parseMethodDescriptor yX9_set.desc).map (fun d => d.parameters.length) = some 2 := by decide +kernel
def fX9_set (t_house_there : Int32) (t_house_start : Int32) (t_house_sharp : Int32) (t_house_counts : Nat → Int32) (a1 : Int32) (a2 : Int32) : Option (Int32 × Int32 × Int32) :=
  if a1 = 0 then (fX9_changeStart t_house_there t_house_start t_house_counts a2).bind fun r6 => some (r6.1, r6.2, t_house_sharp) else if a1 = 1 then (fX9_changeSharp t_house_sharp a2).bind fun r17 => some (r17.1, t_house_start, r17.2) else some ((-2), t_house_start, t_house_sharp)
set_option maxRecDepth 100000 in
set_option maxHeartbeats 4000000 in
theorem CX9_set (l : Launch) {D : va_G} {ty : TY} {A_t A_t_pad A_t_hours A_t_laws A_t_sights A_t_worlds A_t_trialYear A_t_images A_t_house A_t_house_counts A_t_house_paces : Nat} {t_house_there : Int32} {t_house_awake : Int32} {t_house_start : Int32} {t_house_sharp : Int32} {t_house_counts : Nat → Int32} {t_house_paces : Nat → Int32} {a1 : Int32} {a2 : Int32} {q0 : Int32 × Int32 × Int32} (hf : fX9_set t_house_there t_house_start t_house_sharp t_house_counts a1 a2 = some q0) : RWi l yX9_set wsX9_set rmX9_set D ty [.ref A_t, .int a1, .int a2] [(A_t, .inr (8, [.ref A_t_house, .ref A_t_pad, .ref A_t_hours, .ref A_t_laws, .ref A_t_sights, .ref A_t_worlds, .ref A_t_trialYear, .ref A_t_images])), (A_t_house, .inr (1, [.int t_house_there, .int t_house_awake, .int t_house_start, .int t_house_sharp, .ref A_t_house_counts, .ref A_t_house_paces])), (A_t_house_counts, .inl (ty.1, 8, .inl t_house_counts)), (A_t_house_paces, .inl (ty.1, 8, .inl t_house_paces))] q0.1 [(A_t, .inr (8, [.ref A_t_house, .ref A_t_pad, .ref A_t_hours, .ref A_t_laws, .ref A_t_sights, .ref A_t_worlds, .ref A_t_trialYear, .ref A_t_images])), (A_t_house, .inr (1, [.int t_house_there, .int t_house_awake, .int q0.2.1, .int q0.2.2, .ref A_t_house_counts, .ref A_t_house_paces])), (A_t_house_counts, .inl (ty.1, 8, .inl t_house_counts)), (A_t_house_paces, .inl (ty.1, 8, .inl t_house_paces))] := by
  refine RWi.start (cc := cX9_set) (maxL := 3) (ret := (some .int)) (own := RX9) (by decide) rfl rfl (Nat.le_of_ble_eq_true rfl) ?_
  intro p e s m below meth c ls C hK hP hD hS hl
  obtain ⟨WC, hWC⟩ : ∃ w : va_W, w = [(A_t, .inr (8, [.ref A_t_house, .ref A_t_pad, .ref A_t_hours, .ref A_t_laws, .ref A_t_sights, .ref A_t_worlds, .ref A_t_trialYear, .ref A_t_images])), (A_t_house, .inr (1, [.int t_house_there, .int t_house_awake, .int t_house_start, .int t_house_sharp, .ref A_t_house_counts, .ref A_t_house_paces])), (A_t_house_counts, .inl (ty.1, 8, .inl t_house_counts)), (A_t_house_paces, .inl (ty.1, 8, .inl t_house_paces))] := ⟨_, rfl⟩
  rw [← hWC] at hD hS ⊢
  have hD : va_D (va_A WC s.heap.size) [(A_t, .inr (8, [.ref A_t_house, .ref A_t_pad, .ref A_t_hours, .ref A_t_laws, .ref A_t_sights, .ref A_t_worlds, .ref A_t_trialYear, .ref A_t_images])), (A_t_house, .inr (1, [.int t_house_there, .int t_house_awake, .int t_house_start, .int t_house_sharp, .ref A_t_house_counts, .ref A_t_house_paces])), (A_t_house_counts, .inl (ty.1, 8, .inl t_house_counts)), (A_t_house_paces, .inl (ty.1, 8, .inl t_house_paces))] := by rw [← hWC]; exact hD
  obtain ⟨hx, hb, hr, hml, hown, hts, hlocks⟩ := id C
  have hl : lv_has ls 3 [(0, .ref A_t), (1, .int a1), (2, .int a2)] := hl
  unfold fX9_set at hf
  refine lv_iload_n hx hb dX9_set_0 rfl (lv_at hl 1 rfl) ?_
  refine lv_if_ne (tgt := 10) hx hb dX9_set_1 (by decide) (fun hc => ?_) (fun hc => ?_)
  · have hf := ff hf hc
    refine lv_iload_n hx hb dX9_set_10 rfl (lv_at hl 1 rfl) ?_
    refine lv_iconst (v := 1) hx hb dX9_set_11 (by decide) ?_
    refine lv_icmp_ne (tgt := 23) hx hb dX9_set_12 (by decide) (fun hc => ?_) (fun hc => ?_)
    · have hf := ff hf hc
      refine lv_bipush (v := (-2)) hx hb dX9_set_23 (by decide) ?_
      cases hf
      exact ret_wi hx hb hr hlocks hP hD hS dX9_set_25
    · have hf := ft hf hc
      refine lv_aload_n hx hb dX9_set_15 rfl (lv_at hl 0 rfl) ?_
      refine lv_iload_n hx hb dX9_set_16 rfl (lv_at hl 2 rfl) ?_
      obtain ⟨r17, hr17, hf⟩ := bnd hf
      refine callV_wi (As := [.int a2]) (rest := []) ⟨hx, hb, hml, hown, hts⟩ (CX9_changeSharp l hr17) (cwV 1 hts gX9_set_X9_changeSharp rfl rfl rfl kkX9_changeSharp ⟨Nat.le_of_ble_eq_true rfl, Nat.le_of_ble_eq_true rfl⟩) hK hP hD hS (fun _ h => Or.inr h) [0, 1, 2, 3] [] [0, 1, 2, 3] rfl (by decide) (by decide) rfl rfl 0 rfl rfl rfl hl.1 rfl (Nat.le_of_ble_eq_true rfl) dX9_set_17 ⟨Nat.zero_le _, Nat.zero_le _⟩ (fun H locs hP hD hS => ?_)
      have hP : va_P D vwCl [(A_t, .inr (8, [.ref A_t_house, .ref A_t_pad, .ref A_t_hours, .ref A_t_laws, .ref A_t_sights, .ref A_t_worlds, .ref A_t_trialYear, .ref A_t_images])), (A_t_house, .inr (1, [.int t_house_there, .int t_house_awake, .int t_house_start, .int r17.2, .ref A_t_house_counts, .ref A_t_house_paces])), (A_t_house_counts, .inl (ty.1, 8, .inl t_house_counts)), (A_t_house_paces, .inl (ty.1, 8, .inl t_house_paces))] H := hP
      have hD : va_D (va_A WC s.heap.size) [(A_t, .inr (8, [.ref A_t_house, .ref A_t_pad, .ref A_t_hours, .ref A_t_laws, .ref A_t_sights, .ref A_t_worlds, .ref A_t_trialYear, .ref A_t_images])), (A_t_house, .inr (1, [.int t_house_there, .int t_house_awake, .int t_house_start, .int r17.2, .ref A_t_house_counts, .ref A_t_house_paces])), (A_t_house_counts, .inl (ty.1, 8, .inl t_house_counts)), (A_t_house_paces, .inl (ty.1, 8, .inl t_house_paces))] := hD
      refine lv_goto (tgt := 25) hx hb dX9_set_20 (by decide) ?_
      cases hf
      exact ret_wi hx hb hr hlocks hP hD hS dX9_set_25
  · have hf := ft hf hc
    refine lv_aload_n hx hb dX9_set_4 rfl (lv_at hl 0 rfl) ?_
    refine lv_iload_n hx hb dX9_set_5 rfl (lv_at hl 2 rfl) ?_
    obtain ⟨r6, hr6, hf⟩ := bnd hf
    refine callV_wi (As := [.int a2]) (rest := []) ⟨hx, hb, hml, hown, hts⟩ (CX9_changeStart l hr6) (cwV 1 hts gX9_set_X9_changeStart rfl rfl rfl kkX9_changeStart ⟨Nat.le_of_ble_eq_true rfl, Nat.le_of_ble_eq_true rfl⟩) hK hP hD hS (fun _ h => Or.inr h) [0, 1, 2, 3] [] [0, 1, 2, 3] rfl (by decide) (by decide) rfl rfl 0 rfl rfl rfl hl.1 rfl (Nat.le_of_ble_eq_true rfl) dX9_set_6 ⟨Nat.zero_le _, Nat.zero_le _⟩ (fun H locs hP hD hS => ?_)
    have hP : va_P D vwCl [(A_t, .inr (8, [.ref A_t_house, .ref A_t_pad, .ref A_t_hours, .ref A_t_laws, .ref A_t_sights, .ref A_t_worlds, .ref A_t_trialYear, .ref A_t_images])), (A_t_house, .inr (1, [.int t_house_there, .int t_house_awake, .int r6.2, .int t_house_sharp, .ref A_t_house_counts, .ref A_t_house_paces])), (A_t_house_counts, .inl (ty.1, 8, .inl t_house_counts)), (A_t_house_paces, .inl (ty.1, 8, .inl t_house_paces))] H := hP
    have hD : va_D (va_A WC s.heap.size) [(A_t, .inr (8, [.ref A_t_house, .ref A_t_pad, .ref A_t_hours, .ref A_t_laws, .ref A_t_sights, .ref A_t_worlds, .ref A_t_trialYear, .ref A_t_images])), (A_t_house, .inr (1, [.int t_house_there, .int t_house_awake, .int r6.2, .int t_house_sharp, .ref A_t_house_counts, .ref A_t_house_paces])), (A_t_house_counts, .inl (ty.1, 8, .inl t_house_counts)), (A_t_house_paces, .inl (ty.1, 8, .inl t_house_paces))] := hD
    cases hf
    exact ret_wi hx hb hr hlocks hP hD hS dX9_set_9
/-! ===== SilenceCount.skips(II)I ===== -/
abbrev rmX9_skips : Room := { frames := 6, cells := 0, slots := 0, locals := 145 }
theorem kkX9_skips : yX9_skips.cls = RX9 ∧ yX9_skips.cls ≠ "java/lang/invoke/MethodHandle" ∧ yX9_skips.cls ≠ "java/lang/invoke/VarHandle" ∧ (parseMethodDescriptor yX9_skips.desc).map (fun d => d.parameters.length) = some 2 := by decide +kernel
theorem mX9_skips_f47 : Cond.fieldLink RX9 47 "SilenceCount" "worlds" "LSilenceCount$Worlds;" ∈ wsX9_skips := by decide +kernel
theorem mX9_skips_f10 : Cond.fieldLink RX9 10 "SilenceCount" "house" "LSilenceCount$House;" ∈ wsX9_skips := by decide +kernel
theorem mX9_skips_f40 : Cond.fieldLink RX9 40 "SilenceCount" "sights" "LSilenceCount$Sights;" ∈ wsX9_skips := by decide +kernel
theorem mX9_skips_f215 : Cond.fieldLink RX9 215 "SilenceCount$Worlds" "hasNobody" "Z" ∈ wsX9_skips := by decide +kernel
theorem mX9_skips_f212 : Cond.fieldLink RX9 212 "SilenceCount$Worlds" "skippers" "I" ∈ wsX9_skips := by decide +kernel
theorem mX9_skips_f211 : Cond.fieldLink RX9 211 "SilenceCount$Worlds" "size" "I" ∈ wsX9_skips := by decide +kernel
theorem wX9_skips_X7 : ∀ w ∈ u_ws RX7 TX7 4, w ∈ wsX9_skips := by decide +kernel
theorem wX9_skips_X9 : ∀ w ∈ u_ws RX9 TX9 8, w ∈ wsX9_skips := by decide +kernel
def fX9_skips (t_house_awake : Int32) (t_house_counts : Nat → Int32) (t_house_paces : Nat → Int32) (t_sights_size : Int32) (t_sights_monks : Nat → Int32) (t_sights_breaths : Nat → Int32) (t_sights_bowed : Nat → Int32) (t_worlds_size : Int32) (t_worlds_skippers : Int32) (t_worlds_hasNobody : Int32) (t_worlds_fitting : Nat → Int32) (a1 : Int32) (a2 : Int32) : Option (Int32 × Int32 × Int32 × Int32 × (Nat → Int32)) :=
  (fX9_isLaw a1).bind fun r1 => if r1 = 0 then some ((-2), t_worlds_size, t_worlds_skippers, t_worlds_hasNobody, t_worlds_fitting) else (fX9_isWithin a2 0 2).bind fun r10 => if r10 = 0 then some ((-2), t_worlds_size, t_worlds_skippers, t_worlds_hasNobody, t_worlds_fitting) else (fX7_find t_worlds_size t_worlds_skippers t_worlds_hasNobody t_worlds_fitting t_house_awake t_house_counts t_house_paces t_sights_size t_sights_monks t_sights_breaths t_sights_bowed a1).bind fun r32 => if a2 = 0 then some (r32.1, r32.1, r32.2.1, r32.2.2.1, r32.2.2.2) else if a2 = 1 then some (r32.2.1, r32.1, r32.2.1, r32.2.2.1, r32.2.2.2) else if r32.2.2.1 = 0 then some (0, r32.1, r32.2.1, r32.2.2.1, r32.2.2.2) else some (1, r32.1, r32.2.1, r32.2.2.1, r32.2.2.2)
set_option maxRecDepth 100000 in
set_option maxHeartbeats 4000000 in
theorem CX9_skips (l : Launch) {D : va_G} {ty : TY} {A_t A_t_pad A_t_hours A_t_laws A_t_trialYear A_t_images A_t_house A_t_house_counts A_t_house_paces A_t_sights A_t_sights_monks A_t_sights_breaths A_t_sights_bowed A_t_worlds A_t_worlds_fitting : Nat} {t_house_there : Int32} {t_house_awake : Int32} {t_house_start : Int32} {t_house_sharp : Int32} {t_house_counts : Nat → Int32} {t_house_paces : Nat → Int32} {t_sights_size : Int32} {t_sights_monks : Nat → Int32} {t_sights_breaths : Nat → Int32} {t_sights_bowed : Nat → Int32} {t_worlds_size : Int32} {t_worlds_skippers : Int32} {t_worlds_hasNobody : Int32} {t_worlds_fitting : Nat → Int32} {a1 : Int32} {a2 : Int32} {q0 : Int32 × Int32 × Int32 × Int32 × (Nat → Int32)} (hf : fX9_skips t_house_awake t_house_counts t_house_paces t_sights_size t_sights_monks t_sights_breaths t_sights_bowed t_worlds_size t_worlds_skippers t_worlds_hasNobody t_worlds_fitting a1 a2 = some q0) : RWi l yX9_skips wsX9_skips rmX9_skips D ty [.ref A_t, .int a1, .int a2] [(A_t, .inr (8, [.ref A_t_house, .ref A_t_pad, .ref A_t_hours, .ref A_t_laws, .ref A_t_sights, .ref A_t_worlds, .ref A_t_trialYear, .ref A_t_images])), (A_t_house, .inr (1, [.int t_house_there, .int t_house_awake, .int t_house_start, .int t_house_sharp, .ref A_t_house_counts, .ref A_t_house_paces])), (A_t_house_counts, .inl (ty.1, 8, .inl t_house_counts)), (A_t_house_paces, .inl (ty.1, 8, .inl t_house_paces)), (A_t_sights, .inr (5, [.int t_sights_size, .ref A_t_sights_monks, .ref A_t_sights_breaths, .ref A_t_sights_bowed])), (A_t_sights_monks, .inl (ty.1, 8, .inl t_sights_monks)), (A_t_sights_breaths, .inl (ty.1, 8, .inl t_sights_breaths)), (A_t_sights_bowed, .inl (ty.2.2.1, 8, .inl t_sights_bowed)), (A_t_worlds, .inr (6, [.int t_worlds_size, .int t_worlds_skippers, .int t_worlds_hasNobody, .ref A_t_worlds_fitting])), (A_t_worlds_fitting, .inl (ty.1, 8, .inl t_worlds_fitting))] q0.1 [(A_t, .inr (8, [.ref A_t_house, .ref A_t_pad, .ref A_t_hours, .ref A_t_laws, .ref A_t_sights, .ref A_t_worlds, .ref A_t_trialYear, .ref A_t_images])), (A_t_house, .inr (1, [.int t_house_there, .int t_house_awake, .int t_house_start, .int t_house_sharp, .ref A_t_house_counts, .ref A_t_house_paces])), (A_t_house_counts, .inl (ty.1, 8, .inl t_house_counts)), (A_t_house_paces, .inl (ty.1, 8, .inl t_house_paces)), (A_t_sights, .inr (5, [.int t_sights_size, .ref A_t_sights_monks, .ref A_t_sights_breaths, .ref A_t_sights_bowed])), (A_t_sights_monks, .inl (ty.1, 8, .inl t_sights_monks)), (A_t_sights_breaths, .inl (ty.1, 8, .inl t_sights_breaths)), (A_t_sights_bowed, .inl (ty.2.2.1, 8, .inl t_sights_bowed)), (A_t_worlds, .inr (6, [.int q0.2.1, .int q0.2.2.1, .int q0.2.2.2.1, .ref A_t_worlds_fitting])), (A_t_worlds_fitting, .inl (ty.1, 8, .inl q0.2.2.2.2))] := by
  refine RWi.start (cc := cX9_skips) (maxL := 3) (ret := (some .int)) (own := RX9) (by decide) rfl rfl (Nat.le_of_ble_eq_true rfl) ?_
  intro p e s m below meth c ls C hK hP hD hS hl
  obtain ⟨WC, hWC⟩ : ∃ w : va_W, w = [(A_t, .inr (8, [.ref A_t_house, .ref A_t_pad, .ref A_t_hours, .ref A_t_laws, .ref A_t_sights, .ref A_t_worlds, .ref A_t_trialYear, .ref A_t_images])), (A_t_house, .inr (1, [.int t_house_there, .int t_house_awake, .int t_house_start, .int t_house_sharp, .ref A_t_house_counts, .ref A_t_house_paces])), (A_t_house_counts, .inl (ty.1, 8, .inl t_house_counts)), (A_t_house_paces, .inl (ty.1, 8, .inl t_house_paces)), (A_t_sights, .inr (5, [.int t_sights_size, .ref A_t_sights_monks, .ref A_t_sights_breaths, .ref A_t_sights_bowed])), (A_t_sights_monks, .inl (ty.1, 8, .inl t_sights_monks)), (A_t_sights_breaths, .inl (ty.1, 8, .inl t_sights_breaths)), (A_t_sights_bowed, .inl (ty.2.2.1, 8, .inl t_sights_bowed)), (A_t_worlds, .inr (6, [.int t_worlds_size, .int t_worlds_skippers, .int t_worlds_hasNobody, .ref A_t_worlds_fitting])), (A_t_worlds_fitting, .inl (ty.1, 8, .inl t_worlds_fitting))] := ⟨_, rfl⟩
  rw [← hWC] at hD hS ⊢
  have hD : va_D (va_A WC s.heap.size) [(A_t, .inr (8, [.ref A_t_house, .ref A_t_pad, .ref A_t_hours, .ref A_t_laws, .ref A_t_sights, .ref A_t_worlds, .ref A_t_trialYear, .ref A_t_images])), (A_t_house, .inr (1, [.int t_house_there, .int t_house_awake, .int t_house_start, .int t_house_sharp, .ref A_t_house_counts, .ref A_t_house_paces])), (A_t_house_counts, .inl (ty.1, 8, .inl t_house_counts)), (A_t_house_paces, .inl (ty.1, 8, .inl t_house_paces)), (A_t_sights, .inr (5, [.int t_sights_size, .ref A_t_sights_monks, .ref A_t_sights_breaths, .ref A_t_sights_bowed])), (A_t_sights_monks, .inl (ty.1, 8, .inl t_sights_monks)), (A_t_sights_breaths, .inl (ty.1, 8, .inl t_sights_breaths)), (A_t_sights_bowed, .inl (ty.2.2.1, 8, .inl t_sights_bowed)), (A_t_worlds, .inr (6, [.int t_worlds_size, .int t_worlds_skippers, .int t_worlds_hasNobody, .ref A_t_worlds_fitting])), (A_t_worlds_fitting, .inl (ty.1, 8, .inl t_worlds_fitting))] := by rw [← hWC]; exact hD
  obtain ⟨hx, hb, hr, hml, hown, hts, hlocks⟩ := id C
  have hl : lv_has ls 3 [(0, .ref A_t), (1, .int a1), (2, .int a2)] := hl
  unfold fX9_skips at hf
  refine lv_iload_n hx hb dX9_skips_0 rfl (lv_at hl 1 rfl) ?_
  obtain ⟨r1, hr1, hf⟩ := bnd hf
  have hPc : va_P D vwCl [] _ := hP.sub [] rfl
  refine callS_ri (As := [.int a1]) (rest := []) ⟨hx, hb, hml, hown, hts⟩ (CX9_isLaw l hr1) (va_cwS 1 hts gX9_skips_X9_isLaw rfl rfl rfl kkX9_isLaw.2 ⟨Nat.le_of_ble_eq_true rfl, Nat.le_of_ble_eq_true rfl⟩) hK hPc hl.1 rfl (Nat.le_of_ble_eq_true rfl) dX9_skips_1 ⟨Nat.zero_le _, Nat.zero_le _⟩ ?_
  refine lv_if_eq (tgt := 16) hx hb dX9_skips_4 (by decide) (fun hc => ?_) (fun hc => ?_)
  · have hf := ft hf hc
    refine lv_bipush (v := (-2)) hx hb dX9_skips_16 (by decide) ?_
    cases hf
    exact ret_wi hx hb hr hlocks hP hD hS dX9_skips_18
  · have hf := ff hf hc
    refine lv_iload_n hx hb dX9_skips_7 rfl (lv_at hl 2 rfl) ?_
    refine lv_iconst (v := 0) hx hb dX9_skips_8 (by decide) ?_
    refine lv_iconst (v := 2) hx hb dX9_skips_9 (by decide) ?_
    obtain ⟨r10, hr10, hf⟩ := bnd hf
    have hPc : va_P D vwCl [] _ := hP.sub [] rfl
    refine callS_ri (As := [.int a2, .int 0, .int 2]) (rest := []) ⟨hx, hb, hml, hown, hts⟩ (CX9_isWithin l hr10) (va_cwS 3 hts gX9_skips_X9_isWithin rfl rfl rfl kkX9_isWithin.2 ⟨Nat.le_of_ble_eq_true rfl, Nat.le_of_ble_eq_true rfl⟩) hK hPc hl.1 rfl (Nat.le_of_ble_eq_true rfl) dX9_skips_10 ⟨Nat.zero_le _, Nat.zero_le _⟩ ?_
    refine lv_if_ne (tgt := 19) hx hb dX9_skips_13 (by decide) (fun hc => ?_) (fun hc => ?_)
    · have hf := ff hf hc
      refine lv_aload_n hx hb dX9_skips_19 rfl (lv_at hl 0 rfl) ?_
      refine va_get (D := D) (ci := 8) (v := .ref A_t_worlds) (C := RX9) (T := TX9) (N := 8) hx hb hts wX9_skips_X9 hown hK.1 hP 0 rfl rfl 5 (by decide) (hts _ mX9_skips_f47) (fun _ h9 => h9) rfl dX9_skips_20 ?_
      refine lv_iload_n hx hb dX9_skips_23 rfl (lv_at hl 1 rfl) ?_
      refine lv_aload_n hx hb dX9_skips_24 rfl (lv_at hl 0 rfl) ?_
      refine va_get (D := D) (ci := 8) (v := .ref A_t_house) (C := RX9) (T := TX9) (N := 8) hx hb hts wX9_skips_X9 hown hK.1 hP 0 rfl rfl 0 (by decide) (hts _ mX9_skips_f10) (fun _ h9 => h9) rfl dX9_skips_25 ?_
      refine lv_aload_n hx hb dX9_skips_28 rfl (lv_at hl 0 rfl) ?_
      refine va_get (D := D) (ci := 8) (v := .ref A_t_sights) (C := RX9) (T := TX9) (N := 8) hx hb hts wX9_skips_X9 hown hK.1 hP 0 rfl rfl 4 (by decide) (hts _ mX9_skips_f40) (fun _ h9 => h9) rfl dX9_skips_29 ?_
      obtain ⟨r32, hr32, hf⟩ := bnd hf
      refine callV_wv (As := [.int a1, .ref A_t_house, .ref A_t_sights]) (rest := []) ⟨hx, hb, hml, hown, hts⟩ (CX7_find l hr32) (cwV 3 hts gX9_skips_X7_find rfl rfl rfl kkX7_find ⟨Nat.le_of_ble_eq_true rfl, Nat.le_of_ble_eq_true rfl⟩) hK hP hD hS (fun _ h => Or.inr h) [8, 9, 1, 2, 3, 4, 5, 6, 7] [0] [0, 3, 4, 5, 6, 7, 8, 9, 1, 2] rfl (by decide) (by decide) rfl rfl 0 rfl rfl rfl hl.1 rfl (Nat.le_of_ble_eq_true rfl) dX9_skips_32 ⟨Nat.zero_le _, Nat.zero_le _⟩ (fun H locs hP hD hS => ?_)
      have hP : va_P D vwCl [(A_t, .inr (8, [.ref A_t_house, .ref A_t_pad, .ref A_t_hours, .ref A_t_laws, .ref A_t_sights, .ref A_t_worlds, .ref A_t_trialYear, .ref A_t_images])), (A_t_house, .inr (1, [.int t_house_there, .int t_house_awake, .int t_house_start, .int t_house_sharp, .ref A_t_house_counts, .ref A_t_house_paces])), (A_t_house_counts, .inl (ty.1, 8, .inl t_house_counts)), (A_t_house_paces, .inl (ty.1, 8, .inl t_house_paces)), (A_t_sights, .inr (5, [.int t_sights_size, .ref A_t_sights_monks, .ref A_t_sights_breaths, .ref A_t_sights_bowed])), (A_t_sights_monks, .inl (ty.1, 8, .inl t_sights_monks)), (A_t_sights_breaths, .inl (ty.1, 8, .inl t_sights_breaths)), (A_t_sights_bowed, .inl (ty.2.2.1, 8, .inl t_sights_bowed)), (A_t_worlds, .inr (6, [.int r32.1, .int r32.2.1, .int r32.2.2.1, .ref A_t_worlds_fitting])), (A_t_worlds_fitting, .inl (ty.1, 8, .inl r32.2.2.2))] H := hP
      have hD : va_D (va_A WC s.heap.size) [(A_t, .inr (8, [.ref A_t_house, .ref A_t_pad, .ref A_t_hours, .ref A_t_laws, .ref A_t_sights, .ref A_t_worlds, .ref A_t_trialYear, .ref A_t_images])), (A_t_house, .inr (1, [.int t_house_there, .int t_house_awake, .int t_house_start, .int t_house_sharp, .ref A_t_house_counts, .ref A_t_house_paces])), (A_t_house_counts, .inl (ty.1, 8, .inl t_house_counts)), (A_t_house_paces, .inl (ty.1, 8, .inl t_house_paces)), (A_t_sights, .inr (5, [.int t_sights_size, .ref A_t_sights_monks, .ref A_t_sights_breaths, .ref A_t_sights_bowed])), (A_t_sights_monks, .inl (ty.1, 8, .inl t_sights_monks)), (A_t_sights_breaths, .inl (ty.1, 8, .inl t_sights_breaths)), (A_t_sights_bowed, .inl (ty.2.2.1, 8, .inl t_sights_bowed)), (A_t_worlds, .inr (6, [.int r32.1, .int r32.2.1, .int r32.2.2.1, .ref A_t_worlds_fitting])), (A_t_worlds_fitting, .inl (ty.1, 8, .inl r32.2.2.2))] := hD
      refine lv_iload_n hx hb dX9_skips_35 rfl (lv_at hl 2 rfl) ?_
      refine lv_if_ne (tgt := 47) hx hb dX9_skips_36 (by decide) (fun hc => ?_) (fun hc => ?_)
      · have hf := ff hf hc
        refine lv_iload_n hx hb dX9_skips_47 rfl (lv_at hl 2 rfl) ?_
        refine lv_iconst (v := 1) hx hb dX9_skips_48 (by decide) ?_
        refine lv_icmp_ne (tgt := 60) hx hb dX9_skips_49 (by decide) (fun hc => ?_) (fun hc => ?_)
        · have hf := ff hf hc
          refine lv_aload_n hx hb dX9_skips_60 rfl (lv_at hl 0 rfl) ?_
          refine va_get (D := D) (ci := 8) (v := .ref A_t_worlds) (C := RX9) (T := TX9) (N := 8) hx hb hts wX9_skips_X9 hown hK.1 hP 0 rfl rfl 5 (by decide) (hts _ mX9_skips_f47) (fun _ h9 => h9) rfl dX9_skips_61 ?_
          refine va_get (D := D) (ci := 6) (v := .int r32.2.2.1) (C := RX7) (T := TX7) (N := 4) hx hb hts wX9_skips_X7 hown hK.1 hP 8 rfl rfl 2 (by decide) (hts _ mX9_skips_f215) (fun _ h9 => h9) rfl dX9_skips_64 ?_
          refine lv_if_eq (tgt := 74) hx hb dX9_skips_67 (by decide) (fun hc => ?_) (fun hc => ?_)
          · have hf := ft hf hc
            refine lv_iconst (v := 0) hx hb dX9_skips_74 (by decide) ?_
            cases hf
            exact ret_wi hx hb hr hlocks hP hD hS dX9_skips_75
          · have hf := ff hf hc
            refine lv_iconst (v := 1) hx hb dX9_skips_70 (by decide) ?_
            refine lv_goto (tgt := 75) hx hb dX9_skips_71 (by decide) ?_
            cases hf
            exact ret_wi hx hb hr hlocks hP hD hS dX9_skips_75
        · have hf := ft hf hc
          refine lv_aload_n hx hb dX9_skips_52 rfl (lv_at hl 0 rfl) ?_
          refine va_get (D := D) (ci := 8) (v := .ref A_t_worlds) (C := RX9) (T := TX9) (N := 8) hx hb hts wX9_skips_X9 hown hK.1 hP 0 rfl rfl 5 (by decide) (hts _ mX9_skips_f47) (fun _ h9 => h9) rfl dX9_skips_53 ?_
          refine va_get (D := D) (ci := 6) (v := .int r32.2.1) (C := RX7) (T := TX7) (N := 4) hx hb hts wX9_skips_X7 hown hK.1 hP 8 rfl rfl 1 (by decide) (hts _ mX9_skips_f212) (fun _ h9 => h9) rfl dX9_skips_56 ?_
          cases hf
          exact ret_wi hx hb hr hlocks hP hD hS dX9_skips_59
      · have hf := ft hf hc
        refine lv_aload_n hx hb dX9_skips_39 rfl (lv_at hl 0 rfl) ?_
        refine va_get (D := D) (ci := 8) (v := .ref A_t_worlds) (C := RX9) (T := TX9) (N := 8) hx hb hts wX9_skips_X9 hown hK.1 hP 0 rfl rfl 5 (by decide) (hts _ mX9_skips_f47) (fun _ h9 => h9) rfl dX9_skips_40 ?_
        refine va_get (D := D) (ci := 6) (v := .int r32.1) (C := RX7) (T := TX7) (N := 4) hx hb hts wX9_skips_X7 hown hK.1 hP 8 rfl rfl 0 (by decide) (hts _ mX9_skips_f211) (fun _ h9 => h9) rfl dX9_skips_43 ?_
        cases hf
        exact ret_wi hx hb hr hlocks hP hD hS dX9_skips_46
    · have hf := ft hf hc
      refine lv_bipush (v := (-2)) hx hb dX9_skips_16 (by decide) ?_
      cases hf
      exact ret_wi hx hb hr hlocks hP hD hS dX9_skips_18
/-! ===== SilenceCount.state(II)I ===== -/
abbrev rmX9_state : Room := { frames := 2, cells := 0, slots := 0, locals := 43 }
theorem kkX9_state : yX9_state.cls = RX9 ∧ yX9_state.cls ≠ "java/lang/invoke/MethodHandle" ∧ yX9_state.cls ≠ "java/lang/invoke/VarHandle" ∧ (parseMethodDescriptor yX9_state.desc).map (fun d => d.parameters.length) = some 2 := by decide +kernel
theorem mX9_state_f10 : Cond.fieldLink RX9 10 "SilenceCount" "house" "LSilenceCount$House;" ∈ wsX9_state := by decide +kernel
theorem wX9_state_X9 : ∀ w ∈ u_ws RX9 TX9 8, w ∈ wsX9_state := by decide +kernel
def fX9_state (t_house_there : Int32) (t_house_awake : Int32) (t_house_counts : Nat → Int32) (a1 : Int32) (a2 : Int32) : Option (Int32) :=
  (fX2_isThere t_house_there a1).bind fun r5 => if r5 = 0 then some (-1) else (fX9_isWithin a2 0 1).bind fun r16 => if r16 = 0 then some (-2) else (fX2_tell t_house_awake t_house_counts a1 a2).bind fun r28 => some r28
set_option maxRecDepth 100000 in
set_option maxHeartbeats 4000000 in
theorem CX9_state (l : Launch) {D : va_G} {ty : TY} {A_t A_t_pad A_t_hours A_t_laws A_t_sights A_t_worlds A_t_trialYear A_t_images A_t_house A_t_house_counts A_t_house_paces : Nat} {t_house_there : Int32} {t_house_awake : Int32} {t_house_start : Int32} {t_house_sharp : Int32} {t_house_counts : Nat → Int32} {t_house_paces : Nat → Int32} {a1 : Int32} {a2 : Int32} {q0 : Int32} (hf : fX9_state t_house_there t_house_awake t_house_counts a1 a2 = some q0) : ROi l yX9_state wsX9_state rmX9_state D ty [.ref A_t, .int a1, .int a2] [(A_t, .inr (8, [.ref A_t_house, .ref A_t_pad, .ref A_t_hours, .ref A_t_laws, .ref A_t_sights, .ref A_t_worlds, .ref A_t_trialYear, .ref A_t_images])), (A_t_house, .inr (1, [.int t_house_there, .int t_house_awake, .int t_house_start, .int t_house_sharp, .ref A_t_house_counts, .ref A_t_house_paces])), (A_t_house_counts, .inl (ty.1, 8, .inl t_house_counts)), (A_t_house_paces, .inl (ty.1, 8, .inl t_house_paces))] q0 := by
  refine ROi.start (cc := cX9_state) (maxL := 3) (ret := (some .int)) (own := RX9) (by decide) rfl rfl (Nat.le_of_ble_eq_true rfl) ?_
  intro p e s m below meth c ls C hK hP hl
  obtain ⟨hx, hb, hr, hml, hown, hts, hlocks⟩ := id C
  have hl : lv_has ls 3 [(0, .ref A_t), (1, .int a1), (2, .int a2)] := hl
  unfold fX9_state at hf
  refine lv_aload_n hx hb dX9_state_0 rfl (lv_at hl 0 rfl) ?_
  refine va_get (D := D) (ci := 8) (v := .ref A_t_house) (C := RX9) (T := TX9) (N := 8) hx hb hts wX9_state_X9 hown hK.1 hP 0 rfl rfl 0 (by decide) (hts _ mX9_state_f10) (fun _ h9 => h9) rfl dX9_state_1 ?_
  refine lv_iload_n hx hb dX9_state_4 rfl (lv_at hl 1 rfl) ?_
  obtain ⟨r5, hr5, hf⟩ := bnd hf
  have hPc : va_P D vwCl [(A_t_house, .inr (1, [.int t_house_there, .int t_house_awake, .int t_house_start, .int t_house_sharp, .ref A_t_house_counts, .ref A_t_house_paces])), (A_t_house_counts, .inl (ty.1, 8, .inl t_house_counts)), (A_t_house_paces, .inl (ty.1, 8, .inl t_house_paces))] _ := hP.sub [1, 2, 3] rfl
  refine callV_ri (As := [.int a1]) (rest := []) ⟨hx, hb, hml, hown, hts⟩ (CX2_isThere l hr5) (cwV 1 hts gX9_state_X2_isThere rfl rfl rfl kkX2_isThere ⟨Nat.le_of_ble_eq_true rfl, Nat.le_of_ble_eq_true rfl⟩) hK hPc 0 rfl rfl rfl hl.1 rfl (Nat.le_of_ble_eq_true rfl) dX9_state_5 ⟨Nat.zero_le _, Nat.zero_le _⟩ ?_
  refine lv_if_ne (tgt := 13) hx hb dX9_state_8 (by decide) (fun hc => ?_) (fun hc => ?_)
  · have hf := ff hf hc
    refine lv_iload_n hx hb dX9_state_13 rfl (lv_at hl 2 rfl) ?_
    refine lv_iconst (v := 0) hx hb dX9_state_14 (by decide) ?_
    refine lv_iconst (v := 1) hx hb dX9_state_15 (by decide) ?_
    obtain ⟨r16, hr16, hf⟩ := bnd hf
    have hPc : va_P D vwCl [] _ := hP.sub [] rfl
    refine callS_ri (As := [.int a2, .int 0, .int 1]) (rest := []) ⟨hx, hb, hml, hown, hts⟩ (CX9_isWithin l hr16) (va_cwS 3 hts gX9_state_X9_isWithin rfl rfl rfl kkX9_isWithin.2 ⟨Nat.le_of_ble_eq_true rfl, Nat.le_of_ble_eq_true rfl⟩) hK hPc hl.1 rfl (Nat.le_of_ble_eq_true rfl) dX9_state_16 ⟨Nat.zero_le _, Nat.zero_le _⟩ ?_
    refine lv_if_eq (tgt := 34) hx hb dX9_state_19 (by decide) (fun hc => ?_) (fun hc => ?_)
    · have hf := ft hf hc
      refine lv_bipush (v := (-2)) hx hb dX9_state_34 (by decide) ?_
      exact ret_ri hx hb hr hlocks hf dX9_state_36
    · have hf := ff hf hc
      refine lv_aload_n hx hb dX9_state_22 rfl (lv_at hl 0 rfl) ?_
      refine va_get (D := D) (ci := 8) (v := .ref A_t_house) (C := RX9) (T := TX9) (N := 8) hx hb hts wX9_state_X9 hown hK.1 hP 0 rfl rfl 0 (by decide) (hts _ mX9_state_f10) (fun _ h9 => h9) rfl dX9_state_23 ?_
      refine lv_iload_n hx hb dX9_state_26 rfl (lv_at hl 1 rfl) ?_
      refine lv_iload_n hx hb dX9_state_27 rfl (lv_at hl 2 rfl) ?_
      obtain ⟨r28, hr28, hf⟩ := bnd hf
      have hPc : va_P D vwCl [(A_t_house, .inr (1, [.int t_house_there, .int t_house_awake, .int t_house_start, .int t_house_sharp, .ref A_t_house_counts, .ref A_t_house_paces])), (A_t_house_counts, .inl (ty.1, 8, .inl t_house_counts)), (A_t_house_paces, .inl (ty.1, 8, .inl t_house_paces))] _ := hP.sub [1, 2, 3] rfl
      refine callV_ri (As := [.int a1, .int a2]) (rest := []) ⟨hx, hb, hml, hown, hts⟩ (CX2_tell l hr28) (cwV 2 hts gX9_state_X2_tell rfl rfl rfl kkX2_tell ⟨Nat.le_of_ble_eq_true rfl, Nat.le_of_ble_eq_true rfl⟩) hK hPc 0 rfl rfl rfl hl.1 rfl (Nat.le_of_ble_eq_true rfl) dX9_state_28 ⟨Nat.zero_le _, Nat.zero_le _⟩ ?_
      refine lv_goto (tgt := 36) hx hb dX9_state_31 (by decide) ?_
      exact ret_ri hx hb hr hlocks hf dX9_state_36
  · have hf := ft hf hc
    refine lv_iconst (v := (-1)) hx hb dX9_state_11 (by decide) ?_
    exact ret_ri hx hb hr hlocks hf dX9_state_12
/-! ===== SilenceCount.told(I)I ===== -/
abbrev rmX9_told : Room := { frames := 1, cells := 0, slots := 0, locals := 21 }
theorem kkX9_told : yX9_told.cls = RX9 ∧ yX9_told.cls ≠ "java/lang/invoke/MethodHandle" ∧ yX9_told.cls ≠ "java/lang/invoke/VarHandle" ∧ (parseMethodDescriptor yX9_told.desc).map (fun d => d.parameters.length) = some 1 := by decide +kernel
theorem mX9_told_f19 : Cond.fieldLink RX9 19 "SilenceCount" "pad" "LSilenceCount$Pad;" ∈ wsX9_told := by decide +kernel
theorem mX9_told_f113 : Cond.fieldLink RX9 113 "SilenceCount$Pad" "size" "I" ∈ wsX9_told := by decide +kernel
theorem mX9_told_f10 : Cond.fieldLink RX9 10 "SilenceCount" "house" "LSilenceCount$House;" ∈ wsX9_told := by decide +kernel
theorem mX9_told_f81 : Cond.fieldLink RX9 81 "SilenceCount$House" "there" "I" ∈ wsX9_told := by decide +kernel
theorem mX9_told_f165 : Cond.fieldLink RX9 165 "SilenceCount$House" "awake" "I" ∈ wsX9_told := by decide +kernel
theorem mX9_told_f69 : Cond.fieldLink RX9 69 "SilenceCount$House" "start" "I" ∈ wsX9_told := by decide +kernel
theorem mX9_told_f107 : Cond.fieldLink RX9 107 "SilenceCount$House" "sharp" "I" ∈ wsX9_told := by decide +kernel
theorem mX9_told_f40 : Cond.fieldLink RX9 40 "SilenceCount" "sights" "LSilenceCount$Sights;" ∈ wsX9_told := by decide +kernel
theorem mX9_told_f206 : Cond.fieldLink RX9 206 "SilenceCount$Sights" "size" "I" ∈ wsX9_told := by decide +kernel
theorem mX9_told_f261 : Cond.fieldLink RX9 261 "SilenceCount$House" "paces" "[I" ∈ wsX9_told := by decide +kernel
theorem wX9_told_X2 : ∀ w ∈ u_ws RX2 TX2 6, w ∈ wsX9_told := by decide +kernel
theorem wX9_told_X5 : ∀ w ∈ u_ws RX5 TX5 5, w ∈ wsX9_told := by decide +kernel
theorem wX9_told_X6 : ∀ w ∈ u_ws RX6 TX6 4, w ∈ wsX9_told := by decide +kernel
theorem wX9_told_X9 : ∀ w ∈ u_ws RX9 TX9 8, w ∈ wsX9_told := by decide +kernel
def fX9_told (t_house_there : Int32) (t_house_awake : Int32) (t_house_start : Int32) (t_house_sharp : Int32) (t_house_paces : Nat → Int32) (t_pad_size : Int32) (t_sights_size : Int32) (a1 : Int32) : Option (Int32) :=
  if a1 = 0 then some t_pad_size else if a1 = 1 then some t_house_there else if a1 = 2 then some t_house_awake else if a1 = 3 then some t_house_start else if a1 = 4 then some t_house_sharp else if a1 = 5 then some t_sights_size else (fX2_isThere t_house_there (a1 - 10)).bind fun r96 => if r96 = 0 then some (-2) else gIn (a1 - 10) 8 (some (t_house_paces (a1 - 10 : Int32).toNatClampNeg))
set_option maxRecDepth 100000 in
set_option maxHeartbeats 4000000 in
theorem CX9_told (l : Launch) {D : va_G} {ty : TY} {A_t A_t_hours A_t_laws A_t_worlds A_t_trialYear A_t_images A_t_house A_t_house_counts A_t_house_paces A_t_pad A_t_pad_signs A_t_pad_actMonks A_t_pad_actSigns A_t_sights A_t_sights_monks A_t_sights_breaths A_t_sights_bowed : Nat} {t_house_there : Int32} {t_house_awake : Int32} {t_house_start : Int32} {t_house_sharp : Int32} {t_house_counts : Nat → Int32} {t_house_paces : Nat → Int32} {t_pad_size : Int32} {t_pad_acts : Int32} {t_pad_signs : Nat → Int32} {t_pad_actMonks : Nat → Int32} {t_pad_actSigns : Nat → Int32} {t_sights_size : Int32} {t_sights_monks : Nat → Int32} {t_sights_breaths : Nat → Int32} {t_sights_bowed : Nat → Int32} {a1 : Int32} {q0 : Int32} (hf : fX9_told t_house_there t_house_awake t_house_start t_house_sharp t_house_paces t_pad_size t_sights_size a1 = some q0) : ROi l yX9_told wsX9_told rmX9_told D ty [.ref A_t, .int a1] [(A_t, .inr (8, [.ref A_t_house, .ref A_t_pad, .ref A_t_hours, .ref A_t_laws, .ref A_t_sights, .ref A_t_worlds, .ref A_t_trialYear, .ref A_t_images])), (A_t_house, .inr (1, [.int t_house_there, .int t_house_awake, .int t_house_start, .int t_house_sharp, .ref A_t_house_counts, .ref A_t_house_paces])), (A_t_house_counts, .inl (ty.1, 8, .inl t_house_counts)), (A_t_house_paces, .inl (ty.1, 8, .inl t_house_paces)), (A_t_pad, .inr (4, [.int t_pad_size, .ref A_t_pad_signs, .int t_pad_acts, .ref A_t_pad_actMonks, .ref A_t_pad_actSigns])), (A_t_pad_signs, .inl (ty.1, 60, .inl t_pad_signs)), (A_t_pad_actMonks, .inl (ty.1, 60, .inl t_pad_actMonks)), (A_t_pad_actSigns, .inl (ty.1, 60, .inl t_pad_actSigns)), (A_t_sights, .inr (5, [.int t_sights_size, .ref A_t_sights_monks, .ref A_t_sights_breaths, .ref A_t_sights_bowed])), (A_t_sights_monks, .inl (ty.1, 8, .inl t_sights_monks)), (A_t_sights_breaths, .inl (ty.1, 8, .inl t_sights_breaths)), (A_t_sights_bowed, .inl (ty.2.2.1, 8, .inl t_sights_bowed))] q0 := by
  refine ROi.start (cc := cX9_told) (maxL := 2) (ret := (some .int)) (own := RX9) (by decide) rfl rfl (Nat.le_of_ble_eq_true rfl) ?_
  intro p e s m below meth c ls C hK hP hl
  obtain ⟨hx, hb, hr, hml, hown, hts, hlocks⟩ := id C
  have hl : lv_has ls 2 [(0, .ref A_t), (1, .int a1)] := hl
  unfold fX9_told at hf
  refine lv_iload_n hx hb dX9_told_0 rfl (lv_at hl 1 rfl) ?_
  by_cases hc0 : a1 = 0
  · have hf := ft hf hc0
    refine lv_tableIn (tgt := 40) hx hb dX9_told_1 (by rw [hc0]; decide) (by rw [hc0]; decide) (by rw [hc0] <;> rfl) (by decide) ?_
    refine lv_aload_n hx hb dX9_told_40 rfl (lv_at hl 0 rfl) ?_
    refine va_get (D := D) (ci := 8) (v := .ref A_t_pad) (C := RX9) (T := TX9) (N := 8) hx hb hts wX9_told_X9 hown hK.1 hP 0 rfl rfl 1 (by decide) (hts _ mX9_told_f19) (fun _ h9 => h9) rfl dX9_told_41 ?_
    refine va_get (D := D) (ci := 4) (v := .int t_pad_size) (C := RX5) (T := TX5) (N := 5) hx hb hts wX9_told_X5 hown hK.1 hP 4 rfl rfl 0 (by decide) (hts _ mX9_told_f113) (fun _ h9 => h9) rfl dX9_told_44 ?_
    exact ret_ri hx hb hr hlocks hf dX9_told_47
  · have hf := ff hf hc0
    by_cases hc1 : a1 = 1
    · have hf := ft hf hc1
      refine lv_tableIn (tgt := 48) hx hb dX9_told_1 (by rw [hc1]; decide) (by rw [hc1]; decide) (by rw [hc1] <;> rfl) (by decide) ?_
      refine lv_aload_n hx hb dX9_told_48 rfl (lv_at hl 0 rfl) ?_
      refine va_get (D := D) (ci := 8) (v := .ref A_t_house) (C := RX9) (T := TX9) (N := 8) hx hb hts wX9_told_X9 hown hK.1 hP 0 rfl rfl 0 (by decide) (hts _ mX9_told_f10) (fun _ h9 => h9) rfl dX9_told_49 ?_
      refine va_get (D := D) (ci := 1) (v := .int t_house_there) (C := RX2) (T := TX2) (N := 6) hx hb hts wX9_told_X2 hown hK.1 hP 1 rfl rfl 0 (by decide) (hts _ mX9_told_f81) (fun _ h9 => h9) rfl dX9_told_52 ?_
      exact ret_ri hx hb hr hlocks hf dX9_told_55
    · have hf := ff hf hc1
      by_cases hc2 : a1 = 2
      · have hf := ft hf hc2
        refine lv_tableIn (tgt := 56) hx hb dX9_told_1 (by rw [hc2]; decide) (by rw [hc2]; decide) (by rw [hc2] <;> rfl) (by decide) ?_
        refine lv_aload_n hx hb dX9_told_56 rfl (lv_at hl 0 rfl) ?_
        refine va_get (D := D) (ci := 8) (v := .ref A_t_house) (C := RX9) (T := TX9) (N := 8) hx hb hts wX9_told_X9 hown hK.1 hP 0 rfl rfl 0 (by decide) (hts _ mX9_told_f10) (fun _ h9 => h9) rfl dX9_told_57 ?_
        refine va_get (D := D) (ci := 1) (v := .int t_house_awake) (C := RX2) (T := TX2) (N := 6) hx hb hts wX9_told_X2 hown hK.1 hP 1 rfl rfl 1 (by decide) (hts _ mX9_told_f165) (fun _ h9 => h9) rfl dX9_told_60 ?_
        exact ret_ri hx hb hr hlocks hf dX9_told_63
      · have hf := ff hf hc2
        by_cases hc3 : a1 = 3
        · have hf := ft hf hc3
          refine lv_tableIn (tgt := 64) hx hb dX9_told_1 (by rw [hc3]; decide) (by rw [hc3]; decide) (by rw [hc3] <;> rfl) (by decide) ?_
          refine lv_aload_n hx hb dX9_told_64 rfl (lv_at hl 0 rfl) ?_
          refine va_get (D := D) (ci := 8) (v := .ref A_t_house) (C := RX9) (T := TX9) (N := 8) hx hb hts wX9_told_X9 hown hK.1 hP 0 rfl rfl 0 (by decide) (hts _ mX9_told_f10) (fun _ h9 => h9) rfl dX9_told_65 ?_
          refine va_get (D := D) (ci := 1) (v := .int t_house_start) (C := RX2) (T := TX2) (N := 6) hx hb hts wX9_told_X2 hown hK.1 hP 1 rfl rfl 2 (by decide) (hts _ mX9_told_f69) (fun _ h9 => h9) rfl dX9_told_68 ?_
          exact ret_ri hx hb hr hlocks hf dX9_told_71
        · have hf := ff hf hc3
          by_cases hc4 : a1 = 4
          · have hf := ft hf hc4
            refine lv_tableIn (tgt := 72) hx hb dX9_told_1 (by rw [hc4]; decide) (by rw [hc4]; decide) (by rw [hc4] <;> rfl) (by decide) ?_
            refine lv_aload_n hx hb dX9_told_72 rfl (lv_at hl 0 rfl) ?_
            refine va_get (D := D) (ci := 8) (v := .ref A_t_house) (C := RX9) (T := TX9) (N := 8) hx hb hts wX9_told_X9 hown hK.1 hP 0 rfl rfl 0 (by decide) (hts _ mX9_told_f10) (fun _ h9 => h9) rfl dX9_told_73 ?_
            refine va_get (D := D) (ci := 1) (v := .int t_house_sharp) (C := RX2) (T := TX2) (N := 6) hx hb hts wX9_told_X2 hown hK.1 hP 1 rfl rfl 3 (by decide) (hts _ mX9_told_f107) (fun _ h9 => h9) rfl dX9_told_76 ?_
            exact ret_ri hx hb hr hlocks hf dX9_told_79
          · have hf := ff hf hc4
            by_cases hc5 : a1 = 5
            · have hf := ft hf hc5
              refine lv_tableIn (tgt := 80) hx hb dX9_told_1 (by rw [hc5]; decide) (by rw [hc5]; decide) (by rw [hc5] <;> rfl) (by decide) ?_
              refine lv_aload_n hx hb dX9_told_80 rfl (lv_at hl 0 rfl) ?_
              refine va_get (D := D) (ci := 8) (v := .ref A_t_sights) (C := RX9) (T := TX9) (N := 8) hx hb hts wX9_told_X9 hown hK.1 hP 0 rfl rfl 4 (by decide) (hts _ mX9_told_f40) (fun _ h9 => h9) rfl dX9_told_81 ?_
              refine va_get (D := D) (ci := 5) (v := .int t_sights_size) (C := RX6) (T := TX6) (N := 4) hx hb hts wX9_told_X6 hown hK.1 hP 8 rfl rfl 0 (by decide) (hts _ mX9_told_f206) (fun _ h9 => h9) rfl dX9_told_84 ?_
              exact ret_ri hx hb hr hlocks hf dX9_told_87
            · have hf := ff hf hc5
              refine lv_tableOut (tgt := 88) hx hb dX9_told_1 (by have h0 := sw_ne 0 (by decide) hc0; have h1 := sw_ne 1 (by decide) hc1; have h2 := sw_ne 2 (by decide) hc2; have h3 := sw_ne 3 (by decide) hc3; have h4 := sw_ne 4 (by decide) hc4; have h5 := sw_ne 5 (by decide) hc5; omega) (by decide) ?_
              refine lv_aload_n hx hb dX9_told_88 rfl (lv_at hl 0 rfl) ?_
              refine va_get (D := D) (ci := 8) (v := .ref A_t_house) (C := RX9) (T := TX9) (N := 8) hx hb hts wX9_told_X9 hown hK.1 hP 0 rfl rfl 0 (by decide) (hts _ mX9_told_f10) (fun _ h9 => h9) rfl dX9_told_89 ?_
              refine lv_iload_n hx hb dX9_told_92 rfl (lv_at hl 1 rfl) ?_
              refine lv_bipush (v := 10) hx hb dX9_told_93 (by decide) ?_
              refine lv_isub hx hb dX9_told_95 ?_
              obtain ⟨r96, hr96, hf⟩ := bnd hf
              have hPc : va_P D vwCl [(A_t_house, .inr (1, [.int t_house_there, .int t_house_awake, .int t_house_start, .int t_house_sharp, .ref A_t_house_counts, .ref A_t_house_paces])), (A_t_house_counts, .inl (ty.1, 8, .inl t_house_counts)), (A_t_house_paces, .inl (ty.1, 8, .inl t_house_paces))] _ := hP.sub [1, 2, 3] rfl
              refine callV_ri (As := [.int (a1 - 10)]) (rest := []) ⟨hx, hb, hml, hown, hts⟩ (CX2_isThere l hr96) (cwV 1 hts gX9_told_X2_isThere rfl rfl rfl kkX2_isThere ⟨Nat.le_of_ble_eq_true rfl, Nat.le_of_ble_eq_true rfl⟩) hK hPc 0 rfl rfl rfl hl.1 rfl (Nat.le_of_ble_eq_true rfl) dX9_told_96 ⟨Nat.zero_le _, Nat.zero_le _⟩ ?_
              refine lv_if_eq (tgt := 117) hx hb dX9_told_99 (by decide) (fun hc => ?_) (fun hc => ?_)
              · have hf := ft hf hc
                refine lv_bipush (v := (-2)) hx hb dX9_told_117 (by decide) ?_
                exact ret_ri hx hb hr hlocks hf dX9_told_119
              · have hf := ff hf hc
                refine lv_aload_n hx hb dX9_told_102 rfl (lv_at hl 0 rfl) ?_
                refine va_get (D := D) (ci := 8) (v := .ref A_t_house) (C := RX9) (T := TX9) (N := 8) hx hb hts wX9_told_X9 hown hK.1 hP 0 rfl rfl 0 (by decide) (hts _ mX9_told_f10) (fun _ h9 => h9) rfl dX9_told_103 ?_
                refine va_get (D := D) (ci := 1) (v := .ref A_t_house_paces) (C := RX2) (T := TX2) (N := 6) hx hb hts wX9_told_X2 hown hK.1 hP 1 rfl rfl 5 (by decide) (hts _ mX9_told_f261) (fun _ h9 => h9) rfl dX9_told_106 ?_
                refine lv_iload_n hx hb dX9_told_109 rfl (lv_at hl 1 rfl) ?_
                refine lv_bipush (v := 10) hx hb dX9_told_110 (by decide) ?_
                refine lv_isub hx hb dX9_told_112 ?_
                obtain ⟨hin, hf⟩ := gIn_some hf
                refine va_iald hx hb hK.1 hP 3 0 rfl rfl hin dX9_told_113 ?_
                refine lv_goto (tgt := 119) hx hb dX9_told_114 (by decide) ?_
                exact ret_ri hx hb hr hlocks hf dX9_told_119
/-! ===== SilenceCount.wipe()I ===== -/
abbrev rmX9_wipe : Room := { frames := 0, cells := 0, slots := 0, locals := 0 }
theorem kkX9_wipe : yX9_wipe.cls = RX9 ∧ yX9_wipe.cls ≠ "java/lang/invoke/MethodHandle" ∧ yX9_wipe.cls ≠ "java/lang/invoke/VarHandle" ∧ (parseMethodDescriptor yX9_wipe.desc).map (fun d => d.parameters.length) = some 0 := by decide +kernel
theorem mX9_wipe_f19 : Cond.fieldLink RX9 19 "SilenceCount" "pad" "LSilenceCount$Pad;" ∈ wsX9_wipe := by decide +kernel
theorem mX9_wipe_f113 : Cond.fieldLink RX9 113 "SilenceCount$Pad" "size" "I" ∈ wsX9_wipe := by decide +kernel
theorem wX9_wipe_X5 : ∀ w ∈ u_ws RX5 TX5 5, w ∈ wsX9_wipe := by decide +kernel
theorem wX9_wipe_X9 : ∀ w ∈ u_ws RX9 TX9 8, w ∈ wsX9_wipe := by decide +kernel
def fX9_wipe (t_pad_size : Int32) : Option (Int32 × Int32) :=
  some (t_pad_size, 0)
set_option maxRecDepth 100000 in
set_option maxHeartbeats 4000000 in
theorem CX9_wipe (l : Launch) {D : va_G} {ty : TY} {A_t A_t_house A_t_hours A_t_laws A_t_sights A_t_worlds A_t_trialYear A_t_images A_t_pad A_t_pad_signs A_t_pad_actMonks A_t_pad_actSigns : Nat} {t_pad_size : Int32} {t_pad_acts : Int32} {t_pad_signs : Nat → Int32} {t_pad_actMonks : Nat → Int32} {t_pad_actSigns : Nat → Int32} {q0 : Int32 × Int32} (hf : fX9_wipe t_pad_size = some q0) : RWi l yX9_wipe wsX9_wipe rmX9_wipe D ty [.ref A_t] [(A_t, .inr (8, [.ref A_t_house, .ref A_t_pad, .ref A_t_hours, .ref A_t_laws, .ref A_t_sights, .ref A_t_worlds, .ref A_t_trialYear, .ref A_t_images])), (A_t_pad, .inr (4, [.int t_pad_size, .ref A_t_pad_signs, .int t_pad_acts, .ref A_t_pad_actMonks, .ref A_t_pad_actSigns])), (A_t_pad_signs, .inl (ty.1, 60, .inl t_pad_signs)), (A_t_pad_actMonks, .inl (ty.1, 60, .inl t_pad_actMonks)), (A_t_pad_actSigns, .inl (ty.1, 60, .inl t_pad_actSigns))] q0.1 [(A_t, .inr (8, [.ref A_t_house, .ref A_t_pad, .ref A_t_hours, .ref A_t_laws, .ref A_t_sights, .ref A_t_worlds, .ref A_t_trialYear, .ref A_t_images])), (A_t_pad, .inr (4, [.int q0.2, .ref A_t_pad_signs, .int t_pad_acts, .ref A_t_pad_actMonks, .ref A_t_pad_actSigns])), (A_t_pad_signs, .inl (ty.1, 60, .inl t_pad_signs)), (A_t_pad_actMonks, .inl (ty.1, 60, .inl t_pad_actMonks)), (A_t_pad_actSigns, .inl (ty.1, 60, .inl t_pad_actSigns))] := by
  refine RWi.start (cc := cX9_wipe) (maxL := 2) (ret := (some .int)) (own := RX9) (by decide) rfl rfl (Nat.le_of_ble_eq_true rfl) ?_
  intro p e s m below meth c ls C hK hP hD hS hl
  obtain ⟨WC, hWC⟩ : ∃ w : va_W, w = [(A_t, .inr (8, [.ref A_t_house, .ref A_t_pad, .ref A_t_hours, .ref A_t_laws, .ref A_t_sights, .ref A_t_worlds, .ref A_t_trialYear, .ref A_t_images])), (A_t_pad, .inr (4, [.int t_pad_size, .ref A_t_pad_signs, .int t_pad_acts, .ref A_t_pad_actMonks, .ref A_t_pad_actSigns])), (A_t_pad_signs, .inl (ty.1, 60, .inl t_pad_signs)), (A_t_pad_actMonks, .inl (ty.1, 60, .inl t_pad_actMonks)), (A_t_pad_actSigns, .inl (ty.1, 60, .inl t_pad_actSigns))] := ⟨_, rfl⟩
  rw [← hWC] at hD hS ⊢
  have hD : va_D (va_A WC s.heap.size) [(A_t, .inr (8, [.ref A_t_house, .ref A_t_pad, .ref A_t_hours, .ref A_t_laws, .ref A_t_sights, .ref A_t_worlds, .ref A_t_trialYear, .ref A_t_images])), (A_t_pad, .inr (4, [.int t_pad_size, .ref A_t_pad_signs, .int t_pad_acts, .ref A_t_pad_actMonks, .ref A_t_pad_actSigns])), (A_t_pad_signs, .inl (ty.1, 60, .inl t_pad_signs)), (A_t_pad_actMonks, .inl (ty.1, 60, .inl t_pad_actMonks)), (A_t_pad_actSigns, .inl (ty.1, 60, .inl t_pad_actSigns))] := by rw [← hWC]; exact hD
  obtain ⟨hx, hb, hr, hml, hown, hts, hlocks⟩ := id C
  have hl : lv_has ls 2 [(0, .ref A_t)] := hl
  unfold fX9_wipe at hf
  refine lv_aload_n hx hb dX9_wipe_0 rfl (lv_at hl 0 rfl) ?_
  refine va_get (D := D) (ci := 8) (v := .ref A_t_pad) (C := RX9) (T := TX9) (N := 8) hx hb hts wX9_wipe_X9 hown hK.1 hP 0 rfl rfl 1 (by decide) (hts _ mX9_wipe_f19) (fun _ h9 => h9) rfl dX9_wipe_1 ?_
  refine va_get (D := D) (ci := 4) (v := .int t_pad_size) (C := RX5) (T := TX5) (N := 5) hx hb hts wX9_wipe_X5 hown hK.1 hP 1 rfl rfl 0 (by decide) (hts _ mX9_wipe_f113) (fun _ h9 => h9) rfl dX9_wipe_4 ?_
  refine lv_istore_n (lv' := [(1, .int t_pad_size), (0, .ref A_t)]) hx hb dX9_wipe_7 rfl hl (by decide) rfl (fun ls hl => ?_)
  refine lv_aload_n hx hb dX9_wipe_8 rfl (lv_at hl 1 rfl) ?_
  refine va_get (D := D) (ci := 8) (v := .ref A_t_pad) (C := RX9) (T := TX9) (N := 8) hx hb hts wX9_wipe_X9 hown hK.1 hP 0 rfl rfl 1 (by decide) (hts _ mX9_wipe_f19) (fun _ h9 => h9) rfl dX9_wipe_9 ?_
  refine lv_iconst (v := 0) hx hb dX9_wipe_12 (by decide) ?_
  refine va_put (D := D) (ci := 4) (v := .int 0) (ty := .int) (C := RX5) (T := TX5) (N := 5) hx hb hts wX9_wipe_X5 tyX5 tyX5_ok nmX5 hown hK.1 hP hD hS 1 rfl rfl 0 (by decide) (hts _ mX9_wipe_f113) (fun _ h9 => h9) rfl (by decide +kernel) rfl rfl (Nat.le_of_ble_eq_true rfl) dX9_wipe_13 (fun H locs hP hD hS => ?_)
  have hP : va_P D vwCl [(A_t, .inr (8, [.ref A_t_house, .ref A_t_pad, .ref A_t_hours, .ref A_t_laws, .ref A_t_sights, .ref A_t_worlds, .ref A_t_trialYear, .ref A_t_images])), (A_t_pad, .inr (4, [.int 0, .ref A_t_pad_signs, .int t_pad_acts, .ref A_t_pad_actMonks, .ref A_t_pad_actSigns])), (A_t_pad_signs, .inl (ty.1, 60, .inl t_pad_signs)), (A_t_pad_actMonks, .inl (ty.1, 60, .inl t_pad_actMonks)), (A_t_pad_actSigns, .inl (ty.1, 60, .inl t_pad_actSigns))] H := hP
  have hD : va_D (va_A WC s.heap.size) [(A_t, .inr (8, [.ref A_t_house, .ref A_t_pad, .ref A_t_hours, .ref A_t_laws, .ref A_t_sights, .ref A_t_worlds, .ref A_t_trialYear, .ref A_t_images])), (A_t_pad, .inr (4, [.int 0, .ref A_t_pad_signs, .int t_pad_acts, .ref A_t_pad_actMonks, .ref A_t_pad_actSigns])), (A_t_pad_signs, .inl (ty.1, 60, .inl t_pad_signs)), (A_t_pad_actMonks, .inl (ty.1, 60, .inl t_pad_actMonks)), (A_t_pad_actSigns, .inl (ty.1, 60, .inl t_pad_actSigns))] := hD
  refine lv_iload_n hx hb dX9_wipe_16 rfl (lv_at hl 0 rfl) ?_
  cases hf
  exact ret_wi hx hb hr hlocks hP hD hS dX9_wipe_17
/-! ===== SilenceCount.year(III)I ===== -/
abbrev rmX9_year : Room := { frames := 6, cells := 0, slots := 0, locals := 138 }
theorem kkX9_year : yX9_year.cls = RX9 ∧ yX9_year.cls ≠ "java/lang/invoke/MethodHandle" ∧ yX9_year.cls ≠ "java/lang/invoke/VarHandle" ∧ (parseMethodDescriptor yX9_year.desc).map (fun d => d.parameters.length) = some 3 := by decide +kernel
theorem mX9_year_f54 : Cond.fieldLink RX9 54 "SilenceCount" "trialYear" "LSilenceCount$Year;" ∈ wsX9_year := by decide +kernel
theorem mX9_year_f10 : Cond.fieldLink RX9 10 "SilenceCount" "house" "LSilenceCount$House;" ∈ wsX9_year := by decide +kernel
theorem mX9_year_f248 : Cond.fieldLink RX9 248 "SilenceCount$Year" "actsToNought" "I" ∈ wsX9_year := by decide +kernel
theorem mX9_year_f244 : Cond.fieldLink RX9 244 "SilenceCount$Year" "house" "LSilenceCount$House;" ∈ wsX9_year := by decide +kernel
theorem mX9_year_f165 : Cond.fieldLink RX9 165 "SilenceCount$House" "awake" "I" ∈ wsX9_year := by decide +kernel
theorem wX9_year_X2 : ∀ w ∈ u_ws RX2 TX2 6, w ∈ wsX9_year := by decide +kernel
theorem wX9_year_X8 : ∀ w ∈ u_ws RX8 TX8 2, w ∈ wsX9_year := by decide +kernel
theorem wX9_year_X9 : ∀ w ∈ u_ws RX9 TX9 8, w ∈ wsX9_year := by decide +kernel
def fX9_year (t_house_there : Int32) (t_house_awake : Int32) (t_house_start : Int32) (t_house_sharp : Int32) (t_house_counts : Nat → Int32) (t_house_paces : Nat → Int32) (t_trialYear_actsToNought : Int32) (t_trialYear_house_there : Int32) (t_trialYear_house_awake : Int32) (t_trialYear_house_start : Int32) (t_trialYear_house_sharp : Int32) (t_trialYear_house_counts : Nat → Int32) (t_trialYear_house_paces : Nat → Int32) (a1 : Int32) (a2 : Int32) (a3 : Int32) : Option (Int32 × Int32 × Int32 × Int32 × Int32 × Int32 × (Nat → Int32) × (Nat → Int32)) :=
  (fX9_isWithin a1 0 9999).bind fun r5 => if r5 = 0 then some ((-2), t_trialYear_actsToNought, t_trialYear_house_there, t_trialYear_house_awake, t_trialYear_house_start, t_trialYear_house_sharp, t_trialYear_house_counts, t_trialYear_house_paces) else (fX9_isWithin a2 1 99).bind fun r15 => if r15 = 0 then some ((-2), t_trialYear_actsToNought, t_trialYear_house_there, t_trialYear_house_awake, t_trialYear_house_start, t_trialYear_house_sharp, t_trialYear_house_counts, t_trialYear_house_paces) else (fX9_isWithin a3 0 2).bind fun r24 => if r24 = 0 then some ((-2), t_trialYear_actsToNought, t_trialYear_house_there, t_trialYear_house_awake, t_trialYear_house_start, t_trialYear_house_sharp, t_trialYear_house_counts, t_trialYear_house_paces) else (fX8_pass t_trialYear_actsToNought t_trialYear_house_there t_trialYear_house_awake t_trialYear_house_start t_trialYear_house_sharp t_trialYear_house_counts t_trialYear_house_paces t_house_there t_house_awake t_house_start t_house_sharp t_house_counts t_house_paces a1 a2).bind fun r43 => if a3 = 0 then (fX2_sumOfCounts r43.2.1 r43.2.2.2.2.2.1).bind fun r57 => some (r57, r43.1, r43.2.1, r43.2.2.1, r43.2.2.2.1, r43.2.2.2.2.1, r43.2.2.2.2.2.1, r43.2.2.2.2.2.2) else if a3 = 1 then (fJ6_bitCount_0f7a4 r43.2.2.1).bind fun r76 => some (r76, r43.1, r43.2.1, r43.2.2.1, r43.2.2.2.1, r43.2.2.2.2.1, r43.2.2.2.2.2.1, r43.2.2.2.2.2.2) else some (r43.1, r43.1, r43.2.1, r43.2.2.1, r43.2.2.2.1, r43.2.2.2.2.1, r43.2.2.2.2.2.1, r43.2.2.2.2.2.2)
set_option maxRecDepth 100000 in
set_option maxHeartbeats 4000000 in
theorem CX9_year (l : Launch) {D : va_G} {ty : TY} {A_t A_t_pad A_t_hours A_t_laws A_t_sights A_t_worlds A_t_images A_t_house A_t_house_counts A_t_house_paces A_t_trialYear A_t_trialYear_house A_t_trialYear_house_counts A_t_trialYear_house_paces : Nat} {t_house_there : Int32} {t_house_awake : Int32} {t_house_start : Int32} {t_house_sharp : Int32} {t_house_counts : Nat → Int32} {t_house_paces : Nat → Int32} {t_trialYear_actsToNought : Int32} {t_trialYear_house_there : Int32} {t_trialYear_house_awake : Int32} {t_trialYear_house_start : Int32} {t_trialYear_house_sharp : Int32} {t_trialYear_house_counts : Nat → Int32} {t_trialYear_house_paces : Nat → Int32} {a1 : Int32} {a2 : Int32} {a3 : Int32} {q0 : Int32 × Int32 × Int32 × Int32 × Int32 × Int32 × (Nat → Int32) × (Nat → Int32)} (hf : fX9_year t_house_there t_house_awake t_house_start t_house_sharp t_house_counts t_house_paces t_trialYear_actsToNought t_trialYear_house_there t_trialYear_house_awake t_trialYear_house_start t_trialYear_house_sharp t_trialYear_house_counts t_trialYear_house_paces a1 a2 a3 = some q0) : RWi l yX9_year wsX9_year rmX9_year D ty [.ref A_t, .int a1, .int a2, .int a3] [(A_t, .inr (8, [.ref A_t_house, .ref A_t_pad, .ref A_t_hours, .ref A_t_laws, .ref A_t_sights, .ref A_t_worlds, .ref A_t_trialYear, .ref A_t_images])), (A_t_house, .inr (1, [.int t_house_there, .int t_house_awake, .int t_house_start, .int t_house_sharp, .ref A_t_house_counts, .ref A_t_house_paces])), (A_t_house_counts, .inl (ty.1, 8, .inl t_house_counts)), (A_t_house_paces, .inl (ty.1, 8, .inl t_house_paces)), (A_t_trialYear, .inr (7, [.ref A_t_trialYear_house, .int t_trialYear_actsToNought])), (A_t_trialYear_house, .inr (1, [.int t_trialYear_house_there, .int t_trialYear_house_awake, .int t_trialYear_house_start, .int t_trialYear_house_sharp, .ref A_t_trialYear_house_counts, .ref A_t_trialYear_house_paces])), (A_t_trialYear_house_counts, .inl (ty.1, 8, .inl t_trialYear_house_counts)), (A_t_trialYear_house_paces, .inl (ty.1, 8, .inl t_trialYear_house_paces))] q0.1 [(A_t, .inr (8, [.ref A_t_house, .ref A_t_pad, .ref A_t_hours, .ref A_t_laws, .ref A_t_sights, .ref A_t_worlds, .ref A_t_trialYear, .ref A_t_images])), (A_t_house, .inr (1, [.int t_house_there, .int t_house_awake, .int t_house_start, .int t_house_sharp, .ref A_t_house_counts, .ref A_t_house_paces])), (A_t_house_counts, .inl (ty.1, 8, .inl t_house_counts)), (A_t_house_paces, .inl (ty.1, 8, .inl t_house_paces)), (A_t_trialYear, .inr (7, [.ref A_t_trialYear_house, .int q0.2.1])), (A_t_trialYear_house, .inr (1, [.int q0.2.2.1, .int q0.2.2.2.1, .int q0.2.2.2.2.1, .int q0.2.2.2.2.2.1, .ref A_t_trialYear_house_counts, .ref A_t_trialYear_house_paces])), (A_t_trialYear_house_counts, .inl (ty.1, 8, .inl q0.2.2.2.2.2.2.1)), (A_t_trialYear_house_paces, .inl (ty.1, 8, .inl q0.2.2.2.2.2.2.2))] := by
  refine RWi.start (cc := cX9_year) (maxL := 4) (ret := (some .int)) (own := RX9) (by decide) rfl rfl (Nat.le_of_ble_eq_true rfl) ?_
  intro p e s m below meth c ls C hK hP hD hS hl
  obtain ⟨WC, hWC⟩ : ∃ w : va_W, w = [(A_t, .inr (8, [.ref A_t_house, .ref A_t_pad, .ref A_t_hours, .ref A_t_laws, .ref A_t_sights, .ref A_t_worlds, .ref A_t_trialYear, .ref A_t_images])), (A_t_house, .inr (1, [.int t_house_there, .int t_house_awake, .int t_house_start, .int t_house_sharp, .ref A_t_house_counts, .ref A_t_house_paces])), (A_t_house_counts, .inl (ty.1, 8, .inl t_house_counts)), (A_t_house_paces, .inl (ty.1, 8, .inl t_house_paces)), (A_t_trialYear, .inr (7, [.ref A_t_trialYear_house, .int t_trialYear_actsToNought])), (A_t_trialYear_house, .inr (1, [.int t_trialYear_house_there, .int t_trialYear_house_awake, .int t_trialYear_house_start, .int t_trialYear_house_sharp, .ref A_t_trialYear_house_counts, .ref A_t_trialYear_house_paces])), (A_t_trialYear_house_counts, .inl (ty.1, 8, .inl t_trialYear_house_counts)), (A_t_trialYear_house_paces, .inl (ty.1, 8, .inl t_trialYear_house_paces))] := ⟨_, rfl⟩
  rw [← hWC] at hD hS ⊢
  have hD : va_D (va_A WC s.heap.size) [(A_t, .inr (8, [.ref A_t_house, .ref A_t_pad, .ref A_t_hours, .ref A_t_laws, .ref A_t_sights, .ref A_t_worlds, .ref A_t_trialYear, .ref A_t_images])), (A_t_house, .inr (1, [.int t_house_there, .int t_house_awake, .int t_house_start, .int t_house_sharp, .ref A_t_house_counts, .ref A_t_house_paces])), (A_t_house_counts, .inl (ty.1, 8, .inl t_house_counts)), (A_t_house_paces, .inl (ty.1, 8, .inl t_house_paces)), (A_t_trialYear, .inr (7, [.ref A_t_trialYear_house, .int t_trialYear_actsToNought])), (A_t_trialYear_house, .inr (1, [.int t_trialYear_house_there, .int t_trialYear_house_awake, .int t_trialYear_house_start, .int t_trialYear_house_sharp, .ref A_t_trialYear_house_counts, .ref A_t_trialYear_house_paces])), (A_t_trialYear_house_counts, .inl (ty.1, 8, .inl t_trialYear_house_counts)), (A_t_trialYear_house_paces, .inl (ty.1, 8, .inl t_trialYear_house_paces))] := by rw [← hWC]; exact hD
  obtain ⟨hx, hb, hr, hml, hown, hts, hlocks⟩ := id C
  have hl : lv_has ls 4 [(0, .ref A_t), (1, .int a1), (2, .int a2), (3, .int a3)] := hl
  unfold fX9_year at hf
  refine lv_iload_n hx hb dX9_year_0 rfl (lv_at hl 1 rfl) ?_
  refine lv_iconst (v := 0) hx hb dX9_year_1 (by decide) ?_
  refine lv_sipush (v := 9999) hx hb dX9_year_2 (by decide) ?_
  obtain ⟨r5, hr5, hf⟩ := bnd hf
  have hPc : va_P D vwCl [] _ := hP.sub [] rfl
  refine callS_ri (As := [.int a1, .int 0, .int 9999]) (rest := []) ⟨hx, hb, hml, hown, hts⟩ (CX9_isWithin l hr5) (va_cwS 3 hts gX9_year_X9_isWithin rfl rfl rfl kkX9_isWithin.2 ⟨Nat.le_of_ble_eq_true rfl, Nat.le_of_ble_eq_true rfl⟩) hK hPc hl.1 rfl (Nat.le_of_ble_eq_true rfl) dX9_year_5 ⟨Nat.zero_le _, Nat.zero_le _⟩ ?_
  refine lv_if_eq (tgt := 30) hx hb dX9_year_8 (by decide) (fun hc => ?_) (fun hc => ?_)
  · have hf := ft hf hc
    refine lv_bipush (v := (-2)) hx hb dX9_year_30 (by decide) ?_
    cases hf
    exact ret_wi hx hb hr hlocks hP hD hS dX9_year_32
  · have hf := ff hf hc
    refine lv_iload_n hx hb dX9_year_11 rfl (lv_at hl 2 rfl) ?_
    refine lv_iconst (v := 1) hx hb dX9_year_12 (by decide) ?_
    refine lv_bipush (v := 99) hx hb dX9_year_13 (by decide) ?_
    obtain ⟨r15, hr15, hf⟩ := bnd hf
    have hPc : va_P D vwCl [] _ := hP.sub [] rfl
    refine callS_ri (As := [.int a2, .int 1, .int 99]) (rest := []) ⟨hx, hb, hml, hown, hts⟩ (CX9_isWithin l hr15) (va_cwS 3 hts gX9_year_X9_isWithin rfl rfl rfl kkX9_isWithin.2 ⟨Nat.le_of_ble_eq_true rfl, Nat.le_of_ble_eq_true rfl⟩) hK hPc hl.1 rfl (Nat.le_of_ble_eq_true rfl) dX9_year_15 ⟨Nat.zero_le _, Nat.zero_le _⟩ ?_
    refine lv_if_eq (tgt := 30) hx hb dX9_year_18 (by decide) (fun hc => ?_) (fun hc => ?_)
    · have hf := ft hf hc
      refine lv_bipush (v := (-2)) hx hb dX9_year_30 (by decide) ?_
      cases hf
      exact ret_wi hx hb hr hlocks hP hD hS dX9_year_32
    · have hf := ff hf hc
      refine lv_iload_n hx hb dX9_year_21 rfl (lv_at hl 3 rfl) ?_
      refine lv_iconst (v := 0) hx hb dX9_year_22 (by decide) ?_
      refine lv_iconst (v := 2) hx hb dX9_year_23 (by decide) ?_
      obtain ⟨r24, hr24, hf⟩ := bnd hf
      have hPc : va_P D vwCl [] _ := hP.sub [] rfl
      refine callS_ri (As := [.int a3, .int 0, .int 2]) (rest := []) ⟨hx, hb, hml, hown, hts⟩ (CX9_isWithin l hr24) (va_cwS 3 hts gX9_year_X9_isWithin rfl rfl rfl kkX9_isWithin.2 ⟨Nat.le_of_ble_eq_true rfl, Nat.le_of_ble_eq_true rfl⟩) hK hPc hl.1 rfl (Nat.le_of_ble_eq_true rfl) dX9_year_24 ⟨Nat.zero_le _, Nat.zero_le _⟩ ?_
      refine lv_if_ne (tgt := 33) hx hb dX9_year_27 (by decide) (fun hc => ?_) (fun hc => ?_)
      · have hf := ff hf hc
        refine lv_aload_n hx hb dX9_year_33 rfl (lv_at hl 0 rfl) ?_
        refine va_get (D := D) (ci := 8) (v := .ref A_t_trialYear) (C := RX9) (T := TX9) (N := 8) hx hb hts wX9_year_X9 hown hK.1 hP 0 rfl rfl 6 (by decide) (hts _ mX9_year_f54) (fun _ h9 => h9) rfl dX9_year_34 ?_
        refine lv_aload_n hx hb dX9_year_37 rfl (lv_at hl 0 rfl) ?_
        refine va_get (D := D) (ci := 8) (v := .ref A_t_house) (C := RX9) (T := TX9) (N := 8) hx hb hts wX9_year_X9 hown hK.1 hP 0 rfl rfl 0 (by decide) (hts _ mX9_year_f10) (fun _ h9 => h9) rfl dX9_year_38 ?_
        refine lv_iload_n hx hb dX9_year_41 rfl (lv_at hl 1 rfl) ?_
        refine lv_iload_n hx hb dX9_year_42 rfl (lv_at hl 2 rfl) ?_
        obtain ⟨r43, hr43, hf⟩ := bnd hf
        refine callV_wv (As := [.ref A_t_house, .int a1, .int a2]) (rest := []) ⟨hx, hb, hml, hown, hts⟩ (CX8_pass l hr43) (cwV 3 hts gX9_year_X8_pass rfl rfl rfl kkX8_pass ⟨Nat.le_of_ble_eq_true rfl, Nat.le_of_ble_eq_true rfl⟩) hK hP hD hS (fun _ h => Or.inr h) [4, 5, 6, 7, 1, 2, 3] [0] [0, 5, 6, 7, 1, 2, 3, 4] rfl (by decide) (by decide) rfl rfl 0 rfl rfl rfl hl.1 rfl (Nat.le_of_ble_eq_true rfl) dX9_year_43 ⟨Nat.zero_le _, Nat.zero_le _⟩ (fun H locs hP hD hS => ?_)
        have hP : va_P D vwCl [(A_t, .inr (8, [.ref A_t_house, .ref A_t_pad, .ref A_t_hours, .ref A_t_laws, .ref A_t_sights, .ref A_t_worlds, .ref A_t_trialYear, .ref A_t_images])), (A_t_house, .inr (1, [.int t_house_there, .int t_house_awake, .int t_house_start, .int t_house_sharp, .ref A_t_house_counts, .ref A_t_house_paces])), (A_t_house_counts, .inl (ty.1, 8, .inl t_house_counts)), (A_t_house_paces, .inl (ty.1, 8, .inl t_house_paces)), (A_t_trialYear, .inr (7, [.ref A_t_trialYear_house, .int r43.1])), (A_t_trialYear_house, .inr (1, [.int r43.2.1, .int r43.2.2.1, .int r43.2.2.2.1, .int r43.2.2.2.2.1, .ref A_t_trialYear_house_counts, .ref A_t_trialYear_house_paces])), (A_t_trialYear_house_counts, .inl (ty.1, 8, .inl r43.2.2.2.2.2.1)), (A_t_trialYear_house_paces, .inl (ty.1, 8, .inl r43.2.2.2.2.2.2))] H := hP
        have hD : va_D (va_A WC s.heap.size) [(A_t, .inr (8, [.ref A_t_house, .ref A_t_pad, .ref A_t_hours, .ref A_t_laws, .ref A_t_sights, .ref A_t_worlds, .ref A_t_trialYear, .ref A_t_images])), (A_t_house, .inr (1, [.int t_house_there, .int t_house_awake, .int t_house_start, .int t_house_sharp, .ref A_t_house_counts, .ref A_t_house_paces])), (A_t_house_counts, .inl (ty.1, 8, .inl t_house_counts)), (A_t_house_paces, .inl (ty.1, 8, .inl t_house_paces)), (A_t_trialYear, .inr (7, [.ref A_t_trialYear_house, .int r43.1])), (A_t_trialYear_house, .inr (1, [.int r43.2.1, .int r43.2.2.1, .int r43.2.2.2.1, .int r43.2.2.2.2.1, .ref A_t_trialYear_house_counts, .ref A_t_trialYear_house_paces])), (A_t_trialYear_house_counts, .inl (ty.1, 8, .inl r43.2.2.2.2.2.1)), (A_t_trialYear_house_paces, .inl (ty.1, 8, .inl r43.2.2.2.2.2.2))] := hD
        refine lv_iload_n hx hb dX9_year_46 rfl (lv_at hl 3 rfl) ?_
        refine lv_if_ne (tgt := 61) hx hb dX9_year_47 (by decide) (fun hc => ?_) (fun hc => ?_)
        · have hf := ff hf hc
          refine lv_iload_n hx hb dX9_year_61 rfl (lv_at hl 3 rfl) ?_
          refine lv_iconst (v := 1) hx hb dX9_year_62 (by decide) ?_
          refine lv_icmp_ne (tgt := 82) hx hb dX9_year_63 (by decide) (fun hc => ?_) (fun hc => ?_)
          · have hf := ff hf hc
            refine lv_aload_n hx hb dX9_year_82 rfl (lv_at hl 0 rfl) ?_
            refine va_get (D := D) (ci := 8) (v := .ref A_t_trialYear) (C := RX9) (T := TX9) (N := 8) hx hb hts wX9_year_X9 hown hK.1 hP 0 rfl rfl 6 (by decide) (hts _ mX9_year_f54) (fun _ h9 => h9) rfl dX9_year_83 ?_
            refine va_get (D := D) (ci := 7) (v := .int r43.1) (C := RX8) (T := TX8) (N := 2) hx hb hts wX9_year_X8 hown hK.1 hP 4 rfl rfl 1 (by decide) (hts _ mX9_year_f248) (fun _ h9 => h9) rfl dX9_year_86 ?_
            cases hf
            exact ret_wi hx hb hr hlocks hP hD hS dX9_year_89
          · have hf := ft hf hc
            refine lv_aload_n hx hb dX9_year_66 rfl (lv_at hl 0 rfl) ?_
            refine va_get (D := D) (ci := 8) (v := .ref A_t_trialYear) (C := RX9) (T := TX9) (N := 8) hx hb hts wX9_year_X9 hown hK.1 hP 0 rfl rfl 6 (by decide) (hts _ mX9_year_f54) (fun _ h9 => h9) rfl dX9_year_67 ?_
            refine va_get (D := D) (ci := 7) (v := .ref A_t_trialYear_house) (C := RX8) (T := TX8) (N := 2) hx hb hts wX9_year_X8 hown hK.1 hP 4 rfl rfl 0 (by decide) (hts _ mX9_year_f244) (fun _ h9 => h9) rfl dX9_year_70 ?_
            refine va_get (D := D) (ci := 1) (v := .int r43.2.2.1) (C := RX2) (T := TX2) (N := 6) hx hb hts wX9_year_X2 hown hK.1 hP 5 rfl rfl 1 (by decide) (hts _ mX9_year_f165) (fun _ h9 => h9) rfl dX9_year_73 ?_
            obtain ⟨r76, hr76, hf⟩ := bnd hf
            have hPc : va_P D vwCl [] _ := hP.sub [] rfl
            refine callS_ri (As := [.int r43.2.2.1]) (rest := []) ⟨hx, hb, hml, hown, hts⟩ (CJ6_bitCount_0f7a4 l hr76) (va_cwS 1 hts gX9_year_J6_bitCount_0f7a4 rfl rfl rfl kkJ6_bitCount_0f7a4.2 ⟨Nat.le_of_ble_eq_true rfl, Nat.le_of_ble_eq_true rfl⟩) hK hPc hl.1 rfl (Nat.le_of_ble_eq_true rfl) dX9_year_76 ⟨Nat.zero_le _, Nat.zero_le _⟩ ?_
            refine lv_goto (tgt := 89) hx hb dX9_year_79 (by decide) ?_
            cases hf
            exact ret_wi hx hb hr hlocks hP hD hS dX9_year_89
        · have hf := ft hf hc
          refine lv_aload_n hx hb dX9_year_50 rfl (lv_at hl 0 rfl) ?_
          refine va_get (D := D) (ci := 8) (v := .ref A_t_trialYear) (C := RX9) (T := TX9) (N := 8) hx hb hts wX9_year_X9 hown hK.1 hP 0 rfl rfl 6 (by decide) (hts _ mX9_year_f54) (fun _ h9 => h9) rfl dX9_year_51 ?_
          refine va_get (D := D) (ci := 7) (v := .ref A_t_trialYear_house) (C := RX8) (T := TX8) (N := 2) hx hb hts wX9_year_X8 hown hK.1 hP 4 rfl rfl 0 (by decide) (hts _ mX9_year_f244) (fun _ h9 => h9) rfl dX9_year_54 ?_
          obtain ⟨r57, hr57, hf⟩ := bnd hf
          have hPc : va_P D vwCl [(A_t_trialYear_house, .inr (1, [.int r43.2.1, .int r43.2.2.1, .int r43.2.2.2.1, .int r43.2.2.2.2.1, .ref A_t_trialYear_house_counts, .ref A_t_trialYear_house_paces])), (A_t_trialYear_house_counts, .inl (ty.1, 8, .inl r43.2.2.2.2.2.1)), (A_t_trialYear_house_paces, .inl (ty.1, 8, .inl r43.2.2.2.2.2.2))] _ := hP.sub [5, 6, 7] rfl
          refine callV_ri (As := []) (rest := []) ⟨hx, hb, hml, hown, hts⟩ (CX2_sumOfCounts l hr57) (cwV 0 hts gX9_year_X2_sumOfCounts rfl rfl rfl kkX2_sumOfCounts ⟨Nat.le_of_ble_eq_true rfl, Nat.le_of_ble_eq_true rfl⟩) hK hPc 0 rfl rfl rfl hl.1 rfl (Nat.le_of_ble_eq_true rfl) dX9_year_57 ⟨Nat.zero_le _, Nat.zero_le _⟩ ?_
          cases hf
          exact ret_wi hx hb hr hlocks hP hD hS dX9_year_60
      · have hf := ft hf hc
        refine lv_bipush (v := (-2)) hx hb dX9_year_30 (by decide) ?_
        cases hf
        exact ret_wi hx hb hr hlocks hP hD hS dX9_year_32
