
section OwCall2
variable {p : Program} {l : Launch} {e : Env} {R : Room} {s : State} {m : MethodId} {args : Array Value} {below : List Frame} {meth : Method} {c : Code} {H H0 : Heap} {locs : List Loc} {cells slots : Nat} {Q : State → Prop}
variable {cc : ByteArray} {pc nL : Nat} {ls : Array Slot} {rest : List Value} {D : va_G} {ty : TY} {A : Nat → Prop} {ws0 : va_W}
variable {y : MethodName} {ws : List Cond} {rm : Room} {As : List Value} {Wf : Option Nat × Option Nat → va_W} {o : Option Nat × Option Nat} {index maxL : Nat} {bytes : ByteArray} {ret : Option FieldType} {Ts : List Cond} {own : String} {b : Nat} {st : List Value} {r0 : Int32}
theorem callV_no (S : CallFix p m c cc nL s args Ts own) (hM : RNo l y ws rm D ty (.ref b :: As) Wf o r0) (cw : CallW R s args own y.cls index y bytes maxL ret ws rm 1 1563 As.length) (hK : KK D ty s) (hP : va_P D vwCl ws0 H) (hD : va_D A ws0) (hS : va_S A H0 H locs) (hA : ∀ q, H0.size ≤ q → A q) (isC isR : List Nat) (hC : isC.map (fun i => ws0[i]?) = (Wf o).map some) (hn : va_nd isC = true ∧ va_nd isR = true) (hd : ∀ i ∈ isR, i ∉ isC) (hl : isR.all (fun i => decide (i < ws0.length)) = true) (q0 : Nat) {ci : Nat} {fs : List Value} {q : vw_C} (hc : vwCl[ci]? = some q) (hq : q.1 = y.cls) (he : (Wf o)[q0]? = some (b, .inr (ci, fs))) (hsize : ls.size = nL) (hst : st = As.reverse ++ .ref b :: rest) (hW : (rest.map fun v => v.category).sum ≤ 8) (hdg : decode cc pc = .ok (.invokevirtual index, 3)) (hf : cells + 1 ≤ R.cells ∧ slots + 1563 ≤ R.slots)
    (kk : ∀ (u : Option Nat × Option Nat) (H1 : Heap) (locs1 : List Loc), va_P D vwCl (pick ws0 isR ++ Wf u) H1 → va_D A (pick ws0 isR ++ Wf u) → va_S A H0 H1 locs1 → W p l e R s m args below meth c H1 locs1 (cells + 1) (slots + 1563) Q (F0 m (pc + 3) ls (.int r0 :: rest))) : W p l e R s m args below meth c H locs cells slots Q (F0 m pc ls st) := by
  have hPc := hP.sub (ws' := Wf o) isC (pick_eq hC)
  have hDc := hD.sub (ws' := Wf o) isC hn.1 hC
  have hFc := va_free (wc := Wf o) hD hS hA isC hC
  refine va_calli (va_runV (g := F0 m pc ls st) S (hM H.size) cw ⟨PRW.blind, ?_, fun U hU hW => ⟨rfl, by rw [hU], by rw [hU]; exact hPc, hK.warm hW, hDc.weaken (fun _ _ _ _ => trivial)⟩⟩ rfl rfl hsize hst (lv_room hW) hdg hf) hS (fun q _ h => hFc q h) hFc (fun r u t H1 locs1 ht hvm hw hB hz1 hk1 hS => ?_)
  · obtain ⟨cell, h1, h2, h3⟩ := va_recv hK.1 hPc hc he
    exact ⟨cell, h1, h2, by rw [← hq]; exact h3⟩
  · obtain ⟨hP1, hD1⟩ := hB
    rw [ht] at hP1
    obtain ⟨hP2, hD2⟩ := va_join (wr := pick ws0 isR) (w1 := Wf u) hP hD isC isR hC (pick_map ws0 isR hl) hn.2 hd hk1 hFc hP1 hD1
    cases hw
    exact kk u H1 locs1 hP2 hD2 hS
end OwCall2
def fX9_bows (PM DM : Nat → Int64) (a1 a2 a3 : Int32) : Option Int32 :=
  (fX9_isLaw a1).bind fun r1 => if r1 = 0 then some (-2) else (fX9_isWithin a2 1 100000).bind fun r11 => if r11 = 0 then some (-2) else (fX9_isWithin a3 1 100000).bind fun r21 => if r21 = 0 then some (-2) else if a2 ≤ a3 then fX4_countBetween PM DM a1 a2 a3 else some 0
abbrev bwW (ty : TY) (PM DM : Nat → Int64) (A_t A_t_house A_t_pad A_t_hours A_t_laws A_t_sights A_t_worlds A_t_trialYear A_t_images : Nat) (o : Option Nat × Option Nat) : va_W := (A_t, .inr (8, [.ref A_t_house, .ref A_t_pad, .ref A_t_hours, .ref A_t_laws, .ref A_t_sights, .ref A_t_worlds, .ref A_t_trialYear, .ref A_t_images])) :: lwW ty PM DM A_t_laws o
abbrev rmX9_bows : Room := { frames := 5, cells := 1, slots := 1563, locals := 140 }
theorem kkX9_bows : yX9_bows.cls = RX9 ∧ yX9_bows.cls ≠ "java/lang/invoke/MethodHandle" ∧ yX9_bows.cls ≠ "java/lang/invoke/VarHandle" ∧ (parseMethodDescriptor yX9_bows.desc).map (fun d => d.parameters.length) = some 3 := by decide +kernel
theorem mX9_bows_f33 : Cond.fieldLink RX9 33 "SilenceCount" "laws" "LSilenceCount$Laws;" ∈ wsX9_bows := by decide +kernel
theorem mX9_bows_k180 : Cond.constant RX9 180 (100000) ∈ wsX9_bows := by decide +kernel
theorem wX9_bows_X9 : ∀ w ∈ u_ws RX9 TX9 8, w ∈ wsX9_bows := by decide +kernel
set_option maxRecDepth 100000 in
set_option maxHeartbeats 4000000 in
theorem CX9_bows_nn (l : Launch) {D : va_G} {ty : TY} {PM DM : Nat → Int64} {A_t A_t_house A_t_pad A_t_hours A_t_laws A_t_sights A_t_worlds A_t_trialYear A_t_images : Nat} {a1 a2 a3 q0 : Int32} (hM1 : fX4_markPrimes (fun _ => 0) = some PM) (hM2 : fX4_markByDigitSum (fun _ => 0) = some DM) (hf : fX9_bows PM DM a1 a2 a3 = some q0) : RNo l yX9_bows wsX9_bows rmX9_bows D ty [.ref A_t, .int a1, .int a2, .int a3] (bwW ty PM DM A_t A_t_house A_t_pad A_t_hours A_t_laws A_t_sights A_t_worlds A_t_trialYear A_t_images) (none, none) q0 := by
  refine RNo.start (cc := cX9_bows) (maxL := 4) (ret := (some .int)) (own := RX9) (by decide) rfl rfl (Nat.le_of_ble_eq_true rfl) ?_
  intro p e s m below meth c ls C hK hP hD hS hA hl
  have hP : va_P D vwCl [(A_t, .inr (8, [.ref A_t_house, .ref A_t_pad, .ref A_t_hours, .ref A_t_laws, .ref A_t_sights, .ref A_t_worlds, .ref A_t_trialYear, .ref A_t_images])), (A_t_laws, .inr (3, [.null, .null]))] s.heap := hP
  obtain ⟨AA, hAA⟩ : ∃ z : Nat → Prop, z = va_A (bwW ty PM DM A_t A_t_house A_t_pad A_t_hours A_t_laws A_t_sights A_t_worlds A_t_trialYear A_t_images (none, none)) s.heap.size := ⟨_, rfl⟩
  rw [← hAA] at hD hS hA
  have hD : va_D AA [(A_t, .inr (8, [.ref A_t_house, .ref A_t_pad, .ref A_t_hours, .ref A_t_laws, .ref A_t_sights, .ref A_t_worlds, .ref A_t_trialYear, .ref A_t_images])), (A_t_laws, .inr (3, [.null, .null]))] := hD
  obtain ⟨hx, hb, hr, hml, hown, hts, hlocks⟩ := id C
  have hl : lv_has ls 4 [(0, .ref A_t), (1, .int a1), (2, .int a2), (3, .int a3)] := hl
  unfold fX9_bows at hf
  have hPe : va_P D vwCl [] s.heap := hP.sub [] rfl
  refine lv_iload_n hx hb dX9_bows_0 rfl (lv_at hl 1 rfl) ?_
  obtain ⟨r1, hr1, hf⟩ := bnd hf
  refine callS_ri (As := [.int a1]) (rest := []) ⟨hx, hb, hml, hown, hts⟩ (CX9_isLaw l hr1) (va_cwS 1 hts gX9_bows_X9_isLaw rfl rfl rfl kkX9_isLaw.2 ⟨Nat.le_of_ble_eq_true rfl, Nat.le_of_ble_eq_true rfl⟩) hK hPe hl.1 rfl (Nat.le_of_ble_eq_true rfl) dX9_bows_1 ⟨Nat.le_of_ble_eq_true rfl, Nat.le_of_ble_eq_true rfl⟩ ?_
  refine lv_if_eq (tgt := 27) hx hb dX9_bows_4 (by decide) (fun hc => ?_) (fun hc => ?_)
  · have hf := ft hf hc
    refine lv_bipush (v := (-2)) hx hb dX9_bows_27 (by decide) ?_
    exact ret_no hx hb hr hlocks (Nat.le_of_ble_eq_true rfl) (Nat.le_of_ble_eq_true rfl) (Option.some.inj hf) (none, none) hP (by rw [← hAA]; exact hD) (by rw [← hAA]; exact hS) dX9_bows_29
  · have hf := ff hf hc
    refine lv_iload_n hx hb dX9_bows_7 rfl (lv_at hl 2 rfl) ?_
    refine lv_iconst (v := 1) hx hb dX9_bows_8 (by decide) ?_
    refine lv_ldc (v := 100000) hx hb hown (hts _ mX9_bows_k180) dX9_bows_9 ?_
    obtain ⟨r7, hr7, hf⟩ := bnd hf
    refine callS_ri (As := [.int a2, .int 1, .int 100000]) (rest := []) ⟨hx, hb, hml, hown, hts⟩ (CX9_isWithin l hr7) (va_cwS 3 hts gX9_bows_X9_isWithin rfl rfl rfl kkX9_isWithin.2 ⟨Nat.le_of_ble_eq_true rfl, Nat.le_of_ble_eq_true rfl⟩) hK hPe hl.1 rfl (Nat.le_of_ble_eq_true rfl) dX9_bows_11 ⟨Nat.le_of_ble_eq_true rfl, Nat.le_of_ble_eq_true rfl⟩ ?_
    refine lv_if_eq (tgt := 27) hx hb dX9_bows_14 (by decide) (fun hc => ?_) (fun hc => ?_)
    · have hf := ft hf hc
      refine lv_bipush (v := (-2)) hx hb dX9_bows_27 (by decide) ?_
      exact ret_no hx hb hr hlocks (Nat.le_of_ble_eq_true rfl) (Nat.le_of_ble_eq_true rfl) (Option.some.inj hf) (none, none) hP (by rw [← hAA]; exact hD) (by rw [← hAA]; exact hS) dX9_bows_29
    · have hf := ff hf hc
      refine lv_iload_n hx hb dX9_bows_17 rfl (lv_at hl 3 rfl) ?_
      refine lv_iconst (v := 1) hx hb dX9_bows_18 (by decide) ?_
      refine lv_ldc (v := 100000) hx hb hown (hts _ mX9_bows_k180) dX9_bows_19 ?_
      obtain ⟨r17, hr17, hf⟩ := bnd hf
      refine callS_ri (As := [.int a3, .int 1, .int 100000]) (rest := []) ⟨hx, hb, hml, hown, hts⟩ (CX9_isWithin l hr17) (va_cwS 3 hts gX9_bows_X9_isWithin rfl rfl rfl kkX9_isWithin.2 ⟨Nat.le_of_ble_eq_true rfl, Nat.le_of_ble_eq_true rfl⟩) hK hPe hl.1 rfl (Nat.le_of_ble_eq_true rfl) dX9_bows_21 ⟨Nat.le_of_ble_eq_true rfl, Nat.le_of_ble_eq_true rfl⟩ ?_
      refine lv_if_ne (tgt := 30) hx hb dX9_bows_24 (by decide) (fun hc => ?_) (fun hc => ?_)
      · have hf := ff hf hc
        refine lv_iload_n hx hb dX9_bows_30 rfl (lv_at hl 3 rfl) ?_
        refine lv_iload_n hx hb dX9_bows_31 rfl (lv_at hl 2 rfl) ?_
        refine lv_icmp_ge (tgt := 39) hx hb dX9_bows_32 (by decide) (fun hc => ?_) (fun hc => ?_)
        · have hf := ft hf hc
          refine lv_aload_n hx hb dX9_bows_39 rfl (lv_at hl 0 rfl) ?_
          refine va_get (D := D) (ci := 8) (v := .ref A_t_laws) (C := RX9) (T := TX9) (N := 8) hx hb hts wX9_bows_X9 hown hK.1 hP 0 rfl rfl 3 (by decide) (hts _ mX9_bows_f33) (fun _ h9 => h9) rfl dX9_bows_40 ?_
          refine lv_iload_n hx hb dX9_bows_43 rfl (lv_at hl 1 rfl) ?_
          refine lv_iload_n hx hb dX9_bows_44 rfl (lv_at hl 2 rfl) ?_
          refine lv_iload_n hx hb dX9_bows_45 rfl (lv_at hl 3 rfl) ?_
          refine callV_no (As := [.int a1, .int a2, .int a3]) (rest := []) ⟨hx, hb, hml, hown, hts⟩ (CX4_countBetween l (A := A_t_laws) (o := (none, none)) hM1 hM2 hf) (cwV 3 hts gX9_bows_X4_countBetween rfl rfl rfl kkX4_countBetween ⟨Nat.le_of_ble_eq_true rfl, Nat.le_of_ble_eq_true rfl⟩) hK hP hD hS hA [1] [0] rfl (by decide) (by decide) rfl 0 (ci := 3) rfl rfl rfl hl.1 rfl (Nat.le_of_ble_eq_true rfl) dX9_bows_46 ⟨Nat.le_of_ble_eq_true rfl, Nat.le_of_ble_eq_true rfl⟩ (fun u H locs hP hD hS => ?_)
          exact ret_no hx hb hr hlocks (Nat.le_of_ble_eq_true rfl) (Nat.le_of_ble_eq_true rfl) rfl u hP (by rw [← hAA]; exact hD) (by rw [← hAA]; exact hS) dX9_bows_49
        · have hf := ff hf hc
          refine lv_iconst (v := 0) hx hb dX9_bows_35 (by decide) ?_
          refine lv_goto (tgt := 49) hx hb dX9_bows_36 (by decide) ?_
          exact ret_no hx hb hr hlocks (Nat.le_of_ble_eq_true rfl) (Nat.le_of_ble_eq_true rfl) (Option.some.inj hf) (none, none) hP (by rw [← hAA]; exact hD) (by rw [← hAA]; exact hS) dX9_bows_49
      · have hf := ft hf hc
        refine lv_bipush (v := (-2)) hx hb dX9_bows_27 (by decide) ?_
        exact ret_no hx hb hr hlocks (Nat.le_of_ble_eq_true rfl) (Nat.le_of_ble_eq_true rfl) (Option.some.inj hf) (none, none) hP (by rw [← hAA]; exact hD) (by rw [← hAA]; exact hS) dX9_bows_29
set_option maxRecDepth 100000 in
set_option maxHeartbeats 4000000 in
theorem CX9_bows_sn (l : Launch) {D : va_G} {ty : TY} {PM DM : Nat → Int64} {A_t A_t_house A_t_pad A_t_hours A_t_laws A_t_sights A_t_worlds A_t_trialYear A_t_images : Nat} {a : Nat} {a1 a2 a3 q0 : Int32} (hM1 : fX4_markPrimes (fun _ => 0) = some PM) (hM2 : fX4_markByDigitSum (fun _ => 0) = some DM) (hf : fX9_bows PM DM a1 a2 a3 = some q0) : RNo l yX9_bows wsX9_bows rmX9_bows D ty [.ref A_t, .int a1, .int a2, .int a3] (bwW ty PM DM A_t A_t_house A_t_pad A_t_hours A_t_laws A_t_sights A_t_worlds A_t_trialYear A_t_images) (some a, none) q0 := by
  refine RNo.start (cc := cX9_bows) (maxL := 4) (ret := (some .int)) (own := RX9) (by decide) rfl rfl (Nat.le_of_ble_eq_true rfl) ?_
  intro p e s m below meth c ls C hK hP hD hS hA hl
  have hP : va_P D vwCl [(A_t, .inr (8, [.ref A_t_house, .ref A_t_pad, .ref A_t_hours, .ref A_t_laws, .ref A_t_sights, .ref A_t_worlds, .ref A_t_trialYear, .ref A_t_images])), (A_t_laws, .inr (3, [.ref a, .null])), (a, .inl (ty.2.1, 1563, .inr (.inl PM)))] s.heap := hP
  obtain ⟨AA, hAA⟩ : ∃ z : Nat → Prop, z = va_A (bwW ty PM DM A_t A_t_house A_t_pad A_t_hours A_t_laws A_t_sights A_t_worlds A_t_trialYear A_t_images (some a, none)) s.heap.size := ⟨_, rfl⟩
  rw [← hAA] at hD hS hA
  have hD : va_D AA [(A_t, .inr (8, [.ref A_t_house, .ref A_t_pad, .ref A_t_hours, .ref A_t_laws, .ref A_t_sights, .ref A_t_worlds, .ref A_t_trialYear, .ref A_t_images])), (A_t_laws, .inr (3, [.ref a, .null])), (a, .inl (ty.2.1, 1563, .inr (.inl PM)))] := hD
  obtain ⟨hx, hb, hr, hml, hown, hts, hlocks⟩ := id C
  have hl : lv_has ls 4 [(0, .ref A_t), (1, .int a1), (2, .int a2), (3, .int a3)] := hl
  unfold fX9_bows at hf
  have hPe : va_P D vwCl [] s.heap := hP.sub [] rfl
  refine lv_iload_n hx hb dX9_bows_0 rfl (lv_at hl 1 rfl) ?_
  obtain ⟨r1, hr1, hf⟩ := bnd hf
  refine callS_ri (As := [.int a1]) (rest := []) ⟨hx, hb, hml, hown, hts⟩ (CX9_isLaw l hr1) (va_cwS 1 hts gX9_bows_X9_isLaw rfl rfl rfl kkX9_isLaw.2 ⟨Nat.le_of_ble_eq_true rfl, Nat.le_of_ble_eq_true rfl⟩) hK hPe hl.1 rfl (Nat.le_of_ble_eq_true rfl) dX9_bows_1 ⟨Nat.le_of_ble_eq_true rfl, Nat.le_of_ble_eq_true rfl⟩ ?_
  refine lv_if_eq (tgt := 27) hx hb dX9_bows_4 (by decide) (fun hc => ?_) (fun hc => ?_)
  · have hf := ft hf hc
    refine lv_bipush (v := (-2)) hx hb dX9_bows_27 (by decide) ?_
    exact ret_no hx hb hr hlocks (Nat.le_of_ble_eq_true rfl) (Nat.le_of_ble_eq_true rfl) (Option.some.inj hf) (some a, none) hP (by rw [← hAA]; exact hD) (by rw [← hAA]; exact hS) dX9_bows_29
  · have hf := ff hf hc
    refine lv_iload_n hx hb dX9_bows_7 rfl (lv_at hl 2 rfl) ?_
    refine lv_iconst (v := 1) hx hb dX9_bows_8 (by decide) ?_
    refine lv_ldc (v := 100000) hx hb hown (hts _ mX9_bows_k180) dX9_bows_9 ?_
    obtain ⟨r7, hr7, hf⟩ := bnd hf
    refine callS_ri (As := [.int a2, .int 1, .int 100000]) (rest := []) ⟨hx, hb, hml, hown, hts⟩ (CX9_isWithin l hr7) (va_cwS 3 hts gX9_bows_X9_isWithin rfl rfl rfl kkX9_isWithin.2 ⟨Nat.le_of_ble_eq_true rfl, Nat.le_of_ble_eq_true rfl⟩) hK hPe hl.1 rfl (Nat.le_of_ble_eq_true rfl) dX9_bows_11 ⟨Nat.le_of_ble_eq_true rfl, Nat.le_of_ble_eq_true rfl⟩ ?_
    refine lv_if_eq (tgt := 27) hx hb dX9_bows_14 (by decide) (fun hc => ?_) (fun hc => ?_)
    · have hf := ft hf hc
      refine lv_bipush (v := (-2)) hx hb dX9_bows_27 (by decide) ?_
      exact ret_no hx hb hr hlocks (Nat.le_of_ble_eq_true rfl) (Nat.le_of_ble_eq_true rfl) (Option.some.inj hf) (some a, none) hP (by rw [← hAA]; exact hD) (by rw [← hAA]; exact hS) dX9_bows_29
    · have hf := ff hf hc
      refine lv_iload_n hx hb dX9_bows_17 rfl (lv_at hl 3 rfl) ?_
      refine lv_iconst (v := 1) hx hb dX9_bows_18 (by decide) ?_
      refine lv_ldc (v := 100000) hx hb hown (hts _ mX9_bows_k180) dX9_bows_19 ?_
      obtain ⟨r17, hr17, hf⟩ := bnd hf
      refine callS_ri (As := [.int a3, .int 1, .int 100000]) (rest := []) ⟨hx, hb, hml, hown, hts⟩ (CX9_isWithin l hr17) (va_cwS 3 hts gX9_bows_X9_isWithin rfl rfl rfl kkX9_isWithin.2 ⟨Nat.le_of_ble_eq_true rfl, Nat.le_of_ble_eq_true rfl⟩) hK hPe hl.1 rfl (Nat.le_of_ble_eq_true rfl) dX9_bows_21 ⟨Nat.le_of_ble_eq_true rfl, Nat.le_of_ble_eq_true rfl⟩ ?_
      refine lv_if_ne (tgt := 30) hx hb dX9_bows_24 (by decide) (fun hc => ?_) (fun hc => ?_)
      · have hf := ff hf hc
        refine lv_iload_n hx hb dX9_bows_30 rfl (lv_at hl 3 rfl) ?_
        refine lv_iload_n hx hb dX9_bows_31 rfl (lv_at hl 2 rfl) ?_
        refine lv_icmp_ge (tgt := 39) hx hb dX9_bows_32 (by decide) (fun hc => ?_) (fun hc => ?_)
        · have hf := ft hf hc
          refine lv_aload_n hx hb dX9_bows_39 rfl (lv_at hl 0 rfl) ?_
          refine va_get (D := D) (ci := 8) (v := .ref A_t_laws) (C := RX9) (T := TX9) (N := 8) hx hb hts wX9_bows_X9 hown hK.1 hP 0 rfl rfl 3 (by decide) (hts _ mX9_bows_f33) (fun _ h9 => h9) rfl dX9_bows_40 ?_
          refine lv_iload_n hx hb dX9_bows_43 rfl (lv_at hl 1 rfl) ?_
          refine lv_iload_n hx hb dX9_bows_44 rfl (lv_at hl 2 rfl) ?_
          refine lv_iload_n hx hb dX9_bows_45 rfl (lv_at hl 3 rfl) ?_
          refine callV_no (As := [.int a1, .int a2, .int a3]) (rest := []) ⟨hx, hb, hml, hown, hts⟩ (CX4_countBetween l (A := A_t_laws) (o := (some a, none)) hM1 hM2 hf) (cwV 3 hts gX9_bows_X4_countBetween rfl rfl rfl kkX4_countBetween ⟨Nat.le_of_ble_eq_true rfl, Nat.le_of_ble_eq_true rfl⟩) hK hP hD hS hA [1, 2] [0] rfl (by decide) (by decide) rfl 0 (ci := 3) rfl rfl rfl hl.1 rfl (Nat.le_of_ble_eq_true rfl) dX9_bows_46 ⟨Nat.le_of_ble_eq_true rfl, Nat.le_of_ble_eq_true rfl⟩ (fun u H locs hP hD hS => ?_)
          exact ret_no hx hb hr hlocks (Nat.le_of_ble_eq_true rfl) (Nat.le_of_ble_eq_true rfl) rfl u hP (by rw [← hAA]; exact hD) (by rw [← hAA]; exact hS) dX9_bows_49
        · have hf := ff hf hc
          refine lv_iconst (v := 0) hx hb dX9_bows_35 (by decide) ?_
          refine lv_goto (tgt := 49) hx hb dX9_bows_36 (by decide) ?_
          exact ret_no hx hb hr hlocks (Nat.le_of_ble_eq_true rfl) (Nat.le_of_ble_eq_true rfl) (Option.some.inj hf) (some a, none) hP (by rw [← hAA]; exact hD) (by rw [← hAA]; exact hS) dX9_bows_49
      · have hf := ft hf hc
        refine lv_bipush (v := (-2)) hx hb dX9_bows_27 (by decide) ?_
        exact ret_no hx hb hr hlocks (Nat.le_of_ble_eq_true rfl) (Nat.le_of_ble_eq_true rfl) (Option.some.inj hf) (some a, none) hP (by rw [← hAA]; exact hD) (by rw [← hAA]; exact hS) dX9_bows_29
set_option maxRecDepth 100000 in
set_option maxHeartbeats 4000000 in
theorem CX9_bows_ns (l : Launch) {D : va_G} {ty : TY} {PM DM : Nat → Int64} {A_t A_t_house A_t_pad A_t_hours A_t_laws A_t_sights A_t_worlds A_t_trialYear A_t_images : Nat} {b : Nat} {a1 a2 a3 q0 : Int32} (hM1 : fX4_markPrimes (fun _ => 0) = some PM) (hM2 : fX4_markByDigitSum (fun _ => 0) = some DM) (hf : fX9_bows PM DM a1 a2 a3 = some q0) : RNo l yX9_bows wsX9_bows rmX9_bows D ty [.ref A_t, .int a1, .int a2, .int a3] (bwW ty PM DM A_t A_t_house A_t_pad A_t_hours A_t_laws A_t_sights A_t_worlds A_t_trialYear A_t_images) (none, some b) q0 := by
  refine RNo.start (cc := cX9_bows) (maxL := 4) (ret := (some .int)) (own := RX9) (by decide) rfl rfl (Nat.le_of_ble_eq_true rfl) ?_
  intro p e s m below meth c ls C hK hP hD hS hA hl
  have hP : va_P D vwCl [(A_t, .inr (8, [.ref A_t_house, .ref A_t_pad, .ref A_t_hours, .ref A_t_laws, .ref A_t_sights, .ref A_t_worlds, .ref A_t_trialYear, .ref A_t_images])), (A_t_laws, .inr (3, [.null, .ref b])), (b, .inl (ty.2.1, 1563, .inr (.inl DM)))] s.heap := hP
  obtain ⟨AA, hAA⟩ : ∃ z : Nat → Prop, z = va_A (bwW ty PM DM A_t A_t_house A_t_pad A_t_hours A_t_laws A_t_sights A_t_worlds A_t_trialYear A_t_images (none, some b)) s.heap.size := ⟨_, rfl⟩
  rw [← hAA] at hD hS hA
  have hD : va_D AA [(A_t, .inr (8, [.ref A_t_house, .ref A_t_pad, .ref A_t_hours, .ref A_t_laws, .ref A_t_sights, .ref A_t_worlds, .ref A_t_trialYear, .ref A_t_images])), (A_t_laws, .inr (3, [.null, .ref b])), (b, .inl (ty.2.1, 1563, .inr (.inl DM)))] := hD
  obtain ⟨hx, hb, hr, hml, hown, hts, hlocks⟩ := id C
  have hl : lv_has ls 4 [(0, .ref A_t), (1, .int a1), (2, .int a2), (3, .int a3)] := hl
  unfold fX9_bows at hf
  have hPe : va_P D vwCl [] s.heap := hP.sub [] rfl
  refine lv_iload_n hx hb dX9_bows_0 rfl (lv_at hl 1 rfl) ?_
  obtain ⟨r1, hr1, hf⟩ := bnd hf
  refine callS_ri (As := [.int a1]) (rest := []) ⟨hx, hb, hml, hown, hts⟩ (CX9_isLaw l hr1) (va_cwS 1 hts gX9_bows_X9_isLaw rfl rfl rfl kkX9_isLaw.2 ⟨Nat.le_of_ble_eq_true rfl, Nat.le_of_ble_eq_true rfl⟩) hK hPe hl.1 rfl (Nat.le_of_ble_eq_true rfl) dX9_bows_1 ⟨Nat.le_of_ble_eq_true rfl, Nat.le_of_ble_eq_true rfl⟩ ?_
  refine lv_if_eq (tgt := 27) hx hb dX9_bows_4 (by decide) (fun hc => ?_) (fun hc => ?_)
  · have hf := ft hf hc
    refine lv_bipush (v := (-2)) hx hb dX9_bows_27 (by decide) ?_
    exact ret_no hx hb hr hlocks (Nat.le_of_ble_eq_true rfl) (Nat.le_of_ble_eq_true rfl) (Option.some.inj hf) (none, some b) hP (by rw [← hAA]; exact hD) (by rw [← hAA]; exact hS) dX9_bows_29
  · have hf := ff hf hc
    refine lv_iload_n hx hb dX9_bows_7 rfl (lv_at hl 2 rfl) ?_
    refine lv_iconst (v := 1) hx hb dX9_bows_8 (by decide) ?_
    refine lv_ldc (v := 100000) hx hb hown (hts _ mX9_bows_k180) dX9_bows_9 ?_
    obtain ⟨r7, hr7, hf⟩ := bnd hf
    refine callS_ri (As := [.int a2, .int 1, .int 100000]) (rest := []) ⟨hx, hb, hml, hown, hts⟩ (CX9_isWithin l hr7) (va_cwS 3 hts gX9_bows_X9_isWithin rfl rfl rfl kkX9_isWithin.2 ⟨Nat.le_of_ble_eq_true rfl, Nat.le_of_ble_eq_true rfl⟩) hK hPe hl.1 rfl (Nat.le_of_ble_eq_true rfl) dX9_bows_11 ⟨Nat.le_of_ble_eq_true rfl, Nat.le_of_ble_eq_true rfl⟩ ?_
    refine lv_if_eq (tgt := 27) hx hb dX9_bows_14 (by decide) (fun hc => ?_) (fun hc => ?_)
    · have hf := ft hf hc
      refine lv_bipush (v := (-2)) hx hb dX9_bows_27 (by decide) ?_
      exact ret_no hx hb hr hlocks (Nat.le_of_ble_eq_true rfl) (Nat.le_of_ble_eq_true rfl) (Option.some.inj hf) (none, some b) hP (by rw [← hAA]; exact hD) (by rw [← hAA]; exact hS) dX9_bows_29
    · have hf := ff hf hc
      refine lv_iload_n hx hb dX9_bows_17 rfl (lv_at hl 3 rfl) ?_
      refine lv_iconst (v := 1) hx hb dX9_bows_18 (by decide) ?_
      refine lv_ldc (v := 100000) hx hb hown (hts _ mX9_bows_k180) dX9_bows_19 ?_
      obtain ⟨r17, hr17, hf⟩ := bnd hf
      refine callS_ri (As := [.int a3, .int 1, .int 100000]) (rest := []) ⟨hx, hb, hml, hown, hts⟩ (CX9_isWithin l hr17) (va_cwS 3 hts gX9_bows_X9_isWithin rfl rfl rfl kkX9_isWithin.2 ⟨Nat.le_of_ble_eq_true rfl, Nat.le_of_ble_eq_true rfl⟩) hK hPe hl.1 rfl (Nat.le_of_ble_eq_true rfl) dX9_bows_21 ⟨Nat.le_of_ble_eq_true rfl, Nat.le_of_ble_eq_true rfl⟩ ?_
      refine lv_if_ne (tgt := 30) hx hb dX9_bows_24 (by decide) (fun hc => ?_) (fun hc => ?_)
      · have hf := ff hf hc
        refine lv_iload_n hx hb dX9_bows_30 rfl (lv_at hl 3 rfl) ?_
        refine lv_iload_n hx hb dX9_bows_31 rfl (lv_at hl 2 rfl) ?_
        refine lv_icmp_ge (tgt := 39) hx hb dX9_bows_32 (by decide) (fun hc => ?_) (fun hc => ?_)
        · have hf := ft hf hc
          refine lv_aload_n hx hb dX9_bows_39 rfl (lv_at hl 0 rfl) ?_
          refine va_get (D := D) (ci := 8) (v := .ref A_t_laws) (C := RX9) (T := TX9) (N := 8) hx hb hts wX9_bows_X9 hown hK.1 hP 0 rfl rfl 3 (by decide) (hts _ mX9_bows_f33) (fun _ h9 => h9) rfl dX9_bows_40 ?_
          refine lv_iload_n hx hb dX9_bows_43 rfl (lv_at hl 1 rfl) ?_
          refine lv_iload_n hx hb dX9_bows_44 rfl (lv_at hl 2 rfl) ?_
          refine lv_iload_n hx hb dX9_bows_45 rfl (lv_at hl 3 rfl) ?_
          refine callV_no (As := [.int a1, .int a2, .int a3]) (rest := []) ⟨hx, hb, hml, hown, hts⟩ (CX4_countBetween l (A := A_t_laws) (o := (none, some b)) hM1 hM2 hf) (cwV 3 hts gX9_bows_X4_countBetween rfl rfl rfl kkX4_countBetween ⟨Nat.le_of_ble_eq_true rfl, Nat.le_of_ble_eq_true rfl⟩) hK hP hD hS hA [1, 2] [0] rfl (by decide) (by decide) rfl 0 (ci := 3) rfl rfl rfl hl.1 rfl (Nat.le_of_ble_eq_true rfl) dX9_bows_46 ⟨Nat.le_of_ble_eq_true rfl, Nat.le_of_ble_eq_true rfl⟩ (fun u H locs hP hD hS => ?_)
          exact ret_no hx hb hr hlocks (Nat.le_of_ble_eq_true rfl) (Nat.le_of_ble_eq_true rfl) rfl u hP (by rw [← hAA]; exact hD) (by rw [← hAA]; exact hS) dX9_bows_49
        · have hf := ff hf hc
          refine lv_iconst (v := 0) hx hb dX9_bows_35 (by decide) ?_
          refine lv_goto (tgt := 49) hx hb dX9_bows_36 (by decide) ?_
          exact ret_no hx hb hr hlocks (Nat.le_of_ble_eq_true rfl) (Nat.le_of_ble_eq_true rfl) (Option.some.inj hf) (none, some b) hP (by rw [← hAA]; exact hD) (by rw [← hAA]; exact hS) dX9_bows_49
      · have hf := ft hf hc
        refine lv_bipush (v := (-2)) hx hb dX9_bows_27 (by decide) ?_
        exact ret_no hx hb hr hlocks (Nat.le_of_ble_eq_true rfl) (Nat.le_of_ble_eq_true rfl) (Option.some.inj hf) (none, some b) hP (by rw [← hAA]; exact hD) (by rw [← hAA]; exact hS) dX9_bows_29
set_option maxRecDepth 100000 in
set_option maxHeartbeats 4000000 in
theorem CX9_bows_ss (l : Launch) {D : va_G} {ty : TY} {PM DM : Nat → Int64} {A_t A_t_house A_t_pad A_t_hours A_t_laws A_t_sights A_t_worlds A_t_trialYear A_t_images : Nat} {a : Nat} {b : Nat} {a1 a2 a3 q0 : Int32} (hM1 : fX4_markPrimes (fun _ => 0) = some PM) (hM2 : fX4_markByDigitSum (fun _ => 0) = some DM) (hf : fX9_bows PM DM a1 a2 a3 = some q0) : RNo l yX9_bows wsX9_bows rmX9_bows D ty [.ref A_t, .int a1, .int a2, .int a3] (bwW ty PM DM A_t A_t_house A_t_pad A_t_hours A_t_laws A_t_sights A_t_worlds A_t_trialYear A_t_images) (some a, some b) q0 := by
  refine RNo.start (cc := cX9_bows) (maxL := 4) (ret := (some .int)) (own := RX9) (by decide) rfl rfl (Nat.le_of_ble_eq_true rfl) ?_
  intro p e s m below meth c ls C hK hP hD hS hA hl
  have hP : va_P D vwCl [(A_t, .inr (8, [.ref A_t_house, .ref A_t_pad, .ref A_t_hours, .ref A_t_laws, .ref A_t_sights, .ref A_t_worlds, .ref A_t_trialYear, .ref A_t_images])), (A_t_laws, .inr (3, [.ref a, .ref b])), (a, .inl (ty.2.1, 1563, .inr (.inl PM))), (b, .inl (ty.2.1, 1563, .inr (.inl DM)))] s.heap := hP
  obtain ⟨AA, hAA⟩ : ∃ z : Nat → Prop, z = va_A (bwW ty PM DM A_t A_t_house A_t_pad A_t_hours A_t_laws A_t_sights A_t_worlds A_t_trialYear A_t_images (some a, some b)) s.heap.size := ⟨_, rfl⟩
  rw [← hAA] at hD hS hA
  have hD : va_D AA [(A_t, .inr (8, [.ref A_t_house, .ref A_t_pad, .ref A_t_hours, .ref A_t_laws, .ref A_t_sights, .ref A_t_worlds, .ref A_t_trialYear, .ref A_t_images])), (A_t_laws, .inr (3, [.ref a, .ref b])), (a, .inl (ty.2.1, 1563, .inr (.inl PM))), (b, .inl (ty.2.1, 1563, .inr (.inl DM)))] := hD
  obtain ⟨hx, hb, hr, hml, hown, hts, hlocks⟩ := id C
  have hl : lv_has ls 4 [(0, .ref A_t), (1, .int a1), (2, .int a2), (3, .int a3)] := hl
  unfold fX9_bows at hf
  have hPe : va_P D vwCl [] s.heap := hP.sub [] rfl
  refine lv_iload_n hx hb dX9_bows_0 rfl (lv_at hl 1 rfl) ?_
  obtain ⟨r1, hr1, hf⟩ := bnd hf
  refine callS_ri (As := [.int a1]) (rest := []) ⟨hx, hb, hml, hown, hts⟩ (CX9_isLaw l hr1) (va_cwS 1 hts gX9_bows_X9_isLaw rfl rfl rfl kkX9_isLaw.2 ⟨Nat.le_of_ble_eq_true rfl, Nat.le_of_ble_eq_true rfl⟩) hK hPe hl.1 rfl (Nat.le_of_ble_eq_true rfl) dX9_bows_1 ⟨Nat.le_of_ble_eq_true rfl, Nat.le_of_ble_eq_true rfl⟩ ?_
  refine lv_if_eq (tgt := 27) hx hb dX9_bows_4 (by decide) (fun hc => ?_) (fun hc => ?_)
  · have hf := ft hf hc
    refine lv_bipush (v := (-2)) hx hb dX9_bows_27 (by decide) ?_
    exact ret_no hx hb hr hlocks (Nat.le_of_ble_eq_true rfl) (Nat.le_of_ble_eq_true rfl) (Option.some.inj hf) (some a, some b) hP (by rw [← hAA]; exact hD) (by rw [← hAA]; exact hS) dX9_bows_29
  · have hf := ff hf hc
    refine lv_iload_n hx hb dX9_bows_7 rfl (lv_at hl 2 rfl) ?_
    refine lv_iconst (v := 1) hx hb dX9_bows_8 (by decide) ?_
    refine lv_ldc (v := 100000) hx hb hown (hts _ mX9_bows_k180) dX9_bows_9 ?_
    obtain ⟨r7, hr7, hf⟩ := bnd hf
    refine callS_ri (As := [.int a2, .int 1, .int 100000]) (rest := []) ⟨hx, hb, hml, hown, hts⟩ (CX9_isWithin l hr7) (va_cwS 3 hts gX9_bows_X9_isWithin rfl rfl rfl kkX9_isWithin.2 ⟨Nat.le_of_ble_eq_true rfl, Nat.le_of_ble_eq_true rfl⟩) hK hPe hl.1 rfl (Nat.le_of_ble_eq_true rfl) dX9_bows_11 ⟨Nat.le_of_ble_eq_true rfl, Nat.le_of_ble_eq_true rfl⟩ ?_
    refine lv_if_eq (tgt := 27) hx hb dX9_bows_14 (by decide) (fun hc => ?_) (fun hc => ?_)
    · have hf := ft hf hc
      refine lv_bipush (v := (-2)) hx hb dX9_bows_27 (by decide) ?_
      exact ret_no hx hb hr hlocks (Nat.le_of_ble_eq_true rfl) (Nat.le_of_ble_eq_true rfl) (Option.some.inj hf) (some a, some b) hP (by rw [← hAA]; exact hD) (by rw [← hAA]; exact hS) dX9_bows_29
    · have hf := ff hf hc
      refine lv_iload_n hx hb dX9_bows_17 rfl (lv_at hl 3 rfl) ?_
      refine lv_iconst (v := 1) hx hb dX9_bows_18 (by decide) ?_
      refine lv_ldc (v := 100000) hx hb hown (hts _ mX9_bows_k180) dX9_bows_19 ?_
      obtain ⟨r17, hr17, hf⟩ := bnd hf
      refine callS_ri (As := [.int a3, .int 1, .int 100000]) (rest := []) ⟨hx, hb, hml, hown, hts⟩ (CX9_isWithin l hr17) (va_cwS 3 hts gX9_bows_X9_isWithin rfl rfl rfl kkX9_isWithin.2 ⟨Nat.le_of_ble_eq_true rfl, Nat.le_of_ble_eq_true rfl⟩) hK hPe hl.1 rfl (Nat.le_of_ble_eq_true rfl) dX9_bows_21 ⟨Nat.le_of_ble_eq_true rfl, Nat.le_of_ble_eq_true rfl⟩ ?_
      refine lv_if_ne (tgt := 30) hx hb dX9_bows_24 (by decide) (fun hc => ?_) (fun hc => ?_)
      · have hf := ff hf hc
        refine lv_iload_n hx hb dX9_bows_30 rfl (lv_at hl 3 rfl) ?_
        refine lv_iload_n hx hb dX9_bows_31 rfl (lv_at hl 2 rfl) ?_
        refine lv_icmp_ge (tgt := 39) hx hb dX9_bows_32 (by decide) (fun hc => ?_) (fun hc => ?_)
        · have hf := ft hf hc
          refine lv_aload_n hx hb dX9_bows_39 rfl (lv_at hl 0 rfl) ?_
          refine va_get (D := D) (ci := 8) (v := .ref A_t_laws) (C := RX9) (T := TX9) (N := 8) hx hb hts wX9_bows_X9 hown hK.1 hP 0 rfl rfl 3 (by decide) (hts _ mX9_bows_f33) (fun _ h9 => h9) rfl dX9_bows_40 ?_
          refine lv_iload_n hx hb dX9_bows_43 rfl (lv_at hl 1 rfl) ?_
          refine lv_iload_n hx hb dX9_bows_44 rfl (lv_at hl 2 rfl) ?_
          refine lv_iload_n hx hb dX9_bows_45 rfl (lv_at hl 3 rfl) ?_
          refine callV_no (As := [.int a1, .int a2, .int a3]) (rest := []) ⟨hx, hb, hml, hown, hts⟩ (CX4_countBetween l (A := A_t_laws) (o := (some a, some b)) hM1 hM2 hf) (cwV 3 hts gX9_bows_X4_countBetween rfl rfl rfl kkX4_countBetween ⟨Nat.le_of_ble_eq_true rfl, Nat.le_of_ble_eq_true rfl⟩) hK hP hD hS hA [1, 2, 3] [0] rfl (by decide) (by decide) rfl 0 (ci := 3) rfl rfl rfl hl.1 rfl (Nat.le_of_ble_eq_true rfl) dX9_bows_46 ⟨Nat.le_of_ble_eq_true rfl, Nat.le_of_ble_eq_true rfl⟩ (fun u H locs hP hD hS => ?_)
          exact ret_no hx hb hr hlocks (Nat.le_of_ble_eq_true rfl) (Nat.le_of_ble_eq_true rfl) rfl u hP (by rw [← hAA]; exact hD) (by rw [← hAA]; exact hS) dX9_bows_49
        · have hf := ff hf hc
          refine lv_iconst (v := 0) hx hb dX9_bows_35 (by decide) ?_
          refine lv_goto (tgt := 49) hx hb dX9_bows_36 (by decide) ?_
          exact ret_no hx hb hr hlocks (Nat.le_of_ble_eq_true rfl) (Nat.le_of_ble_eq_true rfl) (Option.some.inj hf) (some a, some b) hP (by rw [← hAA]; exact hD) (by rw [← hAA]; exact hS) dX9_bows_49
      · have hf := ft hf hc
        refine lv_bipush (v := (-2)) hx hb dX9_bows_27 (by decide) ?_
        exact ret_no hx hb hr hlocks (Nat.le_of_ble_eq_true rfl) (Nat.le_of_ble_eq_true rfl) (Option.some.inj hf) (some a, some b) hP (by rw [← hAA]; exact hD) (by rw [← hAA]; exact hS) dX9_bows_29
theorem CX9_bows (l : Launch) {D : va_G} {ty : TY} {PM DM : Nat → Int64} {A_t A_t_house A_t_pad A_t_hours A_t_laws A_t_sights A_t_worlds A_t_trialYear A_t_images : Nat} {o : Option Nat × Option Nat} {a1 a2 a3 q0 : Int32} (hM1 : fX4_markPrimes (fun _ => 0) = some PM) (hM2 : fX4_markByDigitSum (fun _ => 0) = some DM) (hf : fX9_bows PM DM a1 a2 a3 = some q0) : RNo l yX9_bows wsX9_bows rmX9_bows D ty [.ref A_t, .int a1, .int a2, .int a3] (bwW ty PM DM A_t A_t_house A_t_pad A_t_hours A_t_laws A_t_sights A_t_worlds A_t_trialYear A_t_images) o q0 := by
  obtain ⟨o1, o2⟩ := o
  cases o1 with
  | none => cases o2 with
    | none => exact CX9_bows_nn l hM1 hM2 hf
    | some b => exact CX9_bows_ns l hM1 hM2 hf
  | some a => cases o2 with
    | none => exact CX9_bows_sn l hM1 hM2 hf
    | some b => exact CX9_bows_ss l hM1 hM2 hf
