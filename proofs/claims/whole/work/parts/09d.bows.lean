
/-- the laws' cells: the object, and the rows that are made -/
def lwW (ty : TY) (PM DM : Nat → Int64) (A : Nat) (o : Option Nat × Option Nat) : va_W := match o with
  | (none, none) => [(A, .inr (3, [.null, .null]))]
  | (some a, none) => [(A, .inr (3, [.ref a, .null])), (a, .inl (ty.2.1, 1563, .inr (.inl PM)))]
  | (none, some b) => [(A, .inr (3, [.null, .ref b])), (b, .inl (ty.2.1, 1563, .inr (.inl DM)))]
  | (some a, some b) => [(A, .inr (3, [.ref a, .ref b])), (a, .inl (ty.2.1, 1563, .inr (.inl PM))), (b, .inl (ty.2.1, 1563, .inr (.inl DM)))]
abbrev QNo (D : va_G) (Wf : Option Nat × Option Nat → va_W) (o : Option Nat × Option Nat) (sz : Nat) (r0 : Int32) : Array Value → State → Outcome → State → Prop := va_Qi (fun r (_ : Option Nat × Option Nat) => r = r0) (fun u t => va_P D vwCl (Wf u) t.heap ∧ va_D (va_A (Wf o) sz) (Wf u)) (va_A (Wf o) sz)
/-- a method that answers an int, and may make one row of the laws -/
def RNo (l : Launch) (y : MethodName) (ws : List Cond) (rm : Room) (D : va_G) (ty : TY) (av : List Value) (Wf : Option Nat × Option Nat → va_W) (o : Option Nat × Option Nat) (r0 : Int32) : Prop := ∀ sz : Nat, Met l y ws rm (PRW D ty av (Wf o) sz) (QNo D Wf o sz r0) 1 1563 (va_A (Wf o) sz)
section OwStart
variable {l : Launch} {y : MethodName} {ws ws' : List Cond} {rm : Room} {D : va_G} {ty : TY} {av : List Value} {Wf : Option Nat × Option Nat → va_W} {o : Option Nat × Option Nat} {r0 : Int32} {cc : ByteArray} {maxL : Nat} {ret : Option FieldType} {own : String}
theorem RNo.start (hy : plainName y.cls = true) (hw : ws = Cond.code y cc maxL ret :: ws') (ho : y.cls = own) (hlen : (lg_sl av).length ≤ maxL)
    (body : ∀ (p : Program) (e : Env) (s : State) (m : MethodId) (below : List Frame) (meth : Method) (c : Code) (ls : Array Slot), cx p s m av meth c cc maxL ret own ws → KK D ty s → va_P D vwCl (Wf o) s.heap → va_D (va_A (Wf o) s.heap.size) (Wf o) → va_S (va_A (Wf o) s.heap.size) s.heap s.heap [] → (∀ q, s.heap.size ≤ q → va_A (Wf o) s.heap.size q) → lv_has ls maxL (lv_args 0 av) → W p l e rm s m av.toArray below meth c s.heap [] 0 0 (MQ below (QNo D Wf o s.heap.size r0) av.toArray s 1 1563 (va_A (Wf o) s.heap.size)) (F0 m 0 ls [])) : RNo l y ws rm D ty av Wf o r0 := by
  intro sz
  refine Met.ofW (cc := cc) (maxL := maxL) (ret := ret) hy hw ?_
  intro p e s m args below meth c s₁ B hml hv
  obtain ⟨rfl, hsz, hP, hK, hD0⟩ := hv
  subst hsz
  have hts := atoms_spec (ws := ws) B.pre
  have hown : s.vm.findClass own = some m.cls := by rw [← ho]; exact findClass_of_methodNamed B.named
  rw [lg_entry_eq]
  exact body p e s m below meth c _ ⟨B.exec, B.bytes, B.returns, hml, hown, hts, B.notSynchronized⟩ hK hP hD0.self va_S.rf (fun q h => Or.inr h) (lv_entry av hlen)
end OwStart
theorem ret_no {p : Program} {l : Launch} {e : Env} {R : Room} {s : State} {m : MethodId} {av : List Value} {below : List Frame} {meth : Method} {c : Code} {cc : ByteArray} {pc cells slots : Nat} {ls : Array Slot} {D : va_G} {Wf : Option Nat × Option Nat → va_W} {o : Option Nat × Option Nat} {H : Heap} {locs : List Loc} {v r0 : Int32} (hexec : p.tables.exec = Jvm.exec) (hb : c.code = cc) (hr : meth.sig.returnType = some .int) (hlocks : meth.locks = false) (h1 : cells ≤ 1) (h2 : slots ≤ 1563) (hv : v = r0) (u : Option Nat × Option Nat) (hP : va_P D vwCl (Wf u) H) (hD : va_D (va_A (Wf o) s.heap.size) (Wf u)) (hS : va_S (va_A (Wf o) s.heap.size) s.heap H locs) (hdg : decode cc pc = .ok (.ireturn, 1)) : W p l e R s m av.toArray below meth c H locs cells slots (MQ below (QNo D Wf o s.heap.size r0) av.toArray s 1 1563 (va_A (Wf o) s.heap.size)) (F0 m pc ls [.int v]) :=
  W.widen h1 h2 (W.iret hexec hb hr (fun t ht _ => ⟨⟨v, u, rfl, hv, by rw [ht]; exact hP, hD⟩, hS.F ht⟩) hS.2.2 hdg)
section OwCall
variable {p : Program} {l : Launch} {e : Env} {R : Room} {s : State} {m : MethodId} {args : Array Value} {below : List Frame} {meth : Method} {c : Code} {H H0 : Heap} {locs : List Loc} {cells slots : Nat} {Q : State → Prop}
variable {cc : ByteArray} {pc nL : Nat} {ls : Array Slot} {rest : List Value} {D : va_G} {ty : TY} {A : Nat → Prop} {ws0 : va_W}
variable {y : MethodName} {ws : List Cond} {rm : Room} {As : List Value} {WC : va_W} {W1 : Nat → va_W} {mc ms index maxL : Nat} {bytes : ByteArray} {ret : Option FieldType} {Ts : List Cond} {own : String} {b : Nat} {st : List Value}
theorem callS_nr (S : CallFix p m c cc nL s args Ts own) (hM : RNr l y ws rm D ty As WC mc ms W1) (cw : CallB R s args own index y bytes maxL ret ws rm mc ms As.length ∧ (Cond.static y).before args s = true) (hK : KK D ty s) (hP : va_P D vwCl ws0 H) (hD : va_D A ws0) (hS : va_S A H0 H locs) (hA : ∀ q, H0.size ≤ q → A q) (isC isR : List Nat) (hC : isC.map (fun i => ws0[i]?) = WC.map some) (hn : va_nd isC = true ∧ va_nd isR = true) (hd : ∀ i ∈ isR, i ∉ isC) (hl : isR.all (fun i => decide (i < ws0.length)) = true) (hsize : ls.size = nL) (hst : st = As.reverse ++ rest) (hW : (rest.map fun v => v.category).sum ≤ 8) (hdg : decode cc pc = .ok (.invokestatic index, 3)) (hf : cells + mc ≤ R.cells ∧ slots + ms ≤ R.slots)
    (kk : ∀ (a : Nat) (H1 : Heap) (locs1 : List Loc), va_P D vwCl (pick ws0 isR ++ W1 a) H1 → va_D A (pick ws0 isR ++ W1 a) → va_S A H0 H1 locs1 → W p l e R s m args below meth c H1 locs1 (cells + mc) (slots + ms) Q (F0 m (pc + 3) ls (.ref a :: rest))) : W p l e R s m args below meth c H locs cells slots Q (F0 m pc ls st) := by
  have hPc := hP.sub (ws' := WC) isC (pick_eq hC)
  have hDc := hD.sub (ws' := WC) isC hn.1 hC
  have hFc := va_free (wc := WC) hD hS hA isC hC
  refine va_callr (va_runS (g := F0 m pc ls st) S (hM H.size) cw ⟨PRW.blind, fun U hU hW => ⟨rfl, by rw [hU], by rw [hU]; exact hPc, hK.warm hW, hDc.weaken (fun _ _ _ _ => trivial)⟩⟩ rfl rfl hsize hst (lv_room hW) hdg hf) hS (fun q _ h => hFc q h) hFc (fun u ra t H1 locs1 ht hvm hw hB hz1 hk1 hS => ?_)
  obtain ⟨hP1, hD1⟩ := hB
  rw [ht] at hP1
  obtain ⟨hP2, hD2⟩ := va_join (wr := pick ws0 isR) (w1 := W1 ra) hP hD isC isR hC (pick_map ws0 isR hl) hn.2 hd hk1 hFc hP1 hD1
  exact kk ra H1 locs1 hP2 hD2 hS
end OwCall
def fX4_countBetween (PM DM : Nat → Int64) (a1 a2 a3 : Int32) : Option Int32 :=
  if a1 = 0 then fX4_countMarks PM a2 a3 else if a1 = 1 then (fX4_rootOf a3).bind fun r1 => (fX4_rootOf (a2 - 1)).bind fun r2 => some (r1 - r2) else if a1 = 2 then fX4_countMirrored a2 a3 else if a1 = 3 then fX4_countMarks DM a2 a3 else fX4_countPowers a2 a3
abbrev rmX4_countBetween : Room := { frames := 4, cells := 1, slots := 1563, locals := 110 }
theorem kkX4_countBetween : yX4_countBetween.cls = RX4 ∧ yX4_countBetween.cls ≠ "java/lang/invoke/MethodHandle" ∧ yX4_countBetween.cls ≠ "java/lang/invoke/VarHandle" ∧ (parseMethodDescriptor yX4_countBetween.desc).map (fun d => d.parameters.length) = some 3 := by decide +kernel
theorem mX4_countBetween_f39 : Cond.fieldLink RX4 39 "SilenceCount$Laws" "primes" "[J" ∈ wsX4_countBetween := by decide +kernel
theorem mX4_countBetween_f54 : Cond.fieldLink RX4 54 "SilenceCount$Laws" "byDigitSum" "[J" ∈ wsX4_countBetween := by decide +kernel
theorem wX4_countBetween_X4 : ∀ w ∈ u_ws RX4 TX4 2, w ∈ wsX4_countBetween := by decide +kernel

set_option maxRecDepth 100000 in
set_option maxHeartbeats 4000000 in
theorem CX4_countBetween_nn (l : Launch) {D : va_G} {ty : TY} {PM DM : Nat → Int64} {A : Nat} {a1 a2 a3 q0 : Int32} (hM1 : fX4_markPrimes (fun _ => 0) = some PM) (hM2 : fX4_markByDigitSum (fun _ => 0) = some DM) (hf : fX4_countBetween PM DM a1 a2 a3 = some q0) : RNo l yX4_countBetween wsX4_countBetween rmX4_countBetween D ty [.ref A, .int a1, .int a2, .int a3] (lwW ty PM DM A) (none, none) q0 := by
  refine RNo.start (cc := cX4_countBetween) (maxL := 4) (ret := (some .int)) (own := RX4) (by decide) rfl rfl (Nat.le_of_ble_eq_true rfl) ?_
  intro p e s m below meth c ls C hK hP hD hS hA hl
  have hP : va_P D vwCl [(A, .inr (3, [.null, .null]))] s.heap := hP
  obtain ⟨AA, hAA⟩ : ∃ z : Nat → Prop, z = va_A (lwW ty PM DM A (none, none)) s.heap.size := ⟨_, rfl⟩
  rw [← hAA] at hD hS hA
  have hD : va_D AA [(A, .inr (3, [.null, .null]))] := hD
  obtain ⟨hx, hb, hr, hml, hown, hts, hlocks⟩ := id C
  have hl : lv_has ls 4 [(0, .ref A), (1, .int a1), (2, .int a2), (3, .int a3)] := hl
  unfold fX4_countBetween at hf
  refine lv_iload_n hx hb dX4_countBetween_0 rfl (lv_at hl 1 rfl) ?_
  by_cases hc0 : a1 = 0
  · have hf := ft hf hc0
    refine lv_tableIn (tgt := 32) hx hb dX4_countBetween_1 (by rw [hc0]; decide) (by rw [hc0]; decide) (by rw [hc0] <;> rfl) (by decide) ?_
    refine lv_aload_n hx hb dX4_countBetween_32 rfl (lv_at hl 0 rfl) ?_
    refine va_get (D := D) (ci := 3) (v := .null) (C := RX4) (T := TX4) (N := 2) hx hb hts wX4_countBetween_X4 hown hK.1 hP 0 rfl rfl 0 (by decide) (hts _ mX4_countBetween_f39) (fun _ h9 => h9) rfl dX4_countBetween_33 ?_
    refine lv_ifnonnullN hx hb dX4_countBetween_36 ?_
    refine lv_aload_n hx hb dX4_countBetween_39 rfl (lv_at hl 0 rfl) ?_
    refine callS_nr (As := []) (rest := [.ref A]) ⟨hx, hb, hml, hown, hts⟩ (CX4_markPrimes l hM1) (va_cwS 0 hts gX4_countBetween_X4_markPrimes rfl rfl rfl kkX4_markPrimes.2 ⟨Nat.le_of_ble_eq_true rfl, Nat.le_of_ble_eq_true rfl⟩) hK hP hD hS hA [] [0] rfl (by decide) (by decide) rfl hl.1 rfl (Nat.le_of_ble_eq_true rfl) dX4_countBetween_40 ⟨Nat.le_of_ble_eq_true rfl, Nat.le_of_ble_eq_true rfl⟩ (fun z H locs hP hD hS => ?_)
    have hP : va_P D vwCl [(A, .inr (3, [.null, .null])), (z, .inl (ty.2.1, 1563, .inr (.inl PM)))] H := hP
    have hD : va_D AA [(A, .inr (3, [.null, .null])), (z, .inl (ty.2.1, 1563, .inr (.inl PM)))] := hD
    refine W.eq (g2 := F0 m 43 ls [.ref z, .ref A]) rfl ?_
    refine va_put (D := D) (ci := 3) (v := .ref z) (ty := .array .long) (C := RX4) (T := TX4) (N := 2) hx hb hts wX4_countBetween_X4 tyX4 tyX4_ok nmX4 hown hK.1 hP hD hS 0 rfl rfl 0 (by decide) (hts _ mX4_countBetween_f39) (fun _ h9 => h9) rfl (by decide +kernel) rfl rfl (Nat.le_of_ble_eq_true rfl) dX4_countBetween_43 (fun H locs hP hD hS => ?_)
    have hP : va_P D vwCl [(A, .inr (3, [.ref z, .null])), (z, .inl (ty.2.1, 1563, .inr (.inl PM)))] H := hP
    have hD : va_D AA [(A, .inr (3, [.ref z, .null])), (z, .inl (ty.2.1, 1563, .inr (.inl PM)))] := hD
    refine lv_aload_n hx hb dX4_countBetween_46 rfl (lv_at hl 0 rfl) ?_
    refine va_get (D := D) (ci := 3) (v := .ref z) (C := RX4) (T := TX4) (N := 2) hx hb hts wX4_countBetween_X4 hown hK.1 hP 0 rfl rfl 0 (by decide) (hts _ mX4_countBetween_f39) (fun _ h9 => h9) rfl dX4_countBetween_47 ?_
    refine lv_iload_n hx hb dX4_countBetween_50 rfl (lv_at hl 2 rfl) ?_
    refine lv_iload_n hx hb dX4_countBetween_51 rfl (lv_at hl 3 rfl) ?_
    have hPc : va_P D vwCl [(z, .inl (ty.2.1, 1563, .inr (.inl PM)))] _ := hP.sub [1] rfl
    refine callS_ri (As := [.ref z, .int a2, .int a3]) (rest := []) ⟨hx, hb, hml, hown, hts⟩ (CX4_countMarks l hf) (va_cwS 3 hts gX4_countBetween_X4_countMarks rfl rfl rfl kkX4_countMarks.2 ⟨Nat.le_of_ble_eq_true rfl, Nat.le_of_ble_eq_true rfl⟩) hK hPc hl.1 rfl (Nat.le_of_ble_eq_true rfl) dX4_countBetween_52 ⟨Nat.le_of_ble_eq_true rfl, Nat.le_of_ble_eq_true rfl⟩ ?_
    exact ret_no hx hb hr hlocks (Nat.le_of_ble_eq_true rfl) (Nat.le_of_ble_eq_true rfl) (rfl) (some z, none) hP (by rw [← hAA]; exact hD) (by rw [← hAA]; exact hS) dX4_countBetween_55
  · have hf := ff hf hc0
    by_cases hc1 : a1 = 1
    · have hf := ft hf hc1
      refine lv_tableIn (tgt := 56) hx hb dX4_countBetween_1 (by rw [hc1]; decide) (by rw [hc1]; decide) (by rw [hc1] <;> rfl) (by decide) ?_
      have hPe : va_P D vwCl [] s.heap := hP.sub [] rfl
      obtain ⟨r1, hr1, hf⟩ := bnd hf
      obtain ⟨r2, hr2, hf⟩ := bnd hf
      refine lv_iload_n hx hb dX4_countBetween_56 rfl (lv_at hl 3 rfl) ?_
      refine callS_ri (As := [.int a3]) (rest := []) ⟨hx, hb, hml, hown, hts⟩ (CX4_rootOf l hr1) (va_cwS 1 hts gX4_countBetween_X4_rootOf rfl rfl rfl kkX4_rootOf.2 ⟨Nat.le_of_ble_eq_true rfl, Nat.le_of_ble_eq_true rfl⟩) hK hPe hl.1 rfl (Nat.le_of_ble_eq_true rfl) dX4_countBetween_57 ⟨Nat.le_of_ble_eq_true rfl, Nat.le_of_ble_eq_true rfl⟩ ?_
      refine lv_iload_n hx hb dX4_countBetween_60 rfl (lv_at hl 2 rfl) ?_
      refine lv_iconst (v := 1) hx hb dX4_countBetween_61 (by decide) ?_
      refine lv_isub hx hb dX4_countBetween_62 ?_
      refine callS_ri (As := [.int (a2 - 1)]) (rest := [.int r1]) ⟨hx, hb, hml, hown, hts⟩ (CX4_rootOf l hr2) (va_cwS 1 hts gX4_countBetween_X4_rootOf rfl rfl rfl kkX4_rootOf.2 ⟨Nat.le_of_ble_eq_true rfl, Nat.le_of_ble_eq_true rfl⟩) hK hPe hl.1 rfl (Nat.le_of_ble_eq_true rfl) dX4_countBetween_63 ⟨Nat.le_of_ble_eq_true rfl, Nat.le_of_ble_eq_true rfl⟩ ?_
      refine lv_isub hx hb dX4_countBetween_66 ?_
      exact ret_no hx hb hr hlocks (Nat.le_of_ble_eq_true rfl) (Nat.le_of_ble_eq_true rfl) (Option.some.inj hf) (none, none) hP (by rw [← hAA]; exact hD) (by rw [← hAA]; exact hS) dX4_countBetween_67
    · have hf := ff hf hc1
      by_cases hc2 : a1 = 2
      · have hf := ft hf hc2
        refine lv_tableIn (tgt := 68) hx hb dX4_countBetween_1 (by rw [hc2]; decide) (by rw [hc2]; decide) (by rw [hc2] <;> rfl) (by decide) ?_
        have hPe : va_P D vwCl [] s.heap := hP.sub [] rfl
        refine lv_iload_n hx hb dX4_countBetween_68 rfl (lv_at hl 2 rfl) ?_
        refine lv_iload_n hx hb dX4_countBetween_69 rfl (lv_at hl 3 rfl) ?_
        refine callS_ri (As := [.int a2, .int a3]) (rest := []) ⟨hx, hb, hml, hown, hts⟩ (CX4_countMirrored l hf) (va_cwS 2 hts gX4_countBetween_X4_countMirrored rfl rfl rfl kkX4_countMirrored.2 ⟨Nat.le_of_ble_eq_true rfl, Nat.le_of_ble_eq_true rfl⟩) hK hPe hl.1 rfl (Nat.le_of_ble_eq_true rfl) dX4_countBetween_70 ⟨Nat.le_of_ble_eq_true rfl, Nat.le_of_ble_eq_true rfl⟩ ?_
        exact ret_no hx hb hr hlocks (Nat.le_of_ble_eq_true rfl) (Nat.le_of_ble_eq_true rfl) (rfl) (none, none) hP (by rw [← hAA]; exact hD) (by rw [← hAA]; exact hS) dX4_countBetween_73
      · have hf := ff hf hc2
        by_cases hc3 : a1 = 3
        · have hf := ft hf hc3
          refine lv_tableIn (tgt := 74) hx hb dX4_countBetween_1 (by rw [hc3]; decide) (by rw [hc3]; decide) (by rw [hc3] <;> rfl) (by decide) ?_
          refine lv_aload_n hx hb dX4_countBetween_74 rfl (lv_at hl 0 rfl) ?_
          refine va_get (D := D) (ci := 3) (v := .null) (C := RX4) (T := TX4) (N := 2) hx hb hts wX4_countBetween_X4 hown hK.1 hP 0 rfl rfl 1 (by decide) (hts _ mX4_countBetween_f54) (fun _ h9 => h9) rfl dX4_countBetween_75 ?_
          refine lv_ifnonnullN hx hb dX4_countBetween_78 ?_
          refine lv_aload_n hx hb dX4_countBetween_81 rfl (lv_at hl 0 rfl) ?_
          refine callS_nr (As := []) (rest := [.ref A]) ⟨hx, hb, hml, hown, hts⟩ (CX4_markByDigitSum l hM2) (va_cwS 0 hts gX4_countBetween_X4_markByDigitSum rfl rfl rfl kkX4_markByDigitSum.2 ⟨Nat.le_of_ble_eq_true rfl, Nat.le_of_ble_eq_true rfl⟩) hK hP hD hS hA [] [0] rfl (by decide) (by decide) rfl hl.1 rfl (Nat.le_of_ble_eq_true rfl) dX4_countBetween_82 ⟨Nat.le_of_ble_eq_true rfl, Nat.le_of_ble_eq_true rfl⟩ (fun z H locs hP hD hS => ?_)
          have hP : va_P D vwCl [(A, .inr (3, [.null, .null])), (z, .inl (ty.2.1, 1563, .inr (.inl DM)))] H := hP
          have hD : va_D AA [(A, .inr (3, [.null, .null])), (z, .inl (ty.2.1, 1563, .inr (.inl DM)))] := hD
          refine W.eq (g2 := F0 m 85 ls [.ref z, .ref A]) rfl ?_
          refine va_put (D := D) (ci := 3) (v := .ref z) (ty := .array .long) (C := RX4) (T := TX4) (N := 2) hx hb hts wX4_countBetween_X4 tyX4 tyX4_ok nmX4 hown hK.1 hP hD hS 0 rfl rfl 1 (by decide) (hts _ mX4_countBetween_f54) (fun _ h9 => h9) rfl (by decide +kernel) rfl rfl (Nat.le_of_ble_eq_true rfl) dX4_countBetween_85 (fun H locs hP hD hS => ?_)
          have hP : va_P D vwCl [(A, .inr (3, [.null, .ref z])), (z, .inl (ty.2.1, 1563, .inr (.inl DM)))] H := hP
          have hD : va_D AA [(A, .inr (3, [.null, .ref z])), (z, .inl (ty.2.1, 1563, .inr (.inl DM)))] := hD
          refine lv_aload_n hx hb dX4_countBetween_88 rfl (lv_at hl 0 rfl) ?_
          refine va_get (D := D) (ci := 3) (v := .ref z) (C := RX4) (T := TX4) (N := 2) hx hb hts wX4_countBetween_X4 hown hK.1 hP 0 rfl rfl 1 (by decide) (hts _ mX4_countBetween_f54) (fun _ h9 => h9) rfl dX4_countBetween_89 ?_
          refine lv_iload_n hx hb dX4_countBetween_92 rfl (lv_at hl 2 rfl) ?_
          refine lv_iload_n hx hb dX4_countBetween_93 rfl (lv_at hl 3 rfl) ?_
          have hPc : va_P D vwCl [(z, .inl (ty.2.1, 1563, .inr (.inl DM)))] _ := hP.sub [1] rfl
          refine callS_ri (As := [.ref z, .int a2, .int a3]) (rest := []) ⟨hx, hb, hml, hown, hts⟩ (CX4_countMarks l hf) (va_cwS 3 hts gX4_countBetween_X4_countMarks rfl rfl rfl kkX4_countMarks.2 ⟨Nat.le_of_ble_eq_true rfl, Nat.le_of_ble_eq_true rfl⟩) hK hPc hl.1 rfl (Nat.le_of_ble_eq_true rfl) dX4_countBetween_94 ⟨Nat.le_of_ble_eq_true rfl, Nat.le_of_ble_eq_true rfl⟩ ?_
          exact ret_no hx hb hr hlocks (Nat.le_of_ble_eq_true rfl) (Nat.le_of_ble_eq_true rfl) (rfl) (none, some z) hP (by rw [← hAA]; exact hD) (by rw [← hAA]; exact hS) dX4_countBetween_97
        · have hf := ff hf hc3
          refine lv_tableOut (tgt := 98) hx hb dX4_countBetween_1 (by have h0 := sw_ne 0 (by decide) hc0; have h1 := sw_ne 1 (by decide) hc1; have h2 := sw_ne 2 (by decide) hc2; have h3 := sw_ne 3 (by decide) hc3; omega) (by decide) ?_
          have hPe : va_P D vwCl [] s.heap := hP.sub [] rfl
          refine lv_iload_n hx hb dX4_countBetween_98 rfl (lv_at hl 2 rfl) ?_
          refine lv_iload_n hx hb dX4_countBetween_99 rfl (lv_at hl 3 rfl) ?_
          refine callS_ri (As := [.int a2, .int a3]) (rest := []) ⟨hx, hb, hml, hown, hts⟩ (CX4_countPowers l hf) (va_cwS 2 hts gX4_countBetween_X4_countPowers rfl rfl rfl kkX4_countPowers.2 ⟨Nat.le_of_ble_eq_true rfl, Nat.le_of_ble_eq_true rfl⟩) hK hPe hl.1 rfl (Nat.le_of_ble_eq_true rfl) dX4_countBetween_100 ⟨Nat.le_of_ble_eq_true rfl, Nat.le_of_ble_eq_true rfl⟩ ?_
          exact ret_no hx hb hr hlocks (Nat.le_of_ble_eq_true rfl) (Nat.le_of_ble_eq_true rfl) (rfl) (none, none) hP (by rw [← hAA]; exact hD) (by rw [← hAA]; exact hS) dX4_countBetween_103
set_option maxRecDepth 100000 in
set_option maxHeartbeats 4000000 in
theorem CX4_countBetween_sn (l : Launch) {D : va_G} {ty : TY} {PM DM : Nat → Int64} {A : Nat} {a : Nat} {a1 a2 a3 q0 : Int32} (hM1 : fX4_markPrimes (fun _ => 0) = some PM) (hM2 : fX4_markByDigitSum (fun _ => 0) = some DM) (hf : fX4_countBetween PM DM a1 a2 a3 = some q0) : RNo l yX4_countBetween wsX4_countBetween rmX4_countBetween D ty [.ref A, .int a1, .int a2, .int a3] (lwW ty PM DM A) (some a, none) q0 := by
  refine RNo.start (cc := cX4_countBetween) (maxL := 4) (ret := (some .int)) (own := RX4) (by decide) rfl rfl (Nat.le_of_ble_eq_true rfl) ?_
  intro p e s m below meth c ls C hK hP hD hS hA hl
  have hP : va_P D vwCl [(A, .inr (3, [.ref a, .null])), (a, .inl (ty.2.1, 1563, .inr (.inl PM)))] s.heap := hP
  obtain ⟨AA, hAA⟩ : ∃ z : Nat → Prop, z = va_A (lwW ty PM DM A (some a, none)) s.heap.size := ⟨_, rfl⟩
  rw [← hAA] at hD hS hA
  have hD : va_D AA [(A, .inr (3, [.ref a, .null])), (a, .inl (ty.2.1, 1563, .inr (.inl PM)))] := hD
  obtain ⟨hx, hb, hr, hml, hown, hts, hlocks⟩ := id C
  have hl : lv_has ls 4 [(0, .ref A), (1, .int a1), (2, .int a2), (3, .int a3)] := hl
  unfold fX4_countBetween at hf
  refine lv_iload_n hx hb dX4_countBetween_0 rfl (lv_at hl 1 rfl) ?_
  by_cases hc0 : a1 = 0
  · have hf := ft hf hc0
    refine lv_tableIn (tgt := 32) hx hb dX4_countBetween_1 (by rw [hc0]; decide) (by rw [hc0]; decide) (by rw [hc0] <;> rfl) (by decide) ?_
    refine lv_aload_n hx hb dX4_countBetween_32 rfl (lv_at hl 0 rfl) ?_
    refine va_get (D := D) (ci := 3) (v := .ref a) (C := RX4) (T := TX4) (N := 2) hx hb hts wX4_countBetween_X4 hown hK.1 hP 0 rfl rfl 0 (by decide) (hts _ mX4_countBetween_f39) (fun _ h9 => h9) rfl dX4_countBetween_33 ?_
    refine lv_ifnonnull (tgt := 46) hx hb dX4_countBetween_36 (by decide) ?_
    refine lv_aload_n hx hb dX4_countBetween_46 rfl (lv_at hl 0 rfl) ?_
    refine va_get (D := D) (ci := 3) (v := .ref a) (C := RX4) (T := TX4) (N := 2) hx hb hts wX4_countBetween_X4 hown hK.1 hP 0 rfl rfl 0 (by decide) (hts _ mX4_countBetween_f39) (fun _ h9 => h9) rfl dX4_countBetween_47 ?_
    refine lv_iload_n hx hb dX4_countBetween_50 rfl (lv_at hl 2 rfl) ?_
    refine lv_iload_n hx hb dX4_countBetween_51 rfl (lv_at hl 3 rfl) ?_
    have hPc : va_P D vwCl [(a, .inl (ty.2.1, 1563, .inr (.inl PM)))] _ := hP.sub [1] rfl
    refine callS_ri (As := [.ref a, .int a2, .int a3]) (rest := []) ⟨hx, hb, hml, hown, hts⟩ (CX4_countMarks l hf) (va_cwS 3 hts gX4_countBetween_X4_countMarks rfl rfl rfl kkX4_countMarks.2 ⟨Nat.le_of_ble_eq_true rfl, Nat.le_of_ble_eq_true rfl⟩) hK hPc hl.1 rfl (Nat.le_of_ble_eq_true rfl) dX4_countBetween_52 ⟨Nat.le_of_ble_eq_true rfl, Nat.le_of_ble_eq_true rfl⟩ ?_
    exact ret_no hx hb hr hlocks (Nat.le_of_ble_eq_true rfl) (Nat.le_of_ble_eq_true rfl) (rfl) (some a, none) hP (by rw [← hAA]; exact hD) (by rw [← hAA]; exact hS) dX4_countBetween_55
  · have hf := ff hf hc0
    by_cases hc1 : a1 = 1
    · have hf := ft hf hc1
      refine lv_tableIn (tgt := 56) hx hb dX4_countBetween_1 (by rw [hc1]; decide) (by rw [hc1]; decide) (by rw [hc1] <;> rfl) (by decide) ?_
      have hPe : va_P D vwCl [] s.heap := hP.sub [] rfl
      obtain ⟨r1, hr1, hf⟩ := bnd hf
      obtain ⟨r2, hr2, hf⟩ := bnd hf
      refine lv_iload_n hx hb dX4_countBetween_56 rfl (lv_at hl 3 rfl) ?_
      refine callS_ri (As := [.int a3]) (rest := []) ⟨hx, hb, hml, hown, hts⟩ (CX4_rootOf l hr1) (va_cwS 1 hts gX4_countBetween_X4_rootOf rfl rfl rfl kkX4_rootOf.2 ⟨Nat.le_of_ble_eq_true rfl, Nat.le_of_ble_eq_true rfl⟩) hK hPe hl.1 rfl (Nat.le_of_ble_eq_true rfl) dX4_countBetween_57 ⟨Nat.le_of_ble_eq_true rfl, Nat.le_of_ble_eq_true rfl⟩ ?_
      refine lv_iload_n hx hb dX4_countBetween_60 rfl (lv_at hl 2 rfl) ?_
      refine lv_iconst (v := 1) hx hb dX4_countBetween_61 (by decide) ?_
      refine lv_isub hx hb dX4_countBetween_62 ?_
      refine callS_ri (As := [.int (a2 - 1)]) (rest := [.int r1]) ⟨hx, hb, hml, hown, hts⟩ (CX4_rootOf l hr2) (va_cwS 1 hts gX4_countBetween_X4_rootOf rfl rfl rfl kkX4_rootOf.2 ⟨Nat.le_of_ble_eq_true rfl, Nat.le_of_ble_eq_true rfl⟩) hK hPe hl.1 rfl (Nat.le_of_ble_eq_true rfl) dX4_countBetween_63 ⟨Nat.le_of_ble_eq_true rfl, Nat.le_of_ble_eq_true rfl⟩ ?_
      refine lv_isub hx hb dX4_countBetween_66 ?_
      exact ret_no hx hb hr hlocks (Nat.le_of_ble_eq_true rfl) (Nat.le_of_ble_eq_true rfl) (Option.some.inj hf) (some a, none) hP (by rw [← hAA]; exact hD) (by rw [← hAA]; exact hS) dX4_countBetween_67
    · have hf := ff hf hc1
      by_cases hc2 : a1 = 2
      · have hf := ft hf hc2
        refine lv_tableIn (tgt := 68) hx hb dX4_countBetween_1 (by rw [hc2]; decide) (by rw [hc2]; decide) (by rw [hc2] <;> rfl) (by decide) ?_
        have hPe : va_P D vwCl [] s.heap := hP.sub [] rfl
        refine lv_iload_n hx hb dX4_countBetween_68 rfl (lv_at hl 2 rfl) ?_
        refine lv_iload_n hx hb dX4_countBetween_69 rfl (lv_at hl 3 rfl) ?_
        refine callS_ri (As := [.int a2, .int a3]) (rest := []) ⟨hx, hb, hml, hown, hts⟩ (CX4_countMirrored l hf) (va_cwS 2 hts gX4_countBetween_X4_countMirrored rfl rfl rfl kkX4_countMirrored.2 ⟨Nat.le_of_ble_eq_true rfl, Nat.le_of_ble_eq_true rfl⟩) hK hPe hl.1 rfl (Nat.le_of_ble_eq_true rfl) dX4_countBetween_70 ⟨Nat.le_of_ble_eq_true rfl, Nat.le_of_ble_eq_true rfl⟩ ?_
        exact ret_no hx hb hr hlocks (Nat.le_of_ble_eq_true rfl) (Nat.le_of_ble_eq_true rfl) (rfl) (some a, none) hP (by rw [← hAA]; exact hD) (by rw [← hAA]; exact hS) dX4_countBetween_73
      · have hf := ff hf hc2
        by_cases hc3 : a1 = 3
        · have hf := ft hf hc3
          refine lv_tableIn (tgt := 74) hx hb dX4_countBetween_1 (by rw [hc3]; decide) (by rw [hc3]; decide) (by rw [hc3] <;> rfl) (by decide) ?_
          refine lv_aload_n hx hb dX4_countBetween_74 rfl (lv_at hl 0 rfl) ?_
          refine va_get (D := D) (ci := 3) (v := .null) (C := RX4) (T := TX4) (N := 2) hx hb hts wX4_countBetween_X4 hown hK.1 hP 0 rfl rfl 1 (by decide) (hts _ mX4_countBetween_f54) (fun _ h9 => h9) rfl dX4_countBetween_75 ?_
          refine lv_ifnonnullN hx hb dX4_countBetween_78 ?_
          refine lv_aload_n hx hb dX4_countBetween_81 rfl (lv_at hl 0 rfl) ?_
          refine callS_nr (As := []) (rest := [.ref A]) ⟨hx, hb, hml, hown, hts⟩ (CX4_markByDigitSum l hM2) (va_cwS 0 hts gX4_countBetween_X4_markByDigitSum rfl rfl rfl kkX4_markByDigitSum.2 ⟨Nat.le_of_ble_eq_true rfl, Nat.le_of_ble_eq_true rfl⟩) hK hP hD hS hA [] [0, 1] rfl (by decide) (by decide) rfl hl.1 rfl (Nat.le_of_ble_eq_true rfl) dX4_countBetween_82 ⟨Nat.le_of_ble_eq_true rfl, Nat.le_of_ble_eq_true rfl⟩ (fun z H locs hP hD hS => ?_)
          have hP : va_P D vwCl [(A, .inr (3, [.ref a, .null])), (a, .inl (ty.2.1, 1563, .inr (.inl PM))), (z, .inl (ty.2.1, 1563, .inr (.inl DM)))] H := hP
          have hD : va_D AA [(A, .inr (3, [.ref a, .null])), (a, .inl (ty.2.1, 1563, .inr (.inl PM))), (z, .inl (ty.2.1, 1563, .inr (.inl DM)))] := hD
          refine W.eq (g2 := F0 m 85 ls [.ref z, .ref A]) rfl ?_
          refine va_put (D := D) (ci := 3) (v := .ref z) (ty := .array .long) (C := RX4) (T := TX4) (N := 2) hx hb hts wX4_countBetween_X4 tyX4 tyX4_ok nmX4 hown hK.1 hP hD hS 0 rfl rfl 1 (by decide) (hts _ mX4_countBetween_f54) (fun _ h9 => h9) rfl (by decide +kernel) rfl rfl (Nat.le_of_ble_eq_true rfl) dX4_countBetween_85 (fun H locs hP hD hS => ?_)
          have hP : va_P D vwCl [(A, .inr (3, [.ref a, .ref z])), (a, .inl (ty.2.1, 1563, .inr (.inl PM))), (z, .inl (ty.2.1, 1563, .inr (.inl DM)))] H := hP
          have hD : va_D AA [(A, .inr (3, [.ref a, .ref z])), (a, .inl (ty.2.1, 1563, .inr (.inl PM))), (z, .inl (ty.2.1, 1563, .inr (.inl DM)))] := hD
          refine lv_aload_n hx hb dX4_countBetween_88 rfl (lv_at hl 0 rfl) ?_
          refine va_get (D := D) (ci := 3) (v := .ref z) (C := RX4) (T := TX4) (N := 2) hx hb hts wX4_countBetween_X4 hown hK.1 hP 0 rfl rfl 1 (by decide) (hts _ mX4_countBetween_f54) (fun _ h9 => h9) rfl dX4_countBetween_89 ?_
          refine lv_iload_n hx hb dX4_countBetween_92 rfl (lv_at hl 2 rfl) ?_
          refine lv_iload_n hx hb dX4_countBetween_93 rfl (lv_at hl 3 rfl) ?_
          have hPc : va_P D vwCl [(z, .inl (ty.2.1, 1563, .inr (.inl DM)))] _ := hP.sub [2] rfl
          refine callS_ri (As := [.ref z, .int a2, .int a3]) (rest := []) ⟨hx, hb, hml, hown, hts⟩ (CX4_countMarks l hf) (va_cwS 3 hts gX4_countBetween_X4_countMarks rfl rfl rfl kkX4_countMarks.2 ⟨Nat.le_of_ble_eq_true rfl, Nat.le_of_ble_eq_true rfl⟩) hK hPc hl.1 rfl (Nat.le_of_ble_eq_true rfl) dX4_countBetween_94 ⟨Nat.le_of_ble_eq_true rfl, Nat.le_of_ble_eq_true rfl⟩ ?_
          exact ret_no hx hb hr hlocks (Nat.le_of_ble_eq_true rfl) (Nat.le_of_ble_eq_true rfl) (rfl) (some a, some z) hP (by rw [← hAA]; exact hD) (by rw [← hAA]; exact hS) dX4_countBetween_97
        · have hf := ff hf hc3
          refine lv_tableOut (tgt := 98) hx hb dX4_countBetween_1 (by have h0 := sw_ne 0 (by decide) hc0; have h1 := sw_ne 1 (by decide) hc1; have h2 := sw_ne 2 (by decide) hc2; have h3 := sw_ne 3 (by decide) hc3; omega) (by decide) ?_
          have hPe : va_P D vwCl [] s.heap := hP.sub [] rfl
          refine lv_iload_n hx hb dX4_countBetween_98 rfl (lv_at hl 2 rfl) ?_
          refine lv_iload_n hx hb dX4_countBetween_99 rfl (lv_at hl 3 rfl) ?_
          refine callS_ri (As := [.int a2, .int a3]) (rest := []) ⟨hx, hb, hml, hown, hts⟩ (CX4_countPowers l hf) (va_cwS 2 hts gX4_countBetween_X4_countPowers rfl rfl rfl kkX4_countPowers.2 ⟨Nat.le_of_ble_eq_true rfl, Nat.le_of_ble_eq_true rfl⟩) hK hPe hl.1 rfl (Nat.le_of_ble_eq_true rfl) dX4_countBetween_100 ⟨Nat.le_of_ble_eq_true rfl, Nat.le_of_ble_eq_true rfl⟩ ?_
          exact ret_no hx hb hr hlocks (Nat.le_of_ble_eq_true rfl) (Nat.le_of_ble_eq_true rfl) (rfl) (some a, none) hP (by rw [← hAA]; exact hD) (by rw [← hAA]; exact hS) dX4_countBetween_103
set_option maxRecDepth 100000 in
set_option maxHeartbeats 4000000 in
theorem CX4_countBetween_ns (l : Launch) {D : va_G} {ty : TY} {PM DM : Nat → Int64} {A : Nat} {b : Nat} {a1 a2 a3 q0 : Int32} (hM1 : fX4_markPrimes (fun _ => 0) = some PM) (hM2 : fX4_markByDigitSum (fun _ => 0) = some DM) (hf : fX4_countBetween PM DM a1 a2 a3 = some q0) : RNo l yX4_countBetween wsX4_countBetween rmX4_countBetween D ty [.ref A, .int a1, .int a2, .int a3] (lwW ty PM DM A) (none, some b) q0 := by
  refine RNo.start (cc := cX4_countBetween) (maxL := 4) (ret := (some .int)) (own := RX4) (by decide) rfl rfl (Nat.le_of_ble_eq_true rfl) ?_
  intro p e s m below meth c ls C hK hP hD hS hA hl
  have hP : va_P D vwCl [(A, .inr (3, [.null, .ref b])), (b, .inl (ty.2.1, 1563, .inr (.inl DM)))] s.heap := hP
  obtain ⟨AA, hAA⟩ : ∃ z : Nat → Prop, z = va_A (lwW ty PM DM A (none, some b)) s.heap.size := ⟨_, rfl⟩
  rw [← hAA] at hD hS hA
  have hD : va_D AA [(A, .inr (3, [.null, .ref b])), (b, .inl (ty.2.1, 1563, .inr (.inl DM)))] := hD
  obtain ⟨hx, hb, hr, hml, hown, hts, hlocks⟩ := id C
  have hl : lv_has ls 4 [(0, .ref A), (1, .int a1), (2, .int a2), (3, .int a3)] := hl
  unfold fX4_countBetween at hf
  refine lv_iload_n hx hb dX4_countBetween_0 rfl (lv_at hl 1 rfl) ?_
  by_cases hc0 : a1 = 0
  · have hf := ft hf hc0
    refine lv_tableIn (tgt := 32) hx hb dX4_countBetween_1 (by rw [hc0]; decide) (by rw [hc0]; decide) (by rw [hc0] <;> rfl) (by decide) ?_
    refine lv_aload_n hx hb dX4_countBetween_32 rfl (lv_at hl 0 rfl) ?_
    refine va_get (D := D) (ci := 3) (v := .null) (C := RX4) (T := TX4) (N := 2) hx hb hts wX4_countBetween_X4 hown hK.1 hP 0 rfl rfl 0 (by decide) (hts _ mX4_countBetween_f39) (fun _ h9 => h9) rfl dX4_countBetween_33 ?_
    refine lv_ifnonnullN hx hb dX4_countBetween_36 ?_
    refine lv_aload_n hx hb dX4_countBetween_39 rfl (lv_at hl 0 rfl) ?_
    refine callS_nr (As := []) (rest := [.ref A]) ⟨hx, hb, hml, hown, hts⟩ (CX4_markPrimes l hM1) (va_cwS 0 hts gX4_countBetween_X4_markPrimes rfl rfl rfl kkX4_markPrimes.2 ⟨Nat.le_of_ble_eq_true rfl, Nat.le_of_ble_eq_true rfl⟩) hK hP hD hS hA [] [0, 1] rfl (by decide) (by decide) rfl hl.1 rfl (Nat.le_of_ble_eq_true rfl) dX4_countBetween_40 ⟨Nat.le_of_ble_eq_true rfl, Nat.le_of_ble_eq_true rfl⟩ (fun z H locs hP hD hS => ?_)
    have hP : va_P D vwCl [(A, .inr (3, [.null, .ref b])), (b, .inl (ty.2.1, 1563, .inr (.inl DM))), (z, .inl (ty.2.1, 1563, .inr (.inl PM)))] H := hP
    have hD : va_D AA [(A, .inr (3, [.null, .ref b])), (b, .inl (ty.2.1, 1563, .inr (.inl DM))), (z, .inl (ty.2.1, 1563, .inr (.inl PM)))] := hD
    refine W.eq (g2 := F0 m 43 ls [.ref z, .ref A]) rfl ?_
    refine va_put (D := D) (ci := 3) (v := .ref z) (ty := .array .long) (C := RX4) (T := TX4) (N := 2) hx hb hts wX4_countBetween_X4 tyX4 tyX4_ok nmX4 hown hK.1 hP hD hS 0 rfl rfl 0 (by decide) (hts _ mX4_countBetween_f39) (fun _ h9 => h9) rfl (by decide +kernel) rfl rfl (Nat.le_of_ble_eq_true rfl) dX4_countBetween_43 (fun H locs hP hD hS => ?_)
    have hP : va_P D vwCl [(A, .inr (3, [.ref z, .ref b])), (b, .inl (ty.2.1, 1563, .inr (.inl DM))), (z, .inl (ty.2.1, 1563, .inr (.inl PM)))] H := hP
    have hD : va_D AA [(A, .inr (3, [.ref z, .ref b])), (b, .inl (ty.2.1, 1563, .inr (.inl DM))), (z, .inl (ty.2.1, 1563, .inr (.inl PM)))] := hD
    have hP : va_P D vwCl [(A, .inr (3, [.ref z, .ref b])), (z, .inl (ty.2.1, 1563, .inr (.inl PM))), (b, .inl (ty.2.1, 1563, .inr (.inl DM)))] H := hP.sub [0, 2, 1] rfl
    have hD : va_D AA [(A, .inr (3, [.ref z, .ref b])), (z, .inl (ty.2.1, 1563, .inr (.inl PM))), (b, .inl (ty.2.1, 1563, .inr (.inl DM)))] := hD.sub [0, 2, 1] (by decide) rfl
    refine lv_aload_n hx hb dX4_countBetween_46 rfl (lv_at hl 0 rfl) ?_
    refine va_get (D := D) (ci := 3) (v := .ref z) (C := RX4) (T := TX4) (N := 2) hx hb hts wX4_countBetween_X4 hown hK.1 hP 0 rfl rfl 0 (by decide) (hts _ mX4_countBetween_f39) (fun _ h9 => h9) rfl dX4_countBetween_47 ?_
    refine lv_iload_n hx hb dX4_countBetween_50 rfl (lv_at hl 2 rfl) ?_
    refine lv_iload_n hx hb dX4_countBetween_51 rfl (lv_at hl 3 rfl) ?_
    have hPc : va_P D vwCl [(z, .inl (ty.2.1, 1563, .inr (.inl PM)))] _ := hP.sub [1] rfl
    refine callS_ri (As := [.ref z, .int a2, .int a3]) (rest := []) ⟨hx, hb, hml, hown, hts⟩ (CX4_countMarks l hf) (va_cwS 3 hts gX4_countBetween_X4_countMarks rfl rfl rfl kkX4_countMarks.2 ⟨Nat.le_of_ble_eq_true rfl, Nat.le_of_ble_eq_true rfl⟩) hK hPc hl.1 rfl (Nat.le_of_ble_eq_true rfl) dX4_countBetween_52 ⟨Nat.le_of_ble_eq_true rfl, Nat.le_of_ble_eq_true rfl⟩ ?_
    exact ret_no hx hb hr hlocks (Nat.le_of_ble_eq_true rfl) (Nat.le_of_ble_eq_true rfl) (rfl) (some z, some b) hP (by rw [← hAA]; exact hD) (by rw [← hAA]; exact hS) dX4_countBetween_55
  · have hf := ff hf hc0
    by_cases hc1 : a1 = 1
    · have hf := ft hf hc1
      refine lv_tableIn (tgt := 56) hx hb dX4_countBetween_1 (by rw [hc1]; decide) (by rw [hc1]; decide) (by rw [hc1] <;> rfl) (by decide) ?_
      have hPe : va_P D vwCl [] s.heap := hP.sub [] rfl
      obtain ⟨r1, hr1, hf⟩ := bnd hf
      obtain ⟨r2, hr2, hf⟩ := bnd hf
      refine lv_iload_n hx hb dX4_countBetween_56 rfl (lv_at hl 3 rfl) ?_
      refine callS_ri (As := [.int a3]) (rest := []) ⟨hx, hb, hml, hown, hts⟩ (CX4_rootOf l hr1) (va_cwS 1 hts gX4_countBetween_X4_rootOf rfl rfl rfl kkX4_rootOf.2 ⟨Nat.le_of_ble_eq_true rfl, Nat.le_of_ble_eq_true rfl⟩) hK hPe hl.1 rfl (Nat.le_of_ble_eq_true rfl) dX4_countBetween_57 ⟨Nat.le_of_ble_eq_true rfl, Nat.le_of_ble_eq_true rfl⟩ ?_
      refine lv_iload_n hx hb dX4_countBetween_60 rfl (lv_at hl 2 rfl) ?_
      refine lv_iconst (v := 1) hx hb dX4_countBetween_61 (by decide) ?_
      refine lv_isub hx hb dX4_countBetween_62 ?_
      refine callS_ri (As := [.int (a2 - 1)]) (rest := [.int r1]) ⟨hx, hb, hml, hown, hts⟩ (CX4_rootOf l hr2) (va_cwS 1 hts gX4_countBetween_X4_rootOf rfl rfl rfl kkX4_rootOf.2 ⟨Nat.le_of_ble_eq_true rfl, Nat.le_of_ble_eq_true rfl⟩) hK hPe hl.1 rfl (Nat.le_of_ble_eq_true rfl) dX4_countBetween_63 ⟨Nat.le_of_ble_eq_true rfl, Nat.le_of_ble_eq_true rfl⟩ ?_
      refine lv_isub hx hb dX4_countBetween_66 ?_
      exact ret_no hx hb hr hlocks (Nat.le_of_ble_eq_true rfl) (Nat.le_of_ble_eq_true rfl) (Option.some.inj hf) (none, some b) hP (by rw [← hAA]; exact hD) (by rw [← hAA]; exact hS) dX4_countBetween_67
    · have hf := ff hf hc1
      by_cases hc2 : a1 = 2
      · have hf := ft hf hc2
        refine lv_tableIn (tgt := 68) hx hb dX4_countBetween_1 (by rw [hc2]; decide) (by rw [hc2]; decide) (by rw [hc2] <;> rfl) (by decide) ?_
        have hPe : va_P D vwCl [] s.heap := hP.sub [] rfl
        refine lv_iload_n hx hb dX4_countBetween_68 rfl (lv_at hl 2 rfl) ?_
        refine lv_iload_n hx hb dX4_countBetween_69 rfl (lv_at hl 3 rfl) ?_
        refine callS_ri (As := [.int a2, .int a3]) (rest := []) ⟨hx, hb, hml, hown, hts⟩ (CX4_countMirrored l hf) (va_cwS 2 hts gX4_countBetween_X4_countMirrored rfl rfl rfl kkX4_countMirrored.2 ⟨Nat.le_of_ble_eq_true rfl, Nat.le_of_ble_eq_true rfl⟩) hK hPe hl.1 rfl (Nat.le_of_ble_eq_true rfl) dX4_countBetween_70 ⟨Nat.le_of_ble_eq_true rfl, Nat.le_of_ble_eq_true rfl⟩ ?_
        exact ret_no hx hb hr hlocks (Nat.le_of_ble_eq_true rfl) (Nat.le_of_ble_eq_true rfl) (rfl) (none, some b) hP (by rw [← hAA]; exact hD) (by rw [← hAA]; exact hS) dX4_countBetween_73
      · have hf := ff hf hc2
        by_cases hc3 : a1 = 3
        · have hf := ft hf hc3
          refine lv_tableIn (tgt := 74) hx hb dX4_countBetween_1 (by rw [hc3]; decide) (by rw [hc3]; decide) (by rw [hc3] <;> rfl) (by decide) ?_
          refine lv_aload_n hx hb dX4_countBetween_74 rfl (lv_at hl 0 rfl) ?_
          refine va_get (D := D) (ci := 3) (v := .ref b) (C := RX4) (T := TX4) (N := 2) hx hb hts wX4_countBetween_X4 hown hK.1 hP 0 rfl rfl 1 (by decide) (hts _ mX4_countBetween_f54) (fun _ h9 => h9) rfl dX4_countBetween_75 ?_
          refine lv_ifnonnull (tgt := 88) hx hb dX4_countBetween_78 (by decide) ?_
          refine lv_aload_n hx hb dX4_countBetween_88 rfl (lv_at hl 0 rfl) ?_
          refine va_get (D := D) (ci := 3) (v := .ref b) (C := RX4) (T := TX4) (N := 2) hx hb hts wX4_countBetween_X4 hown hK.1 hP 0 rfl rfl 1 (by decide) (hts _ mX4_countBetween_f54) (fun _ h9 => h9) rfl dX4_countBetween_89 ?_
          refine lv_iload_n hx hb dX4_countBetween_92 rfl (lv_at hl 2 rfl) ?_
          refine lv_iload_n hx hb dX4_countBetween_93 rfl (lv_at hl 3 rfl) ?_
          have hPc : va_P D vwCl [(b, .inl (ty.2.1, 1563, .inr (.inl DM)))] _ := hP.sub [1] rfl
          refine callS_ri (As := [.ref b, .int a2, .int a3]) (rest := []) ⟨hx, hb, hml, hown, hts⟩ (CX4_countMarks l hf) (va_cwS 3 hts gX4_countBetween_X4_countMarks rfl rfl rfl kkX4_countMarks.2 ⟨Nat.le_of_ble_eq_true rfl, Nat.le_of_ble_eq_true rfl⟩) hK hPc hl.1 rfl (Nat.le_of_ble_eq_true rfl) dX4_countBetween_94 ⟨Nat.le_of_ble_eq_true rfl, Nat.le_of_ble_eq_true rfl⟩ ?_
          exact ret_no hx hb hr hlocks (Nat.le_of_ble_eq_true rfl) (Nat.le_of_ble_eq_true rfl) (rfl) (none, some b) hP (by rw [← hAA]; exact hD) (by rw [← hAA]; exact hS) dX4_countBetween_97
        · have hf := ff hf hc3
          refine lv_tableOut (tgt := 98) hx hb dX4_countBetween_1 (by have h0 := sw_ne 0 (by decide) hc0; have h1 := sw_ne 1 (by decide) hc1; have h2 := sw_ne 2 (by decide) hc2; have h3 := sw_ne 3 (by decide) hc3; omega) (by decide) ?_
          have hPe : va_P D vwCl [] s.heap := hP.sub [] rfl
          refine lv_iload_n hx hb dX4_countBetween_98 rfl (lv_at hl 2 rfl) ?_
          refine lv_iload_n hx hb dX4_countBetween_99 rfl (lv_at hl 3 rfl) ?_
          refine callS_ri (As := [.int a2, .int a3]) (rest := []) ⟨hx, hb, hml, hown, hts⟩ (CX4_countPowers l hf) (va_cwS 2 hts gX4_countBetween_X4_countPowers rfl rfl rfl kkX4_countPowers.2 ⟨Nat.le_of_ble_eq_true rfl, Nat.le_of_ble_eq_true rfl⟩) hK hPe hl.1 rfl (Nat.le_of_ble_eq_true rfl) dX4_countBetween_100 ⟨Nat.le_of_ble_eq_true rfl, Nat.le_of_ble_eq_true rfl⟩ ?_
          exact ret_no hx hb hr hlocks (Nat.le_of_ble_eq_true rfl) (Nat.le_of_ble_eq_true rfl) (rfl) (none, some b) hP (by rw [← hAA]; exact hD) (by rw [← hAA]; exact hS) dX4_countBetween_103
set_option maxRecDepth 100000 in
set_option maxHeartbeats 4000000 in
theorem CX4_countBetween_ss (l : Launch) {D : va_G} {ty : TY} {PM DM : Nat → Int64} {A : Nat} {a : Nat} {b : Nat} {a1 a2 a3 q0 : Int32} (hM1 : fX4_markPrimes (fun _ => 0) = some PM) (hM2 : fX4_markByDigitSum (fun _ => 0) = some DM) (hf : fX4_countBetween PM DM a1 a2 a3 = some q0) : RNo l yX4_countBetween wsX4_countBetween rmX4_countBetween D ty [.ref A, .int a1, .int a2, .int a3] (lwW ty PM DM A) (some a, some b) q0 := by
  refine RNo.start (cc := cX4_countBetween) (maxL := 4) (ret := (some .int)) (own := RX4) (by decide) rfl rfl (Nat.le_of_ble_eq_true rfl) ?_
  intro p e s m below meth c ls C hK hP hD hS hA hl
  have hP : va_P D vwCl [(A, .inr (3, [.ref a, .ref b])), (a, .inl (ty.2.1, 1563, .inr (.inl PM))), (b, .inl (ty.2.1, 1563, .inr (.inl DM)))] s.heap := hP
  obtain ⟨AA, hAA⟩ : ∃ z : Nat → Prop, z = va_A (lwW ty PM DM A (some a, some b)) s.heap.size := ⟨_, rfl⟩
  rw [← hAA] at hD hS hA
  have hD : va_D AA [(A, .inr (3, [.ref a, .ref b])), (a, .inl (ty.2.1, 1563, .inr (.inl PM))), (b, .inl (ty.2.1, 1563, .inr (.inl DM)))] := hD
  obtain ⟨hx, hb, hr, hml, hown, hts, hlocks⟩ := id C
  have hl : lv_has ls 4 [(0, .ref A), (1, .int a1), (2, .int a2), (3, .int a3)] := hl
  unfold fX4_countBetween at hf
  refine lv_iload_n hx hb dX4_countBetween_0 rfl (lv_at hl 1 rfl) ?_
  by_cases hc0 : a1 = 0
  · have hf := ft hf hc0
    refine lv_tableIn (tgt := 32) hx hb dX4_countBetween_1 (by rw [hc0]; decide) (by rw [hc0]; decide) (by rw [hc0] <;> rfl) (by decide) ?_
    refine lv_aload_n hx hb dX4_countBetween_32 rfl (lv_at hl 0 rfl) ?_
    refine va_get (D := D) (ci := 3) (v := .ref a) (C := RX4) (T := TX4) (N := 2) hx hb hts wX4_countBetween_X4 hown hK.1 hP 0 rfl rfl 0 (by decide) (hts _ mX4_countBetween_f39) (fun _ h9 => h9) rfl dX4_countBetween_33 ?_
    refine lv_ifnonnull (tgt := 46) hx hb dX4_countBetween_36 (by decide) ?_
    refine lv_aload_n hx hb dX4_countBetween_46 rfl (lv_at hl 0 rfl) ?_
    refine va_get (D := D) (ci := 3) (v := .ref a) (C := RX4) (T := TX4) (N := 2) hx hb hts wX4_countBetween_X4 hown hK.1 hP 0 rfl rfl 0 (by decide) (hts _ mX4_countBetween_f39) (fun _ h9 => h9) rfl dX4_countBetween_47 ?_
    refine lv_iload_n hx hb dX4_countBetween_50 rfl (lv_at hl 2 rfl) ?_
    refine lv_iload_n hx hb dX4_countBetween_51 rfl (lv_at hl 3 rfl) ?_
    have hPc : va_P D vwCl [(a, .inl (ty.2.1, 1563, .inr (.inl PM)))] _ := hP.sub [1] rfl
    refine callS_ri (As := [.ref a, .int a2, .int a3]) (rest := []) ⟨hx, hb, hml, hown, hts⟩ (CX4_countMarks l hf) (va_cwS 3 hts gX4_countBetween_X4_countMarks rfl rfl rfl kkX4_countMarks.2 ⟨Nat.le_of_ble_eq_true rfl, Nat.le_of_ble_eq_true rfl⟩) hK hPc hl.1 rfl (Nat.le_of_ble_eq_true rfl) dX4_countBetween_52 ⟨Nat.le_of_ble_eq_true rfl, Nat.le_of_ble_eq_true rfl⟩ ?_
    exact ret_no hx hb hr hlocks (Nat.le_of_ble_eq_true rfl) (Nat.le_of_ble_eq_true rfl) (rfl) (some a, some b) hP (by rw [← hAA]; exact hD) (by rw [← hAA]; exact hS) dX4_countBetween_55
  · have hf := ff hf hc0
    by_cases hc1 : a1 = 1
    · have hf := ft hf hc1
      refine lv_tableIn (tgt := 56) hx hb dX4_countBetween_1 (by rw [hc1]; decide) (by rw [hc1]; decide) (by rw [hc1] <;> rfl) (by decide) ?_
      have hPe : va_P D vwCl [] s.heap := hP.sub [] rfl
      obtain ⟨r1, hr1, hf⟩ := bnd hf
      obtain ⟨r2, hr2, hf⟩ := bnd hf
      refine lv_iload_n hx hb dX4_countBetween_56 rfl (lv_at hl 3 rfl) ?_
      refine callS_ri (As := [.int a3]) (rest := []) ⟨hx, hb, hml, hown, hts⟩ (CX4_rootOf l hr1) (va_cwS 1 hts gX4_countBetween_X4_rootOf rfl rfl rfl kkX4_rootOf.2 ⟨Nat.le_of_ble_eq_true rfl, Nat.le_of_ble_eq_true rfl⟩) hK hPe hl.1 rfl (Nat.le_of_ble_eq_true rfl) dX4_countBetween_57 ⟨Nat.le_of_ble_eq_true rfl, Nat.le_of_ble_eq_true rfl⟩ ?_
      refine lv_iload_n hx hb dX4_countBetween_60 rfl (lv_at hl 2 rfl) ?_
      refine lv_iconst (v := 1) hx hb dX4_countBetween_61 (by decide) ?_
      refine lv_isub hx hb dX4_countBetween_62 ?_
      refine callS_ri (As := [.int (a2 - 1)]) (rest := [.int r1]) ⟨hx, hb, hml, hown, hts⟩ (CX4_rootOf l hr2) (va_cwS 1 hts gX4_countBetween_X4_rootOf rfl rfl rfl kkX4_rootOf.2 ⟨Nat.le_of_ble_eq_true rfl, Nat.le_of_ble_eq_true rfl⟩) hK hPe hl.1 rfl (Nat.le_of_ble_eq_true rfl) dX4_countBetween_63 ⟨Nat.le_of_ble_eq_true rfl, Nat.le_of_ble_eq_true rfl⟩ ?_
      refine lv_isub hx hb dX4_countBetween_66 ?_
      exact ret_no hx hb hr hlocks (Nat.le_of_ble_eq_true rfl) (Nat.le_of_ble_eq_true rfl) (Option.some.inj hf) (some a, some b) hP (by rw [← hAA]; exact hD) (by rw [← hAA]; exact hS) dX4_countBetween_67
    · have hf := ff hf hc1
      by_cases hc2 : a1 = 2
      · have hf := ft hf hc2
        refine lv_tableIn (tgt := 68) hx hb dX4_countBetween_1 (by rw [hc2]; decide) (by rw [hc2]; decide) (by rw [hc2] <;> rfl) (by decide) ?_
        have hPe : va_P D vwCl [] s.heap := hP.sub [] rfl
        refine lv_iload_n hx hb dX4_countBetween_68 rfl (lv_at hl 2 rfl) ?_
        refine lv_iload_n hx hb dX4_countBetween_69 rfl (lv_at hl 3 rfl) ?_
        refine callS_ri (As := [.int a2, .int a3]) (rest := []) ⟨hx, hb, hml, hown, hts⟩ (CX4_countMirrored l hf) (va_cwS 2 hts gX4_countBetween_X4_countMirrored rfl rfl rfl kkX4_countMirrored.2 ⟨Nat.le_of_ble_eq_true rfl, Nat.le_of_ble_eq_true rfl⟩) hK hPe hl.1 rfl (Nat.le_of_ble_eq_true rfl) dX4_countBetween_70 ⟨Nat.le_of_ble_eq_true rfl, Nat.le_of_ble_eq_true rfl⟩ ?_
        exact ret_no hx hb hr hlocks (Nat.le_of_ble_eq_true rfl) (Nat.le_of_ble_eq_true rfl) (rfl) (some a, some b) hP (by rw [← hAA]; exact hD) (by rw [← hAA]; exact hS) dX4_countBetween_73
      · have hf := ff hf hc2
        by_cases hc3 : a1 = 3
        · have hf := ft hf hc3
          refine lv_tableIn (tgt := 74) hx hb dX4_countBetween_1 (by rw [hc3]; decide) (by rw [hc3]; decide) (by rw [hc3] <;> rfl) (by decide) ?_
          refine lv_aload_n hx hb dX4_countBetween_74 rfl (lv_at hl 0 rfl) ?_
          refine va_get (D := D) (ci := 3) (v := .ref b) (C := RX4) (T := TX4) (N := 2) hx hb hts wX4_countBetween_X4 hown hK.1 hP 0 rfl rfl 1 (by decide) (hts _ mX4_countBetween_f54) (fun _ h9 => h9) rfl dX4_countBetween_75 ?_
          refine lv_ifnonnull (tgt := 88) hx hb dX4_countBetween_78 (by decide) ?_
          refine lv_aload_n hx hb dX4_countBetween_88 rfl (lv_at hl 0 rfl) ?_
          refine va_get (D := D) (ci := 3) (v := .ref b) (C := RX4) (T := TX4) (N := 2) hx hb hts wX4_countBetween_X4 hown hK.1 hP 0 rfl rfl 1 (by decide) (hts _ mX4_countBetween_f54) (fun _ h9 => h9) rfl dX4_countBetween_89 ?_
          refine lv_iload_n hx hb dX4_countBetween_92 rfl (lv_at hl 2 rfl) ?_
          refine lv_iload_n hx hb dX4_countBetween_93 rfl (lv_at hl 3 rfl) ?_
          have hPc : va_P D vwCl [(b, .inl (ty.2.1, 1563, .inr (.inl DM)))] _ := hP.sub [2] rfl
          refine callS_ri (As := [.ref b, .int a2, .int a3]) (rest := []) ⟨hx, hb, hml, hown, hts⟩ (CX4_countMarks l hf) (va_cwS 3 hts gX4_countBetween_X4_countMarks rfl rfl rfl kkX4_countMarks.2 ⟨Nat.le_of_ble_eq_true rfl, Nat.le_of_ble_eq_true rfl⟩) hK hPc hl.1 rfl (Nat.le_of_ble_eq_true rfl) dX4_countBetween_94 ⟨Nat.le_of_ble_eq_true rfl, Nat.le_of_ble_eq_true rfl⟩ ?_
          exact ret_no hx hb hr hlocks (Nat.le_of_ble_eq_true rfl) (Nat.le_of_ble_eq_true rfl) (rfl) (some a, some b) hP (by rw [← hAA]; exact hD) (by rw [← hAA]; exact hS) dX4_countBetween_97
        · have hf := ff hf hc3
          refine lv_tableOut (tgt := 98) hx hb dX4_countBetween_1 (by have h0 := sw_ne 0 (by decide) hc0; have h1 := sw_ne 1 (by decide) hc1; have h2 := sw_ne 2 (by decide) hc2; have h3 := sw_ne 3 (by decide) hc3; omega) (by decide) ?_
          have hPe : va_P D vwCl [] s.heap := hP.sub [] rfl
          refine lv_iload_n hx hb dX4_countBetween_98 rfl (lv_at hl 2 rfl) ?_
          refine lv_iload_n hx hb dX4_countBetween_99 rfl (lv_at hl 3 rfl) ?_
          refine callS_ri (As := [.int a2, .int a3]) (rest := []) ⟨hx, hb, hml, hown, hts⟩ (CX4_countPowers l hf) (va_cwS 2 hts gX4_countBetween_X4_countPowers rfl rfl rfl kkX4_countPowers.2 ⟨Nat.le_of_ble_eq_true rfl, Nat.le_of_ble_eq_true rfl⟩) hK hPe hl.1 rfl (Nat.le_of_ble_eq_true rfl) dX4_countBetween_100 ⟨Nat.le_of_ble_eq_true rfl, Nat.le_of_ble_eq_true rfl⟩ ?_
          exact ret_no hx hb hr hlocks (Nat.le_of_ble_eq_true rfl) (Nat.le_of_ble_eq_true rfl) (rfl) (some a, some b) hP (by rw [← hAA]; exact hD) (by rw [← hAA]; exact hS) dX4_countBetween_103
theorem CX4_countBetween (l : Launch) {D : va_G} {ty : TY} {PM DM : Nat → Int64} {A : Nat} {o : Option Nat × Option Nat} {a1 a2 a3 q0 : Int32} (hM1 : fX4_markPrimes (fun _ => 0) = some PM) (hM2 : fX4_markByDigitSum (fun _ => 0) = some DM) (hf : fX4_countBetween PM DM a1 a2 a3 = some q0) : RNo l yX4_countBetween wsX4_countBetween rmX4_countBetween D ty [.ref A, .int a1, .int a2, .int a3] (lwW ty PM DM A) o q0 := by
  obtain ⟨o1, o2⟩ := o
  cases o1 with
  | none => cases o2 with
    | none => exact CX4_countBetween_nn l hM1 hM2 hf
    | some b => exact CX4_countBetween_ns l hM1 hM2 hf
  | some a => cases o2 with
    | none => exact CX4_countBetween_sn l hM1 hM2 hf
    | some b => exact CX4_countBetween_ss l hM1 hM2 hf
