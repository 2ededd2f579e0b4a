
abbrev wMk (ty : TY) (f : Nat → Int64) (a : Nat) : va_W := [(a, .inl (ty.2.1, 1563, .inr (.inl f)))]
abbrev QNr (D : va_G) (WC : va_W) (W1 : Nat → va_W) (sz : Nat) : Array Value → State → Outcome → State → Prop := va_Qr (fun (_ : Unit) => True) (fun _ a t => va_P D vwCl (W1 a) t.heap ∧ va_D (va_A WC sz) (W1 a)) (va_A WC sz)
/-- a method that makes cells and gives one back -/
def RNr (l : Launch) (y : MethodName) (ws : List Cond) (rm : Room) (D : va_G) (ty : TY) (av : List Value) (WC : va_W) (mc ms : Nat) (W1 : Nat → va_W) : Prop := ∀ sz : Nat, Met l y ws rm (PRW D ty av WC sz) (QNr D WC W1 sz) mc ms (va_A WC sz)
abbrev WNr (p : Program) (l : Launch) (e : Env) (rm : Room) (s : State) (m : MethodId) (av : List Value) (below : List Frame) (meth : Method) (c : Code) (D : va_G) (WC : va_W) (mc ms : Nat) (W1 : Nat → va_W) (H : Heap) (locs : List Loc) (g : JFrame) : Prop := W p l e rm s m av.toArray below meth c H locs mc ms (MQ below (QNr D WC W1 s.heap.size) av.toArray s mc ms (va_A WC s.heap.size)) g
section MarkStart
variable {l : Launch} {y : MethodName} {ws ws' : List Cond} {rm : Room} {D : va_G} {ty : TY} {av : List Value} {WC : va_W} {W1 : Nat → va_W} {cc : ByteArray} {maxL mc ms : Nat} {ret : Option FieldType} {own : String}
theorem RNr.start (hy : plainName y.cls = true) (hw : ws = Cond.code y cc maxL ret :: ws') (ho : y.cls = own) (hlen : (lg_sl av).length ≤ maxL)
    (body : ∀ (p : Program) (e : Env) (s : State) (m : MethodId) (below : List Frame) (meth : Method) (c : Code) (ls : Array Slot), cx p s m av meth c cc maxL ret own ws → KK D ty s → va_P D vwCl WC s.heap → va_D (va_A WC s.heap.size) WC → va_S (va_A WC s.heap.size) s.heap s.heap [] → (∀ q, s.heap.size ≤ q → va_A WC s.heap.size q) → lv_has ls maxL (lv_args 0 av) → W p l e rm s m av.toArray below meth c s.heap [] 0 0 (MQ below (QNr D WC W1 s.heap.size) av.toArray s mc ms (va_A WC s.heap.size)) (F0 m 0 ls [])) : RNr l y ws rm D ty av WC mc ms W1 := by
  intro sz
  refine Met.ofW (cc := cc) (maxL := maxL) (ret := ret) hy hw ?_
  intro p e s m args below meth c s₁ B hml hv
  obtain ⟨rfl, hsz, hP, hK, hD0⟩ := hv
  subst hsz
  have hts := atoms_spec (ws := ws) B.pre
  have hown : s.vm.findClass own = some m.cls := by rw [← ho]; exact findClass_of_methodNamed B.named
  rw [lg_entry_eq]
  exact body p e s m below meth c _ ⟨B.exec, B.bytes, B.returns, hml, hown, hts, B.notSynchronized⟩ hK hP hD0.self va_S.rf (fun q h => Or.inr h) (lv_entry av hlen)
end MarkStart
theorem ret_nr {p : Program} {l : Launch} {e : Env} {R : Room} {s : State} {m : MethodId} {av : List Value} {below : List Frame} {meth : Method} {c : Code} {cc : ByteArray} {pc : Nat} {ls : Array Slot} {D : va_G} {WC : va_W} {W1 : Nat → va_W} {H : Heap} {locs : List Loc} {mc ms a : Nat} {t0 : FieldType} (hexec : p.tables.exec = Jvm.exec) (hb : c.code = cc) (hr : meth.sig.returnType = some (.array t0)) (hlocks : meth.locks = false) (hP : va_P D vwCl (W1 a) H) (hD : va_D (va_A WC s.heap.size) (W1 a)) (hS : va_S (va_A WC s.heap.size) s.heap H locs) (hdg : decode cc pc = .ok (.areturn, 1)) : WNr p l e R s m av below meth c D WC mc ms W1 H locs (F0 m pc ls [.ref a]) :=
  W.aret hexec hb hr (Or.inr ⟨_, rfl⟩) (Or.inr ⟨_, rfl⟩) (fun t ht _ => ⟨⟨(), a, rfl, trivial, by rw [ht]; exact hP, hD⟩, hS.F ht⟩) hS.2.2 hdg hlocks
/-! ===== SilenceCount$Laws.markPrimes()[J ===== -/
abbrev rmX4_markPrimes : Room := { frames := 1, cells := 1, slots := 1563, locals := 24 }
theorem kkX4_markPrimes : yX4_markPrimes.cls = RX4 ∧ yX4_markPrimes.cls ≠ "java/lang/invoke/MethodHandle" ∧ yX4_markPrimes.cls ≠ "java/lang/invoke/VarHandle" ∧ (parseMethodDescriptor yX4_markPrimes.desc).map (fun d => d.parameters.length) = some 0 := by decide +kernel
theorem mX4_markPrimes_k63 : Cond.constantLong RX4 63 (-6148914691236517206) ∈ wsX4_markPrimes := by decide +kernel
theorem mX4_markPrimes_k71 : Cond.constantLong RX4 71 (-6148914691236517204) ∈ wsX4_markPrimes := by decide +kernel
theorem mX4_markPrimes_k73 : Cond.constant RX4 73 (100000) ∈ wsX4_markPrimes := by decide +kernel
theorem mX4_markPrimes_k74 : Cond.constantLong RX4 74 (-1) ∈ wsX4_markPrimes := by decide +kernel
def bX4_markPrimes_54 (k21 : Int32 × (Nat → Int64) → Option ((Nat → Int64))) (k54 : Int32 × Int32 × (Nat → Int64) → Option ((Nat → Int64))) (v1 : Int32) (v2 : Int32) (q : Nat → Int64) : Option ((Nat → Int64)) :=
  if 100000 < v2 then k21 (v1 + 2, q) else gIn (v2 >>> (6 &&& 31)) 1563 (gIn (v2 >>> (6 &&& 31)) 1563 (k54 (v1, v2 + (2 * v1), vp_updL q (v2 >>> (6 &&& 31) : Int32).toNatClampNeg ((q (v2 >>> (6 &&& 31) : Int32).toNatClampNeg) &&& ((1 <<< ((v2 &&& 63 : Int32).toInt64 &&& 63)) ^^^ (-1))))))
set_option maxRecDepth 100000 in
set_option maxHeartbeats 4000000 in
theorem BX4_markPrimes_54 {p : Program} {l : Launch} {e : Env} {s : State} {m : MethodId} {below : List Frame} {meth : Method} {c : Code} {D : va_G} {ty : TY} {A_q : Nat} {q0 : (Nat → Int64)} {WC : va_W} (C : cx p s m [] meth c cX4_markPrimes 3 (some (.array .long)) RX4 wsX4_markPrimes) (hK : KK D ty s) {k21 : Int32 × (Nat → Int64) → Option ((Nat → Int64))} (hk21 : ∀ (v1 : Int32) (q : Nat → Int64) (H : Heap) (locs : List Loc) (ls : Array Slot), va_P D vwCl [(A_q, .inl (ty.2.1, 1563, .inr (.inl q)))] H → va_D (va_A WC s.heap.size) [(A_q, .inl (ty.2.1, 1563, .inr (.inl q)))] → va_S (va_A WC s.heap.size) s.heap H locs → lv_has ls 3 [(0, .ref A_q), (1, .int v1)] → k21 (v1, q) = some q0 → WNr p l e rmX4_markPrimes s m [] below meth c D WC 1 1563 (wMk ty q0) H locs (F0 m 21 ls [])) : ∀ (n : Nat) (v1 : Int32) (v2 : Int32) (q : Nat → Int64) (H : Heap) (locs : List Loc) (ls : Array Slot), va_P D vwCl [(A_q, .inl (ty.2.1, 1563, .inr (.inl q)))] H → va_D (va_A WC s.heap.size) [(A_q, .inl (ty.2.1, 1563, .inr (.inl q)))] → va_S (va_A WC s.heap.size) s.heap H locs → lv_has ls 3 [(0, .ref A_q), (1, .int v1), (2, .int v2)] → loopF (fun k q => bX4_markPrimes_54 k21 k q.1 q.2.1 q.2.2) n (v1, v2, q) = some q0 → WNr p l e rmX4_markPrimes s m [] below meth c D WC 1 1563 (wMk ty q0) H locs (F0 m 54 ls []) := by
  obtain ⟨hx, hb, hr, hml, hown, hts, hlocks⟩ := id C
  intro n
  induction n with
  | zero =>
    intro v1 v2 q H locs ls hP hD hS hl hf
    cases hf
  | succ n ih =>
    intro v1 v2 q H locs ls hP hD hS hl hf
    have hf : bX4_markPrimes_54 k21 (loopF (fun k q => bX4_markPrimes_54 k21 k q.1 q.2.1 q.2.2) n) v1 v2 q = some q0 := hf
    have hk54 := ih
    unfold bX4_markPrimes_54 at hf
    refine lv_iload_n hx hb dX4_markPrimes_54 rfl (lv_at hl 2 rfl) ?_
    refine lv_ldc (v := 100000) hx hb hown (hts _ mX4_markPrimes_k73) dX4_markPrimes_55 ?_
    refine lv_icmp_gt (tgt := 88) hx hb dX4_markPrimes_57 (by decide) (fun hc => ?_) (fun hc => ?_)
    · have hf := ft hf hc
      refine lv_iinc (v := v1 + 2) (lv' := [(1, .int (v1 + 2)), (0, .ref A_q), (2, .int v2)]) hx hb dX4_markPrimes_88 hl (k := 1) rfl rfl (by decide) rfl (fun ls hl => ?_)
      refine lv_goto (tgt := 21) hx hb dX4_markPrimes_91 (by decide) ?_
      exact hk21 _ _ _ _ _ hP hD hS (lv_sub hl [1, 0] rfl) hf
    · have hf := ff hf hc
      refine lv_aload_n hx hb dX4_markPrimes_60 rfl (lv_at hl 0 rfl) ?_
      refine lv_iload_n hx hb dX4_markPrimes_61 rfl (lv_at hl 2 rfl) ?_
      refine lv_bipush (v := 6) hx hb dX4_markPrimes_62 (by decide) ?_
      refine lv_ishr hx hb dX4_markPrimes_64 ?_
      refine lv_dup2_11 hx hb dX4_markPrimes_65 rfl rfl ?_
      obtain ⟨hin, hf⟩ := gIn_some hf
      refine va_lald hx hb hK.1 hP 0 1 rfl rfl hin dX4_markPrimes_66 ?_
      refine lv_lconst (v := 1) hx hb dX4_markPrimes_67 (by decide) ?_
      refine lv_iload_n hx hb dX4_markPrimes_68 rfl (lv_at hl 2 rfl) ?_
      refine lv_bipush (v := 63) hx hb dX4_markPrimes_69 (by decide) ?_
      refine lv_iand hx hb dX4_markPrimes_71 ?_
      refine lv_lshl hx hb dX4_markPrimes_72 rfl ?_
      refine lv_ldc2 (v := (-1)) hx hb hown (hts _ mX4_markPrimes_k74) dX4_markPrimes_73 ?_
      refine lv_lxor hx hb dX4_markPrimes_76 ?_
      refine lv_land hx hb dX4_markPrimes_77 ?_
      obtain ⟨hin, hf⟩ := gIn_some hf
      refine va_last hx hb hK.1 hP hD hS 0 1 rfl rfl hin dX4_markPrimes_78 (fun H locs hP hD hS => ?_)
      have hP : va_P D vwCl [(A_q, .inl (ty.2.1, 1563, .inr (.inl (vp_updL q (v2 >>> (6 &&& 31) : Int32).toNatClampNeg ((q (v2 >>> (6 &&& 31) : Int32).toNatClampNeg) &&& ((1 <<< ((v2 &&& 63 : Int32).toInt64 &&& 63)) ^^^ (-1)))))))] H := hP
      have hD : va_D (va_A WC s.heap.size) [(A_q, .inl (ty.2.1, 1563, .inr (.inl (vp_updL q (v2 >>> (6 &&& 31) : Int32).toNatClampNeg ((q (v2 >>> (6 &&& 31) : Int32).toNatClampNeg) &&& ((1 <<< ((v2 &&& 63 : Int32).toInt64 &&& 63)) ^^^ (-1)))))))] := hD
      refine lv_iload_n hx hb dX4_markPrimes_79 rfl (lv_at hl 2 rfl) ?_
      refine lv_iconst (v := 2) hx hb dX4_markPrimes_80 (by decide) ?_
      refine lv_iload_n hx hb dX4_markPrimes_81 rfl (lv_at hl 1 rfl) ?_
      refine lv_imul hx hb dX4_markPrimes_82 ?_
      refine lv_iadd hx hb dX4_markPrimes_83 ?_
      refine lv_istore_n (lv' := [(2, .int (v2 + (2 * v1))), (0, .ref A_q), (1, .int v1)]) hx hb dX4_markPrimes_84 rfl hl (by decide) rfl (fun ls hl => ?_)
      refine lv_goto (tgt := 54) hx hb dX4_markPrimes_85 (by decide) ?_
      exact hk54 _ _ _ _ _ _ hP hD hS (lv_sub hl [1, 2, 0] rfl) hf
def bX4_markPrimes_21 (k21 : Int32 × (Nat → Int64) → Option ((Nat → Int64))) (v1 : Int32) (q : Nat → Int64) : Option ((Nat → Int64)) :=
  if 100000 < (v1 * v1) then some q else gIn (v1 >>> (6 &&& 31)) 1563 (if (lg_cmp ((((q (v1 >>> (6 &&& 31) : Int32).toNatClampNeg : Int64).toUInt64 >>> ((v1 &&& 63 : Int32).toInt64.toUInt64 &&& Int64.toUInt64 63)).toInt64) &&& 1) 0) = 0 then k21 (v1 + 2, q) else loopF (fun k q => bX4_markPrimes_54 k21 k q.1 q.2.1 q.2.2) FU (v1, v1 * v1, q))
set_option maxRecDepth 100000 in
set_option maxHeartbeats 4000000 in
theorem BX4_markPrimes_21 {p : Program} {l : Launch} {e : Env} {s : State} {m : MethodId} {below : List Frame} {meth : Method} {c : Code} {D : va_G} {ty : TY} {A_q : Nat} {q0 : (Nat → Int64)} {WC : va_W} (C : cx p s m [] meth c cX4_markPrimes 3 (some (.array .long)) RX4 wsX4_markPrimes) (hK : KK D ty s)   : ∀ (n : Nat) (v1 : Int32) (q : Nat → Int64) (H : Heap) (locs : List Loc) (ls : Array Slot), va_P D vwCl [(A_q, .inl (ty.2.1, 1563, .inr (.inl q)))] H → va_D (va_A WC s.heap.size) [(A_q, .inl (ty.2.1, 1563, .inr (.inl q)))] → va_S (va_A WC s.heap.size) s.heap H locs → lv_has ls 3 [(0, .ref A_q), (1, .int v1)] → loopF (fun k q => bX4_markPrimes_21 k q.1 q.2) n (v1, q) = some q0 → WNr p l e rmX4_markPrimes s m [] below meth c D WC 1 1563 (wMk ty q0) H locs (F0 m 21 ls []) := by
  obtain ⟨hx, hb, hr, hml, hown, hts, hlocks⟩ := id C
  intro n
  induction n with
  | zero =>
    intro v1 q H locs ls hP hD hS hl hf
    cases hf
  | succ n ih =>
    intro v1 q H locs ls hP hD hS hl hf
    have hf : bX4_markPrimes_21 (loopF (fun k q => bX4_markPrimes_21 k q.1 q.2) n) v1 q = some q0 := hf
    have hk21 := ih
    unfold bX4_markPrimes_21 at hf
    refine lv_iload_n hx hb dX4_markPrimes_21 rfl (lv_at hl 1 rfl) ?_
    refine lv_iload_n hx hb dX4_markPrimes_22 rfl (lv_at hl 1 rfl) ?_
    refine lv_imul hx hb dX4_markPrimes_23 ?_
    refine lv_ldc (v := 100000) hx hb hown (hts _ mX4_markPrimes_k73) dX4_markPrimes_24 ?_
    refine lv_icmp_gt (tgt := 94) hx hb dX4_markPrimes_26 (by decide) (fun hc => ?_) (fun hc => ?_)
    · have hf := ft hf hc
      refine lv_aload_n hx hb dX4_markPrimes_94 rfl (lv_at hl 0 rfl) ?_
      cases hf
      exact ret_nr hx hb hr hlocks hP hD hS dX4_markPrimes_95
    · have hf := ff hf hc
      refine lv_aload_n hx hb dX4_markPrimes_29 rfl (lv_at hl 0 rfl) ?_
      refine lv_iload_n hx hb dX4_markPrimes_30 rfl (lv_at hl 1 rfl) ?_
      refine lv_bipush (v := 6) hx hb dX4_markPrimes_31 (by decide) ?_
      refine lv_ishr hx hb dX4_markPrimes_33 ?_
      obtain ⟨hin, hf⟩ := gIn_some hf
      refine va_lald hx hb hK.1 hP 0 1 rfl rfl hin dX4_markPrimes_34 ?_
      refine lv_iload_n hx hb dX4_markPrimes_35 rfl (lv_at hl 1 rfl) ?_
      refine lv_bipush (v := 63) hx hb dX4_markPrimes_36 (by decide) ?_
      refine lv_iand hx hb dX4_markPrimes_38 ?_
      refine lv_lushr hx hb dX4_markPrimes_39 rfl ?_
      refine lv_lconst (v := 1) hx hb dX4_markPrimes_40 (by decide) ?_
      refine lv_land hx hb dX4_markPrimes_41 ?_
      refine lv_lconst (v := 0) hx hb dX4_markPrimes_42 (by decide) ?_
      refine W.lcmp hx hb dX4_markPrimes_43 ?_
      refine lv_if_ne (tgt := 50) hx hb dX4_markPrimes_44 (by decide) (fun hc => ?_) (fun hc => ?_)
      · have hf := ff hf hc
        refine lv_iload_n hx hb dX4_markPrimes_50 rfl (lv_at hl 1 rfl) ?_
        refine lv_iload_n hx hb dX4_markPrimes_51 rfl (lv_at hl 1 rfl) ?_
        refine lv_imul hx hb dX4_markPrimes_52 ?_
        refine lv_istore_n (lv' := [(2, .int (v1 * v1)), (0, .ref A_q), (1, .int v1)]) hx hb dX4_markPrimes_53 rfl hl (by decide) rfl (fun ls hl => ?_)
        exact BX4_markPrimes_54 C hK hk21 FU _ _ _ _ _ _ hP hD hS (lv_sub hl [1, 2, 0] rfl) hf
      · have hf := ft hf hc
        refine lv_goto (tgt := 88) hx hb dX4_markPrimes_47 (by decide) ?_
        refine lv_iinc (v := v1 + 2) (lv' := [(1, .int (v1 + 2)), (0, .ref A_q)]) hx hb dX4_markPrimes_88 hl (k := 1) rfl rfl (by decide) rfl (fun ls hl => ?_)
        refine lv_goto (tgt := 21) hx hb dX4_markPrimes_91 (by decide) ?_
        exact hk21 _ _ _ _ _ hP hD hS (lv_sub hl [1, 0] rfl) hf
def fX4_markPrimes (q : Nat → Int64) : Option ((Nat → Int64)) :=
  (fJ7_fill_d0a16 q (-6148914691236517206)).bind fun r10 => gIn 0 1563 (loopF (fun k q => bX4_markPrimes_21 k q.1 q.2) FU (3, vp_updL r10 (0 : Int32).toNatClampNeg (-6148914691236517204)))
set_option maxRecDepth 100000 in
set_option maxHeartbeats 4000000 in
theorem CX4_markPrimes (l : Launch) {D : va_G} {ty : TY} {q0 : Nat → Int64} (hf : fX4_markPrimes (fun _ => 0) = some q0) : RNr l yX4_markPrimes wsX4_markPrimes rmX4_markPrimes D ty [] [] 1 1563 (wMk ty q0) := by
  refine RNr.start (cc := cX4_markPrimes) (maxL := 3) (ret := (some (.array .long))) (own := RX4) (by decide) rfl rfl (Nat.le_of_ble_eq_true rfl) ?_
  intro p e s m below meth c ls C hK hP hD hS hA hl
  obtain ⟨WC, hWC⟩ : ∃ w : va_W, w = [] := ⟨_, rfl⟩
  rw [← hWC] at hD hS hA ⊢
  have hD : va_D (va_A WC s.heap.size) [] := by rw [← hWC]; exact hD
  obtain ⟨hx, hb, hr, hml, hown, hts, hlocks⟩ := id C
  have hl : lv_has ls 3 [] := hl
  refine lv_sipush (v := 1563) hx hb dX4_markPrimes_0 (by decide) ?_
  refine newJ hx hb (hts (.arrayClass .long) (by decide +kernel)) hK hP hD hS hA 1563 (by decide) (by decide) (by decide) (Nat.le_of_ble_eq_true rfl) (Nat.le_of_ble_eq_true rfl) dX4_markPrimes_3 (fun A_q H hP hD hS => ?_)
  have hP : va_P D vwCl [(A_q, .inl (ty.2.1, 1563, .inr (.inl (fun _ => 0))))] H := hP
  have hD : va_D (va_A WC s.heap.size) [(A_q, .inl (ty.2.1, 1563, .inr (.inl (fun _ => 0))))] := hD
  refine W.eq (g2 := F0 m 5 ls [.ref A_q]) rfl ?_
  obtain ⟨q, hq⟩ : ∃ z : Nat → Int64, z = (fun _ => 0) := ⟨_, rfl⟩
  rw [← hq] at hP hD hf
  show WNr p l e rmX4_markPrimes s m [] below meth c D WC 1 1563 (wMk ty q0) H [] (F0 m 5 ls [.ref A_q])
  unfold fX4_markPrimes at hf
  refine lv_astore_n (lv' := [(0, .ref A_q)]) hx hb dX4_markPrimes_5 rfl hl (by decide) rfl (fun ls hl => ?_)
  refine lv_aload_n hx hb dX4_markPrimes_6 rfl (lv_at hl 0 rfl) ?_
  refine lv_ldc2 (v := (-6148914691236517206)) hx hb hown (hts _ mX4_markPrimes_k63) dX4_markPrimes_7 ?_
  obtain ⟨r10, hr10, hf⟩ := bnd hf
  refine callS_wv (As := [.ref A_q, .long (-6148914691236517206)]) (rest := []) ⟨hx, hb, hml, hown, hts⟩ (CJ7_fill_d0a16 l hr10) (va_cwS 2 hts gX4_markPrimes_J7_fill_d0a16 rfl rfl rfl kkJ7_fill_d0a16.2 ⟨Nat.le_of_ble_eq_true rfl, Nat.le_of_ble_eq_true rfl⟩) hK hP hD hS (fun _ h => Or.inr h) [0] [] [0] rfl (by decide) (by decide) rfl rfl hl.1 rfl (Nat.le_of_ble_eq_true rfl) dX4_markPrimes_10 ⟨Nat.le_of_ble_eq_true rfl, Nat.le_of_ble_eq_true rfl⟩ (fun H locs hP hD hS => ?_)
  have hP : va_P D vwCl [(A_q, .inl (ty.2.1, 1563, .inr (.inl r10)))] H := hP
  have hD : va_D (va_A WC s.heap.size) [(A_q, .inl (ty.2.1, 1563, .inr (.inl r10)))] := hD
  refine lv_aload_n hx hb dX4_markPrimes_13 rfl (lv_at hl 0 rfl) ?_
  refine lv_iconst (v := 0) hx hb dX4_markPrimes_14 (by decide) ?_
  refine lv_ldc2 (v := (-6148914691236517204)) hx hb hown (hts _ mX4_markPrimes_k71) dX4_markPrimes_15 ?_
  obtain ⟨hin, hf⟩ := gIn_some hf
  refine va_last hx hb hK.1 hP hD hS 0 1 rfl rfl hin dX4_markPrimes_18 (fun H locs hP hD hS => ?_)
  have hP : va_P D vwCl [(A_q, .inl (ty.2.1, 1563, .inr (.inl (vp_updL r10 (0 : Int32).toNatClampNeg (-6148914691236517204)))))] H := hP
  have hD : va_D (va_A WC s.heap.size) [(A_q, .inl (ty.2.1, 1563, .inr (.inl (vp_updL r10 (0 : Int32).toNatClampNeg (-6148914691236517204)))))] := hD
  refine lv_iconst (v := 3) hx hb dX4_markPrimes_19 (by decide) ?_
  refine lv_istore_n (lv' := [(1, .int 3), (0, .ref A_q)]) hx hb dX4_markPrimes_20 rfl hl (by decide) rfl (fun ls hl => ?_)
  exact BX4_markPrimes_21 C hK  FU _ _ _ _ _ hP hD hS (lv_sub hl [1, 0] rfl) hf
/-! ===== SilenceCount$Laws.markByDigitSum()[J ===== -/
abbrev rmX4_markByDigitSum : Room := { frames := 1, cells := 1, slots := 1563, locals := 22 }
theorem kkX4_markByDigitSum : yX4_markByDigitSum.cls = RX4 ∧ yX4_markByDigitSum.cls ≠ "java/lang/invoke/MethodHandle" ∧ yX4_markByDigitSum.cls ≠ "java/lang/invoke/VarHandle" ∧ (parseMethodDescriptor yX4_markByDigitSum.desc).map (fun d => d.parameters.length) = some 0 := by decide +kernel
theorem mX4_markByDigitSum_k73 : Cond.constant RX4 73 (100000) ∈ wsX4_markByDigitSum := by decide +kernel
def bX4_markByDigitSum_21 (k8 : Int32 × (Nat → Int64) → Option ((Nat → Int64))) (k21 : Int32 × Int32 × Int32 × (Nat → Int64) → Option ((Nat → Int64))) (v1 : Int32) (v2 : Int32) (v3 : Int32) (q : Nat → Int64) : Option ((Nat → Int64)) :=
  if (v1 + 10) ≤ v3 then k8 (v1 + 10, q) else if 100000 < v3 then k8 (v1 + 10, q) else (fX4_isMultipleOf v3 ((v2 + v3) - v1)).bind fun r41 => if r41 = 0 then k21 (v1, v2, v3 + 1, q) else gIn (v3 >>> (6 &&& 31)) 1563 (gIn (v3 >>> (6 &&& 31)) 1563 (k21 (v1, v2, v3 + 1, vp_updL q (v3 >>> (6 &&& 31) : Int32).toNatClampNeg ((q (v3 >>> (6 &&& 31) : Int32).toNatClampNeg) ||| (1 <<< ((v3 &&& 63 : Int32).toInt64 &&& 63))))))
set_option maxRecDepth 100000 in
set_option maxHeartbeats 4000000 in
theorem BX4_markByDigitSum_21 {p : Program} {l : Launch} {e : Env} {s : State} {m : MethodId} {below : List Frame} {meth : Method} {c : Code} {D : va_G} {ty : TY} {A_q : Nat} {q0 : (Nat → Int64)} {WC : va_W} (C : cx p s m [] meth c cX4_markByDigitSum 4 (some (.array .long)) RX4 wsX4_markByDigitSum) (hK : KK D ty s) {k8 : Int32 × (Nat → Int64) → Option ((Nat → Int64))} (hk8 : ∀ (v1 : Int32) (q : Nat → Int64) (H : Heap) (locs : List Loc) (ls : Array Slot), va_P D vwCl [(A_q, .inl (ty.2.1, 1563, .inr (.inl q)))] H → va_D (va_A WC s.heap.size) [(A_q, .inl (ty.2.1, 1563, .inr (.inl q)))] → va_S (va_A WC s.heap.size) s.heap H locs → lv_has ls 4 [(0, .ref A_q), (1, .int v1)] → k8 (v1, q) = some q0 → WNr p l e rmX4_markByDigitSum s m [] below meth c D WC 1 1563 (wMk ty q0) H locs (F0 m 8 ls [])) : ∀ (n : Nat) (v1 : Int32) (v2 : Int32) (v3 : Int32) (q : Nat → Int64) (H : Heap) (locs : List Loc) (ls : Array Slot), va_P D vwCl [(A_q, .inl (ty.2.1, 1563, .inr (.inl q)))] H → va_D (va_A WC s.heap.size) [(A_q, .inl (ty.2.1, 1563, .inr (.inl q)))] → va_S (va_A WC s.heap.size) s.heap H locs → lv_has ls 4 [(0, .ref A_q), (1, .int v1), (2, .int v2), (3, .int v3)] → loopF (fun k q => bX4_markByDigitSum_21 k8 k q.1 q.2.1 q.2.2.1 q.2.2.2) n (v1, v2, v3, q) = some q0 → WNr p l e rmX4_markByDigitSum s m [] below meth c D WC 1 1563 (wMk ty q0) H locs (F0 m 21 ls []) := by
  obtain ⟨hx, hb, hr, hml, hown, hts, hlocks⟩ := id C
  intro n
  induction n with
  | zero =>
    intro v1 v2 v3 q H locs ls hP hD hS hl hf
    cases hf
  | succ n ih =>
    intro v1 v2 v3 q H locs ls hP hD hS hl hf
    have hf : bX4_markByDigitSum_21 k8 (loopF (fun k q => bX4_markByDigitSum_21 k8 k q.1 q.2.1 q.2.2.1 q.2.2.2) n) v1 v2 v3 q = some q0 := hf
    have hk21 := ih
    unfold bX4_markByDigitSum_21 at hf
    refine lv_iload_n hx hb dX4_markByDigitSum_21 rfl (lv_at hl 3 rfl) ?_
    refine lv_iload_n hx hb dX4_markByDigitSum_22 rfl (lv_at hl 1 rfl) ?_
    refine lv_bipush (v := 10) hx hb dX4_markByDigitSum_23 (by decide) ?_
    refine lv_iadd hx hb dX4_markByDigitSum_25 ?_
    refine lv_icmp_ge (tgt := 68) hx hb dX4_markByDigitSum_26 (by decide) (fun hc => ?_) (fun hc => ?_)
    · have hf := ft hf hc
      refine lv_iinc (v := v1 + 10) (lv' := [(1, .int (v1 + 10)), (0, .ref A_q), (2, .int v2), (3, .int v3)]) hx hb dX4_markByDigitSum_68 hl (k := 1) rfl rfl (by decide) rfl (fun ls hl => ?_)
      refine lv_goto (tgt := 8) hx hb dX4_markByDigitSum_71 (by decide) ?_
      exact hk8 _ _ _ _ _ hP hD hS (lv_sub hl [1, 0] rfl) hf
    · have hf := ff hf hc
      refine lv_iload_n hx hb dX4_markByDigitSum_29 rfl (lv_at hl 3 rfl) ?_
      refine lv_ldc (v := 100000) hx hb hown (hts _ mX4_markByDigitSum_k73) dX4_markByDigitSum_30 ?_
      refine lv_icmp_gt (tgt := 68) hx hb dX4_markByDigitSum_32 (by decide) (fun hc => ?_) (fun hc => ?_)
      · have hf := ft hf hc
        refine lv_iinc (v := v1 + 10) (lv' := [(1, .int (v1 + 10)), (0, .ref A_q), (2, .int v2), (3, .int v3)]) hx hb dX4_markByDigitSum_68 hl (k := 1) rfl rfl (by decide) rfl (fun ls hl => ?_)
        refine lv_goto (tgt := 8) hx hb dX4_markByDigitSum_71 (by decide) ?_
        exact hk8 _ _ _ _ _ hP hD hS (lv_sub hl [1, 0] rfl) hf
      · have hf := ff hf hc
        refine lv_iload_n hx hb dX4_markByDigitSum_35 rfl (lv_at hl 3 rfl) ?_
        refine lv_iload_n hx hb dX4_markByDigitSum_36 rfl (lv_at hl 2 rfl) ?_
        refine lv_iload_n hx hb dX4_markByDigitSum_37 rfl (lv_at hl 3 rfl) ?_
        refine lv_iadd hx hb dX4_markByDigitSum_38 ?_
        refine lv_iload_n hx hb dX4_markByDigitSum_39 rfl (lv_at hl 1 rfl) ?_
        refine lv_isub hx hb dX4_markByDigitSum_40 ?_
        obtain ⟨r41, hr41, hf⟩ := bnd hf
        have hPc : va_P D vwCl [] _ := hP.sub [] rfl
        refine callS_ri (As := [.int v3, .int ((v2 + v3) - v1)]) (rest := []) ⟨hx, hb, hml, hown, hts⟩ (CX4_isMultipleOf l hr41) (va_cwS 2 hts gX4_markByDigitSum_X4_isMultipleOf rfl rfl rfl kkX4_isMultipleOf.2 ⟨Nat.le_of_ble_eq_true rfl, Nat.le_of_ble_eq_true rfl⟩) hK hPc hl.1 rfl (Nat.le_of_ble_eq_true rfl) dX4_markByDigitSum_41 ⟨Nat.le_of_ble_eq_true rfl, Nat.le_of_ble_eq_true rfl⟩ ?_
        refine lv_if_eq (tgt := 62) hx hb dX4_markByDigitSum_44 (by decide) (fun hc => ?_) (fun hc => ?_)
        · have hf := ft hf hc
          refine lv_iinc (v := v3 + 1) (lv' := [(3, .int (v3 + 1)), (0, .ref A_q), (1, .int v1), (2, .int v2)]) hx hb dX4_markByDigitSum_62 hl (k := 3) rfl rfl (by decide) rfl (fun ls hl => ?_)
          refine lv_goto (tgt := 21) hx hb dX4_markByDigitSum_65 (by decide) ?_
          exact hk21 _ _ _ _ _ _ _ hP hD hS (lv_sub hl [1, 2, 3, 0] rfl) hf
        · have hf := ff hf hc
          refine lv_aload_n hx hb dX4_markByDigitSum_47 rfl (lv_at hl 0 rfl) ?_
          refine lv_iload_n hx hb dX4_markByDigitSum_48 rfl (lv_at hl 3 rfl) ?_
          refine lv_bipush (v := 6) hx hb dX4_markByDigitSum_49 (by decide) ?_
          refine lv_ishr hx hb dX4_markByDigitSum_51 ?_
          refine lv_dup2_11 hx hb dX4_markByDigitSum_52 rfl rfl ?_
          obtain ⟨hin, hf⟩ := gIn_some hf
          refine va_lald hx hb hK.1 hP 0 1 rfl rfl hin dX4_markByDigitSum_53 ?_
          refine lv_lconst (v := 1) hx hb dX4_markByDigitSum_54 (by decide) ?_
          refine lv_iload_n hx hb dX4_markByDigitSum_55 rfl (lv_at hl 3 rfl) ?_
          refine lv_bipush (v := 63) hx hb dX4_markByDigitSum_56 (by decide) ?_
          refine lv_iand hx hb dX4_markByDigitSum_58 ?_
          refine lv_lshl hx hb dX4_markByDigitSum_59 rfl ?_
          refine lv_lor hx hb dX4_markByDigitSum_60 ?_
          obtain ⟨hin, hf⟩ := gIn_some hf
          refine va_last hx hb hK.1 hP hD hS 0 1 rfl rfl hin dX4_markByDigitSum_61 (fun H locs hP hD hS => ?_)
          have hP : va_P D vwCl [(A_q, .inl (ty.2.1, 1563, .inr (.inl (vp_updL q (v3 >>> (6 &&& 31) : Int32).toNatClampNeg ((q (v3 >>> (6 &&& 31) : Int32).toNatClampNeg) ||| (1 <<< ((v3 &&& 63 : Int32).toInt64 &&& 63)))))))] H := hP
          have hD : va_D (va_A WC s.heap.size) [(A_q, .inl (ty.2.1, 1563, .inr (.inl (vp_updL q (v3 >>> (6 &&& 31) : Int32).toNatClampNeg ((q (v3 >>> (6 &&& 31) : Int32).toNatClampNeg) ||| (1 <<< ((v3 &&& 63 : Int32).toInt64 &&& 63)))))))] := hD
          refine lv_iinc (v := v3 + 1) (lv' := [(3, .int (v3 + 1)), (0, .ref A_q), (1, .int v1), (2, .int v2)]) hx hb dX4_markByDigitSum_62 hl (k := 3) rfl rfl (by decide) rfl (fun ls hl => ?_)
          refine lv_goto (tgt := 21) hx hb dX4_markByDigitSum_65 (by decide) ?_
          exact hk21 _ _ _ _ _ _ _ hP hD hS (lv_sub hl [1, 2, 3, 0] rfl) hf
def bX4_markByDigitSum_8 (k8 : Int32 × (Nat → Int64) → Option ((Nat → Int64))) (v1 : Int32) (q : Nat → Int64) : Option ((Nat → Int64)) :=
  if 100000 < v1 then some q else (fX4_digitSum v1).bind fun r15 => loopF (fun k q => bX4_markByDigitSum_21 k8 k q.1 q.2.1 q.2.2.1 q.2.2.2) FU (v1, r15, v1, q)
set_option maxRecDepth 100000 in
set_option maxHeartbeats 4000000 in
theorem BX4_markByDigitSum_8 {p : Program} {l : Launch} {e : Env} {s : State} {m : MethodId} {below : List Frame} {meth : Method} {c : Code} {D : va_G} {ty : TY} {A_q : Nat} {q0 : (Nat → Int64)} {WC : va_W} (C : cx p s m [] meth c cX4_markByDigitSum 4 (some (.array .long)) RX4 wsX4_markByDigitSum) (hK : KK D ty s)   : ∀ (n : Nat) (v1 : Int32) (q : Nat → Int64) (H : Heap) (locs : List Loc) (ls : Array Slot), va_P D vwCl [(A_q, .inl (ty.2.1, 1563, .inr (.inl q)))] H → va_D (va_A WC s.heap.size) [(A_q, .inl (ty.2.1, 1563, .inr (.inl q)))] → va_S (va_A WC s.heap.size) s.heap H locs → lv_has ls 4 [(0, .ref A_q), (1, .int v1)] → loopF (fun k q => bX4_markByDigitSum_8 k q.1 q.2) n (v1, q) = some q0 → WNr p l e rmX4_markByDigitSum s m [] below meth c D WC 1 1563 (wMk ty q0) H locs (F0 m 8 ls []) := by
  obtain ⟨hx, hb, hr, hml, hown, hts, hlocks⟩ := id C
  intro n
  induction n with
  | zero =>
    intro v1 q H locs ls hP hD hS hl hf
    cases hf
  | succ n ih =>
    intro v1 q H locs ls hP hD hS hl hf
    have hf : bX4_markByDigitSum_8 (loopF (fun k q => bX4_markByDigitSum_8 k q.1 q.2) n) v1 q = some q0 := hf
    have hk8 := ih
    unfold bX4_markByDigitSum_8 at hf
    refine lv_iload_n hx hb dX4_markByDigitSum_8 rfl (lv_at hl 1 rfl) ?_
    refine lv_ldc (v := 100000) hx hb hown (hts _ mX4_markByDigitSum_k73) dX4_markByDigitSum_9 ?_
    refine lv_icmp_gt (tgt := 74) hx hb dX4_markByDigitSum_11 (by decide) (fun hc => ?_) (fun hc => ?_)
    · have hf := ft hf hc
      refine lv_aload_n hx hb dX4_markByDigitSum_74 rfl (lv_at hl 0 rfl) ?_
      cases hf
      exact ret_nr hx hb hr hlocks hP hD hS dX4_markByDigitSum_75
    · have hf := ff hf hc
      refine lv_iload_n hx hb dX4_markByDigitSum_14 rfl (lv_at hl 1 rfl) ?_
      obtain ⟨r15, hr15, hf⟩ := bnd hf
      have hPc : va_P D vwCl [] _ := hP.sub [] rfl
      refine callS_ri (As := [.int v1]) (rest := []) ⟨hx, hb, hml, hown, hts⟩ (CX4_digitSum l hr15) (va_cwS 1 hts gX4_markByDigitSum_X4_digitSum rfl rfl rfl kkX4_digitSum.2 ⟨Nat.le_of_ble_eq_true rfl, Nat.le_of_ble_eq_true rfl⟩) hK hPc hl.1 rfl (Nat.le_of_ble_eq_true rfl) dX4_markByDigitSum_15 ⟨Nat.le_of_ble_eq_true rfl, Nat.le_of_ble_eq_true rfl⟩ ?_
      refine lv_istore_n (lv' := [(2, .int r15), (0, .ref A_q), (1, .int v1)]) hx hb dX4_markByDigitSum_18 rfl hl (by decide) rfl (fun ls hl => ?_)
      refine lv_iload_n hx hb dX4_markByDigitSum_19 rfl (lv_at hl 2 rfl) ?_
      refine lv_istore_n (lv' := [(3, .int v1), (2, .int r15), (0, .ref A_q), (1, .int v1)]) hx hb dX4_markByDigitSum_20 rfl hl (by decide) rfl (fun ls hl => ?_)
      exact BX4_markByDigitSum_21 C hK hk8 FU _ _ _ _ _ _ _ hP hD hS (lv_sub hl [2, 3, 1, 0] rfl) hf
def fX4_markByDigitSum (q : Nat → Int64) : Option ((Nat → Int64)) :=
  loopF (fun k q => bX4_markByDigitSum_8 k q.1 q.2) FU (0, q)
set_option maxRecDepth 100000 in
set_option maxHeartbeats 4000000 in
theorem CX4_markByDigitSum (l : Launch) {D : va_G} {ty : TY} {q0 : Nat → Int64} (hf : fX4_markByDigitSum (fun _ => 0) = some q0) : RNr l yX4_markByDigitSum wsX4_markByDigitSum rmX4_markByDigitSum D ty [] [] 1 1563 (wMk ty q0) := by
  refine RNr.start (cc := cX4_markByDigitSum) (maxL := 4) (ret := (some (.array .long))) (own := RX4) (by decide) rfl rfl (Nat.le_of_ble_eq_true rfl) ?_
  intro p e s m below meth c ls C hK hP hD hS hA hl
  obtain ⟨WC, hWC⟩ : ∃ w : va_W, w = [] := ⟨_, rfl⟩
  rw [← hWC] at hD hS hA ⊢
  have hD : va_D (va_A WC s.heap.size) [] := by rw [← hWC]; exact hD
  obtain ⟨hx, hb, hr, hml, hown, hts, hlocks⟩ := id C
  have hl : lv_has ls 4 [] := hl
  refine lv_sipush (v := 1563) hx hb dX4_markByDigitSum_0 (by decide) ?_
  refine newJ hx hb (hts (.arrayClass .long) (by decide +kernel)) hK hP hD hS hA 1563 (by decide) (by decide) (by decide) (Nat.le_of_ble_eq_true rfl) (Nat.le_of_ble_eq_true rfl) dX4_markByDigitSum_3 (fun A_q H hP hD hS => ?_)
  have hP : va_P D vwCl [(A_q, .inl (ty.2.1, 1563, .inr (.inl (fun _ => 0))))] H := hP
  have hD : va_D (va_A WC s.heap.size) [(A_q, .inl (ty.2.1, 1563, .inr (.inl (fun _ => 0))))] := hD
  refine W.eq (g2 := F0 m 5 ls [.ref A_q]) rfl ?_
  obtain ⟨q, hq⟩ : ∃ z : Nat → Int64, z = (fun _ => 0) := ⟨_, rfl⟩
  rw [← hq] at hP hD hf
  show WNr p l e rmX4_markByDigitSum s m [] below meth c D WC 1 1563 (wMk ty q0) H [] (F0 m 5 ls [.ref A_q])
  unfold fX4_markByDigitSum at hf
  refine lv_astore_n (lv' := [(0, .ref A_q)]) hx hb dX4_markByDigitSum_5 rfl hl (by decide) rfl (fun ls hl => ?_)
  refine lv_iconst (v := 0) hx hb dX4_markByDigitSum_6 (by decide) ?_
  refine lv_istore_n (lv' := [(1, .int 0), (0, .ref A_q)]) hx hb dX4_markByDigitSum_7 rfl hl (by decide) rfl (fun ls hl => ?_)
  exact BX4_markByDigitSum_8 C hK  FU _ _ _ _ _ hP hD hS (lv_sub hl [1, 0] rfl) hf
