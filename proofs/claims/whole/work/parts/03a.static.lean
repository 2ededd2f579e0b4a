/-! ===== java/lang/Integer.bitCount(I)I ===== -/
abbrev rmJ6_bitCount_0f7a4 : Room := { frames := 0, cells := 0, slots := 0, locals := 0 }
theorem kkJ6_bitCount_0f7a4 : yJ6_bitCount_0f7a4.cls = RJ6 ∧ yJ6_bitCount_0f7a4.cls ≠ "java/lang/invoke/MethodHandle" ∧ yJ6_bitCount_0f7a4.cls ≠ "java/lang/invoke/VarHandle" ∧ (parseMethodDescriptor yJ6_bitCount_0f7a4.desc).map (fun d => d.parameters.length) = some 1 := by decide +kernel
theorem mJ6_bitCount_0f7a4_k265 : Cond.constant RJ6 265 (1431655765) ∈ wsJ6_bitCount_0f7a4 := by decide +kernel
theorem mJ6_bitCount_0f7a4_k266 : Cond.constant RJ6 266 (858993459) ∈ wsJ6_bitCount_0f7a4 := by decide +kernel
theorem mJ6_bitCount_0f7a4_k267 : Cond.constant RJ6 267 (252645135) ∈ wsJ6_bitCount_0f7a4 := by decide +kernel
def fJ6_bitCount_0f7a4 (a0 : Int32) : Option (Int32) :=
  some ((((((((a0 - ((((a0 : Int32).toUInt32 >>> ((1 : Int32).toUInt32 &&& Int32.toUInt32 31)).toInt32) &&& 1431655765)) &&& 858993459) + ((((a0 - ((((a0 : Int32).toUInt32 >>> ((1 : Int32).toUInt32 &&& Int32.toUInt32 31)).toInt32) &&& 1431655765) : Int32).toUInt32 >>> ((2 : Int32).toUInt32 &&& Int32.toUInt32 31)).toInt32) &&& 858993459)) + (((((a0 - ((((a0 : Int32).toUInt32 >>> ((1 : Int32).toUInt32 &&& Int32.toUInt32 31)).toInt32) &&& 1431655765)) &&& 858993459) + ((((a0 - ((((a0 : Int32).toUInt32 >>> ((1 : Int32).toUInt32 &&& Int32.toUInt32 31)).toInt32) &&& 1431655765) : Int32).toUInt32 >>> ((2 : Int32).toUInt32 &&& Int32.toUInt32 31)).toInt32) &&& 858993459) : Int32).toUInt32 >>> ((4 : Int32).toUInt32 &&& Int32.toUInt32 31)).toInt32)) &&& 252645135) + (((((((a0 - ((((a0 : Int32).toUInt32 >>> ((1 : Int32).toUInt32 &&& Int32.toUInt32 31)).toInt32) &&& 1431655765)) &&& 858993459) + ((((a0 - ((((a0 : Int32).toUInt32 >>> ((1 : Int32).toUInt32 &&& Int32.toUInt32 31)).toInt32) &&& 1431655765) : Int32).toUInt32 >>> ((2 : Int32).toUInt32 &&& Int32.toUInt32 31)).toInt32) &&& 858993459)) + (((((a0 - ((((a0 : Int32).toUInt32 >>> ((1 : Int32).toUInt32 &&& Int32.toUInt32 31)).toInt32) &&& 1431655765)) &&& 858993459) + ((((a0 - ((((a0 : Int32).toUInt32 >>> ((1 : Int32).toUInt32 &&& Int32.toUInt32 31)).toInt32) &&& 1431655765) : Int32).toUInt32 >>> ((2 : Int32).toUInt32 &&& Int32.toUInt32 31)).toInt32) &&& 858993459) : Int32).toUInt32 >>> ((4 : Int32).toUInt32 &&& Int32.toUInt32 31)).toInt32)) &&& 252645135 : Int32).toUInt32 >>> ((8 : Int32).toUInt32 &&& Int32.toUInt32 31)).toInt32)) + ((((((((a0 - ((((a0 : Int32).toUInt32 >>> ((1 : Int32).toUInt32 &&& Int32.toUInt32 31)).toInt32) &&& 1431655765)) &&& 858993459) + ((((a0 - ((((a0 : Int32).toUInt32 >>> ((1 : Int32).toUInt32 &&& Int32.toUInt32 31)).toInt32) &&& 1431655765) : Int32).toUInt32 >>> ((2 : Int32).toUInt32 &&& Int32.toUInt32 31)).toInt32) &&& 858993459)) + (((((a0 - ((((a0 : Int32).toUInt32 >>> ((1 : Int32).toUInt32 &&& Int32.toUInt32 31)).toInt32) &&& 1431655765)) &&& 858993459) + ((((a0 - ((((a0 : Int32).toUInt32 >>> ((1 : Int32).toUInt32 &&& Int32.toUInt32 31)).toInt32) &&& 1431655765) : Int32).toUInt32 >>> ((2 : Int32).toUInt32 &&& Int32.toUInt32 31)).toInt32) &&& 858993459) : Int32).toUInt32 >>> ((4 : Int32).toUInt32 &&& Int32.toUInt32 31)).toInt32)) &&& 252645135) + (((((((a0 - ((((a0 : Int32).toUInt32 >>> ((1 : Int32).toUInt32 &&& Int32.toUInt32 31)).toInt32) &&& 1431655765)) &&& 858993459) + ((((a0 - ((((a0 : Int32).toUInt32 >>> ((1 : Int32).toUInt32 &&& Int32.toUInt32 31)).toInt32) &&& 1431655765) : Int32).toUInt32 >>> ((2 : Int32).toUInt32 &&& Int32.toUInt32 31)).toInt32) &&& 858993459)) + (((((a0 - ((((a0 : Int32).toUInt32 >>> ((1 : Int32).toUInt32 &&& Int32.toUInt32 31)).toInt32) &&& 1431655765)) &&& 858993459) + ((((a0 - ((((a0 : Int32).toUInt32 >>> ((1 : Int32).toUInt32 &&& Int32.toUInt32 31)).toInt32) &&& 1431655765) : Int32).toUInt32 >>> ((2 : Int32).toUInt32 &&& Int32.toUInt32 31)).toInt32) &&& 858993459) : Int32).toUInt32 >>> ((4 : Int32).toUInt32 &&& Int32.toUInt32 31)).toInt32)) &&& 252645135 : Int32).toUInt32 >>> ((8 : Int32).toUInt32 &&& Int32.toUInt32 31)).toInt32) : Int32).toUInt32 >>> ((16 : Int32).toUInt32 &&& Int32.toUInt32 31)).toInt32)) &&& 63)
set_option maxRecDepth 100000 in
set_option maxHeartbeats 4000000 in
theorem CJ6_bitCount_0f7a4 (l : Launch) {D : va_G} {ty : TY} {a0 : Int32} {q0 : Int32} (hf : fJ6_bitCount_0f7a4 a0 = some q0) : ROi l yJ6_bitCount_0f7a4 wsJ6_bitCount_0f7a4 rmJ6_bitCount_0f7a4 D ty [.int a0] [] q0 := by
  refine ROi.start (cc := cJ6_bitCount_0f7a4) (maxL := 1) (ret := (some .int)) (own := RJ6) (by decide) rfl rfl (Nat.le_of_ble_eq_true rfl) ?_
  intro p e s m below meth c ls C hK hP hl
  obtain ⟨hx, hb, hr, hml, hown, hts, hlocks⟩ := id C
  have hl : lv_has ls 1 [(0, .int a0)] := hl
  unfold fJ6_bitCount_0f7a4 at hf
  refine lv_iload_n hx hb dJ6_bitCount_0f7a4_0 rfl (lv_at hl 0 rfl) ?_
  refine lv_iload_n hx hb dJ6_bitCount_0f7a4_1 rfl (lv_at hl 0 rfl) ?_
  refine lv_iconst (v := 1) hx hb dJ6_bitCount_0f7a4_2 (by decide) ?_
  refine lv_iushr hx hb dJ6_bitCount_0f7a4_3 rfl ?_
  refine lv_ldcw (v := 1431655765) hx hb hown (hts _ mJ6_bitCount_0f7a4_k265) dJ6_bitCount_0f7a4_4 ?_
  refine lv_iand hx hb dJ6_bitCount_0f7a4_7 ?_
  refine lv_isub hx hb dJ6_bitCount_0f7a4_8 ?_
  refine lv_istore_n (lv' := [(0, .int (a0 - ((((a0 : Int32).toUInt32 >>> ((1 : Int32).toUInt32 &&& Int32.toUInt32 31)).toInt32) &&& 1431655765)))]) hx hb dJ6_bitCount_0f7a4_9 rfl hl (by decide) rfl (fun ls hl => ?_)
  refine lv_iload_n hx hb dJ6_bitCount_0f7a4_10 rfl (lv_at hl 0 rfl) ?_
  refine lv_ldcw (v := 858993459) hx hb hown (hts _ mJ6_bitCount_0f7a4_k266) dJ6_bitCount_0f7a4_11 ?_
  refine lv_iand hx hb dJ6_bitCount_0f7a4_14 ?_
  refine lv_iload_n hx hb dJ6_bitCount_0f7a4_15 rfl (lv_at hl 0 rfl) ?_
  refine lv_iconst (v := 2) hx hb dJ6_bitCount_0f7a4_16 (by decide) ?_
  refine lv_iushr hx hb dJ6_bitCount_0f7a4_17 rfl ?_
  refine lv_ldcw (v := 858993459) hx hb hown (hts _ mJ6_bitCount_0f7a4_k266) dJ6_bitCount_0f7a4_18 ?_
  refine lv_iand hx hb dJ6_bitCount_0f7a4_21 ?_
  refine lv_iadd hx hb dJ6_bitCount_0f7a4_22 ?_
  refine lv_istore_n (lv' := [(0, .int (((a0 - ((((a0 : Int32).toUInt32 >>> ((1 : Int32).toUInt32 &&& Int32.toUInt32 31)).toInt32) &&& 1431655765)) &&& 858993459) + ((((a0 - ((((a0 : Int32).toUInt32 >>> ((1 : Int32).toUInt32 &&& Int32.toUInt32 31)).toInt32) &&& 1431655765) : Int32).toUInt32 >>> ((2 : Int32).toUInt32 &&& Int32.toUInt32 31)).toInt32) &&& 858993459)))]) hx hb dJ6_bitCount_0f7a4_23 rfl hl (by decide) rfl (fun ls hl => ?_)
  refine lv_iload_n hx hb dJ6_bitCount_0f7a4_24 rfl (lv_at hl 0 rfl) ?_
  refine lv_iload_n hx hb dJ6_bitCount_0f7a4_25 rfl (lv_at hl 0 rfl) ?_
  refine lv_iconst (v := 4) hx hb dJ6_bitCount_0f7a4_26 (by decide) ?_
  refine lv_iushr hx hb dJ6_bitCount_0f7a4_27 rfl ?_
  refine lv_iadd hx hb dJ6_bitCount_0f7a4_28 ?_
  refine lv_ldcw (v := 252645135) hx hb hown (hts _ mJ6_bitCount_0f7a4_k267) dJ6_bitCount_0f7a4_29 ?_
  refine lv_iand hx hb dJ6_bitCount_0f7a4_32 ?_
  refine lv_istore_n (lv' := [(0, .int (((((a0 - ((((a0 : Int32).toUInt32 >>> ((1 : Int32).toUInt32 &&& Int32.toUInt32 31)).toInt32) &&& 1431655765)) &&& 858993459) + ((((a0 - ((((a0 : Int32).toUInt32 >>> ((1 : Int32).toUInt32 &&& Int32.toUInt32 31)).toInt32) &&& 1431655765) : Int32).toUInt32 >>> ((2 : Int32).toUInt32 &&& Int32.toUInt32 31)).toInt32) &&& 858993459)) + (((((a0 - ((((a0 : Int32).toUInt32 >>> ((1 : Int32).toUInt32 &&& Int32.toUInt32 31)).toInt32) &&& 1431655765)) &&& 858993459) + ((((a0 - ((((a0 : Int32).toUInt32 >>> ((1 : Int32).toUInt32 &&& Int32.toUInt32 31)).toInt32) &&& 1431655765) : Int32).toUInt32 >>> ((2 : Int32).toUInt32 &&& Int32.toUInt32 31)).toInt32) &&& 858993459) : Int32).toUInt32 >>> ((4 : Int32).toUInt32 &&& Int32.toUInt32 31)).toInt32)) &&& 252645135))]) hx hb dJ6_bitCount_0f7a4_33 rfl hl (by decide) rfl (fun ls hl => ?_)
  refine lv_iload_n hx hb dJ6_bitCount_0f7a4_34 rfl (lv_at hl 0 rfl) ?_
  refine lv_iload_n hx hb dJ6_bitCount_0f7a4_35 rfl (lv_at hl 0 rfl) ?_
  refine lv_bipush (v := 8) hx hb dJ6_bitCount_0f7a4_36 (by decide) ?_
  refine lv_iushr hx hb dJ6_bitCount_0f7a4_38 rfl ?_
  refine lv_iadd hx hb dJ6_bitCount_0f7a4_39 ?_
  refine lv_istore_n (lv' := [(0, .int ((((((a0 - ((((a0 : Int32).toUInt32 >>> ((1 : Int32).toUInt32 &&& Int32.toUInt32 31)).toInt32) &&& 1431655765)) &&& 858993459) + ((((a0 - ((((a0 : Int32).toUInt32 >>> ((1 : Int32).toUInt32 &&& Int32.toUInt32 31)).toInt32) &&& 1431655765) : Int32).toUInt32 >>> ((2 : Int32).toUInt32 &&& Int32.toUInt32 31)).toInt32) &&& 858993459)) + (((((a0 - ((((a0 : Int32).toUInt32 >>> ((1 : Int32).toUInt32 &&& Int32.toUInt32 31)).toInt32) &&& 1431655765)) &&& 858993459) + ((((a0 - ((((a0 : Int32).toUInt32 >>> ((1 : Int32).toUInt32 &&& Int32.toUInt32 31)).toInt32) &&& 1431655765) : Int32).toUInt32 >>> ((2 : Int32).toUInt32 &&& Int32.toUInt32 31)).toInt32) &&& 858993459) : Int32).toUInt32 >>> ((4 : Int32).toUInt32 &&& Int32.toUInt32 31)).toInt32)) &&& 252645135) + (((((((a0 - ((((a0 : Int32).toUInt32 >>> ((1 : Int32).toUInt32 &&& Int32.toUInt32 31)).toInt32) &&& 1431655765)) &&& 858993459) + ((((a0 - ((((a0 : Int32).toUInt32 >>> ((1 : Int32).toUInt32 &&& Int32.toUInt32 31)).toInt32) &&& 1431655765) : Int32).toUInt32 >>> ((2 : Int32).toUInt32 &&& Int32.toUInt32 31)).toInt32) &&& 858993459)) + (((((a0 - ((((a0 : Int32).toUInt32 >>> ((1 : Int32).toUInt32 &&& Int32.toUInt32 31)).toInt32) &&& 1431655765)) &&& 858993459) + ((((a0 - ((((a0 : Int32).toUInt32 >>> ((1 : Int32).toUInt32 &&& Int32.toUInt32 31)).toInt32) &&& 1431655765) : Int32).toUInt32 >>> ((2 : Int32).toUInt32 &&& Int32.toUInt32 31)).toInt32) &&& 858993459) : Int32).toUInt32 >>> ((4 : Int32).toUInt32 &&& Int32.toUInt32 31)).toInt32)) &&& 252645135 : Int32).toUInt32 >>> ((8 : Int32).toUInt32 &&& Int32.toUInt32 31)).toInt32)))]) hx hb dJ6_bitCount_0f7a4_40 rfl hl (by decide) rfl (fun ls hl => ?_)
  refine lv_iload_n hx hb dJ6_bitCount_0f7a4_41 rfl (lv_at hl 0 rfl) ?_
  refine lv_iload_n hx hb dJ6_bitCount_0f7a4_42 rfl (lv_at hl 0 rfl) ?_
  refine lv_bipush (v := 16) hx hb dJ6_bitCount_0f7a4_43 (by decide) ?_
  refine lv_iushr hx hb dJ6_bitCount_0f7a4_45 rfl ?_
  refine lv_iadd hx hb dJ6_bitCount_0f7a4_46 ?_
  refine lv_istore_n (lv' := [(0, .int (((((((a0 - ((((a0 : Int32).toUInt32 >>> ((1 : Int32).toUInt32 &&& Int32.toUInt32 31)).toInt32) &&& 1431655765)) &&& 858993459) + ((((a0 - ((((a0 : Int32).toUInt32 >>> ((1 : Int32).toUInt32 &&& Int32.toUInt32 31)).toInt32) &&& 1431655765) : Int32).toUInt32 >>> ((2 : Int32).toUInt32 &&& Int32.toUInt32 31)).toInt32) &&& 858993459)) + (((((a0 - ((((a0 : Int32).toUInt32 >>> ((1 : Int32).toUInt32 &&& Int32.toUInt32 31)).toInt32) &&& 1431655765)) &&& 858993459) + ((((a0 - ((((a0 : Int32).toUInt32 >>> ((1 : Int32).toUInt32 &&& Int32.toUInt32 31)).toInt32) &&& 1431655765) : Int32).toUInt32 >>> ((2 : Int32).toUInt32 &&& Int32.toUInt32 31)).toInt32) &&& 858993459) : Int32).toUInt32 >>> ((4 : Int32).toUInt32 &&& Int32.toUInt32 31)).toInt32)) &&& 252645135) + (((((((a0 - ((((a0 : Int32).toUInt32 >>> ((1 : Int32).toUInt32 &&& Int32.toUInt32 31)).toInt32) &&& 1431655765)) &&& 858993459) + ((((a0 - ((((a0 : Int32).toUInt32 >>> ((1 : Int32).toUInt32 &&& Int32.toUInt32 31)).toInt32) &&& 1431655765) : Int32).toUInt32 >>> ((2 : Int32).toUInt32 &&& Int32.toUInt32 31)).toInt32) &&& 858993459)) + (((((a0 - ((((a0 : Int32).toUInt32 >>> ((1 : Int32).toUInt32 &&& Int32.toUInt32 31)).toInt32) &&& 1431655765)) &&& 858993459) + ((((a0 - ((((a0 : Int32).toUInt32 >>> ((1 : Int32).toUInt32 &&& Int32.toUInt32 31)).toInt32) &&& 1431655765) : Int32).toUInt32 >>> ((2 : Int32).toUInt32 &&& Int32.toUInt32 31)).toInt32) &&& 858993459) : Int32).toUInt32 >>> ((4 : Int32).toUInt32 &&& Int32.toUInt32 31)).toInt32)) &&& 252645135 : Int32).toUInt32 >>> ((8 : Int32).toUInt32 &&& Int32.toUInt32 31)).toInt32)) + ((((((((a0 - ((((a0 : Int32).toUInt32 >>> ((1 : Int32).toUInt32 &&& Int32.toUInt32 31)).toInt32) &&& 1431655765)) &&& 858993459) + ((((a0 - ((((a0 : Int32).toUInt32 >>> ((1 : Int32).toUInt32 &&& Int32.toUInt32 31)).toInt32) &&& 1431655765) : Int32).toUInt32 >>> ((2 : Int32).toUInt32 &&& Int32.toUInt32 31)).toInt32) &&& 858993459)) + (((((a0 - ((((a0 : Int32).toUInt32 >>> ((1 : Int32).toUInt32 &&& Int32.toUInt32 31)).toInt32) &&& 1431655765)) &&& 858993459) + ((((a0 - ((((a0 : Int32).toUInt32 >>> ((1 : Int32).toUInt32 &&& Int32.toUInt32 31)).toInt32) &&& 1431655765) : Int32).toUInt32 >>> ((2 : Int32).toUInt32 &&& Int32.toUInt32 31)).toInt32) &&& 858993459) : Int32).toUInt32 >>> ((4 : Int32).toUInt32 &&& Int32.toUInt32 31)).toInt32)) &&& 252645135) + (((((((a0 - ((((a0 : Int32).toUInt32 >>> ((1 : Int32).toUInt32 &&& Int32.toUInt32 31)).toInt32) &&& 1431655765)) &&& 858993459) + ((((a0 - ((((a0 : Int32).toUInt32 >>> ((1 : Int32).toUInt32 &&& Int32.toUInt32 31)).toInt32) &&& 1431655765) : Int32).toUInt32 >>> ((2 : Int32).toUInt32 &&& Int32.toUInt32 31)).toInt32) &&& 858993459)) + (((((a0 - ((((a0 : Int32).toUInt32 >>> ((1 : Int32).toUInt32 &&& Int32.toUInt32 31)).toInt32) &&& 1431655765)) &&& 858993459) + ((((a0 - ((((a0 : Int32).toUInt32 >>> ((1 : Int32).toUInt32 &&& Int32.toUInt32 31)).toInt32) &&& 1431655765) : Int32).toUInt32 >>> ((2 : Int32).toUInt32 &&& Int32.toUInt32 31)).toInt32) &&& 858993459) : Int32).toUInt32 >>> ((4 : Int32).toUInt32 &&& Int32.toUInt32 31)).toInt32)) &&& 252645135 : Int32).toUInt32 >>> ((8 : Int32).toUInt32 &&& Int32.toUInt32 31)).toInt32) : Int32).toUInt32 >>> ((16 : Int32).toUInt32 &&& Int32.toUInt32 31)).toInt32)))]) hx hb dJ6_bitCount_0f7a4_47 rfl hl (by decide) rfl (fun ls hl => ?_)
  refine lv_iload_n hx hb dJ6_bitCount_0f7a4_48 rfl (lv_at hl 0 rfl) ?_
  refine lv_bipush (v := 63) hx hb dJ6_bitCount_0f7a4_49 (by decide) ?_
  refine lv_iand hx hb dJ6_bitCount_0f7a4_51 ?_
  exact ret_ri hx hb hr hlocks hf dJ6_bitCount_0f7a4_52
/-! ===== java/util/Arrays.fill([JJ)V ===== -/
abbrev rmJ7_fill_d0a16 : Room := { frames := 0, cells := 0, slots := 0, locals := 0 }
theorem kkJ7_fill_d0a16 : yJ7_fill_d0a16.cls = RJ7 ∧ yJ7_fill_d0a16.cls ≠ "java/lang/invoke/MethodHandle" ∧ yJ7_fill_d0a16.cls ≠ "java/lang/invoke/VarHandle" ∧ (parseMethodDescriptor yJ7_fill_d0a16.desc).map (fun d => d.parameters.length) = some 2 := by decide +kernel
def bJ7_fill_d0a16_6 (k6 : Int32 × Int32 × (Nat → Int64) → Option ((Nat → Int64))) (a1 : Int64) (v3 : Int32) (v4 : Int32) (p0 : Nat → Int64) : Option ((Nat → Int64)) :=
  if v4 ≤ v3 then some p0 else gIn v3 1563 (k6 (v3 + 1, v4, vp_updL p0 (v3 : Int32).toNatClampNeg a1))
set_option maxRecDepth 100000 in
set_option maxHeartbeats 4000000 in
theorem BJ7_fill_d0a16_6 {p : Program} {l : Launch} {e : Env} {s : State} {m : MethodId} {below : List Frame} {meth : Method} {c : Code} {D : va_G} {ty : TY} {A_p0 : Nat} {a1 : Int64} {q0 : (Nat → Int64)} {WC : va_W} (C : cx p s m [.ref A_p0, .long a1] meth c cJ7_fill_d0a16 5 none RJ7 wsJ7_fill_d0a16) (hK : KK D ty s)   : ∀ (n : Nat) (v3 : Int32) (v4 : Int32) (p0 : Nat → Int64) (H : Heap) (locs : List Loc) (ls : Array Slot), va_P D vwCl [(A_p0, .inl (ty.2.1, 1563, .inr (.inl p0)))] H → va_D (va_A WC s.heap.size) [(A_p0, .inl (ty.2.1, 1563, .inr (.inl p0)))] → va_S (va_A WC s.heap.size) s.heap H locs → lv_has ls 5 [(0, .ref A_p0), (1, .long a1), (3, .int v3), (4, .int v4)] → loopF (fun k q => bJ7_fill_d0a16_6 k a1 q.1 q.2.1 q.2.2) n (v3, v4, p0) = some q0 → WWv p l e rmJ7_fill_d0a16 s m [.ref A_p0, .long a1] below meth c D WC [(A_p0, .inl (ty.2.1, 1563, .inr (.inl q0)))] H locs (F0 m 6 ls []) := by
  obtain ⟨hx, hb, hr, hml, hown, hts, hlocks⟩ := id C
  intro n
  induction n with
  | zero =>
    intro v3 v4 p0 H locs ls hP hD hS hl hf
    cases hf
  | succ n ih =>
    intro v3 v4 p0 H locs ls hP hD hS hl hf
    have hf : bJ7_fill_d0a16_6 (loopF (fun k q => bJ7_fill_d0a16_6 k a1 q.1 q.2.1 q.2.2) n) a1 v3 v4 p0 = some q0 := hf
    have hk6 := ih
    unfold bJ7_fill_d0a16_6 at hf
    refine lv_iload_n hx hb dJ7_fill_d0a16_6 rfl (lv_at hl 2 rfl) ?_
    refine lv_iload hx hb dJ7_fill_d0a16_7 (lv_at hl 3 rfl) ?_
    refine lv_icmp_ge (tgt := 22) hx hb dJ7_fill_d0a16_9 (by decide) (fun hc => ?_) (fun hc => ?_)
    · have hf := ft hf hc
      cases hf
      exact ret_wv hx hb hr hlocks hP hD hS dJ7_fill_d0a16_22
    · have hf := ff hf hc
      refine lv_aload_n hx hb dJ7_fill_d0a16_12 rfl (lv_at hl 0 rfl) ?_
      refine lv_iload_n hx hb dJ7_fill_d0a16_13 rfl (lv_at hl 2 rfl) ?_
      refine lv_lload_n hx hb dJ7_fill_d0a16_14 rfl (lv_at hl 1 rfl) ?_
      obtain ⟨hin, hf⟩ := gIn_some hf
      refine va_last hx hb hK.1 hP hD hS 0 1 rfl rfl hin dJ7_fill_d0a16_15 (fun H locs hP hD hS => ?_)
      have hP : va_P D vwCl [(A_p0, .inl (ty.2.1, 1563, .inr (.inl (vp_updL p0 (v3 : Int32).toNatClampNeg a1))))] H := hP
      have hD : va_D (va_A WC s.heap.size) [(A_p0, .inl (ty.2.1, 1563, .inr (.inl (vp_updL p0 (v3 : Int32).toNatClampNeg a1))))] := hD
      refine lv_iinc (v := v3 + 1) (lv' := [(3, .int (v3 + 1)), (0, .ref A_p0), (1, .long a1), (4, .int v4)]) hx hb dJ7_fill_d0a16_16 hl (k := 2) rfl rfl (by decide) rfl (fun ls hl => ?_)
      refine lv_goto (tgt := 6) hx hb dJ7_fill_d0a16_19 (by decide) ?_
      exact hk6 _ _ _ _ _ _ hP hD hS (lv_sub hl [1, 2, 0, 3] rfl) hf
def fJ7_fill_d0a16 (p0 : Nat → Int64) (a1 : Int64) : Option ((Nat → Int64)) :=
  loopF (fun k q => bJ7_fill_d0a16_6 k a1 q.1 q.2.1 q.2.2) FU (0, 1563, p0)
set_option maxRecDepth 100000 in
set_option maxHeartbeats 4000000 in
theorem CJ7_fill_d0a16 (l : Launch) {D : va_G} {ty : TY} {A_p0 : Nat} {p0 : Nat → Int64} {a1 : Int64} {q0 : (Nat → Int64)} (hf : fJ7_fill_d0a16 p0 a1 = some q0) : RWv l yJ7_fill_d0a16 wsJ7_fill_d0a16 rmJ7_fill_d0a16 D ty [.ref A_p0, .long a1] [(A_p0, .inl (ty.2.1, 1563, .inr (.inl p0)))] [(A_p0, .inl (ty.2.1, 1563, .inr (.inl q0)))] := by
  refine RWv.start (cc := cJ7_fill_d0a16) (maxL := 5) (ret := none) (own := RJ7) (by decide) rfl rfl (Nat.le_of_ble_eq_true rfl) ?_
  intro p e s m below meth c ls C hK hP hD hS hl
  obtain ⟨WC, hWC⟩ : ∃ w : va_W, w = [(A_p0, .inl (ty.2.1, 1563, .inr (.inl p0)))] := ⟨_, rfl⟩
  rw [← hWC] at hD hS ⊢
  have hD : va_D (va_A WC s.heap.size) [(A_p0, .inl (ty.2.1, 1563, .inr (.inl p0)))] := by rw [← hWC]; exact hD
  obtain ⟨hx, hb, hr, hml, hown, hts, hlocks⟩ := id C
  have hl : lv_has ls 5 [(0, .ref A_p0), (1, .long a1)] := hl
  unfold fJ7_fill_d0a16 at hf
  refine lv_iconst (v := 0) hx hb dJ7_fill_d0a16_0 (by decide) ?_
  refine lv_istore_n (lv' := [(3, .int 0), (0, .ref A_p0), (1, .long a1)]) hx hb dJ7_fill_d0a16_1 rfl hl (by decide) rfl (fun ls hl => ?_)
  refine lv_aload_n hx hb dJ7_fill_d0a16_2 rfl (lv_at hl 1 rfl) ?_
  refine va_alen (v := 1563) hx hb hK.1 hP 0 1 rfl rfl rfl dJ7_fill_d0a16_3 ?_
  refine lv_istore (lv' := [(4, .int 1563), (3, .int 0), (0, .ref A_p0), (1, .long a1)]) hx hb dJ7_fill_d0a16_4 hl (by decide) rfl (fun ls hl => ?_)
  exact BJ7_fill_d0a16_6 C hK  FU _ _ _ _ _ _ hP hD hS (lv_sub hl [2, 3, 1, 0] rfl) hf
/-! ===== java/lang/Long.bitCount(J)I ===== -/
abbrev rmJ13_bitCount_95d88 : Room := { frames := 0, cells := 0, slots := 0, locals := 0 }
theorem kkJ13_bitCount_95d88 : yJ13_bitCount_95d88.cls = RJ13 ∧ yJ13_bitCount_95d88.cls ≠ "java/lang/invoke/MethodHandle" ∧ yJ13_bitCount_95d88.cls ≠ "java/lang/invoke/VarHandle" ∧ (parseMethodDescriptor yJ13_bitCount_95d88.desc).map (fun d => d.parameters.length) = some 1 := by decide +kernel
theorem mJ13_bitCount_95d88_k314 : Cond.constantLong RJ13 314 (6148914691236517205) ∈ wsJ13_bitCount_95d88 := by decide +kernel
theorem mJ13_bitCount_95d88_k316 : Cond.constantLong RJ13 316 (3689348814741910323) ∈ wsJ13_bitCount_95d88 := by decide +kernel
theorem mJ13_bitCount_95d88_k318 : Cond.constantLong RJ13 318 (1085102592571150095) ∈ wsJ13_bitCount_95d88 := by decide +kernel
def fJ13_bitCount_95d88 (a0 : Int64) : Option (Int32) :=
  some ((((((((((a0 - ((((a0 : Int64).toUInt64 >>> ((1 : Int32).toInt64.toUInt64 &&& Int64.toUInt64 63)).toInt64) &&& 6148914691236517205)) &&& 3689348814741910323) + ((((a0 - ((((a0 : Int64).toUInt64 >>> ((1 : Int32).toInt64.toUInt64 &&& Int64.toUInt64 63)).toInt64) &&& 6148914691236517205) : Int64).toUInt64 >>> ((2 : Int32).toInt64.toUInt64 &&& Int64.toUInt64 63)).toInt64) &&& 3689348814741910323)) + (((((a0 - ((((a0 : Int64).toUInt64 >>> ((1 : Int32).toInt64.toUInt64 &&& Int64.toUInt64 63)).toInt64) &&& 6148914691236517205)) &&& 3689348814741910323) + ((((a0 - ((((a0 : Int64).toUInt64 >>> ((1 : Int32).toInt64.toUInt64 &&& Int64.toUInt64 63)).toInt64) &&& 6148914691236517205) : Int64).toUInt64 >>> ((2 : Int32).toInt64.toUInt64 &&& Int64.toUInt64 63)).toInt64) &&& 3689348814741910323) : Int64).toUInt64 >>> ((4 : Int32).toInt64.toUInt64 &&& Int64.toUInt64 63)).toInt64)) &&& 1085102592571150095) + (((((((a0 - ((((a0 : Int64).toUInt64 >>> ((1 : Int32).toInt64.toUInt64 &&& Int64.toUInt64 63)).toInt64) &&& 6148914691236517205)) &&& 3689348814741910323) + ((((a0 - ((((a0 : Int64).toUInt64 >>> ((1 : Int32).toInt64.toUInt64 &&& Int64.toUInt64 63)).toInt64) &&& 6148914691236517205) : Int64).toUInt64 >>> ((2 : Int32).toInt64.toUInt64 &&& Int64.toUInt64 63)).toInt64) &&& 3689348814741910323)) + (((((a0 - ((((a0 : Int64).toUInt64 >>> ((1 : Int32).toInt64.toUInt64 &&& Int64.toUInt64 63)).toInt64) &&& 6148914691236517205)) &&& 3689348814741910323) + ((((a0 - ((((a0 : Int64).toUInt64 >>> ((1 : Int32).toInt64.toUInt64 &&& Int64.toUInt64 63)).toInt64) &&& 6148914691236517205) : Int64).toUInt64 >>> ((2 : Int32).toInt64.toUInt64 &&& Int64.toUInt64 63)).toInt64) &&& 3689348814741910323) : Int64).toUInt64 >>> ((4 : Int32).toInt64.toUInt64 &&& Int64.toUInt64 63)).toInt64)) &&& 1085102592571150095 : Int64).toUInt64 >>> ((8 : Int32).toInt64.toUInt64 &&& Int64.toUInt64 63)).toInt64)) + ((((((((a0 - ((((a0 : Int64).toUInt64 >>> ((1 : Int32).toInt64.toUInt64 &&& Int64.toUInt64 63)).toInt64) &&& 6148914691236517205)) &&& 3689348814741910323) + ((((a0 - ((((a0 : Int64).toUInt64 >>> ((1 : Int32).toInt64.toUInt64 &&& Int64.toUInt64 63)).toInt64) &&& 6148914691236517205) : Int64).toUInt64 >>> ((2 : Int32).toInt64.toUInt64 &&& Int64.toUInt64 63)).toInt64) &&& 3689348814741910323)) + (((((a0 - ((((a0 : Int64).toUInt64 >>> ((1 : Int32).toInt64.toUInt64 &&& Int64.toUInt64 63)).toInt64) &&& 6148914691236517205)) &&& 3689348814741910323) + ((((a0 - ((((a0 : Int64).toUInt64 >>> ((1 : Int32).toInt64.toUInt64 &&& Int64.toUInt64 63)).toInt64) &&& 6148914691236517205) : Int64).toUInt64 >>> ((2 : Int32).toInt64.toUInt64 &&& Int64.toUInt64 63)).toInt64) &&& 3689348814741910323) : Int64).toUInt64 >>> ((4 : Int32).toInt64.toUInt64 &&& Int64.toUInt64 63)).toInt64)) &&& 1085102592571150095) + (((((((a0 - ((((a0 : Int64).toUInt64 >>> ((1 : Int32).toInt64.toUInt64 &&& Int64.toUInt64 63)).toInt64) &&& 6148914691236517205)) &&& 3689348814741910323) + ((((a0 - ((((a0 : Int64).toUInt64 >>> ((1 : Int32).toInt64.toUInt64 &&& Int64.toUInt64 63)).toInt64) &&& 6148914691236517205) : Int64).toUInt64 >>> ((2 : Int32).toInt64.toUInt64 &&& Int64.toUInt64 63)).toInt64) &&& 3689348814741910323)) + (((((a0 - ((((a0 : Int64).toUInt64 >>> ((1 : Int32).toInt64.toUInt64 &&& Int64.toUInt64 63)).toInt64) &&& 6148914691236517205)) &&& 3689348814741910323) + ((((a0 - ((((a0 : Int64).toUInt64 >>> ((1 : Int32).toInt64.toUInt64 &&& Int64.toUInt64 63)).toInt64) &&& 6148914691236517205) : Int64).toUInt64 >>> ((2 : Int32).toInt64.toUInt64 &&& Int64.toUInt64 63)).toInt64) &&& 3689348814741910323) : Int64).toUInt64 >>> ((4 : Int32).toInt64.toUInt64 &&& Int64.toUInt64 63)).toInt64)) &&& 1085102592571150095 : Int64).toUInt64 >>> ((8 : Int32).toInt64.toUInt64 &&& Int64.toUInt64 63)).toInt64) : Int64).toUInt64 >>> ((16 : Int32).toInt64.toUInt64 &&& Int64.toUInt64 63)).toInt64)) + (((((((((a0 - ((((a0 : Int64).toUInt64 >>> ((1 : Int32).toInt64.toUInt64 &&& Int64.toUInt64 63)).toInt64) &&& 6148914691236517205)) &&& 3689348814741910323) + ((((a0 - ((((a0 : Int64).toUInt64 >>> ((1 : Int32).toInt64.toUInt64 &&& Int64.toUInt64 63)).toInt64) &&& 6148914691236517205) : Int64).toUInt64 >>> ((2 : Int32).toInt64.toUInt64 &&& Int64.toUInt64 63)).toInt64) &&& 3689348814741910323)) + (((((a0 - ((((a0 : Int64).toUInt64 >>> ((1 : Int32).toInt64.toUInt64 &&& Int64.toUInt64 63)).toInt64) &&& 6148914691236517205)) &&& 3689348814741910323) + ((((a0 - ((((a0 : Int64).toUInt64 >>> ((1 : Int32).toInt64.toUInt64 &&& Int64.toUInt64 63)).toInt64) &&& 6148914691236517205) : Int64).toUInt64 >>> ((2 : Int32).toInt64.toUInt64 &&& Int64.toUInt64 63)).toInt64) &&& 3689348814741910323) : Int64).toUInt64 >>> ((4 : Int32).toInt64.toUInt64 &&& Int64.toUInt64 63)).toInt64)) &&& 1085102592571150095) + (((((((a0 - ((((a0 : Int64).toUInt64 >>> ((1 : Int32).toInt64.toUInt64 &&& Int64.toUInt64 63)).toInt64) &&& 6148914691236517205)) &&& 3689348814741910323) + ((((a0 - ((((a0 : Int64).toUInt64 >>> ((1 : Int32).toInt64.toUInt64 &&& Int64.toUInt64 63)).toInt64) &&& 6148914691236517205) : Int64).toUInt64 >>> ((2 : Int32).toInt64.toUInt64 &&& Int64.toUInt64 63)).toInt64) &&& 3689348814741910323)) + (((((a0 - ((((a0 : Int64).toUInt64 >>> ((1 : Int32).toInt64.toUInt64 &&& Int64.toUInt64 63)).toInt64) &&& 6148914691236517205)) &&& 3689348814741910323) + ((((a0 - ((((a0 : Int64).toUInt64 >>> ((1 : Int32).toInt64.toUInt64 &&& Int64.toUInt64 63)).toInt64) &&& 6148914691236517205) : Int64).toUInt64 >>> ((2 : Int32).toInt64.toUInt64 &&& Int64.toUInt64 63)).toInt64) &&& 3689348814741910323) : Int64).toUInt64 >>> ((4 : Int32).toInt64.toUInt64 &&& Int64.toUInt64 63)).toInt64)) &&& 1085102592571150095 : Int64).toUInt64 >>> ((8 : Int32).toInt64.toUInt64 &&& Int64.toUInt64 63)).toInt64)) + ((((((((a0 - ((((a0 : Int64).toUInt64 >>> ((1 : Int32).toInt64.toUInt64 &&& Int64.toUInt64 63)).toInt64) &&& 6148914691236517205)) &&& 3689348814741910323) + ((((a0 - ((((a0 : Int64).toUInt64 >>> ((1 : Int32).toInt64.toUInt64 &&& Int64.toUInt64 63)).toInt64) &&& 6148914691236517205) : Int64).toUInt64 >>> ((2 : Int32).toInt64.toUInt64 &&& Int64.toUInt64 63)).toInt64) &&& 3689348814741910323)) + (((((a0 - ((((a0 : Int64).toUInt64 >>> ((1 : Int32).toInt64.toUInt64 &&& Int64.toUInt64 63)).toInt64) &&& 6148914691236517205)) &&& 3689348814741910323) + ((((a0 - ((((a0 : Int64).toUInt64 >>> ((1 : Int32).toInt64.toUInt64 &&& Int64.toUInt64 63)).toInt64) &&& 6148914691236517205) : Int64).toUInt64 >>> ((2 : Int32).toInt64.toUInt64 &&& Int64.toUInt64 63)).toInt64) &&& 3689348814741910323) : Int64).toUInt64 >>> ((4 : Int32).toInt64.toUInt64 &&& Int64.toUInt64 63)).toInt64)) &&& 1085102592571150095) + (((((((a0 - ((((a0 : Int64).toUInt64 >>> ((1 : Int32).toInt64.toUInt64 &&& Int64.toUInt64 63)).toInt64) &&& 6148914691236517205)) &&& 3689348814741910323) + ((((a0 - ((((a0 : Int64).toUInt64 >>> ((1 : Int32).toInt64.toUInt64 &&& Int64.toUInt64 63)).toInt64) &&& 6148914691236517205) : Int64).toUInt64 >>> ((2 : Int32).toInt64.toUInt64 &&& Int64.toUInt64 63)).toInt64) &&& 3689348814741910323)) + (((((a0 - ((((a0 : Int64).toUInt64 >>> ((1 : Int32).toInt64.toUInt64 &&& Int64.toUInt64 63)).toInt64) &&& 6148914691236517205)) &&& 3689348814741910323) + ((((a0 - ((((a0 : Int64).toUInt64 >>> ((1 : Int32).toInt64.toUInt64 &&& Int64.toUInt64 63)).toInt64) &&& 6148914691236517205) : Int64).toUInt64 >>> ((2 : Int32).toInt64.toUInt64 &&& Int64.toUInt64 63)).toInt64) &&& 3689348814741910323) : Int64).toUInt64 >>> ((4 : Int32).toInt64.toUInt64 &&& Int64.toUInt64 63)).toInt64)) &&& 1085102592571150095 : Int64).toUInt64 >>> ((8 : Int32).toInt64.toUInt64 &&& Int64.toUInt64 63)).toInt64) : Int64).toUInt64 >>> ((16 : Int32).toInt64.toUInt64 &&& Int64.toUInt64 63)).toInt64) : Int64).toUInt64 >>> ((32 : Int32).toInt64.toUInt64 &&& Int64.toUInt64 63)).toInt64) : Int64).toInt32) &&& 127)
set_option maxRecDepth 100000 in
set_option maxHeartbeats 4000000 in
theorem CJ13_bitCount_95d88 (l : Launch) {D : va_G} {ty : TY} {a0 : Int64} {q0 : Int32} (hf : fJ13_bitCount_95d88 a0 = some q0) : ROi l yJ13_bitCount_95d88 wsJ13_bitCount_95d88 rmJ13_bitCount_95d88 D ty [.long a0] [] q0 := by
  refine ROi.start (cc := cJ13_bitCount_95d88) (maxL := 2) (ret := (some .int)) (own := RJ13) (by decide) rfl rfl (Nat.le_of_ble_eq_true rfl) ?_
  intro p e s m below meth c ls C hK hP hl
  obtain ⟨hx, hb, hr, hml, hown, hts, hlocks⟩ := id C
  have hl : lv_has ls 2 [(0, .long a0)] := hl
  unfold fJ13_bitCount_95d88 at hf
  refine lv_lload_n hx hb dJ13_bitCount_95d88_0 rfl (lv_at hl 0 rfl) ?_
  refine lv_lload_n hx hb dJ13_bitCount_95d88_1 rfl (lv_at hl 0 rfl) ?_
  refine lv_iconst (v := 1) hx hb dJ13_bitCount_95d88_2 (by decide) ?_
  refine lv_lushr hx hb dJ13_bitCount_95d88_3 rfl ?_
  refine lv_ldc2 (v := 6148914691236517205) hx hb hown (hts _ mJ13_bitCount_95d88_k314) dJ13_bitCount_95d88_4 ?_
  refine lv_land hx hb dJ13_bitCount_95d88_7 ?_
  refine lv_lsub hx hb dJ13_bitCount_95d88_8 ?_
  refine lv_lstore_n (lv' := [(0, .long (a0 - ((((a0 : Int64).toUInt64 >>> ((1 : Int32).toInt64.toUInt64 &&& Int64.toUInt64 63)).toInt64) &&& 6148914691236517205)))]) hx hb dJ13_bitCount_95d88_9 rfl hl (by decide) rfl (fun ls hl => ?_)
  refine lv_lload_n hx hb dJ13_bitCount_95d88_10 rfl (lv_at hl 0 rfl) ?_
  refine lv_ldc2 (v := 3689348814741910323) hx hb hown (hts _ mJ13_bitCount_95d88_k316) dJ13_bitCount_95d88_11 ?_
  refine lv_land hx hb dJ13_bitCount_95d88_14 ?_
  refine lv_lload_n hx hb dJ13_bitCount_95d88_15 rfl (lv_at hl 0 rfl) ?_
  refine lv_iconst (v := 2) hx hb dJ13_bitCount_95d88_16 (by decide) ?_
  refine lv_lushr hx hb dJ13_bitCount_95d88_17 rfl ?_
  refine lv_ldc2 (v := 3689348814741910323) hx hb hown (hts _ mJ13_bitCount_95d88_k316) dJ13_bitCount_95d88_18 ?_
  refine lv_land hx hb dJ13_bitCount_95d88_21 ?_
  refine lv_ladd hx hb dJ13_bitCount_95d88_22 ?_
  refine lv_lstore_n (lv' := [(0, .long (((a0 - ((((a0 : Int64).toUInt64 >>> ((1 : Int32).toInt64.toUInt64 &&& Int64.toUInt64 63)).toInt64) &&& 6148914691236517205)) &&& 3689348814741910323) + ((((a0 - ((((a0 : Int64).toUInt64 >>> ((1 : Int32).toInt64.toUInt64 &&& Int64.toUInt64 63)).toInt64) &&& 6148914691236517205) : Int64).toUInt64 >>> ((2 : Int32).toInt64.toUInt64 &&& Int64.toUInt64 63)).toInt64) &&& 3689348814741910323)))]) hx hb dJ13_bitCount_95d88_23 rfl hl (by decide) rfl (fun ls hl => ?_)
  refine lv_lload_n hx hb dJ13_bitCount_95d88_24 rfl (lv_at hl 0 rfl) ?_
  refine lv_lload_n hx hb dJ13_bitCount_95d88_25 rfl (lv_at hl 0 rfl) ?_
  refine lv_iconst (v := 4) hx hb dJ13_bitCount_95d88_26 (by decide) ?_
  refine lv_lushr hx hb dJ13_bitCount_95d88_27 rfl ?_
  refine lv_ladd hx hb dJ13_bitCount_95d88_28 ?_
  refine lv_ldc2 (v := 1085102592571150095) hx hb hown (hts _ mJ13_bitCount_95d88_k318) dJ13_bitCount_95d88_29 ?_
  refine lv_land hx hb dJ13_bitCount_95d88_32 ?_
  refine lv_lstore_n (lv' := [(0, .long (((((a0 - ((((a0 : Int64).toUInt64 >>> ((1 : Int32).toInt64.toUInt64 &&& Int64.toUInt64 63)).toInt64) &&& 6148914691236517205)) &&& 3689348814741910323) + ((((a0 - ((((a0 : Int64).toUInt64 >>> ((1 : Int32).toInt64.toUInt64 &&& Int64.toUInt64 63)).toInt64) &&& 6148914691236517205) : Int64).toUInt64 >>> ((2 : Int32).toInt64.toUInt64 &&& Int64.toUInt64 63)).toInt64) &&& 3689348814741910323)) + (((((a0 - ((((a0 : Int64).toUInt64 >>> ((1 : Int32).toInt64.toUInt64 &&& Int64.toUInt64 63)).toInt64) &&& 6148914691236517205)) &&& 3689348814741910323) + ((((a0 - ((((a0 : Int64).toUInt64 >>> ((1 : Int32).toInt64.toUInt64 &&& Int64.toUInt64 63)).toInt64) &&& 6148914691236517205) : Int64).toUInt64 >>> ((2 : Int32).toInt64.toUInt64 &&& Int64.toUInt64 63)).toInt64) &&& 3689348814741910323) : Int64).toUInt64 >>> ((4 : Int32).toInt64.toUInt64 &&& Int64.toUInt64 63)).toInt64)) &&& 1085102592571150095))]) hx hb dJ13_bitCount_95d88_33 rfl hl (by decide) rfl (fun ls hl => ?_)
  refine lv_lload_n hx hb dJ13_bitCount_95d88_34 rfl (lv_at hl 0 rfl) ?_
  refine lv_lload_n hx hb dJ13_bitCount_95d88_35 rfl (lv_at hl 0 rfl) ?_
  refine lv_bipush (v := 8) hx hb dJ13_bitCount_95d88_36 (by decide) ?_
  refine lv_lushr hx hb dJ13_bitCount_95d88_38 rfl ?_
  refine lv_ladd hx hb dJ13_bitCount_95d88_39 ?_
  refine lv_lstore_n (lv' := [(0, .long ((((((a0 - ((((a0 : Int64).toUInt64 >>> ((1 : Int32).toInt64.toUInt64 &&& Int64.toUInt64 63)).toInt64) &&& 6148914691236517205)) &&& 3689348814741910323) + ((((a0 - ((((a0 : Int64).toUInt64 >>> ((1 : Int32).toInt64.toUInt64 &&& Int64.toUInt64 63)).toInt64) &&& 6148914691236517205) : Int64).toUInt64 >>> ((2 : Int32).toInt64.toUInt64 &&& Int64.toUInt64 63)).toInt64) &&& 3689348814741910323)) + (((((a0 - ((((a0 : Int64).toUInt64 >>> ((1 : Int32).toInt64.toUInt64 &&& Int64.toUInt64 63)).toInt64) &&& 6148914691236517205)) &&& 3689348814741910323) + ((((a0 - ((((a0 : Int64).toUInt64 >>> ((1 : Int32).toInt64.toUInt64 &&& Int64.toUInt64 63)).toInt64) &&& 6148914691236517205) : Int64).toUInt64 >>> ((2 : Int32).toInt64.toUInt64 &&& Int64.toUInt64 63)).toInt64) &&& 3689348814741910323) : Int64).toUInt64 >>> ((4 : Int32).toInt64.toUInt64 &&& Int64.toUInt64 63)).toInt64)) &&& 1085102592571150095) + (((((((a0 - ((((a0 : Int64).toUInt64 >>> ((1 : Int32).toInt64.toUInt64 &&& Int64.toUInt64 63)).toInt64) &&& 6148914691236517205)) &&& 3689348814741910323) + ((((a0 - ((((a0 : Int64).toUInt64 >>> ((1 : Int32).toInt64.toUInt64 &&& Int64.toUInt64 63)).toInt64) &&& 6148914691236517205) : Int64).toUInt64 >>> ((2 : Int32).toInt64.toUInt64 &&& Int64.toUInt64 63)).toInt64) &&& 3689348814741910323)) + (((((a0 - ((((a0 : Int64).toUInt64 >>> ((1 : Int32).toInt64.toUInt64 &&& Int64.toUInt64 63)).toInt64) &&& 6148914691236517205)) &&& 3689348814741910323) + ((((a0 - ((((a0 : Int64).toUInt64 >>> ((1 : Int32).toInt64.toUInt64 &&& Int64.toUInt64 63)).toInt64) &&& 6148914691236517205) : Int64).toUInt64 >>> ((2 : Int32).toInt64.toUInt64 &&& Int64.toUInt64 63)).toInt64) &&& 3689348814741910323) : Int64).toUInt64 >>> ((4 : Int32).toInt64.toUInt64 &&& Int64.toUInt64 63)).toInt64)) &&& 1085102592571150095 : Int64).toUInt64 >>> ((8 : Int32).toInt64.toUInt64 &&& Int64.toUInt64 63)).toInt64)))]) hx hb dJ13_bitCount_95d88_40 rfl hl (by decide) rfl (fun ls hl => ?_)
  refine lv_lload_n hx hb dJ13_bitCount_95d88_41 rfl (lv_at hl 0 rfl) ?_
  refine lv_lload_n hx hb dJ13_bitCount_95d88_42 rfl (lv_at hl 0 rfl) ?_
  refine lv_bipush (v := 16) hx hb dJ13_bitCount_95d88_43 (by decide) ?_
  refine lv_lushr hx hb dJ13_bitCount_95d88_45 rfl ?_
  refine lv_ladd hx hb dJ13_bitCount_95d88_46 ?_
  refine lv_lstore_n (lv' := [(0, .long (((((((a0 - ((((a0 : Int64).toUInt64 >>> ((1 : Int32).toInt64.toUInt64 &&& Int64.toUInt64 63)).toInt64) &&& 6148914691236517205)) &&& 3689348814741910323) + ((((a0 - ((((a0 : Int64).toUInt64 >>> ((1 : Int32).toInt64.toUInt64 &&& Int64.toUInt64 63)).toInt64) &&& 6148914691236517205) : Int64).toUInt64 >>> ((2 : Int32).toInt64.toUInt64 &&& Int64.toUInt64 63)).toInt64) &&& 3689348814741910323)) + (((((a0 - ((((a0 : Int64).toUInt64 >>> ((1 : Int32).toInt64.toUInt64 &&& Int64.toUInt64 63)).toInt64) &&& 6148914691236517205)) &&& 3689348814741910323) + ((((a0 - ((((a0 : Int64).toUInt64 >>> ((1 : Int32).toInt64.toUInt64 &&& Int64.toUInt64 63)).toInt64) &&& 6148914691236517205) : Int64).toUInt64 >>> ((2 : Int32).toInt64.toUInt64 &&& Int64.toUInt64 63)).toInt64) &&& 3689348814741910323) : Int64).toUInt64 >>> ((4 : Int32).toInt64.toUInt64 &&& Int64.toUInt64 63)).toInt64)) &&& 1085102592571150095) + (((((((a0 - ((((a0 : Int64).toUInt64 >>> ((1 : Int32).toInt64.toUInt64 &&& Int64.toUInt64 63)).toInt64) &&& 6148914691236517205)) &&& 3689348814741910323) + ((((a0 - ((((a0 : Int64).toUInt64 >>> ((1 : Int32).toInt64.toUInt64 &&& Int64.toUInt64 63)).toInt64) &&& 6148914691236517205) : Int64).toUInt64 >>> ((2 : Int32).toInt64.toUInt64 &&& Int64.toUInt64 63)).toInt64) &&& 3689348814741910323)) + (((((a0 - ((((a0 : Int64).toUInt64 >>> ((1 : Int32).toInt64.toUInt64 &&& Int64.toUInt64 63)).toInt64) &&& 6148914691236517205)) &&& 3689348814741910323) + ((((a0 - ((((a0 : Int64).toUInt64 >>> ((1 : Int32).toInt64.toUInt64 &&& Int64.toUInt64 63)).toInt64) &&& 6148914691236517205) : Int64).toUInt64 >>> ((2 : Int32).toInt64.toUInt64 &&& Int64.toUInt64 63)).toInt64) &&& 3689348814741910323) : Int64).toUInt64 >>> ((4 : Int32).toInt64.toUInt64 &&& Int64.toUInt64 63)).toInt64)) &&& 1085102592571150095 : Int64).toUInt64 >>> ((8 : Int32).toInt64.toUInt64 &&& Int64.toUInt64 63)).toInt64)) + ((((((((a0 - ((((a0 : Int64).toUInt64 >>> ((1 : Int32).toInt64.toUInt64 &&& Int64.toUInt64 63)).toInt64) &&& 6148914691236517205)) &&& 3689348814741910323) + ((((a0 - ((((a0 : Int64).toUInt64 >>> ((1 : Int32).toInt64.toUInt64 &&& Int64.toUInt64 63)).toInt64) &&& 6148914691236517205) : Int64).toUInt64 >>> ((2 : Int32).toInt64.toUInt64 &&& Int64.toUInt64 63)).toInt64) &&& 3689348814741910323)) + (((((a0 - ((((a0 : Int64).toUInt64 >>> ((1 : Int32).toInt64.toUInt64 &&& Int64.toUInt64 63)).toInt64) &&& 6148914691236517205)) &&& 3689348814741910323) + ((((a0 - ((((a0 : Int64).toUInt64 >>> ((1 : Int32).toInt64.toUInt64 &&& Int64.toUInt64 63)).toInt64) &&& 6148914691236517205) : Int64).toUInt64 >>> ((2 : Int32).toInt64.toUInt64 &&& Int64.toUInt64 63)).toInt64) &&& 3689348814741910323) : Int64).toUInt64 >>> ((4 : Int32).toInt64.toUInt64 &&& Int64.toUInt64 63)).toInt64)) &&& 1085102592571150095) + (((((((a0 - ((((a0 : Int64).toUInt64 >>> ((1 : Int32).toInt64.toUInt64 &&& Int64.toUInt64 63)).toInt64) &&& 6148914691236517205)) &&& 3689348814741910323) + ((((a0 - ((((a0 : Int64).toUInt64 >>> ((1 : Int32).toInt64.toUInt64 &&& Int64.toUInt64 63)).toInt64) &&& 6148914691236517205) : Int64).toUInt64 >>> ((2 : Int32).toInt64.toUInt64 &&& Int64.toUInt64 63)).toInt64) &&& 3689348814741910323)) + (((((a0 - ((((a0 : Int64).toUInt64 >>> ((1 : Int32).toInt64.toUInt64 &&& Int64.toUInt64 63)).toInt64) &&& 6148914691236517205)) &&& 3689348814741910323) + ((((a0 - ((((a0 : Int64).toUInt64 >>> ((1 : Int32).toInt64.toUInt64 &&& Int64.toUInt64 63)).toInt64) &&& 6148914691236517205) : Int64).toUInt64 >>> ((2 : Int32).toInt64.toUInt64 &&& Int64.toUInt64 63)).toInt64) &&& 3689348814741910323) : Int64).toUInt64 >>> ((4 : Int32).toInt64.toUInt64 &&& Int64.toUInt64 63)).toInt64)) &&& 1085102592571150095 : Int64).toUInt64 >>> ((8 : Int32).toInt64.toUInt64 &&& Int64.toUInt64 63)).toInt64) : Int64).toUInt64 >>> ((16 : Int32).toInt64.toUInt64 &&& Int64.toUInt64 63)).toInt64)))]) hx hb dJ13_bitCount_95d88_47 rfl hl (by decide) rfl (fun ls hl => ?_)
  refine lv_lload_n hx hb dJ13_bitCount_95d88_48 rfl (lv_at hl 0 rfl) ?_
  refine lv_lload_n hx hb dJ13_bitCount_95d88_49 rfl (lv_at hl 0 rfl) ?_
  refine lv_bipush (v := 32) hx hb dJ13_bitCount_95d88_50 (by decide) ?_
  refine lv_lushr hx hb dJ13_bitCount_95d88_52 rfl ?_
  refine lv_ladd hx hb dJ13_bitCount_95d88_53 ?_
  refine lv_lstore_n (lv' := [(0, .long ((((((((a0 - ((((a0 : Int64).toUInt64 >>> ((1 : Int32).toInt64.toUInt64 &&& Int64.toUInt64 63)).toInt64) &&& 6148914691236517205)) &&& 3689348814741910323) + ((((a0 - ((((a0 : Int64).toUInt64 >>> ((1 : Int32).toInt64.toUInt64 &&& Int64.toUInt64 63)).toInt64) &&& 6148914691236517205) : Int64).toUInt64 >>> ((2 : Int32).toInt64.toUInt64 &&& Int64.toUInt64 63)).toInt64) &&& 3689348814741910323)) + (((((a0 - ((((a0 : Int64).toUInt64 >>> ((1 : Int32).toInt64.toUInt64 &&& Int64.toUInt64 63)).toInt64) &&& 6148914691236517205)) &&& 3689348814741910323) + ((((a0 - ((((a0 : Int64).toUInt64 >>> ((1 : Int32).toInt64.toUInt64 &&& Int64.toUInt64 63)).toInt64) &&& 6148914691236517205) : Int64).toUInt64 >>> ((2 : Int32).toInt64.toUInt64 &&& Int64.toUInt64 63)).toInt64) &&& 3689348814741910323) : Int64).toUInt64 >>> ((4 : Int32).toInt64.toUInt64 &&& Int64.toUInt64 63)).toInt64)) &&& 1085102592571150095) + (((((((a0 - ((((a0 : Int64).toUInt64 >>> ((1 : Int32).toInt64.toUInt64 &&& Int64.toUInt64 63)).toInt64) &&& 6148914691236517205)) &&& 3689348814741910323) + ((((a0 - ((((a0 : Int64).toUInt64 >>> ((1 : Int32).toInt64.toUInt64 &&& Int64.toUInt64 63)).toInt64) &&& 6148914691236517205) : Int64).toUInt64 >>> ((2 : Int32).toInt64.toUInt64 &&& Int64.toUInt64 63)).toInt64) &&& 3689348814741910323)) + (((((a0 - ((((a0 : Int64).toUInt64 >>> ((1 : Int32).toInt64.toUInt64 &&& Int64.toUInt64 63)).toInt64) &&& 6148914691236517205)) &&& 3689348814741910323) + ((((a0 - ((((a0 : Int64).toUInt64 >>> ((1 : Int32).toInt64.toUInt64 &&& Int64.toUInt64 63)).toInt64) &&& 6148914691236517205) : Int64).toUInt64 >>> ((2 : Int32).toInt64.toUInt64 &&& Int64.toUInt64 63)).toInt64) &&& 3689348814741910323) : Int64).toUInt64 >>> ((4 : Int32).toInt64.toUInt64 &&& Int64.toUInt64 63)).toInt64)) &&& 1085102592571150095 : Int64).toUInt64 >>> ((8 : Int32).toInt64.toUInt64 &&& Int64.toUInt64 63)).toInt64)) + ((((((((a0 - ((((a0 : Int64).toUInt64 >>> ((1 : Int32).toInt64.toUInt64 &&& Int64.toUInt64 63)).toInt64) &&& 6148914691236517205)) &&& 3689348814741910323) + ((((a0 - ((((a0 : Int64).toUInt64 >>> ((1 : Int32).toInt64.toUInt64 &&& Int64.toUInt64 63)).toInt64) &&& 6148914691236517205) : Int64).toUInt64 >>> ((2 : Int32).toInt64.toUInt64 &&& Int64.toUInt64 63)).toInt64) &&& 3689348814741910323)) + (((((a0 - ((((a0 : Int64).toUInt64 >>> ((1 : Int32).toInt64.toUInt64 &&& Int64.toUInt64 63)).toInt64) &&& 6148914691236517205)) &&& 3689348814741910323) + ((((a0 - ((((a0 : Int64).toUInt64 >>> ((1 : Int32).toInt64.toUInt64 &&& Int64.toUInt64 63)).toInt64) &&& 6148914691236517205) : Int64).toUInt64 >>> ((2 : Int32).toInt64.toUInt64 &&& Int64.toUInt64 63)).toInt64) &&& 3689348814741910323) : Int64).toUInt64 >>> ((4 : Int32).toInt64.toUInt64 &&& Int64.toUInt64 63)).toInt64)) &&& 1085102592571150095) + (((((((a0 - ((((a0 : Int64).toUInt64 >>> ((1 : Int32).toInt64.toUInt64 &&& Int64.toUInt64 63)).toInt64) &&& 6148914691236517205)) &&& 3689348814741910323) + ((((a0 - ((((a0 : Int64).toUInt64 >>> ((1 : Int32).toInt64.toUInt64 &&& Int64.toUInt64 63)).toInt64) &&& 6148914691236517205) : Int64).toUInt64 >>> ((2 : Int32).toInt64.toUInt64 &&& Int64.toUInt64 63)).toInt64) &&& 3689348814741910323)) + (((((a0 - ((((a0 : Int64).toUInt64 >>> ((1 : Int32).toInt64.toUInt64 &&& Int64.toUInt64 63)).toInt64) &&& 6148914691236517205)) &&& 3689348814741910323) + ((((a0 - ((((a0 : Int64).toUInt64 >>> ((1 : Int32).toInt64.toUInt64 &&& Int64.toUInt64 63)).toInt64) &&& 6148914691236517205) : Int64).toUInt64 >>> ((2 : Int32).toInt64.toUInt64 &&& Int64.toUInt64 63)).toInt64) &&& 3689348814741910323) : Int64).toUInt64 >>> ((4 : Int32).toInt64.toUInt64 &&& Int64.toUInt64 63)).toInt64)) &&& 1085102592571150095 : Int64).toUInt64 >>> ((8 : Int32).toInt64.toUInt64 &&& Int64.toUInt64 63)).toInt64) : Int64).toUInt64 >>> ((16 : Int32).toInt64.toUInt64 &&& Int64.toUInt64 63)).toInt64)) + (((((((((a0 - ((((a0 : Int64).toUInt64 >>> ((1 : Int32).toInt64.toUInt64 &&& Int64.toUInt64 63)).toInt64) &&& 6148914691236517205)) &&& 3689348814741910323) + ((((a0 - ((((a0 : Int64).toUInt64 >>> ((1 : Int32).toInt64.toUInt64 &&& Int64.toUInt64 63)).toInt64) &&& 6148914691236517205) : Int64).toUInt64 >>> ((2 : Int32).toInt64.toUInt64 &&& Int64.toUInt64 63)).toInt64) &&& 3689348814741910323)) + (((((a0 - ((((a0 : Int64).toUInt64 >>> ((1 : Int32).toInt64.toUInt64 &&& Int64.toUInt64 63)).toInt64) &&& 6148914691236517205)) &&& 3689348814741910323) + ((((a0 - ((((a0 : Int64).toUInt64 >>> ((1 : Int32).toInt64.toUInt64 &&& Int64.toUInt64 63)).toInt64) &&& 6148914691236517205) : Int64).toUInt64 >>> ((2 : Int32).toInt64.toUInt64 &&& Int64.toUInt64 63)).toInt64) &&& 3689348814741910323) : Int64).toUInt64 >>> ((4 : Int32).toInt64.toUInt64 &&& Int64.toUInt64 63)).toInt64)) &&& 1085102592571150095) + (((((((a0 - ((((a0 : Int64).toUInt64 >>> ((1 : Int32).toInt64.toUInt64 &&& Int64.toUInt64 63)).toInt64) &&& 6148914691236517205)) &&& 3689348814741910323) + ((((a0 - ((((a0 : Int64).toUInt64 >>> ((1 : Int32).toInt64.toUInt64 &&& Int64.toUInt64 63)).toInt64) &&& 6148914691236517205) : Int64).toUInt64 >>> ((2 : Int32).toInt64.toUInt64 &&& Int64.toUInt64 63)).toInt64) &&& 3689348814741910323)) + (((((a0 - ((((a0 : Int64).toUInt64 >>> ((1 : Int32).toInt64.toUInt64 &&& Int64.toUInt64 63)).toInt64) &&& 6148914691236517205)) &&& 3689348814741910323) + ((((a0 - ((((a0 : Int64).toUInt64 >>> ((1 : Int32).toInt64.toUInt64 &&& Int64.toUInt64 63)).toInt64) &&& 6148914691236517205) : Int64).toUInt64 >>> ((2 : Int32).toInt64.toUInt64 &&& Int64.toUInt64 63)).toInt64) &&& 3689348814741910323) : Int64).toUInt64 >>> ((4 : Int32).toInt64.toUInt64 &&& Int64.toUInt64 63)).toInt64)) &&& 1085102592571150095 : Int64).toUInt64 >>> ((8 : Int32).toInt64.toUInt64 &&& Int64.toUInt64 63)).toInt64)) + ((((((((a0 - ((((a0 : Int64).toUInt64 >>> ((1 : Int32).toInt64.toUInt64 &&& Int64.toUInt64 63)).toInt64) &&& 6148914691236517205)) &&& 3689348814741910323) + ((((a0 - ((((a0 : Int64).toUInt64 >>> ((1 : Int32).toInt64.toUInt64 &&& Int64.toUInt64 63)).toInt64) &&& 6148914691236517205) : Int64).toUInt64 >>> ((2 : Int32).toInt64.toUInt64 &&& Int64.toUInt64 63)).toInt64) &&& 3689348814741910323)) + (((((a0 - ((((a0 : Int64).toUInt64 >>> ((1 : Int32).toInt64.toUInt64 &&& Int64.toUInt64 63)).toInt64) &&& 6148914691236517205)) &&& 3689348814741910323) + ((((a0 - ((((a0 : Int64).toUInt64 >>> ((1 : Int32).toInt64.toUInt64 &&& Int64.toUInt64 63)).toInt64) &&& 6148914691236517205) : Int64).toUInt64 >>> ((2 : Int32).toInt64.toUInt64 &&& Int64.toUInt64 63)).toInt64) &&& 3689348814741910323) : Int64).toUInt64 >>> ((4 : Int32).toInt64.toUInt64 &&& Int64.toUInt64 63)).toInt64)) &&& 1085102592571150095) + (((((((a0 - ((((a0 : Int64).toUInt64 >>> ((1 : Int32).toInt64.toUInt64 &&& Int64.toUInt64 63)).toInt64) &&& 6148914691236517205)) &&& 3689348814741910323) + ((((a0 - ((((a0 : Int64).toUInt64 >>> ((1 : Int32).toInt64.toUInt64 &&& Int64.toUInt64 63)).toInt64) &&& 6148914691236517205) : Int64).toUInt64 >>> ((2 : Int32).toInt64.toUInt64 &&& Int64.toUInt64 63)).toInt64) &&& 3689348814741910323)) + (((((a0 - ((((a0 : Int64).toUInt64 >>> ((1 : Int32).toInt64.toUInt64 &&& Int64.toUInt64 63)).toInt64) &&& 6148914691236517205)) &&& 3689348814741910323) + ((((a0 - ((((a0 : Int64).toUInt64 >>> ((1 : Int32).toInt64.toUInt64 &&& Int64.toUInt64 63)).toInt64) &&& 6148914691236517205) : Int64).toUInt64 >>> ((2 : Int32).toInt64.toUInt64 &&& Int64.toUInt64 63)).toInt64) &&& 3689348814741910323) : Int64).toUInt64 >>> ((4 : Int32).toInt64.toUInt64 &&& Int64.toUInt64 63)).toInt64)) &&& 1085102592571150095 : Int64).toUInt64 >>> ((8 : Int32).toInt64.toUInt64 &&& Int64.toUInt64 63)).toInt64) : Int64).toUInt64 >>> ((16 : Int32).toInt64.toUInt64 &&& Int64.toUInt64 63)).toInt64) : Int64).toUInt64 >>> ((32 : Int32).toInt64.toUInt64 &&& Int64.toUInt64 63)).toInt64)))]) hx hb dJ13_bitCount_95d88_54 rfl hl (by decide) rfl (fun ls hl => ?_)
  refine lv_lload_n hx hb dJ13_bitCount_95d88_55 rfl (lv_at hl 0 rfl) ?_
  refine lv_l2i hx hb dJ13_bitCount_95d88_56 rfl ?_
  refine lv_bipush (v := 127) hx hb dJ13_bitCount_95d88_57 (by decide) ?_
  refine lv_iand hx hb dJ13_bitCount_95d88_59 ?_
  exact ret_ri hx hb hr hlocks hf dJ13_bitCount_95d88_60
/-! ===== SilenceCount$Fractions.powerOfTen(I)J ===== -/
abbrev rmX0_powerOfTen : Room := { frames := 0, cells := 0, slots := 0, locals := 0 }
theorem kkX0_powerOfTen : yX0_powerOfTen.cls = RX0 ∧ yX0_powerOfTen.cls ≠ "java/lang/invoke/MethodHandle" ∧ yX0_powerOfTen.cls ≠ "java/lang/invoke/VarHandle" ∧ (parseMethodDescriptor yX0_powerOfTen.desc).map (fun d => d.parameters.length) = some 1 := by decide +kernel
theorem mX0_powerOfTen_k7 : Cond.constantLong RX0 7 (10) ∈ wsX0_powerOfTen := by decide +kernel
def bX0_powerOfTen_4 (k4 : Int64 × Int32 → Option (Int64)) (a0 : Int32) (v1 : Int64) (v3 : Int32) : Option (Int64) :=
  if a0 ≤ v3 then some v1 else k4 (v1 * 10, v3 + 1)
set_option maxRecDepth 100000 in
set_option maxHeartbeats 4000000 in
theorem BX0_powerOfTen_4 {p : Program} {l : Launch} {e : Env} {s : State} {m : MethodId} {below : List Frame} {meth : Method} {c : Code} {D : va_G} {ty : TY} {a0 : Int32} {q0 : Int64} (C : cx p s m [.int a0] meth c cX0_powerOfTen 4 (some .long) RX0 wsX0_powerOfTen) (hK : KK D ty s) (hP : va_P D vwCl [] s.heap)   : ∀ (n : Nat) (v1 : Int64) (v3 : Int32) (ls : Array Slot), lv_has ls 4 [(0, .int a0), (1, .long v1), (3, .int v3)] → loopF (fun k q => bX0_powerOfTen_4 k a0 q.1 q.2) n (v1, v3) = some q0 → WRl p l e rmX0_powerOfTen s m [.int a0] below meth c q0 (F0 m 4 ls []) := by
  obtain ⟨hx, hb, hr, hml, hown, hts, hlocks⟩ := id C
  intro n
  induction n with
  | zero =>
    intro v1 v3 ls hl hf
    cases hf
  | succ n ih =>
    intro v1 v3 ls hl hf
    have hf : bX0_powerOfTen_4 (loopF (fun k q => bX0_powerOfTen_4 k a0 q.1 q.2) n) a0 v1 v3 = some q0 := hf
    have hk4 := ih
    unfold bX0_powerOfTen_4 at hf
    refine lv_iload_n hx hb dX0_powerOfTen_4 rfl (lv_at hl 2 rfl) ?_
    refine lv_iload_n hx hb dX0_powerOfTen_5 rfl (lv_at hl 0 rfl) ?_
    refine lv_icmp_ge (tgt := 21) hx hb dX0_powerOfTen_6 (by decide) (fun hc => ?_) (fun hc => ?_)
    · have hf := ft hf hc
      refine lv_lload_n hx hb dX0_powerOfTen_21 rfl (lv_at hl 1 rfl) ?_
      exact ret_rl hx hb hr hlocks hf dX0_powerOfTen_22
    · have hf := ff hf hc
      refine lv_lload_n hx hb dX0_powerOfTen_9 rfl (lv_at hl 1 rfl) ?_
      refine lv_ldc2 (v := 10) hx hb hown (hts _ mX0_powerOfTen_k7) dX0_powerOfTen_10 ?_
      refine lv_lmul hx hb dX0_powerOfTen_13 ?_
      refine lv_lstore_n (lv' := [(1, .long (v1 * 10)), (0, .int a0), (3, .int v3)]) hx hb dX0_powerOfTen_14 rfl hl (by decide) rfl (fun ls hl => ?_)
      refine lv_iinc (v := v3 + 1) (lv' := [(3, .int (v3 + 1)), (1, .long (v1 * 10)), (0, .int a0)]) hx hb dX0_powerOfTen_15 hl (k := 2) rfl rfl (by decide) rfl (fun ls hl => ?_)
      refine lv_goto (tgt := 4) hx hb dX0_powerOfTen_18 (by decide) ?_
      exact hk4 _ _ _ (lv_sub hl [2, 1, 0] rfl) hf
def fX0_powerOfTen (a0 : Int32) : Option (Int64) :=
  loopF (fun k q => bX0_powerOfTen_4 k a0 q.1 q.2) FU (1, 0)
set_option maxRecDepth 100000 in
set_option maxHeartbeats 4000000 in
theorem CX0_powerOfTen (l : Launch) {D : va_G} {ty : TY} {a0 : Int32} {q0 : Int64} (hf : fX0_powerOfTen a0 = some q0) : ROl l yX0_powerOfTen wsX0_powerOfTen rmX0_powerOfTen D ty [.int a0] [] q0 := by
  refine ROl.start (cc := cX0_powerOfTen) (maxL := 4) (ret := (some .long)) (own := RX0) (by decide) rfl rfl (Nat.le_of_ble_eq_true rfl) ?_
  intro p e s m below meth c ls C hK hP hl
  obtain ⟨hx, hb, hr, hml, hown, hts, hlocks⟩ := id C
  have hl : lv_has ls 4 [(0, .int a0)] := hl
  unfold fX0_powerOfTen at hf
  refine lv_lconst (v := 1) hx hb dX0_powerOfTen_0 (by decide) ?_
  refine lv_lstore_n (lv' := [(1, .long 1), (0, .int a0)]) hx hb dX0_powerOfTen_1 rfl hl (by decide) rfl (fun ls hl => ?_)
  refine lv_iconst (v := 0) hx hb dX0_powerOfTen_2 (by decide) ?_
  refine lv_istore_n (lv' := [(3, .int 0), (1, .long 1), (0, .int a0)]) hx hb dX0_powerOfTen_3 rfl hl (by decide) rfl (fun ls hl => ?_)
  exact BX0_powerOfTen_4 C hK hP  FU _ _ _ (lv_sub hl [2, 1, 0] rfl) hf
/-! ===== SilenceCount$Fractions.worth(IZ)J ===== -/
abbrev rmX0_worth : Room := { frames := 1, cells := 0, slots := 0, locals := 13 }
theorem kkX0_worth : yX0_worth.cls = RX0 ∧ yX0_worth.cls ≠ "java/lang/invoke/MethodHandle" ∧ yX0_worth.cls ≠ "java/lang/invoke/VarHandle" ∧ (parseMethodDescriptor yX0_worth.desc).map (fun d => d.parameters.length) = some 2 := by decide +kernel
theorem mX0_worth_c32 : Cond.methodLink RX0 32 Lib.Math.max.name ∈ wsX0_worth := by decide +kernel
theorem mX0_worth_smax : Cond.static Lib.Math.max.name ∈ wsX0_worth := by decide +kernel
theorem mX0_worth_iMath : Cond.initialized "java/lang/Math" ∈ wsX0_worth := by decide +kernel
theorem mX0_worth_cdmax : Cond.code Lib.Math.max.name Lib.Math.max.code 2 (some .int) ∈ wsX0_worth := by decide +kernel
def fX0_worth (a0 : Int32) (a1 : Int32) : Option (Int64) :=
  if a1 = 0 then some ((if (0 : Int32) < a0 then a0 else 0 : Int32).toInt64) else if 0 < a0 then some 0 else some 1
set_option maxRecDepth 100000 in
set_option maxHeartbeats 4000000 in
theorem CX0_worth (l : Launch) {D : va_G} {ty : TY} {a0 : Int32} {a1 : Int32} {q0 : Int64} (hf : fX0_worth a0 a1 = some q0) : ROl l yX0_worth wsX0_worth rmX0_worth D ty [.int a0, .int a1] [] q0 := by
  refine ROl.start (cc := cX0_worth) (maxL := 2) (ret := (some .long)) (own := RX0) (by decide) rfl rfl (Nat.le_of_ble_eq_true rfl) ?_
  intro p e s m below meth c ls C hK hP hl
  obtain ⟨hx, hb, hr, hml, hown, hts, hlocks⟩ := id C
  have hl : lv_has ls 2 [(0, .int a0), (1, .int a1)] := hl
  unfold fX0_worth at hf
  refine lv_iload_n hx hb dX0_worth_0 rfl (lv_at hl 1 rfl) ?_
  refine lv_if_eq (tgt := 14) hx hb dX0_worth_1 (by decide) (fun hc => ?_) (fun hc => ?_)
  · have hf := ft hf hc
    refine lv_iconst (v := 0) hx hb dX0_worth_14 (by decide) ?_
    refine lv_iload_n hx hb dX0_worth_15 rfl (lv_at hl 0 rfl) ?_
    refine va_mmax hx hb (hml.trans hl.1.symm) hown (hts _ mX0_worth_c32) (hts _ mX0_worth_smax) (hts _ mX0_worth_iMath) (hts _ mX0_worth_cdmax) (Nat.le_of_ble_eq_true rfl) (Nat.le_of_ble_eq_true rfl) (Nat.zero_le _) (Nat.zero_le _) dX0_worth_16 ?_
    refine lv_i2l hx hb dX0_worth_19 rfl ?_
    exact ret_rl hx hb hr hlocks hf dX0_worth_20
  · have hf := ff hf hc
    refine lv_iload_n hx hb dX0_worth_4 rfl (lv_at hl 0 rfl) ?_
    refine lv_if_gt (tgt := 12) hx hb dX0_worth_5 (by decide) (fun hc => ?_) (fun hc => ?_)
    · have hf := ft hf hc
      refine lv_lconst (v := 0) hx hb dX0_worth_12 (by decide) ?_
      exact ret_rl hx hb hr hlocks hf dX0_worth_13
    · have hf := ff hf hc
      refine lv_lconst (v := 1) hx hb dX0_worth_8 (by decide) ?_
      refine lv_goto (tgt := 13) hx hb dX0_worth_9 (by decide) ?_
      exact ret_rl hx hb hr hlocks hf dX0_worth_13
/-! ===== SilenceCount$Fractions.beesInTenths(LSilenceCount$House;IIIZ)J ===== -/
abbrev rmX0_beesInTenths : Room := { frames := 2, cells := 0, slots := 0, locals := 34 }
theorem kkX0_beesInTenths : yX0_beesInTenths.cls = RX0 ∧ yX0_beesInTenths.cls ≠ "java/lang/invoke/MethodHandle" ∧ yX0_beesInTenths.cls ≠ "java/lang/invoke/VarHandle" ∧ (parseMethodDescriptor yX0_beesInTenths.desc).map (fun d => d.parameters.length) = some 5 := by decide +kernel
theorem mX0_beesInTenths_f9 : Cond.fieldLink RX0 9 "SilenceCount$House" "paces" "[I" ∈ wsX0_beesInTenths := by decide +kernel
theorem mX0_beesInTenths_f29 : Cond.fieldLink RX0 29 "SilenceCount$House" "counts" "[I" ∈ wsX0_beesInTenths := by decide +kernel
theorem mX0_beesInTenths_f21 : Cond.fieldLink RX0 21 "SilenceCount$House" "start" "I" ∈ wsX0_beesInTenths := by decide +kernel
theorem wX0_beesInTenths_X2 : ∀ w ∈ u_ws RX2 TX2 6, w ∈ wsX0_beesInTenths := by decide +kernel
def bX0_beesInTenths_17 (k17 : Int32 × Int64 × Int64 × Int32 → Option (Int64)) (p0_start : Int32) (p0_counts : Nat → Int32) (a1 : Int32) (a2 : Int32) (a3 : Int32) (a4 : Int32) (v5 : Int32) (v6 : Int64) (v8 : Int64) (v10 : Int32) : Option (Int64) :=
  if a2 ≤ v10 then gIn a1 8 ((fX0_worth ((p0_counts (a1 : Int32).toNatClampNeg) - (a2 * v5)) a4).bind fun r96 => some (v8 + (v6 * r96))) else (fX0_powerOfTen ((a2 - 1) - v10)).bind fun r34 => (fX0_worth (p0_start - (v10 * v5)) a4).bind fun r56 => k17 (v5, v6 * ((10 - a3 : Int32).toInt64), v8 + (((v6 * ((a3 : Int32).toInt64)) * r34) * r56), v10 + 1)
set_option maxRecDepth 100000 in
set_option maxHeartbeats 4000000 in
theorem BX0_beesInTenths_17 {p : Program} {l : Launch} {e : Env} {s : State} {m : MethodId} {below : List Frame} {meth : Method} {c : Code} {D : va_G} {ty : TY} {A_p0 A_p0_counts A_p0_paces : Nat} {p0_there : Int32} {p0_awake : Int32} {p0_start : Int32} {p0_sharp : Int32} {p0_counts : Nat → Int32} {p0_paces : Nat → Int32} {a1 : Int32} {a2 : Int32} {a3 : Int32} {a4 : Int32} {q0 : Int64} (C : cx p s m [.ref A_p0, .int a1, .int a2, .int a3, .int a4] meth c cX0_beesInTenths 13 (some .long) RX0 wsX0_beesInTenths) (hK : KK D ty s) (hP : va_P D vwCl [(A_p0, .inr (1, [.int p0_there, .int p0_awake, .int p0_start, .int p0_sharp, .ref A_p0_counts, .ref A_p0_paces])), (A_p0_counts, .inl (ty.1, 8, .inl p0_counts)), (A_p0_paces, .inl (ty.1, 8, .inl p0_paces))] s.heap)   : ∀ (n : Nat) (v5 : Int32) (v6 : Int64) (v8 : Int64) (v10 : Int32) (ls : Array Slot), lv_has ls 13 [(0, .ref A_p0), (1, .int a1), (2, .int a2), (3, .int a3), (4, .int a4), (5, .int v5), (6, .long v6), (8, .long v8), (10, .int v10)] → loopF (fun k q => bX0_beesInTenths_17 k p0_start p0_counts a1 a2 a3 a4 q.1 q.2.1 q.2.2.1 q.2.2.2) n (v5, v6, v8, v10) = some q0 → WRl p l e rmX0_beesInTenths s m [.ref A_p0, .int a1, .int a2, .int a3, .int a4] below meth c q0 (F0 m 17 ls []) := by
  obtain ⟨hx, hb, hr, hml, hown, hts, hlocks⟩ := id C
  intro n
  induction n with
  | zero =>
    intro v5 v6 v8 v10 ls hl hf
    cases hf
  | succ n ih =>
    intro v5 v6 v8 v10 ls hl hf
    have hf : bX0_beesInTenths_17 (loopF (fun k q => bX0_beesInTenths_17 k p0_start p0_counts a1 a2 a3 a4 q.1 q.2.1 q.2.2.1 q.2.2.2) n) p0_start p0_counts a1 a2 a3 a4 v5 v6 v8 v10 = some q0 := hf
    have hk17 := ih
    unfold bX0_beesInTenths_17 at hf
    refine lv_iload hx hb dX0_beesInTenths_17 (lv_at hl 8 rfl) ?_
    refine lv_iload_n hx hb dX0_beesInTenths_19 rfl (lv_at hl 2 rfl) ?_
    refine lv_icmp_ge (tgt := 79) hx hb dX0_beesInTenths_20 (by decide) (fun hc => ?_) (fun hc => ?_)
    · have hf := ft hf hc
      refine lv_lload hx hb dX0_beesInTenths_79 (lv_at hl 7 rfl) ?_
      refine lv_lload hx hb dX0_beesInTenths_81 (lv_at hl 6 rfl) ?_
      refine lv_aload_n hx hb dX0_beesInTenths_83 rfl (lv_at hl 0 rfl) ?_
      refine va_get (D := D) (ci := 1) (v := .ref A_p0_counts) (C := RX2) (T := TX2) (N := 6) hx hb hts wX0_beesInTenths_X2 hown hK.1 hP 0 rfl rfl 4 (by decide) (hts _ mX0_beesInTenths_f29) (fun _ h9 => h9) rfl dX0_beesInTenths_84 ?_
      refine lv_iload_n hx hb dX0_beesInTenths_87 rfl (lv_at hl 1 rfl) ?_
      obtain ⟨hin, hf⟩ := gIn_some hf
      refine va_iald hx hb hK.1 hP 1 0 rfl rfl hin dX0_beesInTenths_88 ?_
      refine lv_iload_n hx hb dX0_beesInTenths_89 rfl (lv_at hl 2 rfl) ?_
      refine lv_iload hx hb dX0_beesInTenths_90 (lv_at hl 5 rfl) ?_
      refine lv_imul hx hb dX0_beesInTenths_92 ?_
      refine lv_isub hx hb dX0_beesInTenths_93 ?_
      refine lv_iload hx hb dX0_beesInTenths_94 (lv_at hl 4 rfl) ?_
      obtain ⟨r96, hr96, hf⟩ := bnd hf
      have hPc : va_P D vwCl [] _ := hP.sub [] rfl
      refine callS_rl (As := [.int ((p0_counts (a1 : Int32).toNatClampNeg) - (a2 * v5)), .int a4]) (rest := [.long v6, .long v8]) ⟨hx, hb, hml, hown, hts⟩ (CX0_worth l hr96) (va_cwS 2 hts gX0_beesInTenths_X0_worth rfl rfl rfl kkX0_worth.2 ⟨Nat.le_of_ble_eq_true rfl, Nat.le_of_ble_eq_true rfl⟩) hK hPc hl.1 rfl (Nat.le_of_ble_eq_true rfl) dX0_beesInTenths_96 ⟨Nat.zero_le _, Nat.zero_le _⟩ ?_
      refine lv_lmul hx hb dX0_beesInTenths_99 ?_
      refine lv_ladd hx hb dX0_beesInTenths_100 ?_
      exact ret_rl hx hb hr hlocks hf dX0_beesInTenths_101
    · have hf := ff hf hc
      refine lv_lload hx hb dX0_beesInTenths_23 (lv_at hl 6 rfl) ?_
      refine lv_iload_n hx hb dX0_beesInTenths_25 rfl (lv_at hl 3 rfl) ?_
      refine lv_i2l hx hb dX0_beesInTenths_26 rfl ?_
      refine lv_lmul hx hb dX0_beesInTenths_27 ?_
      refine lv_iload_n hx hb dX0_beesInTenths_28 rfl (lv_at hl 2 rfl) ?_
      refine lv_iconst (v := 1) hx hb dX0_beesInTenths_29 (by decide) ?_
      refine lv_isub hx hb dX0_beesInTenths_30 ?_
      refine lv_iload hx hb dX0_beesInTenths_31 (lv_at hl 8 rfl) ?_
      refine lv_isub hx hb dX0_beesInTenths_33 ?_
      obtain ⟨r34, hr34, hf⟩ := bnd hf
      have hPc : va_P D vwCl [] _ := hP.sub [] rfl
      refine callS_rl (As := [.int ((a2 - 1) - v10)]) (rest := [.long (v6 * ((a3 : Int32).toInt64))]) ⟨hx, hb, hml, hown, hts⟩ (CX0_powerOfTen l hr34) (va_cwS 1 hts gX0_beesInTenths_X0_powerOfTen rfl rfl rfl kkX0_powerOfTen.2 ⟨Nat.le_of_ble_eq_true rfl, Nat.le_of_ble_eq_true rfl⟩) hK hPc hl.1 rfl (Nat.le_of_ble_eq_true rfl) dX0_beesInTenths_34 ⟨Nat.zero_le _, Nat.zero_le _⟩ ?_
      refine lv_lmul hx hb dX0_beesInTenths_37 ?_
      refine lv_lstore (lv' := [(11, .long ((v6 * ((a3 : Int32).toInt64)) * r34)), (0, .ref A_p0), (1, .int a1), (2, .int a2), (3, .int a3), (4, .int a4), (5, .int v5), (6, .long v6), (8, .long v8), (10, .int v10)]) hx hb dX0_beesInTenths_38 hl (by decide) rfl (fun ls hl => ?_)
      refine lv_lload hx hb dX0_beesInTenths_40 (lv_at hl 8 rfl) ?_
      refine lv_lload hx hb dX0_beesInTenths_42 (lv_at hl 0 rfl) ?_
      refine lv_aload_n hx hb dX0_beesInTenths_44 rfl (lv_at hl 1 rfl) ?_
      refine va_get (D := D) (ci := 1) (v := .int p0_start) (C := RX2) (T := TX2) (N := 6) hx hb hts wX0_beesInTenths_X2 hown hK.1 hP 0 rfl rfl 2 (by decide) (hts _ mX0_beesInTenths_f21) (fun _ h9 => h9) rfl dX0_beesInTenths_45 ?_
      refine lv_iload hx hb dX0_beesInTenths_48 (lv_at hl 9 rfl) ?_
      refine lv_iload hx hb dX0_beesInTenths_50 (lv_at hl 6 rfl) ?_
      refine lv_imul hx hb dX0_beesInTenths_52 ?_
      refine lv_isub hx hb dX0_beesInTenths_53 ?_
      refine lv_iload hx hb dX0_beesInTenths_54 (lv_at hl 5 rfl) ?_
      obtain ⟨r56, hr56, hf⟩ := bnd hf
      have hPc : va_P D vwCl [] _ := hP.sub [] rfl
      refine callS_rl (As := [.int (p0_start - (v10 * v5)), .int a4]) (rest := [.long ((v6 * ((a3 : Int32).toInt64)) * r34), .long v8]) ⟨hx, hb, hml, hown, hts⟩ (CX0_worth l hr56) (va_cwS 2 hts gX0_beesInTenths_X0_worth rfl rfl rfl kkX0_worth.2 ⟨Nat.le_of_ble_eq_true rfl, Nat.le_of_ble_eq_true rfl⟩) hK hPc hl.1 rfl (Nat.le_of_ble_eq_true rfl) dX0_beesInTenths_56 ⟨Nat.zero_le _, Nat.zero_le _⟩ ?_
      refine lv_lmul hx hb dX0_beesInTenths_59 ?_
      refine lv_ladd hx hb dX0_beesInTenths_60 ?_
      refine lv_lstore (lv' := [(8, .long (v8 + (((v6 * ((a3 : Int32).toInt64)) * r34) * r56))), (11, .long ((v6 * ((a3 : Int32).toInt64)) * r34)), (0, .ref A_p0), (1, .int a1), (2, .int a2), (3, .int a3), (4, .int a4), (5, .int v5), (6, .long v6), (10, .int v10)]) hx hb dX0_beesInTenths_61 hl (by decide) rfl (fun ls hl => ?_)
      refine lv_lload hx hb dX0_beesInTenths_63 (lv_at hl 8 rfl) ?_
      refine lv_bipush (v := 10) hx hb dX0_beesInTenths_65 (by decide) ?_
      refine lv_iload_n hx hb dX0_beesInTenths_67 rfl (lv_at hl 5 rfl) ?_
      refine lv_isub hx hb dX0_beesInTenths_68 ?_
      refine lv_i2l hx hb dX0_beesInTenths_69 rfl ?_
      refine lv_lmul hx hb dX0_beesInTenths_70 ?_
      refine lv_lstore (lv' := [(6, .long (v6 * ((10 - a3 : Int32).toInt64))), (8, .long (v8 + (((v6 * ((a3 : Int32).toInt64)) * r34) * r56))), (11, .long ((v6 * ((a3 : Int32).toInt64)) * r34)), (0, .ref A_p0), (1, .int a1), (2, .int a2), (3, .int a3), (4, .int a4), (5, .int v5), (10, .int v10)]) hx hb dX0_beesInTenths_71 hl (by decide) rfl (fun ls hl => ?_)
      refine lv_iinc (v := v10 + 1) (lv' := [(10, .int (v10 + 1)), (6, .long (v6 * ((10 - a3 : Int32).toInt64))), (8, .long (v8 + (((v6 * ((a3 : Int32).toInt64)) * r34) * r56))), (11, .long ((v6 * ((a3 : Int32).toInt64)) * r34)), (0, .ref A_p0), (1, .int a1), (2, .int a2), (3, .int a3), (4, .int a4), (5, .int v5)]) hx hb dX0_beesInTenths_73 hl (k := 9) rfl rfl (by decide) rfl (fun ls hl => ?_)
      refine lv_goto (tgt := 17) hx hb dX0_beesInTenths_76 (by decide) ?_
      exact hk17 _ _ _ _ _ (lv_sub hl [4, 5, 6, 7, 8, 9, 1, 2, 0] rfl) hf
def fX0_beesInTenths (p0_start : Int32) (p0_counts : Nat → Int32) (p0_paces : Nat → Int32) (a1 : Int32) (a2 : Int32) (a3 : Int32) (a4 : Int32) : Option (Int64) :=
  gIn a1 8 (loopF (fun k q => bX0_beesInTenths_17 k p0_start p0_counts a1 a2 a3 a4 q.1 q.2.1 q.2.2.1 q.2.2.2) FU (p0_paces (a1 : Int32).toNatClampNeg, 1, 0, 0))
set_option maxRecDepth 100000 in
set_option maxHeartbeats 4000000 in
theorem CX0_beesInTenths (l : Launch) {D : va_G} {ty : TY} {A_p0 A_p0_counts A_p0_paces : Nat} {p0_there : Int32} {p0_awake : Int32} {p0_start : Int32} {p0_sharp : Int32} {p0_counts : Nat → Int32} {p0_paces : Nat → Int32} {a1 : Int32} {a2 : Int32} {a3 : Int32} {a4 : Int32} {q0 : Int64} (hf : fX0_beesInTenths p0_start p0_counts p0_paces a1 a2 a3 a4 = some q0) : ROl l yX0_beesInTenths wsX0_beesInTenths rmX0_beesInTenths D ty [.ref A_p0, .int a1, .int a2, .int a3, .int a4] [(A_p0, .inr (1, [.int p0_there, .int p0_awake, .int p0_start, .int p0_sharp, .ref A_p0_counts, .ref A_p0_paces])), (A_p0_counts, .inl (ty.1, 8, .inl p0_counts)), (A_p0_paces, .inl (ty.1, 8, .inl p0_paces))] q0 := by
  refine ROl.start (cc := cX0_beesInTenths) (maxL := 13) (ret := (some .long)) (own := RX0) (by decide) rfl rfl (Nat.le_of_ble_eq_true rfl) ?_
  intro p e s m below meth c ls C hK hP hl
  obtain ⟨hx, hb, hr, hml, hown, hts, hlocks⟩ := id C
  have hl : lv_has ls 13 [(0, .ref A_p0), (1, .int a1), (2, .int a2), (3, .int a3), (4, .int a4)] := hl
  unfold fX0_beesInTenths at hf
  refine lv_aload_n hx hb dX0_beesInTenths_0 rfl (lv_at hl 0 rfl) ?_
  refine va_get (D := D) (ci := 1) (v := .ref A_p0_paces) (C := RX2) (T := TX2) (N := 6) hx hb hts wX0_beesInTenths_X2 hown hK.1 hP 0 rfl rfl 5 (by decide) (hts _ mX0_beesInTenths_f9) (fun _ h9 => h9) rfl dX0_beesInTenths_1 ?_
  refine lv_iload_n hx hb dX0_beesInTenths_4 rfl (lv_at hl 1 rfl) ?_
  obtain ⟨hin, hf⟩ := gIn_some hf
  refine va_iald hx hb hK.1 hP 2 0 rfl rfl hin dX0_beesInTenths_5 ?_
  refine lv_istore (lv' := [(5, .int (p0_paces (a1 : Int32).toNatClampNeg)), (0, .ref A_p0), (1, .int a1), (2, .int a2), (3, .int a3), (4, .int a4)]) hx hb dX0_beesInTenths_6 hl (by decide) rfl (fun ls hl => ?_)
  refine lv_lconst (v := 1) hx hb dX0_beesInTenths_8 (by decide) ?_
  refine lv_lstore (lv' := [(6, .long 1), (5, .int (p0_paces (a1 : Int32).toNatClampNeg)), (0, .ref A_p0), (1, .int a1), (2, .int a2), (3, .int a3), (4, .int a4)]) hx hb dX0_beesInTenths_9 hl (by decide) rfl (fun ls hl => ?_)
  refine lv_lconst (v := 0) hx hb dX0_beesInTenths_11 (by decide) ?_
  refine lv_lstore (lv' := [(8, .long 0), (6, .long 1), (5, .int (p0_paces (a1 : Int32).toNatClampNeg)), (0, .ref A_p0), (1, .int a1), (2, .int a2), (3, .int a3), (4, .int a4)]) hx hb dX0_beesInTenths_12 hl (by decide) rfl (fun ls hl => ?_)
  refine lv_iconst (v := 0) hx hb dX0_beesInTenths_14 (by decide) ?_
  refine lv_istore (lv' := [(10, .int 0), (8, .long 0), (6, .long 1), (5, .int (p0_paces (a1 : Int32).toNatClampNeg)), (0, .ref A_p0), (1, .int a1), (2, .int a2), (3, .int a3), (4, .int a4)]) hx hb dX0_beesInTenths_15 hl (by decide) rfl (fun ls hl => ?_)
  exact BX0_beesInTenths_17 C hK hP  FU _ _ _ _ _ (lv_sub hl [4, 5, 6, 7, 8, 3, 2, 1, 0] rfl) hf
/-! ===== SilenceCount$Fractions.greatestDivisor(JJ)J ===== -/
abbrev rmX0_greatestDivisor : Room := { frames := 0, cells := 0, slots := 0, locals := 0 }
theorem kkX0_greatestDivisor : yX0_greatestDivisor.cls = RX0 ∧ yX0_greatestDivisor.cls ≠ "java/lang/invoke/MethodHandle" ∧ yX0_greatestDivisor.cls ≠ "java/lang/invoke/VarHandle" ∧ (parseMethodDescriptor yX0_greatestDivisor.desc).map (fun d => d.parameters.length) = some 2 := by decide +kernel
def bX0_greatestDivisor_9 (k9 : Int64 × Int64 × Int32 → Option (Int64)) (v4 : Int64) (v6 : Int64) (v8 : Int32) : Option (Int64) :=
  if 100 ≤ v8 then some v4 else if (lg_cmp v6 0) = 0 then some v4 else gNzL v6 (k9 (v6, v4 - v4 / v6 * v6, v8 + 1))
set_option maxRecDepth 100000 in
set_option maxHeartbeats 4000000 in
theorem BX0_greatestDivisor_9 {p : Program} {l : Launch} {e : Env} {s : State} {m : MethodId} {below : List Frame} {meth : Method} {c : Code} {D : va_G} {ty : TY} {a0 : Int64} {a2 : Int64} {q0 : Int64} (C : cx p s m [.long a0, .long a2] meth c cX0_greatestDivisor 11 (some .long) RX0 wsX0_greatestDivisor) (hK : KK D ty s) (hP : va_P D vwCl [] s.heap)   : ∀ (n : Nat) (v4 : Int64) (v6 : Int64) (v8 : Int32) (ls : Array Slot), lv_has ls 11 [(4, .long v4), (6, .long v6), (8, .int v8)] → loopF (fun k q => bX0_greatestDivisor_9 k q.1 q.2.1 q.2.2) n (v4, v6, v8) = some q0 → WRl p l e rmX0_greatestDivisor s m [.long a0, .long a2] below meth c q0 (F0 m 9 ls []) := by
  obtain ⟨hx, hb, hr, hml, hown, hts, hlocks⟩ := id C
  intro n
  induction n with
  | zero =>
    intro v4 v6 v8 ls hl hf
    cases hf
  | succ n ih =>
    intro v4 v6 v8 ls hl hf
    have hf : bX0_greatestDivisor_9 (loopF (fun k q => bX0_greatestDivisor_9 k q.1 q.2.1 q.2.2) n) v4 v6 v8 = some q0 := hf
    have hk9 := ih
    unfold bX0_greatestDivisor_9 at hf
    refine lv_iload hx hb dX0_greatestDivisor_9 (lv_at hl 2 rfl) ?_
    refine lv_bipush (v := 100) hx hb dX0_greatestDivisor_11 (by decide) ?_
    refine lv_icmp_ge (tgt := 44) hx hb dX0_greatestDivisor_13 (by decide) (fun hc => ?_) (fun hc => ?_)
    · have hf := ft hf hc
      refine lv_lload hx hb dX0_greatestDivisor_44 (lv_at hl 0 rfl) ?_
      exact ret_rl hx hb hr hlocks hf dX0_greatestDivisor_46
    · have hf := ff hf hc
      refine lv_lload hx hb dX0_greatestDivisor_16 (lv_at hl 1 rfl) ?_
      refine lv_lconst (v := 0) hx hb dX0_greatestDivisor_18 (by decide) ?_
      refine W.lcmp hx hb dX0_greatestDivisor_19 ?_
      refine lv_if_eq (tgt := 44) hx hb dX0_greatestDivisor_20 (by decide) (fun hc => ?_) (fun hc => ?_)
      · have hf := ft hf hc
        refine lv_lload hx hb dX0_greatestDivisor_44 (lv_at hl 0 rfl) ?_
        exact ret_rl hx hb hr hlocks hf dX0_greatestDivisor_46
      · have hf := ff hf hc
        refine lv_lload hx hb dX0_greatestDivisor_23 (lv_at hl 0 rfl) ?_
        refine lv_lload hx hb dX0_greatestDivisor_25 (lv_at hl 1 rfl) ?_
        obtain ⟨hnz, hf⟩ := gNzL_some hf
        refine lv_lrem hx hb dX0_greatestDivisor_27 hnz ?_
        refine lv_lstore (lv' := [(9, .long (v4 - v4 / v6 * v6)), (4, .long v4), (6, .long v6), (8, .int v8)]) hx hb dX0_greatestDivisor_28 hl (by decide) rfl (fun ls hl => ?_)
        refine lv_lload hx hb dX0_greatestDivisor_30 (lv_at hl 2 rfl) ?_
        refine lv_lstore (lv' := [(4, .long v6), (9, .long (v4 - v4 / v6 * v6)), (6, .long v6), (8, .int v8)]) hx hb dX0_greatestDivisor_32 hl (by decide) rfl (fun ls hl => ?_)
        refine lv_lload hx hb dX0_greatestDivisor_34 (lv_at hl 1 rfl) ?_
        refine lv_lstore (lv' := [(6, .long (v4 - v4 / v6 * v6)), (4, .long v6), (9, .long (v4 - v4 / v6 * v6)), (8, .int v8)]) hx hb dX0_greatestDivisor_36 hl (by decide) rfl (fun ls hl => ?_)
        refine lv_iinc (v := v8 + 1) (lv' := [(8, .int (v8 + 1)), (6, .long (v4 - v4 / v6 * v6)), (4, .long v6), (9, .long (v4 - v4 / v6 * v6))]) hx hb dX0_greatestDivisor_38 hl (k := 3) rfl rfl (by decide) rfl (fun ls hl => ?_)
        refine lv_goto (tgt := 9) hx hb dX0_greatestDivisor_41 (by decide) ?_
        exact hk9 _ _ _ _ (lv_sub hl [2, 1, 0] rfl) hf
def fX0_greatestDivisor (a0 : Int64) (a2 : Int64) : Option (Int64) :=
  loopF (fun k q => bX0_greatestDivisor_9 k q.1 q.2.1 q.2.2) FU (a0, a2, 0)
set_option maxRecDepth 100000 in
set_option maxHeartbeats 4000000 in
theorem CX0_greatestDivisor (l : Launch) {D : va_G} {ty : TY} {a0 : Int64} {a2 : Int64} {q0 : Int64} (hf : fX0_greatestDivisor a0 a2 = some q0) : ROl l yX0_greatestDivisor wsX0_greatestDivisor rmX0_greatestDivisor D ty [.long a0, .long a2] [] q0 := by
  refine ROl.start (cc := cX0_greatestDivisor) (maxL := 11) (ret := (some .long)) (own := RX0) (by decide) rfl rfl (Nat.le_of_ble_eq_true rfl) ?_
  intro p e s m below meth c ls C hK hP hl
  obtain ⟨hx, hb, hr, hml, hown, hts, hlocks⟩ := id C
  have hl : lv_has ls 11 [(0, .long a0), (2, .long a2)] := hl
  unfold fX0_greatestDivisor at hf
  refine lv_lload_n hx hb dX0_greatestDivisor_0 rfl (lv_at hl 0 rfl) ?_
  refine lv_lstore (lv' := [(4, .long a0), (0, .long a0), (2, .long a2)]) hx hb dX0_greatestDivisor_1 hl (by decide) rfl (fun ls hl => ?_)
  refine lv_lload_n hx hb dX0_greatestDivisor_3 rfl (lv_at hl 2 rfl) ?_
  refine lv_lstore (lv' := [(6, .long a2), (4, .long a0), (0, .long a0), (2, .long a2)]) hx hb dX0_greatestDivisor_4 hl (by decide) rfl (fun ls hl => ?_)
  refine lv_iconst (v := 0) hx hb dX0_greatestDivisor_6 (by decide) ?_
  refine lv_istore (lv' := [(8, .int 0), (6, .long a2), (4, .long a0), (0, .long a0), (2, .long a2)]) hx hb dX0_greatestDivisor_7 hl (by decide) rfl (fun ls hl => ?_)
  exact BX0_greatestDivisor_9 C hK hP  FU _ _ _ _ (lv_sub hl [2, 1, 0] rfl) hf
/-! ===== SilenceCount$Fractions.partInLowestTerms(JJI)J ===== -/
abbrev rmX0_partInLowestTerms : Room := { frames := 1, cells := 0, slots := 0, locals := 30 }
theorem kkX0_partInLowestTerms : yX0_partInLowestTerms.cls = RX0 ∧ yX0_partInLowestTerms.cls ≠ "java/lang/invoke/MethodHandle" ∧ yX0_partInLowestTerms.cls ≠ "java/lang/invoke/VarHandle" ∧ (parseMethodDescriptor yX0_partInLowestTerms.desc).map (fun d => d.parameters.length) = some 3 := by decide +kernel
def bX0_partInLowestTerms_17 (v5 : Int64) (s0 : Int64) : Option (Int64) :=
  if (lg_cmp v5 0) ≤ 0 then some s0 else gNzL v5 (some (s0 / v5))
set_option maxRecDepth 100000 in
set_option maxHeartbeats 4000000 in
theorem BX0_partInLowestTerms_17 {p : Program} {l : Launch} {e : Env} {s : State} {m : MethodId} {below : List Frame} {meth : Method} {c : Code} {D : va_G} {ty : TY} {a0 : Int64} {a2 : Int64} {a4 : Int32} {q0 : Int64} (C : cx p s m [.long a0, .long a2, .int a4] meth c cX0_partInLowestTerms 9 (some .long) RX0 wsX0_partInLowestTerms) (hK : KK D ty s) (hP : va_P D vwCl [] s.heap)   {v5 : Int64} {s0 : Int64} {ls : Array Slot} (hl : lv_has ls 9 [(5, .long v5)]) (hf : bX0_partInLowestTerms_17 v5 s0 = some q0) : WRl p l e rmX0_partInLowestTerms s m [.long a0, .long a2, .int a4] below meth c q0 (F0 m 17 ls [.long s0]) := by
  obtain ⟨hx, hb, hr, hml, hown, hts, hlocks⟩ := id C
  unfold bX0_partInLowestTerms_17 at hf
  refine lv_lstore (lv' := [(7, .long s0), (5, .long v5)]) hx hb dX0_partInLowestTerms_17 hl (by decide) rfl (fun ls hl => ?_)
  refine lv_lload hx hb dX0_partInLowestTerms_19 (lv_at hl 1 rfl) ?_
  refine lv_lconst (v := 0) hx hb dX0_partInLowestTerms_21 (by decide) ?_
  refine W.lcmp hx hb dX0_partInLowestTerms_22 ?_
  refine lv_if_le (tgt := 34) hx hb dX0_partInLowestTerms_23 (by decide) (fun hc => ?_) (fun hc => ?_)
  · have hf := ft hf hc
    refine lv_lload hx hb dX0_partInLowestTerms_34 (lv_at hl 0 rfl) ?_
    exact ret_rl hx hb hr hlocks hf dX0_partInLowestTerms_36
  · have hf := ff hf hc
    refine lv_lload hx hb dX0_partInLowestTerms_26 (lv_at hl 0 rfl) ?_
    refine lv_lload hx hb dX0_partInLowestTerms_28 (lv_at hl 1 rfl) ?_
    obtain ⟨hnz, hf⟩ := gNzL_some hf
    refine lv_ldiv hx hb dX0_partInLowestTerms_30 hnz ?_
    refine lv_goto (tgt := 36) hx hb dX0_partInLowestTerms_31 (by decide) ?_
    exact ret_rl hx hb hr hlocks hf dX0_partInLowestTerms_36
def fX0_partInLowestTerms (a0 : Int64) (a2 : Int64) (a4 : Int32) : Option (Int64) :=
  (fX0_greatestDivisor a0 a2).bind fun r2 => if a4 = 0 then bX0_partInLowestTerms_17 r2 a0 else bX0_partInLowestTerms_17 r2 a2
set_option maxRecDepth 100000 in
set_option maxHeartbeats 4000000 in
theorem CX0_partInLowestTerms (l : Launch) {D : va_G} {ty : TY} {a0 : Int64} {a2 : Int64} {a4 : Int32} {q0 : Int64} (hf : fX0_partInLowestTerms a0 a2 a4 = some q0) : ROl l yX0_partInLowestTerms wsX0_partInLowestTerms rmX0_partInLowestTerms D ty [.long a0, .long a2, .int a4] [] q0 := by
  refine ROl.start (cc := cX0_partInLowestTerms) (maxL := 9) (ret := (some .long)) (own := RX0) (by decide) rfl rfl (Nat.le_of_ble_eq_true rfl) ?_
  intro p e s m below meth c ls C hK hP hl
  obtain ⟨hx, hb, hr, hml, hown, hts, hlocks⟩ := id C
  have hl : lv_has ls 9 [(0, .long a0), (2, .long a2), (4, .int a4)] := hl
  unfold fX0_partInLowestTerms at hf
  refine lv_lload_n hx hb dX0_partInLowestTerms_0 rfl (lv_at hl 0 rfl) ?_
  refine lv_lload_n hx hb dX0_partInLowestTerms_1 rfl (lv_at hl 1 rfl) ?_
  obtain ⟨r2, hr2, hf⟩ := bnd hf
  refine callS_rl (As := [.long a0, .long a2]) (rest := []) ⟨hx, hb, hml, hown, hts⟩ (CX0_greatestDivisor l hr2) (va_cwS 2 hts gX0_partInLowestTerms_X0_greatestDivisor rfl rfl rfl kkX0_greatestDivisor.2 ⟨Nat.le_of_ble_eq_true rfl, Nat.le_of_ble_eq_true rfl⟩) hK hP hl.1 rfl (Nat.le_of_ble_eq_true rfl) dX0_partInLowestTerms_2 ⟨Nat.zero_le _, Nat.zero_le _⟩ ?_
  refine lv_lstore (lv' := [(5, .long r2), (0, .long a0), (2, .long a2), (4, .int a4)]) hx hb dX0_partInLowestTerms_5 hl (by decide) rfl (fun ls hl => ?_)
  refine lv_iload hx hb dX0_partInLowestTerms_7 (lv_at hl 3 rfl) ?_
  refine lv_if_ne (tgt := 16) hx hb dX0_partInLowestTerms_9 (by decide) (fun hc => ?_) (fun hc => ?_)
  · have hf := ff hf hc
    refine lv_lload_n hx hb dX0_partInLowestTerms_16 rfl (lv_at hl 2 rfl) ?_
    exact BX0_partInLowestTerms_17 C hK hP  (lv_sub hl [0] rfl) hf
  · have hf := ft hf hc
    refine lv_lload_n hx hb dX0_partInLowestTerms_12 rfl (lv_at hl 1 rfl) ?_
    refine lv_goto (tgt := 17) hx hb dX0_partInLowestTerms_13 (by decide) ?_
    exact BX0_partInLowestTerms_17 C hK hP  (lv_sub hl [0] rfl) hf
/-! ===== SilenceCount$Pad.isWhole(I)Z ===== -/
abbrev rmX5_isWhole : Room := { frames := 0, cells := 0, slots := 0, locals := 0 }
theorem kkX5_isWhole : yX5_isWhole.cls = RX5 ∧ yX5_isWhole.cls ≠ "java/lang/invoke/MethodHandle" ∧ yX5_isWhole.cls ≠ "java/lang/invoke/VarHandle" ∧ (parseMethodDescriptor yX5_isWhole.desc).map (fun d => d.parameters.length) = some 1 := by decide +kernel
def fX5_isWhole (a0 : Int32) : Option (Int32) :=
  if a0 = 46 then some 1 else if a0 = 58 then some 1 else if a0 = 33 then some 1 else if a0 = 42 then some 1 else some 0
set_option maxRecDepth 100000 in
set_option maxHeartbeats 4000000 in
theorem CX5_isWhole (l : Launch) {D : va_G} {ty : TY} {a0 : Int32} {q0 : Int32} (hf : fX5_isWhole a0 = some q0) : ROi l yX5_isWhole wsX5_isWhole rmX5_isWhole D ty [.int a0] [] q0 := by
  refine ROi.start (cc := cX5_isWhole) (maxL := 1) (ret := (some .boolean)) (own := RX5) (by decide) rfl rfl (Nat.le_of_ble_eq_true rfl) ?_
  intro p e s m below meth c ls C hK hP hl
  obtain ⟨hx, hb, hr, hml, hown, hts, hlocks⟩ := id C
  have hl : lv_has ls 1 [(0, .int a0)] := hl
  unfold fX5_isWhole at hf
  refine lv_iload_n hx hb dX5_isWhole_0 rfl (lv_at hl 0 rfl) ?_
  refine lv_bipush (v := 46) hx hb dX5_isWhole_1 (by decide) ?_
  refine lv_icmp_eq (tgt := 24) hx hb dX5_isWhole_3 (by decide) (fun hc => ?_) (fun hc => ?_)
  · have hf := ft hf hc
    refine lv_iconst (v := 1) hx hb dX5_isWhole_24 (by decide) ?_
    refine lv_goto (tgt := 29) hx hb dX5_isWhole_25 (by decide) ?_
    exact ret_rz hx hb hr hlocks (Or.inr rfl) hf dX5_isWhole_29
  · have hf := ff hf hc
    refine lv_iload_n hx hb dX5_isWhole_6 rfl (lv_at hl 0 rfl) ?_
    refine lv_bipush (v := 58) hx hb dX5_isWhole_7 (by decide) ?_
    refine lv_icmp_eq (tgt := 24) hx hb dX5_isWhole_9 (by decide) (fun hc => ?_) (fun hc => ?_)
    · have hf := ft hf hc
      refine lv_iconst (v := 1) hx hb dX5_isWhole_24 (by decide) ?_
      refine lv_goto (tgt := 29) hx hb dX5_isWhole_25 (by decide) ?_
      exact ret_rz hx hb hr hlocks (Or.inr rfl) hf dX5_isWhole_29
    · have hf := ff hf hc
      refine lv_iload_n hx hb dX5_isWhole_12 rfl (lv_at hl 0 rfl) ?_
      refine lv_bipush (v := 33) hx hb dX5_isWhole_13 (by decide) ?_
      refine lv_icmp_eq (tgt := 24) hx hb dX5_isWhole_15 (by decide) (fun hc => ?_) (fun hc => ?_)
      · have hf := ft hf hc
        refine lv_iconst (v := 1) hx hb dX5_isWhole_24 (by decide) ?_
        refine lv_goto (tgt := 29) hx hb dX5_isWhole_25 (by decide) ?_
        exact ret_rz hx hb hr hlocks (Or.inr rfl) hf dX5_isWhole_29
      · have hf := ff hf hc
        refine lv_iload_n hx hb dX5_isWhole_18 rfl (lv_at hl 0 rfl) ?_
        refine lv_bipush (v := 42) hx hb dX5_isWhole_19 (by decide) ?_
        refine lv_icmp_ne (tgt := 28) hx hb dX5_isWhole_21 (by decide) (fun hc => ?_) (fun hc => ?_)
        · have hf := ff hf hc
          refine lv_iconst (v := 0) hx hb dX5_isWhole_28 (by decide) ?_
          exact ret_rz hx hb hr hlocks (Or.inl rfl) hf dX5_isWhole_29
        · have hf := ft hf hc
          refine lv_iconst (v := 1) hx hb dX5_isWhole_24 (by decide) ?_
          refine lv_goto (tgt := 29) hx hb dX5_isWhole_25 (by decide) ?_
          exact ret_rz hx hb hr hlocks (Or.inr rfl) hf dX5_isWhole_29
/-! ===== SilenceCount$Pad.addAct(II)V ===== -/
abbrev rmX5_addAct : Room := { frames := 0, cells := 0, slots := 0, locals := 0 }
theorem kkX5_addAct : yX5_addAct.cls = RX5 ∧ yX5_addAct.cls ≠ "java/lang/invoke/MethodHandle" ∧ yX5_addAct.cls ≠ "java/lang/invoke/VarHandle" ∧ (parseMethodDescriptor yX5_addAct.desc).map (fun d => d.parameters.length) = some 2 := by decide +kernel
theorem mX5_addAct_f15 : Cond.fieldLink RX5 15 "SilenceCount$Pad" "actMonks" "[I" ∈ wsX5_addAct := by decide +kernel
theorem mX5_addAct_f25 : Cond.fieldLink RX5 25 "SilenceCount$Pad" "acts" "I" ∈ wsX5_addAct := by decide +kernel
theorem mX5_addAct_f18 : Cond.fieldLink RX5 18 "SilenceCount$Pad" "actSigns" "[I" ∈ wsX5_addAct := by decide +kernel
theorem wX5_addAct_X5 : ∀ w ∈ u_ws RX5 TX5 5, w ∈ wsX5_addAct := by decide +kernel
def fX5_addAct (t_acts : Int32) (t_actMonks : Nat → Int32) (t_actSigns : Nat → Int32) (a1 : Int32) (a2 : Int32) : Option (Int32 × (Nat → Int32) × (Nat → Int32)) :=
  gIn t_acts 60 (gIn t_acts 60 (some (t_acts + 1, upd t_actMonks (t_acts : Int32).toNatClampNeg a1, upd t_actSigns (t_acts : Int32).toNatClampNeg a2)))
set_option maxRecDepth 100000 in
set_option maxHeartbeats 4000000 in
theorem CX5_addAct (l : Launch) {D : va_G} {ty : TY} {A_t A_t_signs A_t_actMonks A_t_actSigns : Nat} {t_size : Int32} {t_acts : Int32} {t_signs : Nat → Int32} {t_actMonks : Nat → Int32} {t_actSigns : Nat → Int32} {a1 : Int32} {a2 : Int32} {q0 : Int32 × (Nat → Int32) × (Nat → Int32)} (hf : fX5_addAct t_acts t_actMonks t_actSigns a1 a2 = some q0) : RWv l yX5_addAct wsX5_addAct rmX5_addAct D ty [.ref A_t, .int a1, .int a2] [(A_t, .inr (4, [.int t_size, .ref A_t_signs, .int t_acts, .ref A_t_actMonks, .ref A_t_actSigns])), (A_t_signs, .inl (ty.1, 60, .inl t_signs)), (A_t_actMonks, .inl (ty.1, 60, .inl t_actMonks)), (A_t_actSigns, .inl (ty.1, 60, .inl t_actSigns))] [(A_t, .inr (4, [.int t_size, .ref A_t_signs, .int q0.1, .ref A_t_actMonks, .ref A_t_actSigns])), (A_t_signs, .inl (ty.1, 60, .inl t_signs)), (A_t_actMonks, .inl (ty.1, 60, .inl q0.2.1)), (A_t_actSigns, .inl (ty.1, 60, .inl q0.2.2))] := by
  refine RWv.start (cc := cX5_addAct) (maxL := 3) (ret := none) (own := RX5) (by decide) rfl rfl (Nat.le_of_ble_eq_true rfl) ?_
  intro p e s m below meth c ls C hK hP hD hS hl
  obtain ⟨WC, hWC⟩ : ∃ w : va_W, w = [(A_t, .inr (4, [.int t_size, .ref A_t_signs, .int t_acts, .ref A_t_actMonks, .ref A_t_actSigns])), (A_t_signs, .inl (ty.1, 60, .inl t_signs)), (A_t_actMonks, .inl (ty.1, 60, .inl t_actMonks)), (A_t_actSigns, .inl (ty.1, 60, .inl t_actSigns))] := ⟨_, rfl⟩
  rw [← hWC] at hD hS ⊢
  have hD : va_D (va_A WC s.heap.size) [(A_t, .inr (4, [.int t_size, .ref A_t_signs, .int t_acts, .ref A_t_actMonks, .ref A_t_actSigns])), (A_t_signs, .inl (ty.1, 60, .inl t_signs)), (A_t_actMonks, .inl (ty.1, 60, .inl t_actMonks)), (A_t_actSigns, .inl (ty.1, 60, .inl t_actSigns))] := by rw [← hWC]; exact hD
  obtain ⟨hx, hb, hr, hml, hown, hts, hlocks⟩ := id C
  have hl : lv_has ls 3 [(0, .ref A_t), (1, .int a1), (2, .int a2)] := hl
  unfold fX5_addAct at hf
  refine lv_aload_n hx hb dX5_addAct_0 rfl (lv_at hl 0 rfl) ?_
  refine va_get (D := D) (ci := 4) (v := .ref A_t_actMonks) (C := RX5) (T := TX5) (N := 5) hx hb hts wX5_addAct_X5 hown hK.1 hP 0 rfl rfl 3 (by decide) (hts _ mX5_addAct_f15) (fun _ h9 => h9) rfl dX5_addAct_1 ?_
  refine lv_aload_n hx hb dX5_addAct_4 rfl (lv_at hl 0 rfl) ?_
  refine va_get (D := D) (ci := 4) (v := .int t_acts) (C := RX5) (T := TX5) (N := 5) hx hb hts wX5_addAct_X5 hown hK.1 hP 0 rfl rfl 2 (by decide) (hts _ mX5_addAct_f25) (fun _ h9 => h9) rfl dX5_addAct_5 ?_
  refine lv_iload_n hx hb dX5_addAct_8 rfl (lv_at hl 1 rfl) ?_
  obtain ⟨hin, hf⟩ := gIn_some hf
  refine va_iast hx hb hK.1 hP hD hS 2 0 rfl rfl hin dX5_addAct_9 (fun H locs hP hD hS => ?_)
  have hP : va_P D vwCl [(A_t, .inr (4, [.int t_size, .ref A_t_signs, .int t_acts, .ref A_t_actMonks, .ref A_t_actSigns])), (A_t_signs, .inl (ty.1, 60, .inl t_signs)), (A_t_actMonks, .inl (ty.1, 60, .inl (upd t_actMonks (t_acts : Int32).toNatClampNeg a1))), (A_t_actSigns, .inl (ty.1, 60, .inl t_actSigns))] H := hP
  have hD : va_D (va_A WC s.heap.size) [(A_t, .inr (4, [.int t_size, .ref A_t_signs, .int t_acts, .ref A_t_actMonks, .ref A_t_actSigns])), (A_t_signs, .inl (ty.1, 60, .inl t_signs)), (A_t_actMonks, .inl (ty.1, 60, .inl (upd t_actMonks (t_acts : Int32).toNatClampNeg a1))), (A_t_actSigns, .inl (ty.1, 60, .inl t_actSigns))] := hD
  refine lv_aload_n hx hb dX5_addAct_10 rfl (lv_at hl 0 rfl) ?_
  refine va_get (D := D) (ci := 4) (v := .ref A_t_actSigns) (C := RX5) (T := TX5) (N := 5) hx hb hts wX5_addAct_X5 hown hK.1 hP 0 rfl rfl 4 (by decide) (hts _ mX5_addAct_f18) (fun _ h9 => h9) rfl dX5_addAct_11 ?_
  refine lv_aload_n hx hb dX5_addAct_14 rfl (lv_at hl 0 rfl) ?_
  refine va_get (D := D) (ci := 4) (v := .int t_acts) (C := RX5) (T := TX5) (N := 5) hx hb hts wX5_addAct_X5 hown hK.1 hP 0 rfl rfl 2 (by decide) (hts _ mX5_addAct_f25) (fun _ h9 => h9) rfl dX5_addAct_15 ?_
  refine lv_iload_n hx hb dX5_addAct_18 rfl (lv_at hl 2 rfl) ?_
  obtain ⟨hin, hf⟩ := gIn_some hf
  refine va_iast hx hb hK.1 hP hD hS 3 0 rfl rfl hin dX5_addAct_19 (fun H locs hP hD hS => ?_)
  have hP : va_P D vwCl [(A_t, .inr (4, [.int t_size, .ref A_t_signs, .int t_acts, .ref A_t_actMonks, .ref A_t_actSigns])), (A_t_signs, .inl (ty.1, 60, .inl t_signs)), (A_t_actMonks, .inl (ty.1, 60, .inl (upd t_actMonks (t_acts : Int32).toNatClampNeg a1))), (A_t_actSigns, .inl (ty.1, 60, .inl (upd t_actSigns (t_acts : Int32).toNatClampNeg a2)))] H := hP
  have hD : va_D (va_A WC s.heap.size) [(A_t, .inr (4, [.int t_size, .ref A_t_signs, .int t_acts, .ref A_t_actMonks, .ref A_t_actSigns])), (A_t_signs, .inl (ty.1, 60, .inl t_signs)), (A_t_actMonks, .inl (ty.1, 60, .inl (upd t_actMonks (t_acts : Int32).toNatClampNeg a1))), (A_t_actSigns, .inl (ty.1, 60, .inl (upd t_actSigns (t_acts : Int32).toNatClampNeg a2)))] := hD
  refine lv_aload_n hx hb dX5_addAct_20 rfl (lv_at hl 0 rfl) ?_
  refine lv_dup hx hb dX5_addAct_21 rfl ?_
  refine va_get (D := D) (ci := 4) (v := .int t_acts) (C := RX5) (T := TX5) (N := 5) hx hb hts wX5_addAct_X5 hown hK.1 hP 0 rfl rfl 2 (by decide) (hts _ mX5_addAct_f25) (fun _ h9 => h9) rfl dX5_addAct_22 ?_
  refine lv_iconst (v := 1) hx hb dX5_addAct_25 (by decide) ?_
  refine lv_iadd hx hb dX5_addAct_26 ?_
  refine va_put (D := D) (ci := 4) (v := .int (t_acts + 1)) (ty := .int) (C := RX5) (T := TX5) (N := 5) hx hb hts wX5_addAct_X5 tyX5 tyX5_ok nmX5 hown hK.1 hP hD hS 0 rfl rfl 2 (by decide) (hts _ mX5_addAct_f25) (fun _ h9 => h9) rfl (by decide +kernel) rfl rfl (Nat.le_of_ble_eq_true rfl) dX5_addAct_27 (fun H locs hP hD hS => ?_)
  have hP : va_P D vwCl [(A_t, .inr (4, [.int t_size, .ref A_t_signs, .int (t_acts + 1), .ref A_t_actMonks, .ref A_t_actSigns])), (A_t_signs, .inl (ty.1, 60, .inl t_signs)), (A_t_actMonks, .inl (ty.1, 60, .inl (upd t_actMonks (t_acts : Int32).toNatClampNeg a1))), (A_t_actSigns, .inl (ty.1, 60, .inl (upd t_actSigns (t_acts : Int32).toNatClampNeg a2)))] H := hP
  have hD : va_D (va_A WC s.heap.size) [(A_t, .inr (4, [.int t_size, .ref A_t_signs, .int (t_acts + 1), .ref A_t_actMonks, .ref A_t_actSigns])), (A_t_signs, .inl (ty.1, 60, .inl t_signs)), (A_t_actMonks, .inl (ty.1, 60, .inl (upd t_actMonks (t_acts : Int32).toNatClampNeg a1))), (A_t_actSigns, .inl (ty.1, 60, .inl (upd t_actSigns (t_acts : Int32).toNatClampNeg a2)))] := hD
  cases hf
  exact ret_wv hx hb hr hlocks hP hD hS dX5_addAct_30
/-! ===== SilenceCount.isMonk(I)Z ===== -/
abbrev rmX9_isMonk : Room := { frames := 0, cells := 0, slots := 0, locals := 0 }
theorem kkX9_isMonk : yX9_isMonk.cls = RX9 ∧ yX9_isMonk.cls ≠ "java/lang/invoke/MethodHandle" ∧ yX9_isMonk.cls ≠ "java/lang/invoke/VarHandle" ∧ (parseMethodDescriptor yX9_isMonk.desc).map (fun d => d.parameters.length) = some 1 := by decide +kernel
def fX9_isMonk (a0 : Int32) : Option (Int32) :=
  if a0 < 0 then some 0 else if 8 ≤ a0 then some 0 else some 1
set_option maxRecDepth 100000 in
set_option maxHeartbeats 4000000 in
theorem CX9_isMonk (l : Launch) {D : va_G} {ty : TY} {a0 : Int32} {q0 : Int32} (hf : fX9_isMonk a0 = some q0) : ROi l yX9_isMonk wsX9_isMonk rmX9_isMonk D ty [.int a0] [] q0 := by
  refine ROi.start (cc := cX9_isMonk) (maxL := 1) (ret := (some .boolean)) (own := RX9) (by decide) rfl rfl (Nat.le_of_ble_eq_true rfl) ?_
  intro p e s m below meth c ls C hK hP hl
  obtain ⟨hx, hb, hr, hml, hown, hts, hlocks⟩ := id C
  have hl : lv_has ls 1 [(0, .int a0)] := hl
  unfold fX9_isMonk at hf
  refine lv_iload_n hx hb dX9_isMonk_0 rfl (lv_at hl 0 rfl) ?_
  refine lv_if_lt (tgt := 14) hx hb dX9_isMonk_1 (by decide) (fun hc => ?_) (fun hc => ?_)
  · have hf := ft hf hc
    refine lv_iconst (v := 0) hx hb dX9_isMonk_14 (by decide) ?_
    exact ret_rz hx hb hr hlocks (Or.inl rfl) hf dX9_isMonk_15
  · have hf := ff hf hc
    refine lv_iload_n hx hb dX9_isMonk_4 rfl (lv_at hl 0 rfl) ?_
    refine lv_bipush (v := 8) hx hb dX9_isMonk_5 (by decide) ?_
    refine lv_icmp_ge (tgt := 14) hx hb dX9_isMonk_7 (by decide) (fun hc => ?_) (fun hc => ?_)
    · have hf := ft hf hc
      refine lv_iconst (v := 0) hx hb dX9_isMonk_14 (by decide) ?_
      exact ret_rz hx hb hr hlocks (Or.inl rfl) hf dX9_isMonk_15
    · have hf := ff hf hc
      refine lv_iconst (v := 1) hx hb dX9_isMonk_10 (by decide) ?_
      refine lv_goto (tgt := 15) hx hb dX9_isMonk_11 (by decide) ?_
      exact ret_rz hx hb hr hlocks (Or.inr rfl) hf dX9_isMonk_15
/-! ===== SilenceCount$Pad.isLetter(I)Z ===== -/
abbrev rmX5_isLetter : Room := { frames := 1, cells := 0, slots := 0, locals := 20 }
theorem kkX5_isLetter : yX5_isLetter.cls = RX5 ∧ yX5_isLetter.cls ≠ "java/lang/invoke/MethodHandle" ∧ yX5_isLetter.cls ≠ "java/lang/invoke/VarHandle" ∧ (parseMethodDescriptor yX5_isLetter.desc).map (fun d => d.parameters.length) = some 1 := by decide +kernel
theorem mX5_isLetter_iX9 : Cond.initialized RX9 ∈ wsX5_isLetter := by decide +kernel
theorem mX5_isLetter_sX9_isMonk : Cond.static yX9_isMonk ∈ wsX5_isLetter := by decide +kernel
def fX5_isLetter (a0 : Int32) : Option (Int32) :=
  (fX9_isMonk (a0 - 65)).bind fun r4 => gB r4 (some r4)
set_option maxRecDepth 100000 in
set_option maxHeartbeats 4000000 in
theorem CX5_isLetter (l : Launch) {D : va_G} {ty : TY} {a0 : Int32} {q0 : Int32} (hf : fX5_isLetter a0 = some q0) : ROi l yX5_isLetter wsX5_isLetter rmX5_isLetter D ty [.int a0] [] q0 := by
  refine ROi.start (cc := cX5_isLetter) (maxL := 1) (ret := (some .boolean)) (own := RX5) (by decide) rfl rfl (Nat.le_of_ble_eq_true rfl) ?_
  intro p e s m below meth c ls C hK hP hl
  obtain ⟨hx, hb, hr, hml, hown, hts, hlocks⟩ := id C
  have hl : lv_has ls 1 [(0, .int a0)] := hl
  unfold fX5_isLetter at hf
  refine lv_iload_n hx hb dX5_isLetter_0 rfl (lv_at hl 0 rfl) ?_
  refine lv_bipush (v := 65) hx hb dX5_isLetter_1 (by decide) ?_
  refine lv_isub hx hb dX5_isLetter_3 ?_
  obtain ⟨r4, hr4, hf⟩ := bnd hf
  refine callN_ri (As := [.int (a0 - 65)]) (rest := []) ⟨hx, hb, hml, hown, hts⟩ (CX9_isMonk l hr4) ⟨va_cnB 1 hts ggX5_isLetter_X9_isMonk rfl rfl rfl (hK.2.1 ("SilenceCount$Pad", 42, yX9_isMonk, "SilenceCount") (by decide +kernel)) (hts _ mX5_isLetter_iX9) kkX9_isMonk.2 ⟨Nat.le_of_ble_eq_true rfl, Nat.le_of_ble_eq_true rfl⟩, hts _ mX5_isLetter_sX9_isMonk, trivial⟩ hK hP hl.1 rfl (Nat.le_of_ble_eq_true rfl) dX5_isLetter_4 ⟨Nat.zero_le _, Nat.zero_le _⟩ ?_
  obtain ⟨hbv, hf⟩ := gB_some hf
  exact ret_rz hx hb hr hlocks hbv hf dX5_isLetter_7
/-! ===== SilenceCount$Pad.isSecond(I)Z ===== -/
abbrev rmX5_isSecond : Room := { frames := 2, cells := 0, slots := 0, locals := 40 }
theorem kkX5_isSecond : yX5_isSecond.cls = RX5 ∧ yX5_isSecond.cls ≠ "java/lang/invoke/MethodHandle" ∧ yX5_isSecond.cls ≠ "java/lang/invoke/VarHandle" ∧ (parseMethodDescriptor yX5_isSecond.desc).map (fun d => d.parameters.length) = some 1 := by decide +kernel
def fX5_isSecond (a0 : Int32) : Option (Int32) :=
  (fX5_isLetter a0).bind fun r1 => if r1 = 0 then if a0 = 119 then some 1 else if a0 = 107 then some 1 else if a0 = 101 then some 1 else some 0 else some 1
set_option maxRecDepth 100000 in
set_option maxHeartbeats 4000000 in
theorem CX5_isSecond (l : Launch) {D : va_G} {ty : TY} {a0 : Int32} {q0 : Int32} (hf : fX5_isSecond a0 = some q0) : ROi l yX5_isSecond wsX5_isSecond rmX5_isSecond D ty [.int a0] [] q0 := by
  refine ROi.start (cc := cX5_isSecond) (maxL := 1) (ret := (some .boolean)) (own := RX5) (by decide) rfl rfl (Nat.le_of_ble_eq_true rfl) ?_
  intro p e s m below meth c ls C hK hP hl
  obtain ⟨hx, hb, hr, hml, hown, hts, hlocks⟩ := id C
  have hl : lv_has ls 1 [(0, .int a0)] := hl
  unfold fX5_isSecond at hf
  refine lv_iload_n hx hb dX5_isSecond_0 rfl (lv_at hl 0 rfl) ?_
  obtain ⟨r1, hr1, hf⟩ := bnd hf
  refine callS_ri (As := [.int a0]) (rest := []) ⟨hx, hb, hml, hown, hts⟩ (CX5_isLetter l hr1) (va_cwS 1 hts gX5_isSecond_X5_isLetter rfl rfl rfl kkX5_isLetter.2 ⟨Nat.le_of_ble_eq_true rfl, Nat.le_of_ble_eq_true rfl⟩) hK hP hl.1 rfl (Nat.le_of_ble_eq_true rfl) dX5_isSecond_1 ⟨Nat.zero_le _, Nat.zero_le _⟩ ?_
  refine lv_if_ne (tgt := 25) hx hb dX5_isSecond_4 (by decide) (fun hc => ?_) (fun hc => ?_)
  · have hf := ff hf hc
    refine lv_iconst (v := 1) hx hb dX5_isSecond_25 (by decide) ?_
    refine lv_goto (tgt := 30) hx hb dX5_isSecond_26 (by decide) ?_
    exact ret_rz hx hb hr hlocks (Or.inr rfl) hf dX5_isSecond_30
  · have hf := ft hf hc
    refine lv_iload_n hx hb dX5_isSecond_7 rfl (lv_at hl 0 rfl) ?_
    refine lv_bipush (v := 119) hx hb dX5_isSecond_8 (by decide) ?_
    refine lv_icmp_eq (tgt := 25) hx hb dX5_isSecond_10 (by decide) (fun hc => ?_) (fun hc => ?_)
    · have hf := ft hf hc
      refine lv_iconst (v := 1) hx hb dX5_isSecond_25 (by decide) ?_
      refine lv_goto (tgt := 30) hx hb dX5_isSecond_26 (by decide) ?_
      exact ret_rz hx hb hr hlocks (Or.inr rfl) hf dX5_isSecond_30
    · have hf := ff hf hc
      refine lv_iload_n hx hb dX5_isSecond_13 rfl (lv_at hl 0 rfl) ?_
      refine lv_bipush (v := 107) hx hb dX5_isSecond_14 (by decide) ?_
      refine lv_icmp_eq (tgt := 25) hx hb dX5_isSecond_16 (by decide) (fun hc => ?_) (fun hc => ?_)
      · have hf := ft hf hc
        refine lv_iconst (v := 1) hx hb dX5_isSecond_25 (by decide) ?_
        refine lv_goto (tgt := 30) hx hb dX5_isSecond_26 (by decide) ?_
        exact ret_rz hx hb hr hlocks (Or.inr rfl) hf dX5_isSecond_30
      · have hf := ff hf hc
        refine lv_iload_n hx hb dX5_isSecond_19 rfl (lv_at hl 0 rfl) ?_
        refine lv_bipush (v := 101) hx hb dX5_isSecond_20 (by decide) ?_
        refine lv_icmp_ne (tgt := 29) hx hb dX5_isSecond_22 (by decide) (fun hc => ?_) (fun hc => ?_)
        · have hf := ff hf hc
          refine lv_iconst (v := 0) hx hb dX5_isSecond_29 (by decide) ?_
          exact ret_rz hx hb hr hlocks (Or.inl rfl) hf dX5_isSecond_30
        · have hf := ft hf hc
          refine lv_iconst (v := 1) hx hb dX5_isSecond_25 (by decide) ?_
          refine lv_goto (tgt := 30) hx hb dX5_isSecond_26 (by decide) ?_
          exact ret_rz hx hb hr hlocks (Or.inr rfl) hf dX5_isSecond_30
/-! ===== SilenceCount$Pad.readActs()I ===== -/
abbrev rmX5_readActs : Room := { frames := 3, cells := 0, slots := 0, locals := 60 }
theorem kkX5_readActs : yX5_readActs.cls = RX5 ∧ yX5_readActs.cls ≠ "java/lang/invoke/MethodHandle" ∧ yX5_readActs.cls ≠ "java/lang/invoke/VarHandle" ∧ (parseMethodDescriptor yX5_readActs.desc).map (fun d => d.parameters.length) = some 0 := by decide +kernel
theorem mX5_readActs_f21 : Cond.fieldLink RX5 21 "SilenceCount$Pad" "size" "I" ∈ wsX5_readActs := by decide +kernel
theorem mX5_readActs_f11 : Cond.fieldLink RX5 11 "SilenceCount$Pad" "signs" "[I" ∈ wsX5_readActs := by decide +kernel
theorem mX5_readActs_f25 : Cond.fieldLink RX5 25 "SilenceCount$Pad" "acts" "I" ∈ wsX5_readActs := by decide +kernel
theorem wX5_readActs_X5 : ∀ w ∈ u_ws RX5 TX5 5, w ∈ wsX5_readActs := by decide +kernel
def bX5_readActs_7 (k7 : Int32 × Int32 × (Nat → Int32) × (Nat → Int32) → Option (Int32 × Int32 × (Nat → Int32) × (Nat → Int32))) (t_size : Int32) (t_signs : Nat → Int32) (v1 : Int32) (t_acts : Int32) (t_actMonks : Nat → Int32) (t_actSigns : Nat → Int32) : Option (Int32 × Int32 × (Nat → Int32) × (Nat → Int32)) :=
  if t_size ≤ v1 then some ((-6), t_acts, t_actMonks, t_actSigns) else gIn v1 60 ((fX5_isWhole (t_signs (v1 : Int32).toNatClampNeg)).bind fun r23 => if r23 = 0 then (fX5_isLetter (t_signs (v1 : Int32).toNatClampNeg)).bind fun r39 => if r39 = 0 then some (v1, t_acts, t_actMonks, t_actSigns) else if t_size ≤ (v1 + 1) then some (v1 + 1, t_acts, t_actMonks, t_actSigns) else gIn (v1 + 1) 60 ((fX5_isSecond (t_signs (v1 + 1 : Int32).toNatClampNeg)).bind fun r64 => if r64 = 0 then some (v1 + 1, t_acts, t_actMonks, t_actSigns) else gIn (v1 + 1) 60 ((fX5_addAct t_acts t_actMonks t_actSigns ((t_signs (v1 : Int32).toNatClampNeg) - 65) (t_signs (v1 + 1 : Int32).toNatClampNeg)).bind fun r83 => k7 ((v1 + 1) + 1, r83.1, r83.2.1, r83.2.2))) else (fX5_addAct t_acts t_actMonks t_actSigns (-1) (t_signs (v1 : Int32).toNatClampNeg)).bind fun r32 => k7 (v1 + 1, r32.1, r32.2.1, r32.2.2))
set_option maxRecDepth 100000 in
set_option maxHeartbeats 4000000 in
theorem BX5_readActs_7 {p : Program} {l : Launch} {e : Env} {s : State} {m : MethodId} {below : List Frame} {meth : Method} {c : Code} {D : va_G} {ty : TY} {A_t A_t_signs A_t_actMonks A_t_actSigns : Nat} {t_size : Int32} {t_signs : Nat → Int32} {q0 : Int32 × Int32 × (Nat → Int32) × (Nat → Int32)} {WC : va_W} (C : cx p s m [.ref A_t] meth c cX5_readActs 3 (some .int) RX5 wsX5_readActs) (hK : KK D ty s)   : ∀ (n : Nat) (v1 : Int32) (t_acts : Int32) (t_actMonks : Nat → Int32) (t_actSigns : Nat → Int32) (H : Heap) (locs : List Loc) (ls : Array Slot), va_P D vwCl [(A_t, .inr (4, [.int t_size, .ref A_t_signs, .int t_acts, .ref A_t_actMonks, .ref A_t_actSigns])), (A_t_signs, .inl (ty.1, 60, .inl t_signs)), (A_t_actMonks, .inl (ty.1, 60, .inl t_actMonks)), (A_t_actSigns, .inl (ty.1, 60, .inl t_actSigns))] H → va_D (va_A WC s.heap.size) [(A_t, .inr (4, [.int t_size, .ref A_t_signs, .int t_acts, .ref A_t_actMonks, .ref A_t_actSigns])), (A_t_signs, .inl (ty.1, 60, .inl t_signs)), (A_t_actMonks, .inl (ty.1, 60, .inl t_actMonks)), (A_t_actSigns, .inl (ty.1, 60, .inl t_actSigns))] → va_S (va_A WC s.heap.size) s.heap H locs → lv_has ls 3 [(0, .ref A_t), (1, .int v1)] → loopF (fun k q => bX5_readActs_7 k t_size t_signs q.1 q.2.1 q.2.2.1 q.2.2.2) n (v1, t_acts, t_actMonks, t_actSigns) = some q0 → WWi p l e rmX5_readActs s m [.ref A_t] below meth c D WC [(A_t, .inr (4, [.int t_size, .ref A_t_signs, .int q0.2.1, .ref A_t_actMonks, .ref A_t_actSigns])), (A_t_signs, .inl (ty.1, 60, .inl t_signs)), (A_t_actMonks, .inl (ty.1, 60, .inl q0.2.2.1)), (A_t_actSigns, .inl (ty.1, 60, .inl q0.2.2.2))] q0.1 H locs (F0 m 7 ls []) := by
  obtain ⟨hx, hb, hr, hml, hown, hts, hlocks⟩ := id C
  intro n
  induction n with
  | zero =>
    intro v1 t_acts t_actMonks t_actSigns H locs ls hP hD hS hl hf
    cases hf
  | succ n ih =>
    intro v1 t_acts t_actMonks t_actSigns H locs ls hP hD hS hl hf
    have hf : bX5_readActs_7 (loopF (fun k q => bX5_readActs_7 k t_size t_signs q.1 q.2.1 q.2.2.1 q.2.2.2) n) t_size t_signs v1 t_acts t_actMonks t_actSigns = some q0 := hf
    have hk7 := ih
    unfold bX5_readActs_7 at hf
    refine lv_iload_n hx hb dX5_readActs_7 rfl (lv_at hl 1 rfl) ?_
    refine lv_aload_n hx hb dX5_readActs_8 rfl (lv_at hl 0 rfl) ?_
    refine va_get (D := D) (ci := 4) (v := .int t_size) (C := RX5) (T := TX5) (N := 5) hx hb hts wX5_readActs_X5 hown hK.1 hP 0 rfl rfl 0 (by decide) (hts _ mX5_readActs_f21) (fun _ h9 => h9) rfl dX5_readActs_9 ?_
    refine lv_icmp_ge (tgt := 92) hx hb dX5_readActs_12 (by decide) (fun hc => ?_) (fun hc => ?_)
    · have hf := ft hf hc
      refine lv_bipush (v := (-6)) hx hb dX5_readActs_92 (by decide) ?_
      cases hf
      exact ret_wi hx hb hr hlocks hP hD hS dX5_readActs_94
    · have hf := ff hf hc
      refine lv_aload_n hx hb dX5_readActs_15 rfl (lv_at hl 0 rfl) ?_
      refine va_get (D := D) (ci := 4) (v := .ref A_t_signs) (C := RX5) (T := TX5) (N := 5) hx hb hts wX5_readActs_X5 hown hK.1 hP 0 rfl rfl 1 (by decide) (hts _ mX5_readActs_f11) (fun _ h9 => h9) rfl dX5_readActs_16 ?_
      refine lv_iload_n hx hb dX5_readActs_19 rfl (lv_at hl 1 rfl) ?_
      obtain ⟨hin, hf⟩ := gIn_some hf
      refine va_iald hx hb hK.1 hP 1 0 rfl rfl hin dX5_readActs_20 ?_
      refine lv_istore_n (lv' := [(2, .int (t_signs (v1 : Int32).toNatClampNeg)), (0, .ref A_t), (1, .int v1)]) hx hb dX5_readActs_21 rfl hl (by decide) rfl (fun ls hl => ?_)
      refine lv_iload_n hx hb dX5_readActs_22 rfl (lv_at hl 0 rfl) ?_
      obtain ⟨r23, hr23, hf⟩ := bnd hf
      have hPc : va_P D vwCl [] _ := hP.sub [] rfl
      refine callS_ri (As := [.int (t_signs (v1 : Int32).toNatClampNeg)]) (rest := []) ⟨hx, hb, hml, hown, hts⟩ (CX5_isWhole l hr23) (va_cwS 1 hts gX5_readActs_X5_isWhole rfl rfl rfl kkX5_isWhole.2 ⟨Nat.le_of_ble_eq_true rfl, Nat.le_of_ble_eq_true rfl⟩) hK hPc hl.1 rfl (Nat.le_of_ble_eq_true rfl) dX5_readActs_23 ⟨Nat.zero_le _, Nat.zero_le _⟩ ?_
      refine lv_if_eq (tgt := 38) hx hb dX5_readActs_26 (by decide) (fun hc => ?_) (fun hc => ?_)
      · have hf := ft hf hc
        refine lv_iload_n hx hb dX5_readActs_38 rfl (lv_at hl 0 rfl) ?_
        obtain ⟨r39, hr39, hf⟩ := bnd hf
        have hPc : va_P D vwCl [] _ := hP.sub [] rfl
        refine callS_ri (As := [.int (t_signs (v1 : Int32).toNatClampNeg)]) (rest := []) ⟨hx, hb, hml, hown, hts⟩ (CX5_isLetter l hr39) (va_cwS 1 hts gX5_readActs_X5_isLetter rfl rfl rfl kkX5_isLetter.2 ⟨Nat.le_of_ble_eq_true rfl, Nat.le_of_ble_eq_true rfl⟩) hK hPc hl.1 rfl (Nat.le_of_ble_eq_true rfl) dX5_readActs_39 ⟨Nat.zero_le _, Nat.zero_le _⟩ ?_
        refine lv_if_ne (tgt := 47) hx hb dX5_readActs_42 (by decide) (fun hc => ?_) (fun hc => ?_)
        · have hf := ff hf hc
          refine lv_iinc (v := v1 + 1) (lv' := [(1, .int (v1 + 1)), (2, .int (t_signs (v1 : Int32).toNatClampNeg)), (0, .ref A_t)]) hx hb dX5_readActs_47 hl (k := 2) rfl rfl (by decide) rfl (fun ls hl => ?_)
          refine lv_iload_n hx hb dX5_readActs_50 rfl (lv_at hl 0 rfl) ?_
          refine lv_aload_n hx hb dX5_readActs_51 rfl (lv_at hl 2 rfl) ?_
          refine va_get (D := D) (ci := 4) (v := .int t_size) (C := RX5) (T := TX5) (N := 5) hx hb hts wX5_readActs_X5 hown hK.1 hP 0 rfl rfl 0 (by decide) (hts _ mX5_readActs_f21) (fun _ h9 => h9) rfl dX5_readActs_52 ?_
          refine lv_icmp_ge (tgt := 70) hx hb dX5_readActs_55 (by decide) (fun hc => ?_) (fun hc => ?_)
          · have hf := ft hf hc
            refine lv_iload_n hx hb dX5_readActs_70 rfl (lv_at hl 0 rfl) ?_
            cases hf
            exact ret_wi hx hb hr hlocks hP hD hS dX5_readActs_71
          · have hf := ff hf hc
            refine lv_aload_n hx hb dX5_readActs_58 rfl (lv_at hl 2 rfl) ?_
            refine va_get (D := D) (ci := 4) (v := .ref A_t_signs) (C := RX5) (T := TX5) (N := 5) hx hb hts wX5_readActs_X5 hown hK.1 hP 0 rfl rfl 1 (by decide) (hts _ mX5_readActs_f11) (fun _ h9 => h9) rfl dX5_readActs_59 ?_
            refine lv_iload_n hx hb dX5_readActs_62 rfl (lv_at hl 0 rfl) ?_
            obtain ⟨hin, hf⟩ := gIn_some hf
            refine va_iald hx hb hK.1 hP 1 0 rfl rfl hin dX5_readActs_63 ?_
            obtain ⟨r64, hr64, hf⟩ := bnd hf
            have hPc : va_P D vwCl [] _ := hP.sub [] rfl
            refine callS_ri (As := [.int (t_signs (v1 + 1 : Int32).toNatClampNeg)]) (rest := []) ⟨hx, hb, hml, hown, hts⟩ (CX5_isSecond l hr64) (va_cwS 1 hts gX5_readActs_X5_isSecond rfl rfl rfl kkX5_isSecond.2 ⟨Nat.le_of_ble_eq_true rfl, Nat.le_of_ble_eq_true rfl⟩) hK hPc hl.1 rfl (Nat.le_of_ble_eq_true rfl) dX5_readActs_64 ⟨Nat.zero_le _, Nat.zero_le _⟩ ?_
            refine lv_if_ne (tgt := 72) hx hb dX5_readActs_67 (by decide) (fun hc => ?_) (fun hc => ?_)
            · have hf := ff hf hc
              refine lv_aload_n hx hb dX5_readActs_72 rfl (lv_at hl 2 rfl) ?_
              refine lv_iload_n hx hb dX5_readActs_73 rfl (lv_at hl 1 rfl) ?_
              refine lv_bipush (v := 65) hx hb dX5_readActs_74 (by decide) ?_
              refine lv_isub hx hb dX5_readActs_76 ?_
              refine lv_aload_n hx hb dX5_readActs_77 rfl (lv_at hl 2 rfl) ?_
              refine va_get (D := D) (ci := 4) (v := .ref A_t_signs) (C := RX5) (T := TX5) (N := 5) hx hb hts wX5_readActs_X5 hown hK.1 hP 0 rfl rfl 1 (by decide) (hts _ mX5_readActs_f11) (fun _ h9 => h9) rfl dX5_readActs_78 ?_
              refine lv_iload_n hx hb dX5_readActs_81 rfl (lv_at hl 0 rfl) ?_
              obtain ⟨hin, hf⟩ := gIn_some hf
              refine va_iald hx hb hK.1 hP 1 0 rfl rfl hin dX5_readActs_82 ?_
              obtain ⟨r83, hr83, hf⟩ := bnd hf
              refine callV_wv (As := [.int ((t_signs (v1 : Int32).toNatClampNeg) - 65), .int (t_signs (v1 + 1 : Int32).toNatClampNeg)]) (rest := []) ⟨hx, hb, hml, hown, hts⟩ (CX5_addAct l hr83) (cwV 2 hts gX5_readActs_X5_addAct rfl rfl rfl kkX5_addAct ⟨Nat.le_of_ble_eq_true rfl, Nat.le_of_ble_eq_true rfl⟩) hK hP hD hS (fun _ h => Or.inr h) [0, 1, 2, 3] [] [0, 1, 2, 3] rfl (by decide) (by decide) rfl rfl 0 rfl rfl rfl hl.1 rfl (Nat.le_of_ble_eq_true rfl) dX5_readActs_83 ⟨Nat.zero_le _, Nat.zero_le _⟩ (fun H locs hP hD hS => ?_)
              have hP : va_P D vwCl [(A_t, .inr (4, [.int t_size, .ref A_t_signs, .int r83.1, .ref A_t_actMonks, .ref A_t_actSigns])), (A_t_signs, .inl (ty.1, 60, .inl t_signs)), (A_t_actMonks, .inl (ty.1, 60, .inl r83.2.1)), (A_t_actSigns, .inl (ty.1, 60, .inl r83.2.2))] H := hP
              have hD : va_D (va_A WC s.heap.size) [(A_t, .inr (4, [.int t_size, .ref A_t_signs, .int r83.1, .ref A_t_actMonks, .ref A_t_actSigns])), (A_t_signs, .inl (ty.1, 60, .inl t_signs)), (A_t_actMonks, .inl (ty.1, 60, .inl r83.2.1)), (A_t_actSigns, .inl (ty.1, 60, .inl r83.2.2))] := hD
              refine lv_iinc (v := (v1 + 1) + 1) (lv' := [(1, .int ((v1 + 1) + 1)), (2, .int (t_signs (v1 : Int32).toNatClampNeg)), (0, .ref A_t)]) hx hb dX5_readActs_86 hl (k := 0) rfl rfl (by decide) rfl (fun ls hl => ?_)
              refine lv_goto (tgt := 7) hx hb dX5_readActs_89 (by decide) ?_
              exact hk7 _ _ _ _ _ _ _ hP hD hS (lv_sub hl [2, 0] rfl) hf
            · have hf := ft hf hc
              refine lv_iload_n hx hb dX5_readActs_70 rfl (lv_at hl 0 rfl) ?_
              cases hf
              exact ret_wi hx hb hr hlocks hP hD hS dX5_readActs_71
        · have hf := ft hf hc
          refine lv_iload_n hx hb dX5_readActs_45 rfl (lv_at hl 2 rfl) ?_
          cases hf
          exact ret_wi hx hb hr hlocks hP hD hS dX5_readActs_46
      · have hf := ff hf hc
        refine lv_aload_n hx hb dX5_readActs_29 rfl (lv_at hl 1 rfl) ?_
        refine lv_iconst (v := (-1)) hx hb dX5_readActs_30 (by decide) ?_
        refine lv_iload_n hx hb dX5_readActs_31 rfl (lv_at hl 0 rfl) ?_
        obtain ⟨r32, hr32, hf⟩ := bnd hf
        refine callV_wv (As := [.int (-1), .int (t_signs (v1 : Int32).toNatClampNeg)]) (rest := []) ⟨hx, hb, hml, hown, hts⟩ (CX5_addAct l hr32) (cwV 2 hts gX5_readActs_X5_addAct rfl rfl rfl kkX5_addAct ⟨Nat.le_of_ble_eq_true rfl, Nat.le_of_ble_eq_true rfl⟩) hK hP hD hS (fun _ h => Or.inr h) [0, 1, 2, 3] [] [0, 1, 2, 3] rfl (by decide) (by decide) rfl rfl 0 rfl rfl rfl hl.1 rfl (Nat.le_of_ble_eq_true rfl) dX5_readActs_32 ⟨Nat.zero_le _, Nat.zero_le _⟩ (fun H locs hP hD hS => ?_)
        have hP : va_P D vwCl [(A_t, .inr (4, [.int t_size, .ref A_t_signs, .int r32.1, .ref A_t_actMonks, .ref A_t_actSigns])), (A_t_signs, .inl (ty.1, 60, .inl t_signs)), (A_t_actMonks, .inl (ty.1, 60, .inl r32.2.1)), (A_t_actSigns, .inl (ty.1, 60, .inl r32.2.2))] H := hP
        have hD : va_D (va_A WC s.heap.size) [(A_t, .inr (4, [.int t_size, .ref A_t_signs, .int r32.1, .ref A_t_actMonks, .ref A_t_actSigns])), (A_t_signs, .inl (ty.1, 60, .inl t_signs)), (A_t_actMonks, .inl (ty.1, 60, .inl r32.2.1)), (A_t_actSigns, .inl (ty.1, 60, .inl r32.2.2))] := hD
        refine lv_goto (tgt := 86) hx hb dX5_readActs_35 (by decide) ?_
        refine lv_iinc (v := v1 + 1) (lv' := [(1, .int (v1 + 1)), (2, .int (t_signs (v1 : Int32).toNatClampNeg)), (0, .ref A_t)]) hx hb dX5_readActs_86 hl (k := 2) rfl rfl (by decide) rfl (fun ls hl => ?_)
        refine lv_goto (tgt := 7) hx hb dX5_readActs_89 (by decide) ?_
        exact hk7 _ _ _ _ _ _ _ hP hD hS (lv_sub hl [2, 0] rfl) hf
def fX5_readActs (t_size : Int32) (t_acts : Int32) (t_signs : Nat → Int32) (t_actMonks : Nat → Int32) (t_actSigns : Nat → Int32) : Option (Int32 × Int32 × (Nat → Int32) × (Nat → Int32)) :=
  loopF (fun k q => bX5_readActs_7 k t_size t_signs q.1 q.2.1 q.2.2.1 q.2.2.2) FU (0, 0, t_actMonks, t_actSigns)
set_option maxRecDepth 100000 in
set_option maxHeartbeats 4000000 in
theorem CX5_readActs (l : Launch) {D : va_G} {ty : TY} {A_t A_t_signs A_t_actMonks A_t_actSigns : Nat} {t_size : Int32} {t_acts : Int32} {t_signs : Nat → Int32} {t_actMonks : Nat → Int32} {t_actSigns : Nat → Int32} {q0 : Int32 × Int32 × (Nat → Int32) × (Nat → Int32)} (hf : fX5_readActs t_size t_acts t_signs t_actMonks t_actSigns = some q0) : RWi l yX5_readActs wsX5_readActs rmX5_readActs D ty [.ref A_t] [(A_t, .inr (4, [.int t_size, .ref A_t_signs, .int t_acts, .ref A_t_actMonks, .ref A_t_actSigns])), (A_t_signs, .inl (ty.1, 60, .inl t_signs)), (A_t_actMonks, .inl (ty.1, 60, .inl t_actMonks)), (A_t_actSigns, .inl (ty.1, 60, .inl t_actSigns))] q0.1 [(A_t, .inr (4, [.int t_size, .ref A_t_signs, .int q0.2.1, .ref A_t_actMonks, .ref A_t_actSigns])), (A_t_signs, .inl (ty.1, 60, .inl t_signs)), (A_t_actMonks, .inl (ty.1, 60, .inl q0.2.2.1)), (A_t_actSigns, .inl (ty.1, 60, .inl q0.2.2.2))] := by
  refine RWi.start (cc := cX5_readActs) (maxL := 3) (ret := (some .int)) (own := RX5) (by decide) rfl rfl (Nat.le_of_ble_eq_true rfl) ?_
  intro p e s m below meth c ls C hK hP hD hS hl
  obtain ⟨WC, hWC⟩ : ∃ w : va_W, w = [(A_t, .inr (4, [.int t_size, .ref A_t_signs, .int t_acts, .ref A_t_actMonks, .ref A_t_actSigns])), (A_t_signs, .inl (ty.1, 60, .inl t_signs)), (A_t_actMonks, .inl (ty.1, 60, .inl t_actMonks)), (A_t_actSigns, .inl (ty.1, 60, .inl t_actSigns))] := ⟨_, rfl⟩
  rw [← hWC] at hD hS ⊢
  have hD : va_D (va_A WC s.heap.size) [(A_t, .inr (4, [.int t_size, .ref A_t_signs, .int t_acts, .ref A_t_actMonks, .ref A_t_actSigns])), (A_t_signs, .inl (ty.1, 60, .inl t_signs)), (A_t_actMonks, .inl (ty.1, 60, .inl t_actMonks)), (A_t_actSigns, .inl (ty.1, 60, .inl t_actSigns))] := by rw [← hWC]; exact hD
  obtain ⟨hx, hb, hr, hml, hown, hts, hlocks⟩ := id C
  have hl : lv_has ls 3 [(0, .ref A_t)] := hl
  unfold fX5_readActs at hf
  refine lv_aload_n hx hb dX5_readActs_0 rfl (lv_at hl 0 rfl) ?_
  refine lv_iconst (v := 0) hx hb dX5_readActs_1 (by decide) ?_
  refine va_put (D := D) (ci := 4) (v := .int 0) (ty := .int) (C := RX5) (T := TX5) (N := 5) hx hb hts wX5_readActs_X5 tyX5 tyX5_ok nmX5 hown hK.1 hP hD hS 0 rfl rfl 2 (by decide) (hts _ mX5_readActs_f25) (fun _ h9 => h9) rfl (by decide +kernel) rfl rfl (Nat.le_of_ble_eq_true rfl) dX5_readActs_2 (fun H locs hP hD hS => ?_)
  have hP : va_P D vwCl [(A_t, .inr (4, [.int t_size, .ref A_t_signs, .int 0, .ref A_t_actMonks, .ref A_t_actSigns])), (A_t_signs, .inl (ty.1, 60, .inl t_signs)), (A_t_actMonks, .inl (ty.1, 60, .inl t_actMonks)), (A_t_actSigns, .inl (ty.1, 60, .inl t_actSigns))] H := hP
  have hD : va_D (va_A WC s.heap.size) [(A_t, .inr (4, [.int t_size, .ref A_t_signs, .int 0, .ref A_t_actMonks, .ref A_t_actSigns])), (A_t_signs, .inl (ty.1, 60, .inl t_signs)), (A_t_actMonks, .inl (ty.1, 60, .inl t_actMonks)), (A_t_actSigns, .inl (ty.1, 60, .inl t_actSigns))] := hD
  refine lv_iconst (v := 0) hx hb dX5_readActs_5 (by decide) ?_
  refine lv_istore_n (lv' := [(1, .int 0), (0, .ref A_t)]) hx hb dX5_readActs_6 rfl hl (by decide) rfl (fun ls hl => ?_)
  exact BX5_readActs_7 C hK  FU _ _ _ _ _ _ _ hP hD hS (lv_sub hl [1, 0] rfl) hf
/-! ===== SilenceCount$Laws.isPrime(I)Z ===== -/
abbrev rmX4_isPrime : Room := { frames := 0, cells := 0, slots := 0, locals := 0 }
theorem kkX4_isPrime : yX4_isPrime.cls = RX4 ∧ yX4_isPrime.cls ≠ "java/lang/invoke/MethodHandle" ∧ yX4_isPrime.cls ≠ "java/lang/invoke/VarHandle" ∧ (parseMethodDescriptor yX4_isPrime.desc).map (fun d => d.parameters.length) = some 1 := by decide +kernel
def bX4_isPrime_32 (k32 : Int32 → Option (Int32)) (a0 : Int32) (v1 : Int32) : Option (Int32) :=
  if a0 < (v1 * v1) then some 1 else gNz v1 (if (a0 - a0 / v1 * v1) = 0 then some 0 else gNz (v1 + 2) (if (a0 - a0 / (v1 + 2) * (v1 + 2)) = 0 then some 0 else k32 (v1 + 6)))
set_option maxRecDepth 100000 in
set_option maxHeartbeats 4000000 in
theorem BX4_isPrime_32 {p : Program} {l : Launch} {e : Env} {s : State} {m : MethodId} {below : List Frame} {meth : Method} {c : Code} {D : va_G} {ty : TY} {a0 : Int32} {q0 : Int32} (C : cx p s m [.int a0] meth c cX4_isPrime 2 (some .boolean) RX4 wsX4_isPrime) (hK : KK D ty s) (hP : va_P D vwCl [] s.heap)   : ∀ (n : Nat) (v1 : Int32) (ls : Array Slot), lv_has ls 2 [(0, .int a0), (1, .int v1)] → loopF (fun k q => bX4_isPrime_32 k a0 q) n (v1) = some q0 → WRi p l e rmX4_isPrime s m [.int a0] below meth c q0 (F0 m 32 ls []) := by
  obtain ⟨hx, hb, hr, hml, hown, hts, hlocks⟩ := id C
  intro n
  induction n with
  | zero =>
    intro v1 ls hl hf
    cases hf
  | succ n ih =>
    intro v1 ls hl hf
    have hf : bX4_isPrime_32 (loopF (fun k q => bX4_isPrime_32 k a0 q) n) a0 v1 = some q0 := hf
    have hk32 := ih
    unfold bX4_isPrime_32 at hf
    refine lv_iload_n hx hb dX4_isPrime_32 rfl (lv_at hl 1 rfl) ?_
    refine lv_iload_n hx hb dX4_isPrime_33 rfl (lv_at hl 1 rfl) ?_
    refine lv_imul hx hb dX4_isPrime_34 ?_
    refine lv_iload_n hx hb dX4_isPrime_35 rfl (lv_at hl 0 rfl) ?_
    refine lv_icmp_gt (tgt := 61) hx hb dX4_isPrime_36 (by decide) (fun hc => ?_) (fun hc => ?_)
    · have hf := ft hf hc
      refine lv_iconst (v := 1) hx hb dX4_isPrime_61 (by decide) ?_
      exact ret_rz hx hb hr hlocks (Or.inr rfl) hf dX4_isPrime_62
    · have hf := ff hf hc
      refine lv_iload_n hx hb dX4_isPrime_39 rfl (lv_at hl 0 rfl) ?_
      refine lv_iload_n hx hb dX4_isPrime_40 rfl (lv_at hl 1 rfl) ?_
      obtain ⟨hnz, hf⟩ := gNz_some hf
      refine lv_irem hx hb dX4_isPrime_41 hnz ?_
      refine lv_if_eq (tgt := 53) hx hb dX4_isPrime_42 (by decide) (fun hc => ?_) (fun hc => ?_)
      · have hf := ft hf hc
        refine lv_iconst (v := 0) hx hb dX4_isPrime_53 (by decide) ?_
        exact ret_rz hx hb hr hlocks (Or.inl rfl) hf dX4_isPrime_54
      · have hf := ff hf hc
        refine lv_iload_n hx hb dX4_isPrime_45 rfl (lv_at hl 0 rfl) ?_
        refine lv_iload_n hx hb dX4_isPrime_46 rfl (lv_at hl 1 rfl) ?_
        refine lv_iconst (v := 2) hx hb dX4_isPrime_47 (by decide) ?_
        refine lv_iadd hx hb dX4_isPrime_48 ?_
        obtain ⟨hnz, hf⟩ := gNz_some hf
        refine lv_irem hx hb dX4_isPrime_49 hnz ?_
        refine lv_if_ne (tgt := 55) hx hb dX4_isPrime_50 (by decide) (fun hc => ?_) (fun hc => ?_)
        · have hf := ff hf hc
          refine lv_iinc (v := v1 + 6) (lv' := [(1, .int (v1 + 6)), (0, .int a0)]) hx hb dX4_isPrime_55 hl (k := 1) rfl rfl (by decide) rfl (fun ls hl => ?_)
          refine lv_goto (tgt := 32) hx hb dX4_isPrime_58 (by decide) ?_
          exact hk32 _ _ (lv_sub hl [1, 0] rfl) hf
        · have hf := ft hf hc
          refine lv_iconst (v := 0) hx hb dX4_isPrime_53 (by decide) ?_
          exact ret_rz hx hb hr hlocks (Or.inl rfl) hf dX4_isPrime_54
def fX4_isPrime (a0 : Int32) : Option (Int32) :=
  if 4 ≤ a0 then if (a0 - a0 / 2 * 2) = 0 then some 0 else if (a0 - a0 / 3 * 3) = 0 then some 0 else loopF (fun k q => bX4_isPrime_32 k a0 q) FU (5) else if a0 ≤ 1 then some 0 else some 1
set_option maxRecDepth 100000 in
set_option maxHeartbeats 4000000 in
theorem CX4_isPrime (l : Launch) {D : va_G} {ty : TY} {a0 : Int32} {q0 : Int32} (hf : fX4_isPrime a0 = some q0) : ROi l yX4_isPrime wsX4_isPrime rmX4_isPrime D ty [.int a0] [] q0 := by
  refine ROi.start (cc := cX4_isPrime) (maxL := 2) (ret := (some .boolean)) (own := RX4) (by decide) rfl rfl (Nat.le_of_ble_eq_true rfl) ?_
  intro p e s m below meth c ls C hK hP hl
  obtain ⟨hx, hb, hr, hml, hown, hts, hlocks⟩ := id C
  have hl : lv_has ls 2 [(0, .int a0)] := hl
  unfold fX4_isPrime at hf
  refine lv_iload_n hx hb dX4_isPrime_0 rfl (lv_at hl 0 rfl) ?_
  refine lv_iconst (v := 4) hx hb dX4_isPrime_1 (by decide) ?_
  refine lv_icmp_ge (tgt := 16) hx hb dX4_isPrime_2 (by decide) (fun hc => ?_) (fun hc => ?_)
  · have hf := ft hf hc
    refine lv_iload_n hx hb dX4_isPrime_16 rfl (lv_at hl 0 rfl) ?_
    refine lv_iconst (v := 2) hx hb dX4_isPrime_17 (by decide) ?_
    refine lv_irem hx hb dX4_isPrime_18 (by decide) ?_
    refine lv_if_eq (tgt := 28) hx hb dX4_isPrime_19 (by decide) (fun hc => ?_) (fun hc => ?_)
    · have hf := ft hf hc
      refine lv_iconst (v := 0) hx hb dX4_isPrime_28 (by decide) ?_
      exact ret_rz hx hb hr hlocks (Or.inl rfl) hf dX4_isPrime_29
    · have hf := ff hf hc
      refine lv_iload_n hx hb dX4_isPrime_22 rfl (lv_at hl 0 rfl) ?_
      refine lv_iconst (v := 3) hx hb dX4_isPrime_23 (by decide) ?_
      refine lv_irem hx hb dX4_isPrime_24 (by decide) ?_
      refine lv_if_ne (tgt := 30) hx hb dX4_isPrime_25 (by decide) (fun hc => ?_) (fun hc => ?_)
      · have hf := ff hf hc
        refine lv_iconst (v := 5) hx hb dX4_isPrime_30 (by decide) ?_
        refine lv_istore_n (lv' := [(1, .int 5), (0, .int a0)]) hx hb dX4_isPrime_31 rfl hl (by decide) rfl (fun ls hl => ?_)
        exact BX4_isPrime_32 C hK hP  FU _ _ (lv_sub hl [1, 0] rfl) hf
      · have hf := ft hf hc
        refine lv_iconst (v := 0) hx hb dX4_isPrime_28 (by decide) ?_
        exact ret_rz hx hb hr hlocks (Or.inl rfl) hf dX4_isPrime_29
  · have hf := ff hf hc
    refine lv_iload_n hx hb dX4_isPrime_5 rfl (lv_at hl 0 rfl) ?_
    refine lv_iconst (v := 1) hx hb dX4_isPrime_6 (by decide) ?_
    refine lv_icmp_le (tgt := 14) hx hb dX4_isPrime_7 (by decide) (fun hc => ?_) (fun hc => ?_)
    · have hf := ft hf hc
      refine lv_iconst (v := 0) hx hb dX4_isPrime_14 (by decide) ?_
      exact ret_rz hx hb hr hlocks (Or.inl rfl) hf dX4_isPrime_15
    · have hf := ff hf hc
      refine lv_iconst (v := 1) hx hb dX4_isPrime_10 (by decide) ?_
      refine lv_goto (tgt := 15) hx hb dX4_isPrime_11 (by decide) ?_
      exact ret_rz hx hb hr hlocks (Or.inr rfl) hf dX4_isPrime_15
/-! ===== SilenceCount$Laws.rootOf(I)I ===== -/
abbrev rmX4_rootOf : Room := { frames := 0, cells := 0, slots := 0, locals := 0 }
theorem kkX4_rootOf : yX4_rootOf.cls = RX4 ∧ yX4_rootOf.cls ≠ "java/lang/invoke/MethodHandle" ∧ yX4_rootOf.cls ≠ "java/lang/invoke/VarHandle" ∧ (parseMethodDescriptor yX4_rootOf.desc).map (fun d => d.parameters.length) = some 1 := by decide +kernel
def bX4_rootOf_25 (k6 : Int32 × Int32 → Option (Int32)) (v1 : Int32) (v2 : Int32) : Option (Int32) :=
  k6 (v1, v2 / 2)
set_option maxRecDepth 100000 in
set_option maxHeartbeats 4000000 in
theorem BX4_rootOf_25 {p : Program} {l : Launch} {e : Env} {s : State} {m : MethodId} {below : List Frame} {meth : Method} {c : Code} {D : va_G} {ty : TY} {a0 : Int32} {q0 : Int32} (C : cx p s m [.int a0] meth c cX4_rootOf 3 (some .int) RX4 wsX4_rootOf) (hK : KK D ty s) (hP : va_P D vwCl [] s.heap) {k6 : Int32 × Int32 → Option (Int32)} (hk6 : ∀ (v1 : Int32) (v2 : Int32) (ls : Array Slot), lv_has ls 3 [(0, .int a0), (1, .int v1), (2, .int v2)] → k6 (v1, v2) = some q0 → WRi p l e rmX4_rootOf s m [.int a0] below meth c q0 (F0 m 6 ls [])) {v1 : Int32} {v2 : Int32} {ls : Array Slot} (hl : lv_has ls 3 [(0, .int a0), (1, .int v1), (2, .int v2)]) (hf : bX4_rootOf_25 k6 v1 v2 = some q0) : WRi p l e rmX4_rootOf s m [.int a0] below meth c q0 (F0 m 25 ls []) := by
  obtain ⟨hx, hb, hr, hml, hown, hts, hlocks⟩ := id C
  unfold bX4_rootOf_25 at hf
  refine lv_iload_n hx hb dX4_rootOf_25 rfl (lv_at hl 2 rfl) ?_
  refine lv_iconst (v := 2) hx hb dX4_rootOf_26 (by decide) ?_
  refine lv_idiv hx hb dX4_rootOf_27 (by decide) ?_
  refine lv_istore_n (lv' := [(2, .int (v2 / 2)), (0, .int a0), (1, .int v1)]) hx hb dX4_rootOf_28 rfl hl (by decide) rfl (fun ls hl => ?_)
  refine lv_goto (tgt := 6) hx hb dX4_rootOf_29 (by decide) ?_
  exact hk6 _ _ _ (lv_sub hl [1, 2, 0] rfl) hf
def bX4_rootOf_6 (k6 : Int32 × Int32 → Option (Int32)) (a0 : Int32) (v1 : Int32) (v2 : Int32) : Option (Int32) :=
  if v2 ≤ 0 then some v1 else if a0 < ((v1 + v2) * (v1 + v2)) then bX4_rootOf_25 k6 v1 v2 else bX4_rootOf_25 k6 (v1 + v2) v2
set_option maxRecDepth 100000 in
set_option maxHeartbeats 4000000 in
theorem BX4_rootOf_6 {p : Program} {l : Launch} {e : Env} {s : State} {m : MethodId} {below : List Frame} {meth : Method} {c : Code} {D : va_G} {ty : TY} {a0 : Int32} {q0 : Int32} (C : cx p s m [.int a0] meth c cX4_rootOf 3 (some .int) RX4 wsX4_rootOf) (hK : KK D ty s) (hP : va_P D vwCl [] s.heap)   : ∀ (n : Nat) (v1 : Int32) (v2 : Int32) (ls : Array Slot), lv_has ls 3 [(0, .int a0), (1, .int v1), (2, .int v2)] → loopF (fun k q => bX4_rootOf_6 k a0 q.1 q.2) n (v1, v2) = some q0 → WRi p l e rmX4_rootOf s m [.int a0] below meth c q0 (F0 m 6 ls []) := by
  obtain ⟨hx, hb, hr, hml, hown, hts, hlocks⟩ := id C
  intro n
  induction n with
  | zero =>
    intro v1 v2 ls hl hf
    cases hf
  | succ n ih =>
    intro v1 v2 ls hl hf
    have hf : bX4_rootOf_6 (loopF (fun k q => bX4_rootOf_6 k a0 q.1 q.2) n) a0 v1 v2 = some q0 := hf
    have hk6 := ih
    unfold bX4_rootOf_6 at hf
    refine lv_iload_n hx hb dX4_rootOf_6 rfl (lv_at hl 2 rfl) ?_
    refine lv_if_le (tgt := 32) hx hb dX4_rootOf_7 (by decide) (fun hc => ?_) (fun hc => ?_)
    · have hf := ft hf hc
      refine lv_iload_n hx hb dX4_rootOf_32 rfl (lv_at hl 1 rfl) ?_
      exact ret_ri hx hb hr hlocks hf dX4_rootOf_33
    · have hf := ff hf hc
      refine lv_iload_n hx hb dX4_rootOf_10 rfl (lv_at hl 1 rfl) ?_
      refine lv_iload_n hx hb dX4_rootOf_11 rfl (lv_at hl 2 rfl) ?_
      refine lv_iadd hx hb dX4_rootOf_12 ?_
      refine lv_iload_n hx hb dX4_rootOf_13 rfl (lv_at hl 1 rfl) ?_
      refine lv_iload_n hx hb dX4_rootOf_14 rfl (lv_at hl 2 rfl) ?_
      refine lv_iadd hx hb dX4_rootOf_15 ?_
      refine lv_imul hx hb dX4_rootOf_16 ?_
      refine lv_iload_n hx hb dX4_rootOf_17 rfl (lv_at hl 0 rfl) ?_
      refine lv_icmp_gt (tgt := 25) hx hb dX4_rootOf_18 (by decide) (fun hc => ?_) (fun hc => ?_)
      · have hf := ft hf hc
        exact BX4_rootOf_25 C hK hP hk6 (lv_sub hl [0, 1, 2] rfl) hf
      · have hf := ff hf hc
        refine lv_iload_n hx hb dX4_rootOf_21 rfl (lv_at hl 1 rfl) ?_
        refine lv_iload_n hx hb dX4_rootOf_22 rfl (lv_at hl 2 rfl) ?_
        refine lv_iadd hx hb dX4_rootOf_23 ?_
        refine lv_istore_n (lv' := [(1, .int (v1 + v2)), (0, .int a0), (2, .int v2)]) hx hb dX4_rootOf_24 rfl hl (by decide) rfl (fun ls hl => ?_)
        exact BX4_rootOf_25 C hK hP hk6 (lv_sub hl [1, 0, 2] rfl) hf
def fX4_rootOf (a0 : Int32) : Option (Int32) :=
  loopF (fun k q => bX4_rootOf_6 k a0 q.1 q.2) FU (0, 512)
set_option maxRecDepth 100000 in
set_option maxHeartbeats 4000000 in
theorem CX4_rootOf (l : Launch) {D : va_G} {ty : TY} {a0 : Int32} {q0 : Int32} (hf : fX4_rootOf a0 = some q0) : ROi l yX4_rootOf wsX4_rootOf rmX4_rootOf D ty [.int a0] [] q0 := by
  refine ROi.start (cc := cX4_rootOf) (maxL := 3) (ret := (some .int)) (own := RX4) (by decide) rfl rfl (Nat.le_of_ble_eq_true rfl) ?_
  intro p e s m below meth c ls C hK hP hl
  obtain ⟨hx, hb, hr, hml, hown, hts, hlocks⟩ := id C
  have hl : lv_has ls 3 [(0, .int a0)] := hl
  unfold fX4_rootOf at hf
  refine lv_iconst (v := 0) hx hb dX4_rootOf_0 (by decide) ?_
  refine lv_istore_n (lv' := [(1, .int 0), (0, .int a0)]) hx hb dX4_rootOf_1 rfl hl (by decide) rfl (fun ls hl => ?_)
  refine lv_sipush (v := 512) hx hb dX4_rootOf_2 (by decide) ?_
  refine lv_istore_n (lv' := [(2, .int 512), (1, .int 0), (0, .int a0)]) hx hb dX4_rootOf_5 rfl hl (by decide) rfl (fun ls hl => ?_)
  exact BX4_rootOf_6 C hK hP  FU _ _ _ (lv_sub hl [2, 1, 0] rfl) hf
/-! ===== SilenceCount$Laws.withMirrored(II)I ===== -/
abbrev rmX4_withMirrored : Room := { frames := 0, cells := 0, slots := 0, locals := 0 }
theorem kkX4_withMirrored : yX4_withMirrored.cls = RX4 ∧ yX4_withMirrored.cls ≠ "java/lang/invoke/MethodHandle" ∧ yX4_withMirrored.cls ≠ "java/lang/invoke/VarHandle" ∧ (parseMethodDescriptor yX4_withMirrored.desc).map (fun d => d.parameters.length) = some 2 := by decide +kernel
def bX4_withMirrored_4 (k4 : Int32 × Int32 → Option (Int32)) (v2 : Int32) (v3 : Int32) : Option (Int32) :=
  if v3 ≤ 0 then some v2 else k4 ((10 * v2) + (v3 - v3 / 10 * 10), v3 / 10)
set_option maxRecDepth 100000 in
set_option maxHeartbeats 4000000 in
theorem BX4_withMirrored_4 {p : Program} {l : Launch} {e : Env} {s : State} {m : MethodId} {below : List Frame} {meth : Method} {c : Code} {D : va_G} {ty : TY} {a0 : Int32} {a1 : Int32} {q0 : Int32} (C : cx p s m [.int a0, .int a1] meth c cX4_withMirrored 4 (some .int) RX4 wsX4_withMirrored) (hK : KK D ty s) (hP : va_P D vwCl [] s.heap)   : ∀ (n : Nat) (v2 : Int32) (v3 : Int32) (ls : Array Slot), lv_has ls 4 [(2, .int v2), (3, .int v3)] → loopF (fun k q => bX4_withMirrored_4 k q.1 q.2) n (v2, v3) = some q0 → WRi p l e rmX4_withMirrored s m [.int a0, .int a1] below meth c q0 (F0 m 4 ls []) := by
  obtain ⟨hx, hb, hr, hml, hown, hts, hlocks⟩ := id C
  intro n
  induction n with
  | zero =>
    intro v2 v3 ls hl hf
    cases hf
  | succ n ih =>
    intro v2 v3 ls hl hf
    have hf : bX4_withMirrored_4 (loopF (fun k q => bX4_withMirrored_4 k q.1 q.2) n) v2 v3 = some q0 := hf
    have hk4 := ih
    unfold bX4_withMirrored_4 at hf
    refine lv_iload_n hx hb dX4_withMirrored_4 rfl (lv_at hl 1 rfl) ?_
    refine lv_if_le (tgt := 26) hx hb dX4_withMirrored_5 (by decide) (fun hc => ?_) (fun hc => ?_)
    · have hf := ft hf hc
      refine lv_iload_n hx hb dX4_withMirrored_26 rfl (lv_at hl 0 rfl) ?_
      exact ret_ri hx hb hr hlocks hf dX4_withMirrored_27
    · have hf := ff hf hc
      refine lv_bipush (v := 10) hx hb dX4_withMirrored_8 (by decide) ?_
      refine lv_iload_n hx hb dX4_withMirrored_10 rfl (lv_at hl 0 rfl) ?_
      refine lv_imul hx hb dX4_withMirrored_11 ?_
      refine lv_iload_n hx hb dX4_withMirrored_12 rfl (lv_at hl 1 rfl) ?_
      refine lv_bipush (v := 10) hx hb dX4_withMirrored_13 (by decide) ?_
      refine lv_irem hx hb dX4_withMirrored_15 (by decide) ?_
      refine lv_iadd hx hb dX4_withMirrored_16 ?_
      refine lv_istore_n (lv' := [(2, .int ((10 * v2) + (v3 - v3 / 10 * 10))), (3, .int v3)]) hx hb dX4_withMirrored_17 rfl hl (by decide) rfl (fun ls hl => ?_)
      refine lv_iload_n hx hb dX4_withMirrored_18 rfl (lv_at hl 1 rfl) ?_
      refine lv_bipush (v := 10) hx hb dX4_withMirrored_19 (by decide) ?_
      refine lv_idiv hx hb dX4_withMirrored_21 (by decide) ?_
      refine lv_istore_n (lv' := [(3, .int (v3 / 10)), (2, .int ((10 * v2) + (v3 - v3 / 10 * 10)))]) hx hb dX4_withMirrored_22 rfl hl (by decide) rfl (fun ls hl => ?_)
      refine lv_goto (tgt := 4) hx hb dX4_withMirrored_23 (by decide) ?_
      exact hk4 _ _ _ (lv_sub hl [1, 0] rfl) hf
def fX4_withMirrored (a0 : Int32) (a1 : Int32) : Option (Int32) :=
  loopF (fun k q => bX4_withMirrored_4 k q.1 q.2) FU (a0, a1)
set_option maxRecDepth 100000 in
set_option maxHeartbeats 4000000 in
theorem CX4_withMirrored (l : Launch) {D : va_G} {ty : TY} {a0 : Int32} {a1 : Int32} {q0 : Int32} (hf : fX4_withMirrored a0 a1 = some q0) : ROi l yX4_withMirrored wsX4_withMirrored rmX4_withMirrored D ty [.int a0, .int a1] [] q0 := by
  refine ROi.start (cc := cX4_withMirrored) (maxL := 4) (ret := (some .int)) (own := RX4) (by decide) rfl rfl (Nat.le_of_ble_eq_true rfl) ?_
  intro p e s m below meth c ls C hK hP hl
  obtain ⟨hx, hb, hr, hml, hown, hts, hlocks⟩ := id C
  have hl : lv_has ls 4 [(0, .int a0), (1, .int a1)] := hl
  unfold fX4_withMirrored at hf
  refine lv_iload_n hx hb dX4_withMirrored_0 rfl (lv_at hl 0 rfl) ?_
  refine lv_istore_n (lv' := [(2, .int a0), (0, .int a0), (1, .int a1)]) hx hb dX4_withMirrored_1 rfl hl (by decide) rfl (fun ls hl => ?_)
  refine lv_iload_n hx hb dX4_withMirrored_2 rfl (lv_at hl 2 rfl) ?_
  refine lv_istore_n (lv' := [(3, .int a1), (2, .int a0), (0, .int a0), (1, .int a1)]) hx hb dX4_withMirrored_3 rfl hl (by decide) rfl (fun ls hl => ?_)
  exact BX4_withMirrored_4 C hK hP  FU _ _ _ (lv_sub hl [1, 0] rfl) hf
/-! ===== SilenceCount$Laws.digitSum(I)I ===== -/
abbrev rmX4_digitSum : Room := { frames := 0, cells := 0, slots := 0, locals := 0 }
theorem kkX4_digitSum : yX4_digitSum.cls = RX4 ∧ yX4_digitSum.cls ≠ "java/lang/invoke/MethodHandle" ∧ yX4_digitSum.cls ≠ "java/lang/invoke/VarHandle" ∧ (parseMethodDescriptor yX4_digitSum.desc).map (fun d => d.parameters.length) = some 1 := by decide +kernel
def bX4_digitSum_4 (k4 : Int32 × Int32 → Option (Int32)) (v1 : Int32) (v2 : Int32) : Option (Int32) :=
  if v2 ≤ 0 then some v1 else k4 (v1 + (v2 - v2 / 10 * 10), v2 / 10)
set_option maxRecDepth 100000 in
set_option maxHeartbeats 4000000 in
theorem BX4_digitSum_4 {p : Program} {l : Launch} {e : Env} {s : State} {m : MethodId} {below : List Frame} {meth : Method} {c : Code} {D : va_G} {ty : TY} {a0 : Int32} {q0 : Int32} (C : cx p s m [.int a0] meth c cX4_digitSum 3 (some .int) RX4 wsX4_digitSum) (hK : KK D ty s) (hP : va_P D vwCl [] s.heap)   : ∀ (n : Nat) (v1 : Int32) (v2 : Int32) (ls : Array Slot), lv_has ls 3 [(1, .int v1), (2, .int v2)] → loopF (fun k q => bX4_digitSum_4 k q.1 q.2) n (v1, v2) = some q0 → WRi p l e rmX4_digitSum s m [.int a0] below meth c q0 (F0 m 4 ls []) := by
  obtain ⟨hx, hb, hr, hml, hown, hts, hlocks⟩ := id C
  intro n
  induction n with
  | zero =>
    intro v1 v2 ls hl hf
    cases hf
  | succ n ih =>
    intro v1 v2 ls hl hf
    have hf : bX4_digitSum_4 (loopF (fun k q => bX4_digitSum_4 k q.1 q.2) n) v1 v2 = some q0 := hf
    have hk4 := ih
    unfold bX4_digitSum_4 at hf
    refine lv_iload_n hx hb dX4_digitSum_4 rfl (lv_at hl 1 rfl) ?_
    refine lv_if_le (tgt := 23) hx hb dX4_digitSum_5 (by decide) (fun hc => ?_) (fun hc => ?_)
    · have hf := ft hf hc
      refine lv_iload_n hx hb dX4_digitSum_23 rfl (lv_at hl 0 rfl) ?_
      exact ret_ri hx hb hr hlocks hf dX4_digitSum_24
    · have hf := ff hf hc
      refine lv_iload_n hx hb dX4_digitSum_8 rfl (lv_at hl 0 rfl) ?_
      refine lv_iload_n hx hb dX4_digitSum_9 rfl (lv_at hl 1 rfl) ?_
      refine lv_bipush (v := 10) hx hb dX4_digitSum_10 (by decide) ?_
      refine lv_irem hx hb dX4_digitSum_12 (by decide) ?_
      refine lv_iadd hx hb dX4_digitSum_13 ?_
      refine lv_istore_n (lv' := [(1, .int (v1 + (v2 - v2 / 10 * 10))), (2, .int v2)]) hx hb dX4_digitSum_14 rfl hl (by decide) rfl (fun ls hl => ?_)
      refine lv_iload_n hx hb dX4_digitSum_15 rfl (lv_at hl 1 rfl) ?_
      refine lv_bipush (v := 10) hx hb dX4_digitSum_16 (by decide) ?_
      refine lv_idiv hx hb dX4_digitSum_18 (by decide) ?_
      refine lv_istore_n (lv' := [(2, .int (v2 / 10)), (1, .int (v1 + (v2 - v2 / 10 * 10)))]) hx hb dX4_digitSum_19 rfl hl (by decide) rfl (fun ls hl => ?_)
      refine lv_goto (tgt := 4) hx hb dX4_digitSum_20 (by decide) ?_
      exact hk4 _ _ _ (lv_sub hl [1, 0] rfl) hf
def fX4_digitSum (a0 : Int32) : Option (Int32) :=
  loopF (fun k q => bX4_digitSum_4 k q.1 q.2) FU (0, a0)
set_option maxRecDepth 100000 in
set_option maxHeartbeats 4000000 in
theorem CX4_digitSum (l : Launch) {D : va_G} {ty : TY} {a0 : Int32} {q0 : Int32} (hf : fX4_digitSum a0 = some q0) : ROi l yX4_digitSum wsX4_digitSum rmX4_digitSum D ty [.int a0] [] q0 := by
  refine ROi.start (cc := cX4_digitSum) (maxL := 3) (ret := (some .int)) (own := RX4) (by decide) rfl rfl (Nat.le_of_ble_eq_true rfl) ?_
  intro p e s m below meth c ls C hK hP hl
  obtain ⟨hx, hb, hr, hml, hown, hts, hlocks⟩ := id C
  have hl : lv_has ls 3 [(0, .int a0)] := hl
  unfold fX4_digitSum at hf
  refine lv_iconst (v := 0) hx hb dX4_digitSum_0 (by decide) ?_
  refine lv_istore_n (lv' := [(1, .int 0), (0, .int a0)]) hx hb dX4_digitSum_1 rfl hl (by decide) rfl (fun ls hl => ?_)
  refine lv_iload_n hx hb dX4_digitSum_2 rfl (lv_at hl 1 rfl) ?_
  refine lv_istore_n (lv' := [(2, .int a0), (1, .int 0), (0, .int a0)]) hx hb dX4_digitSum_3 rfl hl (by decide) rfl (fun ls hl => ?_)
  exact BX4_digitSum_4 C hK hP  FU _ _ _ (lv_sub hl [1, 0] rfl) hf
/-! ===== SilenceCount$Laws.isMultipleOf(II)Z ===== -/
abbrev rmX4_isMultipleOf : Room := { frames := 0, cells := 0, slots := 0, locals := 0 }
theorem kkX4_isMultipleOf : yX4_isMultipleOf.cls = RX4 ∧ yX4_isMultipleOf.cls ≠ "java/lang/invoke/MethodHandle" ∧ yX4_isMultipleOf.cls ≠ "java/lang/invoke/VarHandle" ∧ (parseMethodDescriptor yX4_isMultipleOf.desc).map (fun d => d.parameters.length) = some 2 := by decide +kernel
def fX4_isMultipleOf (a0 : Int32) (a1 : Int32) : Option (Int32) :=
  if a1 ≤ 0 then some 0 else gNz a1 (if (a0 - a0 / a1 * a1) = 0 then some 1 else some 0)
set_option maxRecDepth 100000 in
set_option maxHeartbeats 4000000 in
theorem CX4_isMultipleOf (l : Launch) {D : va_G} {ty : TY} {a0 : Int32} {a1 : Int32} {q0 : Int32} (hf : fX4_isMultipleOf a0 a1 = some q0) : ROi l yX4_isMultipleOf wsX4_isMultipleOf rmX4_isMultipleOf D ty [.int a0, .int a1] [] q0 := by
  refine ROi.start (cc := cX4_isMultipleOf) (maxL := 2) (ret := (some .boolean)) (own := RX4) (by decide) rfl rfl (Nat.le_of_ble_eq_true rfl) ?_
  intro p e s m below meth c ls C hK hP hl
  obtain ⟨hx, hb, hr, hml, hown, hts, hlocks⟩ := id C
  have hl : lv_has ls 2 [(0, .int a0), (1, .int a1)] := hl
  unfold fX4_isMultipleOf at hf
  refine lv_iload_n hx hb dX4_isMultipleOf_0 rfl (lv_at hl 1 rfl) ?_
  refine lv_if_le (tgt := 14) hx hb dX4_isMultipleOf_1 (by decide) (fun hc => ?_) (fun hc => ?_)
  · have hf := ft hf hc
    refine lv_iconst (v := 0) hx hb dX4_isMultipleOf_14 (by decide) ?_
    exact ret_rz hx hb hr hlocks (Or.inl rfl) hf dX4_isMultipleOf_15
  · have hf := ff hf hc
    refine lv_iload_n hx hb dX4_isMultipleOf_4 rfl (lv_at hl 0 rfl) ?_
    refine lv_iload_n hx hb dX4_isMultipleOf_5 rfl (lv_at hl 1 rfl) ?_
    obtain ⟨hnz, hf⟩ := gNz_some hf
    refine lv_irem hx hb dX4_isMultipleOf_6 hnz ?_
    refine lv_if_ne (tgt := 14) hx hb dX4_isMultipleOf_7 (by decide) (fun hc => ?_) (fun hc => ?_)
    · have hf := ff hf hc
      refine lv_iconst (v := 0) hx hb dX4_isMultipleOf_14 (by decide) ?_
      exact ret_rz hx hb hr hlocks (Or.inl rfl) hf dX4_isMultipleOf_15
    · have hf := ft hf hc
      refine lv_iconst (v := 1) hx hb dX4_isMultipleOf_10 (by decide) ?_
      refine lv_goto (tgt := 15) hx hb dX4_isMultipleOf_11 (by decide) ?_
      exact ret_rz hx hb hr hlocks (Or.inr rfl) hf dX4_isMultipleOf_15
/-! ===== SilenceCount$Laws.bowAt(II)Z ===== -/
abbrev rmX4_bowAt : Room := { frames := 1, cells := 0, slots := 0, locals := 23 }
theorem kkX4_bowAt : yX4_bowAt.cls = RX4 ∧ yX4_bowAt.cls ≠ "java/lang/invoke/MethodHandle" ∧ yX4_bowAt.cls ≠ "java/lang/invoke/VarHandle" ∧ (parseMethodDescriptor yX4_bowAt.desc).map (fun d => d.parameters.length) = some 2 := by decide +kernel
def fX4_bowAt (a0 : Int32) (a1 : Int32) : Option (Int32) :=
  if 1 ≤ a1 then if a0 = 0 then (fX4_isPrime a1).bind fun r41 => gB r41 (some r41) else if a0 = 1 then (fX4_rootOf a1).bind fun r46 => (fX4_rootOf a1).bind fun r50 => if (r46 * r50) = a1 then some 1 else some 0 else if a0 = 2 then (fX4_withMirrored 0 a1).bind fun r66 => if r66 = a1 then some 1 else some 0 else if a0 = 3 then (fX4_digitSum a1).bind fun r81 => (fX4_isMultipleOf a1 r81).bind fun r84 => gB r84 (some r84) else if (a1 &&& (a1 - 1)) = 0 then some 1 else some 0 else some 0
set_option maxRecDepth 100000 in
set_option maxHeartbeats 4000000 in
theorem CX4_bowAt (l : Launch) {D : va_G} {ty : TY} {a0 : Int32} {a1 : Int32} {q0 : Int32} (hf : fX4_bowAt a0 a1 = some q0) : ROi l yX4_bowAt wsX4_bowAt rmX4_bowAt D ty [.int a0, .int a1] [] q0 := by
  refine ROi.start (cc := cX4_bowAt) (maxL := 2) (ret := (some .boolean)) (own := RX4) (by decide) rfl rfl (Nat.le_of_ble_eq_true rfl) ?_
  intro p e s m below meth c ls C hK hP hl
  obtain ⟨hx, hb, hr, hml, hown, hts, hlocks⟩ := id C
  have hl : lv_has ls 2 [(0, .int a0), (1, .int a1)] := hl
  unfold fX4_bowAt at hf
  refine lv_iload_n hx hb dX4_bowAt_0 rfl (lv_at hl 1 rfl) ?_
  refine lv_iconst (v := 1) hx hb dX4_bowAt_1 (by decide) ?_
  refine lv_icmp_ge (tgt := 7) hx hb dX4_bowAt_2 (by decide) (fun hc => ?_) (fun hc => ?_)
  · have hf := ft hf hc
    refine lv_iload_n hx hb dX4_bowAt_7 rfl (lv_at hl 0 rfl) ?_
    by_cases hc0 : a0 = 0
    · have hf := ft hf hc0
      refine lv_tableIn (tgt := 40) hx hb dX4_bowAt_8 (by rw [hc0]; decide) (by rw [hc0]; decide) (by rw [hc0] <;> rfl) (by decide) ?_
      refine lv_iload_n hx hb dX4_bowAt_40 rfl (lv_at hl 1 rfl) ?_
      obtain ⟨r41, hr41, hf⟩ := bnd hf
      refine callS_ri (As := [.int a1]) (rest := []) ⟨hx, hb, hml, hown, hts⟩ (CX4_isPrime l hr41) (va_cwS 1 hts gX4_bowAt_X4_isPrime rfl rfl rfl kkX4_isPrime.2 ⟨Nat.le_of_ble_eq_true rfl, Nat.le_of_ble_eq_true rfl⟩) hK hP hl.1 rfl (Nat.le_of_ble_eq_true rfl) dX4_bowAt_41 ⟨Nat.zero_le _, Nat.zero_le _⟩ ?_
      obtain ⟨hbv, hf⟩ := gB_some hf
      exact ret_rz hx hb hr hlocks hbv hf dX4_bowAt_44
    · have hf := ff hf hc0
      by_cases hc1 : a0 = 1
      · have hf := ft hf hc1
        refine lv_tableIn (tgt := 45) hx hb dX4_bowAt_8 (by rw [hc1]; decide) (by rw [hc1]; decide) (by rw [hc1] <;> rfl) (by decide) ?_
        refine lv_iload_n hx hb dX4_bowAt_45 rfl (lv_at hl 1 rfl) ?_
        obtain ⟨r46, hr46, hf⟩ := bnd hf
        refine callS_ri (As := [.int a1]) (rest := []) ⟨hx, hb, hml, hown, hts⟩ (CX4_rootOf l hr46) (va_cwS 1 hts gX4_bowAt_X4_rootOf rfl rfl rfl kkX4_rootOf.2 ⟨Nat.le_of_ble_eq_true rfl, Nat.le_of_ble_eq_true rfl⟩) hK hP hl.1 rfl (Nat.le_of_ble_eq_true rfl) dX4_bowAt_46 ⟨Nat.zero_le _, Nat.zero_le _⟩ ?_
        refine lv_iload_n hx hb dX4_bowAt_49 rfl (lv_at hl 1 rfl) ?_
        obtain ⟨r50, hr50, hf⟩ := bnd hf
        refine callS_ri (As := [.int a1]) (rest := [.int r46]) ⟨hx, hb, hml, hown, hts⟩ (CX4_rootOf l hr50) (va_cwS 1 hts gX4_bowAt_X4_rootOf rfl rfl rfl kkX4_rootOf.2 ⟨Nat.le_of_ble_eq_true rfl, Nat.le_of_ble_eq_true rfl⟩) hK hP hl.1 rfl (Nat.le_of_ble_eq_true rfl) dX4_bowAt_50 ⟨Nat.zero_le _, Nat.zero_le _⟩ ?_
        refine lv_imul hx hb dX4_bowAt_53 ?_
        refine lv_iload_n hx hb dX4_bowAt_54 rfl (lv_at hl 1 rfl) ?_
        refine lv_icmp_ne (tgt := 62) hx hb dX4_bowAt_55 (by decide) (fun hc => ?_) (fun hc => ?_)
        · have hf := ff hf hc
          refine lv_iconst (v := 0) hx hb dX4_bowAt_62 (by decide) ?_
          exact ret_rz hx hb hr hlocks (Or.inl rfl) hf dX4_bowAt_63
        · have hf := ft hf hc
          refine lv_iconst (v := 1) hx hb dX4_bowAt_58 (by decide) ?_
          refine lv_goto (tgt := 63) hx hb dX4_bowAt_59 (by decide) ?_
          exact ret_rz hx hb hr hlocks (Or.inr rfl) hf dX4_bowAt_63
      · have hf := ff hf hc1
        by_cases hc2 : a0 = 2
        · have hf := ft hf hc2
          refine lv_tableIn (tgt := 64) hx hb dX4_bowAt_8 (by rw [hc2]; decide) (by rw [hc2]; decide) (by rw [hc2] <;> rfl) (by decide) ?_
          refine lv_iconst (v := 0) hx hb dX4_bowAt_64 (by decide) ?_
          refine lv_iload_n hx hb dX4_bowAt_65 rfl (lv_at hl 1 rfl) ?_
          obtain ⟨r66, hr66, hf⟩ := bnd hf
          refine callS_ri (As := [.int 0, .int a1]) (rest := []) ⟨hx, hb, hml, hown, hts⟩ (CX4_withMirrored l hr66) (va_cwS 2 hts gX4_bowAt_X4_withMirrored rfl rfl rfl kkX4_withMirrored.2 ⟨Nat.le_of_ble_eq_true rfl, Nat.le_of_ble_eq_true rfl⟩) hK hP hl.1 rfl (Nat.le_of_ble_eq_true rfl) dX4_bowAt_66 ⟨Nat.zero_le _, Nat.zero_le _⟩ ?_
          refine lv_iload_n hx hb dX4_bowAt_69 rfl (lv_at hl 1 rfl) ?_
          refine lv_icmp_ne (tgt := 77) hx hb dX4_bowAt_70 (by decide) (fun hc => ?_) (fun hc => ?_)
          · have hf := ff hf hc
            refine lv_iconst (v := 0) hx hb dX4_bowAt_77 (by decide) ?_
            exact ret_rz hx hb hr hlocks (Or.inl rfl) hf dX4_bowAt_78
          · have hf := ft hf hc
            refine lv_iconst (v := 1) hx hb dX4_bowAt_73 (by decide) ?_
            refine lv_goto (tgt := 78) hx hb dX4_bowAt_74 (by decide) ?_
            exact ret_rz hx hb hr hlocks (Or.inr rfl) hf dX4_bowAt_78
        · have hf := ff hf hc2
          by_cases hc3 : a0 = 3
          · have hf := ft hf hc3
            refine lv_tableIn (tgt := 79) hx hb dX4_bowAt_8 (by rw [hc3]; decide) (by rw [hc3]; decide) (by rw [hc3] <;> rfl) (by decide) ?_
            refine lv_iload_n hx hb dX4_bowAt_79 rfl (lv_at hl 1 rfl) ?_
            refine lv_iload_n hx hb dX4_bowAt_80 rfl (lv_at hl 1 rfl) ?_
            obtain ⟨r81, hr81, hf⟩ := bnd hf
            refine callS_ri (As := [.int a1]) (rest := [.int a1]) ⟨hx, hb, hml, hown, hts⟩ (CX4_digitSum l hr81) (va_cwS 1 hts gX4_bowAt_X4_digitSum rfl rfl rfl kkX4_digitSum.2 ⟨Nat.le_of_ble_eq_true rfl, Nat.le_of_ble_eq_true rfl⟩) hK hP hl.1 rfl (Nat.le_of_ble_eq_true rfl) dX4_bowAt_81 ⟨Nat.zero_le _, Nat.zero_le _⟩ ?_
            obtain ⟨r84, hr84, hf⟩ := bnd hf
            refine callS_ri (As := [.int a1, .int r81]) (rest := []) ⟨hx, hb, hml, hown, hts⟩ (CX4_isMultipleOf l hr84) (va_cwS 2 hts gX4_bowAt_X4_isMultipleOf rfl rfl rfl kkX4_isMultipleOf.2 ⟨Nat.le_of_ble_eq_true rfl, Nat.le_of_ble_eq_true rfl⟩) hK hP hl.1 rfl (Nat.le_of_ble_eq_true rfl) dX4_bowAt_84 ⟨Nat.zero_le _, Nat.zero_le _⟩ ?_
            obtain ⟨hbv, hf⟩ := gB_some hf
            exact ret_rz hx hb hr hlocks hbv hf dX4_bowAt_87
          · have hf := ff hf hc3
            refine lv_tableOut (tgt := 88) hx hb dX4_bowAt_8 (by have h0 := sw_ne 0 (by decide) hc0; have h1 := sw_ne 1 (by decide) hc1; have h2 := sw_ne 2 (by decide) hc2; have h3 := sw_ne 3 (by decide) hc3; omega) (by decide) ?_
            refine lv_iload_n hx hb dX4_bowAt_88 rfl (lv_at hl 1 rfl) ?_
            refine lv_iload_n hx hb dX4_bowAt_89 rfl (lv_at hl 1 rfl) ?_
            refine lv_iconst (v := 1) hx hb dX4_bowAt_90 (by decide) ?_
            refine lv_isub hx hb dX4_bowAt_91 ?_
            refine lv_iand hx hb dX4_bowAt_92 ?_
            refine lv_if_ne (tgt := 100) hx hb dX4_bowAt_93 (by decide) (fun hc => ?_) (fun hc => ?_)
            · have hf := ff hf hc
              refine lv_iconst (v := 0) hx hb dX4_bowAt_100 (by decide) ?_
              exact ret_rz hx hb hr hlocks (Or.inl rfl) hf dX4_bowAt_101
            · have hf := ft hf hc
              refine lv_iconst (v := 1) hx hb dX4_bowAt_96 (by decide) ?_
              refine lv_goto (tgt := 101) hx hb dX4_bowAt_97 (by decide) ?_
              exact ret_rz hx hb hr hlocks (Or.inr rfl) hf dX4_bowAt_101
  · have hf := ff hf hc
    refine lv_iconst (v := 0) hx hb dX4_bowAt_5 (by decide) ?_
    exact ret_rz hx hb hr hlocks (Or.inl rfl) hf dX4_bowAt_6
/-! ===== SilenceCount$Laws.countMarks([JII)I ===== -/
abbrev rmX4_countMarks : Room := { frames := 1, cells := 0, slots := 0, locals := 21 }
theorem kkX4_countMarks : yX4_countMarks.cls = RX4 ∧ yX4_countMarks.cls ≠ "java/lang/invoke/MethodHandle" ∧ yX4_countMarks.cls ≠ "java/lang/invoke/VarHandle" ∧ (parseMethodDescriptor yX4_countMarks.desc).map (fun d => d.parameters.length) = some 3 := by decide +kernel
theorem mX4_countMarks_k74 : Cond.constantLong RX4 74 (-1) ∈ wsX4_countMarks := by decide +kernel
def bX4_countMarks_79 (k17 : Int32 × Int32 × Int32 × Int32 → Option (Int32)) (v3 : Int32) (v4 : Int32) (v5 : Int32) (v6 : Int32) (v7 : Int64) : Option (Int32) :=
  (fJ13_bitCount_95d88 v7).bind fun r83 => k17 (v3, v4, v5 + r83, v6 + 1)
set_option maxRecDepth 100000 in
set_option maxHeartbeats 4000000 in
theorem BX4_countMarks_79 {p : Program} {l : Launch} {e : Env} {s : State} {m : MethodId} {below : List Frame} {meth : Method} {c : Code} {D : va_G} {ty : TY} {A_p0 : Nat} {p0 : Nat → Int64} {a1 : Int32} {a2 : Int32} {q0 : Int32} (C : cx p s m [.ref A_p0, .int a1, .int a2] meth c cX4_countMarks 9 (some .int) RX4 wsX4_countMarks) (hK : KK D ty s) (hP : va_P D vwCl [(A_p0, .inl (ty.2.1, 1563, .inr (.inl p0)))] s.heap) {k17 : Int32 × Int32 × Int32 × Int32 → Option (Int32)} (hk17 : ∀ (v3 : Int32) (v4 : Int32) (v5 : Int32) (v6 : Int32) (ls : Array Slot), lv_has ls 9 [(0, .ref A_p0), (1, .int a1), (2, .int a2), (3, .int v3), (4, .int v4), (5, .int v5), (6, .int v6)] → k17 (v3, v4, v5, v6) = some q0 → WRi p l e rmX4_countMarks s m [.ref A_p0, .int a1, .int a2] below meth c q0 (F0 m 17 ls [])) {v3 : Int32} {v4 : Int32} {v5 : Int32} {v6 : Int32} {v7 : Int64} {ls : Array Slot} (hl : lv_has ls 9 [(0, .ref A_p0), (1, .int a1), (2, .int a2), (3, .int v3), (4, .int v4), (5, .int v5), (6, .int v6), (7, .long v7)]) (hf : bX4_countMarks_79 k17 v3 v4 v5 v6 v7 = some q0) : WRi p l e rmX4_countMarks s m [.ref A_p0, .int a1, .int a2] below meth c q0 (F0 m 79 ls []) := by
  obtain ⟨hx, hb, hr, hml, hown, hts, hlocks⟩ := id C
  unfold bX4_countMarks_79 at hf
  refine lv_iload hx hb dX4_countMarks_79 (lv_at hl 5 rfl) ?_
  refine lv_lload hx hb dX4_countMarks_81 (lv_at hl 7 rfl) ?_
  obtain ⟨r83, hr83, hf⟩ := bnd hf
  have hPc : va_P D vwCl [] _ := hP.sub [] rfl
  refine callS_ri (As := [.long v7]) (rest := [.int v5]) ⟨hx, hb, hml, hown, hts⟩ (CJ13_bitCount_95d88 l hr83) (va_cwS 1 hts gX4_countMarks_J13_bitCount_95d88 rfl rfl rfl kkJ13_bitCount_95d88.2 ⟨Nat.le_of_ble_eq_true rfl, Nat.le_of_ble_eq_true rfl⟩) hK hPc hl.1 rfl (Nat.le_of_ble_eq_true rfl) dX4_countMarks_83 ⟨Nat.zero_le _, Nat.zero_le _⟩ ?_
  refine lv_iadd hx hb dX4_countMarks_86 ?_
  refine lv_istore (lv' := [(5, .int (v5 + r83)), (0, .ref A_p0), (1, .int a1), (2, .int a2), (3, .int v3), (4, .int v4), (6, .int v6), (7, .long v7)]) hx hb dX4_countMarks_87 hl (by decide) rfl (fun ls hl => ?_)
  refine lv_iinc (v := v6 + 1) (lv' := [(6, .int (v6 + 1)), (5, .int (v5 + r83)), (0, .ref A_p0), (1, .int a1), (2, .int a2), (3, .int v3), (4, .int v4), (7, .long v7)]) hx hb dX4_countMarks_89 hl (k := 6) rfl rfl (by decide) rfl (fun ls hl => ?_)
  refine lv_goto (tgt := 17) hx hb dX4_countMarks_92 (by decide) ?_
  exact hk17 _ _ _ _ _ (lv_sub hl [2, 3, 4, 5, 6, 1, 0] rfl) hf
def bX4_countMarks_56 (k17 : Int32 × Int32 × Int32 × Int32 → Option (Int32)) (a2 : Int32) (v3 : Int32) (v4 : Int32) (v5 : Int32) (v6 : Int32) (v7 : Int64) : Option (Int32) :=
  if v6 = v4 then bX4_countMarks_79 k17 v3 v4 v5 v6 (v7 &&& ((((-1) : Int64).toUInt64 >>> ((63 - (a2 &&& 63) : Int32).toInt64.toUInt64 &&& Int64.toUInt64 63)).toInt64)) else bX4_countMarks_79 k17 v3 v4 v5 v6 v7
set_option maxRecDepth 100000 in
set_option maxHeartbeats 4000000 in
theorem BX4_countMarks_56 {p : Program} {l : Launch} {e : Env} {s : State} {m : MethodId} {below : List Frame} {meth : Method} {c : Code} {D : va_G} {ty : TY} {A_p0 : Nat} {p0 : Nat → Int64} {a1 : Int32} {a2 : Int32} {q0 : Int32} (C : cx p s m [.ref A_p0, .int a1, .int a2] meth c cX4_countMarks 9 (some .int) RX4 wsX4_countMarks) (hK : KK D ty s) (hP : va_P D vwCl [(A_p0, .inl (ty.2.1, 1563, .inr (.inl p0)))] s.heap) {k17 : Int32 × Int32 × Int32 × Int32 → Option (Int32)} (hk17 : ∀ (v3 : Int32) (v4 : Int32) (v5 : Int32) (v6 : Int32) (ls : Array Slot), lv_has ls 9 [(0, .ref A_p0), (1, .int a1), (2, .int a2), (3, .int v3), (4, .int v4), (5, .int v5), (6, .int v6)] → k17 (v3, v4, v5, v6) = some q0 → WRi p l e rmX4_countMarks s m [.ref A_p0, .int a1, .int a2] below meth c q0 (F0 m 17 ls [])) {v3 : Int32} {v4 : Int32} {v5 : Int32} {v6 : Int32} {v7 : Int64} {ls : Array Slot} (hl : lv_has ls 9 [(0, .ref A_p0), (1, .int a1), (2, .int a2), (3, .int v3), (4, .int v4), (5, .int v5), (6, .int v6), (7, .long v7)]) (hf : bX4_countMarks_56 k17 a2 v3 v4 v5 v6 v7 = some q0) : WRi p l e rmX4_countMarks s m [.ref A_p0, .int a1, .int a2] below meth c q0 (F0 m 56 ls []) := by
  obtain ⟨hx, hb, hr, hml, hown, hts, hlocks⟩ := id C
  unfold bX4_countMarks_56 at hf
  refine lv_iload hx hb dX4_countMarks_56 (lv_at hl 6 rfl) ?_
  refine lv_iload hx hb dX4_countMarks_58 (lv_at hl 4 rfl) ?_
  refine lv_icmp_ne (tgt := 79) hx hb dX4_countMarks_60 (by decide) (fun hc => ?_) (fun hc => ?_)
  · have hf := ff hf hc
    exact BX4_countMarks_79 C hK hP hk17 (lv_sub hl [0, 1, 2, 3, 4, 5, 6, 7] rfl) hf
  · have hf := ft hf hc
    refine lv_lload hx hb dX4_countMarks_63 (lv_at hl 7 rfl) ?_
    refine lv_ldc2 (v := (-1)) hx hb hown (hts _ mX4_countMarks_k74) dX4_countMarks_65 ?_
    refine lv_bipush (v := 63) hx hb dX4_countMarks_68 (by decide) ?_
    refine lv_iload_n hx hb dX4_countMarks_70 rfl (lv_at hl 2 rfl) ?_
    refine lv_bipush (v := 63) hx hb dX4_countMarks_71 (by decide) ?_
    refine lv_iand hx hb dX4_countMarks_73 ?_
    refine lv_isub hx hb dX4_countMarks_74 ?_
    refine lv_lushr hx hb dX4_countMarks_75 rfl ?_
    refine lv_land hx hb dX4_countMarks_76 ?_
    refine lv_lstore (lv' := [(7, .long (v7 &&& ((((-1) : Int64).toUInt64 >>> ((63 - (a2 &&& 63) : Int32).toInt64.toUInt64 &&& Int64.toUInt64 63)).toInt64))), (0, .ref A_p0), (1, .int a1), (2, .int a2), (3, .int v3), (4, .int v4), (5, .int v5), (6, .int v6)]) hx hb dX4_countMarks_77 hl (by decide) rfl (fun ls hl => ?_)
    exact BX4_countMarks_79 C hK hP hk17 (lv_sub hl [1, 2, 3, 4, 5, 6, 7, 0] rfl) hf
def bX4_countMarks_17 (k17 : Int32 × Int32 × Int32 × Int32 → Option (Int32)) (p0 : Nat → Int64) (a1 : Int32) (a2 : Int32) (v3 : Int32) (v4 : Int32) (v5 : Int32) (v6 : Int32) : Option (Int32) :=
  if v4 < v6 then some v5 else if 1563 ≤ v6 then some v5 else gIn v6 1563 (if v6 = v3 then bX4_countMarks_56 k17 a2 v3 v4 v5 v6 ((p0 (v6 : Int32).toNatClampNeg) &&& ((-1) <<< ((a1 &&& 63 : Int32).toInt64 &&& 63))) else bX4_countMarks_56 k17 a2 v3 v4 v5 v6 (p0 (v6 : Int32).toNatClampNeg))
set_option maxRecDepth 100000 in
set_option maxHeartbeats 4000000 in
theorem BX4_countMarks_17 {p : Program} {l : Launch} {e : Env} {s : State} {m : MethodId} {below : List Frame} {meth : Method} {c : Code} {D : va_G} {ty : TY} {A_p0 : Nat} {p0 : Nat → Int64} {a1 : Int32} {a2 : Int32} {q0 : Int32} (C : cx p s m [.ref A_p0, .int a1, .int a2] meth c cX4_countMarks 9 (some .int) RX4 wsX4_countMarks) (hK : KK D ty s) (hP : va_P D vwCl [(A_p0, .inl (ty.2.1, 1563, .inr (.inl p0)))] s.heap)   : ∀ (n : Nat) (v3 : Int32) (v4 : Int32) (v5 : Int32) (v6 : Int32) (ls : Array Slot), lv_has ls 9 [(0, .ref A_p0), (1, .int a1), (2, .int a2), (3, .int v3), (4, .int v4), (5, .int v5), (6, .int v6)] → loopF (fun k q => bX4_countMarks_17 k p0 a1 a2 q.1 q.2.1 q.2.2.1 q.2.2.2) n (v3, v4, v5, v6) = some q0 → WRi p l e rmX4_countMarks s m [.ref A_p0, .int a1, .int a2] below meth c q0 (F0 m 17 ls []) := by
  obtain ⟨hx, hb, hr, hml, hown, hts, hlocks⟩ := id C
  intro n
  induction n with
  | zero =>
    intro v3 v4 v5 v6 ls hl hf
    cases hf
  | succ n ih =>
    intro v3 v4 v5 v6 ls hl hf
    have hf : bX4_countMarks_17 (loopF (fun k q => bX4_countMarks_17 k p0 a1 a2 q.1 q.2.1 q.2.2.1 q.2.2.2) n) p0 a1 a2 v3 v4 v5 v6 = some q0 := hf
    have hk17 := ih
    unfold bX4_countMarks_17 at hf
    refine lv_iload hx hb dX4_countMarks_17 (lv_at hl 6 rfl) ?_
    refine lv_iload hx hb dX4_countMarks_19 (lv_at hl 4 rfl) ?_
    refine lv_icmp_gt (tgt := 95) hx hb dX4_countMarks_21 (by decide) (fun hc => ?_) (fun hc => ?_)
    · have hf := ft hf hc
      refine lv_iload hx hb dX4_countMarks_95 (lv_at hl 5 rfl) ?_
      exact ret_ri hx hb hr hlocks hf dX4_countMarks_97
    · have hf := ff hf hc
      refine lv_iload hx hb dX4_countMarks_24 (lv_at hl 6 rfl) ?_
      refine lv_aload_n hx hb dX4_countMarks_26 rfl (lv_at hl 0 rfl) ?_
      refine va_alen (v := 1563) hx hb hK.1 hP 0 1 rfl rfl rfl dX4_countMarks_27 ?_
      refine lv_icmp_ge (tgt := 95) hx hb dX4_countMarks_28 (by decide) (fun hc => ?_) (fun hc => ?_)
      · have hf := ft hf hc
        refine lv_iload hx hb dX4_countMarks_95 (lv_at hl 5 rfl) ?_
        exact ret_ri hx hb hr hlocks hf dX4_countMarks_97
      · have hf := ff hf hc
        refine lv_aload_n hx hb dX4_countMarks_31 rfl (lv_at hl 0 rfl) ?_
        refine lv_iload hx hb dX4_countMarks_32 (lv_at hl 6 rfl) ?_
        obtain ⟨hin, hf⟩ := gIn_some hf
        refine va_lald hx hb hK.1 hP 0 1 rfl rfl hin dX4_countMarks_34 ?_
        refine lv_lstore (lv' := [(7, .long (p0 (v6 : Int32).toNatClampNeg)), (0, .ref A_p0), (1, .int a1), (2, .int a2), (3, .int v3), (4, .int v4), (5, .int v5), (6, .int v6)]) hx hb dX4_countMarks_35 hl (by decide) rfl (fun ls hl => ?_)
        refine lv_iload hx hb dX4_countMarks_37 (lv_at hl 7 rfl) ?_
        refine lv_iload_n hx hb dX4_countMarks_39 rfl (lv_at hl 4 rfl) ?_
        refine lv_icmp_ne (tgt := 56) hx hb dX4_countMarks_40 (by decide) (fun hc => ?_) (fun hc => ?_)
        · have hf := ff hf hc
          exact BX4_countMarks_56 C hK hP hk17 (lv_sub hl [1, 2, 3, 4, 5, 6, 7, 0] rfl) hf
        · have hf := ft hf hc
          refine lv_lload hx hb dX4_countMarks_43 (lv_at hl 0 rfl) ?_
          refine lv_ldc2 (v := (-1)) hx hb hown (hts _ mX4_countMarks_k74) dX4_countMarks_45 ?_
          refine lv_iload_n hx hb dX4_countMarks_48 rfl (lv_at hl 2 rfl) ?_
          refine lv_bipush (v := 63) hx hb dX4_countMarks_49 (by decide) ?_
          refine lv_iand hx hb dX4_countMarks_51 ?_
          refine lv_lshl hx hb dX4_countMarks_52 rfl ?_
          refine lv_land hx hb dX4_countMarks_53 ?_
          refine lv_lstore (lv' := [(7, .long ((p0 (v6 : Int32).toNatClampNeg) &&& ((-1) <<< ((a1 &&& 63 : Int32).toInt64 &&& 63)))), (0, .ref A_p0), (1, .int a1), (2, .int a2), (3, .int v3), (4, .int v4), (5, .int v5), (6, .int v6)]) hx hb dX4_countMarks_54 hl (by decide) rfl (fun ls hl => ?_)
          exact BX4_countMarks_56 C hK hP hk17 (lv_sub hl [1, 2, 3, 4, 5, 6, 7, 0] rfl) hf
def fX4_countMarks (p0 : Nat → Int64) (a1 : Int32) (a2 : Int32) : Option (Int32) :=
  loopF (fun k q => bX4_countMarks_17 k p0 a1 a2 q.1 q.2.1 q.2.2.1 q.2.2.2) FU (a1 >>> (6 &&& 31), a2 >>> (6 &&& 31), 0, a1 >>> (6 &&& 31))
set_option maxRecDepth 100000 in
set_option maxHeartbeats 4000000 in
theorem CX4_countMarks (l : Launch) {D : va_G} {ty : TY} {A_p0 : Nat} {p0 : Nat → Int64} {a1 : Int32} {a2 : Int32} {q0 : Int32} (hf : fX4_countMarks p0 a1 a2 = some q0) : ROi l yX4_countMarks wsX4_countMarks rmX4_countMarks D ty [.ref A_p0, .int a1, .int a2] [(A_p0, .inl (ty.2.1, 1563, .inr (.inl p0)))] q0 := by
  refine ROi.start (cc := cX4_countMarks) (maxL := 9) (ret := (some .int)) (own := RX4) (by decide) rfl rfl (Nat.le_of_ble_eq_true rfl) ?_
  intro p e s m below meth c ls C hK hP hl
  obtain ⟨hx, hb, hr, hml, hown, hts, hlocks⟩ := id C
  have hl : lv_has ls 9 [(0, .ref A_p0), (1, .int a1), (2, .int a2)] := hl
  unfold fX4_countMarks at hf
  refine lv_iload_n hx hb dX4_countMarks_0 rfl (lv_at hl 1 rfl) ?_
  refine lv_bipush (v := 6) hx hb dX4_countMarks_1 (by decide) ?_
  refine lv_ishr hx hb dX4_countMarks_3 ?_
  refine lv_istore_n (lv' := [(3, .int (a1 >>> (6 &&& 31))), (0, .ref A_p0), (1, .int a1), (2, .int a2)]) hx hb dX4_countMarks_4 rfl hl (by decide) rfl (fun ls hl => ?_)
  refine lv_iload_n hx hb dX4_countMarks_5 rfl (lv_at hl 3 rfl) ?_
  refine lv_bipush (v := 6) hx hb dX4_countMarks_6 (by decide) ?_
  refine lv_ishr hx hb dX4_countMarks_8 ?_
  refine lv_istore (lv' := [(4, .int (a2 >>> (6 &&& 31))), (3, .int (a1 >>> (6 &&& 31))), (0, .ref A_p0), (1, .int a1), (2, .int a2)]) hx hb dX4_countMarks_9 hl (by decide) rfl (fun ls hl => ?_)
  refine lv_iconst (v := 0) hx hb dX4_countMarks_11 (by decide) ?_
  refine lv_istore (lv' := [(5, .int 0), (4, .int (a2 >>> (6 &&& 31))), (3, .int (a1 >>> (6 &&& 31))), (0, .ref A_p0), (1, .int a1), (2, .int a2)]) hx hb dX4_countMarks_12 hl (by decide) rfl (fun ls hl => ?_)
  refine lv_iload_n hx hb dX4_countMarks_14 rfl (lv_at hl 2 rfl) ?_
  refine lv_istore (lv' := [(6, .int (a1 >>> (6 &&& 31))), (5, .int 0), (4, .int (a2 >>> (6 &&& 31))), (3, .int (a1 >>> (6 &&& 31))), (0, .ref A_p0), (1, .int a1), (2, .int a2)]) hx hb dX4_countMarks_15 hl (by decide) rfl (fun ls hl => ?_)
  exact BX4_countMarks_17 C hK hP  FU _ _ _ _ _ (lv_sub hl [4, 5, 6, 3, 2, 1, 0] rfl) hf
/-! ===== SilenceCount.isWithin(III)Z ===== -/
abbrev rmX9_isWithin : Room := { frames := 0, cells := 0, slots := 0, locals := 0 }
theorem kkX9_isWithin : yX9_isWithin.cls = RX9 ∧ yX9_isWithin.cls ≠ "java/lang/invoke/MethodHandle" ∧ yX9_isWithin.cls ≠ "java/lang/invoke/VarHandle" ∧ (parseMethodDescriptor yX9_isWithin.desc).map (fun d => d.parameters.length) = some 3 := by decide +kernel
def fX9_isWithin (a0 : Int32) (a1 : Int32) (a2 : Int32) : Option (Int32) :=
  if a0 < a1 then some 0 else if a2 < a0 then some 0 else some 1
set_option maxRecDepth 100000 in
set_option maxHeartbeats 4000000 in
theorem CX9_isWithin (l : Launch) {D : va_G} {ty : TY} {a0 : Int32} {a1 : Int32} {a2 : Int32} {q0 : Int32} (hf : fX9_isWithin a0 a1 a2 = some q0) : ROi l yX9_isWithin wsX9_isWithin rmX9_isWithin D ty [.int a0, .int a1, .int a2] [] q0 := by
  refine ROi.start (cc := cX9_isWithin) (maxL := 3) (ret := (some .boolean)) (own := RX9) (by decide) rfl rfl (Nat.le_of_ble_eq_true rfl) ?_
  intro p e s m below meth c ls C hK hP hl
  obtain ⟨hx, hb, hr, hml, hown, hts, hlocks⟩ := id C
  have hl : lv_has ls 3 [(0, .int a0), (1, .int a1), (2, .int a2)] := hl
  unfold fX9_isWithin at hf
  refine lv_iload_n hx hb dX9_isWithin_0 rfl (lv_at hl 0 rfl) ?_
  refine lv_iload_n hx hb dX9_isWithin_1 rfl (lv_at hl 1 rfl) ?_
  refine lv_icmp_lt (tgt := 14) hx hb dX9_isWithin_2 (by decide) (fun hc => ?_) (fun hc => ?_)
  · have hf := ft hf hc
    refine lv_iconst (v := 0) hx hb dX9_isWithin_14 (by decide) ?_
    exact ret_rz hx hb hr hlocks (Or.inl rfl) hf dX9_isWithin_15
  · have hf := ff hf hc
    refine lv_iload_n hx hb dX9_isWithin_5 rfl (lv_at hl 0 rfl) ?_
    refine lv_iload_n hx hb dX9_isWithin_6 rfl (lv_at hl 2 rfl) ?_
    refine lv_icmp_gt (tgt := 14) hx hb dX9_isWithin_7 (by decide) (fun hc => ?_) (fun hc => ?_)
    · have hf := ft hf hc
      refine lv_iconst (v := 0) hx hb dX9_isWithin_14 (by decide) ?_
      exact ret_rz hx hb hr hlocks (Or.inl rfl) hf dX9_isWithin_15
    · have hf := ff hf hc
      refine lv_iconst (v := 1) hx hb dX9_isWithin_10 (by decide) ?_
      refine lv_goto (tgt := 15) hx hb dX9_isWithin_11 (by decide) ?_
      exact ret_rz hx hb hr hlocks (Or.inr rfl) hf dX9_isWithin_15
/-! ===== SilenceCount$Laws.countMirrored(II)I ===== -/
abbrev rmX4_countMirrored : Room := { frames := 1, cells := 0, slots := 0, locals := 23 }
theorem kkX4_countMirrored : yX4_countMirrored.cls = RX4 ∧ yX4_countMirrored.cls ≠ "java/lang/invoke/MethodHandle" ∧ yX4_countMirrored.cls ≠ "java/lang/invoke/VarHandle" ∧ (parseMethodDescriptor yX4_countMirrored.desc).map (fun d => d.parameters.length) = some 2 := by decide +kernel
theorem mX4_countMirrored_iX9 : Cond.initialized RX9 ∈ wsX4_countMirrored := by decide +kernel
theorem mX4_countMirrored_sX9_isWithin : Cond.static yX9_isWithin ∈ wsX4_countMirrored := by decide +kernel
def bX4_countMirrored_27 (k4 : Int32 × Int32 → Option (Int32)) (a0 : Int32) (a1 : Int32) (v2 : Int32) (v3 : Int32) : Option (Int32) :=
  (fX4_withMirrored v3 (v3 / 10)).bind fun r32 => (fX9_isWithin r32 a0 a1).bind fun r37 => if r37 = 0 then k4 (v2, v3 + 1) else k4 (v2 + 1, v3 + 1)
set_option maxRecDepth 100000 in
set_option maxHeartbeats 4000000 in
theorem BX4_countMirrored_27 {p : Program} {l : Launch} {e : Env} {s : State} {m : MethodId} {below : List Frame} {meth : Method} {c : Code} {D : va_G} {ty : TY} {a0 : Int32} {a1 : Int32} {q0 : Int32} (C : cx p s m [.int a0, .int a1] meth c cX4_countMirrored 4 (some .int) RX4 wsX4_countMirrored) (hK : KK D ty s) (hP : va_P D vwCl [] s.heap) {k4 : Int32 × Int32 → Option (Int32)} (hk4 : ∀ (v2 : Int32) (v3 : Int32) (ls : Array Slot), lv_has ls 4 [(0, .int a0), (1, .int a1), (2, .int v2), (3, .int v3)] → k4 (v2, v3) = some q0 → WRi p l e rmX4_countMirrored s m [.int a0, .int a1] below meth c q0 (F0 m 4 ls [])) {v2 : Int32} {v3 : Int32} {ls : Array Slot} (hl : lv_has ls 4 [(0, .int a0), (1, .int a1), (2, .int v2), (3, .int v3)]) (hf : bX4_countMirrored_27 k4 a0 a1 v2 v3 = some q0) : WRi p l e rmX4_countMirrored s m [.int a0, .int a1] below meth c q0 (F0 m 27 ls []) := by
  obtain ⟨hx, hb, hr, hml, hown, hts, hlocks⟩ := id C
  unfold bX4_countMirrored_27 at hf
  refine lv_iload_n hx hb dX4_countMirrored_27 rfl (lv_at hl 3 rfl) ?_
  refine lv_iload_n hx hb dX4_countMirrored_28 rfl (lv_at hl 3 rfl) ?_
  refine lv_bipush (v := 10) hx hb dX4_countMirrored_29 (by decide) ?_
  refine lv_idiv hx hb dX4_countMirrored_31 (by decide) ?_
  obtain ⟨r32, hr32, hf⟩ := bnd hf
  refine callS_ri (As := [.int v3, .int (v3 / 10)]) (rest := []) ⟨hx, hb, hml, hown, hts⟩ (CX4_withMirrored l hr32) (va_cwS 2 hts gX4_countMirrored_X4_withMirrored rfl rfl rfl kkX4_withMirrored.2 ⟨Nat.le_of_ble_eq_true rfl, Nat.le_of_ble_eq_true rfl⟩) hK hP hl.1 rfl (Nat.le_of_ble_eq_true rfl) dX4_countMirrored_32 ⟨Nat.zero_le _, Nat.zero_le _⟩ ?_
  refine lv_iload_n hx hb dX4_countMirrored_35 rfl (lv_at hl 0 rfl) ?_
  refine lv_iload_n hx hb dX4_countMirrored_36 rfl (lv_at hl 1 rfl) ?_
  obtain ⟨r37, hr37, hf⟩ := bnd hf
  refine callN_ri (As := [.int r32, .int a0, .int a1]) (rest := []) ⟨hx, hb, hml, hown, hts⟩ (CX9_isWithin l hr37) ⟨va_cnB 3 hts ggX4_countMirrored_X9_isWithin rfl rfl rfl (hK.2.1 ("SilenceCount$Laws", 82, yX9_isWithin, "SilenceCount") (by decide +kernel)) (hts _ mX4_countMirrored_iX9) kkX9_isWithin.2 ⟨Nat.le_of_ble_eq_true rfl, Nat.le_of_ble_eq_true rfl⟩, hts _ mX4_countMirrored_sX9_isWithin, trivial⟩ hK hP hl.1 rfl (Nat.le_of_ble_eq_true rfl) dX4_countMirrored_37 ⟨Nat.zero_le _, Nat.zero_le _⟩ ?_
  refine lv_if_eq (tgt := 46) hx hb dX4_countMirrored_40 (by decide) (fun hc => ?_) (fun hc => ?_)
  · have hf := ft hf hc
    refine lv_iinc (v := v3 + 1) (lv' := [(3, .int (v3 + 1)), (0, .int a0), (1, .int a1), (2, .int v2)]) hx hb dX4_countMirrored_46 hl (k := 3) rfl rfl (by decide) rfl (fun ls hl => ?_)
    refine lv_goto (tgt := 4) hx hb dX4_countMirrored_49 (by decide) ?_
    exact hk4 _ _ _ (lv_sub hl [1, 2, 3, 0] rfl) hf
  · have hf := ff hf hc
    refine lv_iinc (v := v2 + 1) (lv' := [(2, .int (v2 + 1)), (0, .int a0), (1, .int a1), (3, .int v3)]) hx hb dX4_countMirrored_43 hl (k := 2) rfl rfl (by decide) rfl (fun ls hl => ?_)
    refine lv_iinc (v := v3 + 1) (lv' := [(3, .int (v3 + 1)), (2, .int (v2 + 1)), (0, .int a0), (1, .int a1)]) hx hb dX4_countMirrored_46 hl (k := 3) rfl rfl (by decide) rfl (fun ls hl => ?_)
    refine lv_goto (tgt := 4) hx hb dX4_countMirrored_49 (by decide) ?_
    exact hk4 _ _ _ (lv_sub hl [2, 3, 1, 0] rfl) hf
def bX4_countMirrored_4 (k4 : Int32 × Int32 → Option (Int32)) (a0 : Int32) (a1 : Int32) (v2 : Int32) (v3 : Int32) : Option (Int32) :=
  if 999 < v3 then some v2 else (fX4_withMirrored v3 v3).bind fun r13 => (fX9_isWithin r13 a0 a1).bind fun r18 => if r18 = 0 then bX4_countMirrored_27 k4 a0 a1 v2 v3 else bX4_countMirrored_27 k4 a0 a1 (v2 + 1) v3
set_option maxRecDepth 100000 in
set_option maxHeartbeats 4000000 in
theorem BX4_countMirrored_4 {p : Program} {l : Launch} {e : Env} {s : State} {m : MethodId} {below : List Frame} {meth : Method} {c : Code} {D : va_G} {ty : TY} {a0 : Int32} {a1 : Int32} {q0 : Int32} (C : cx p s m [.int a0, .int a1] meth c cX4_countMirrored 4 (some .int) RX4 wsX4_countMirrored) (hK : KK D ty s) (hP : va_P D vwCl [] s.heap)   : ∀ (n : Nat) (v2 : Int32) (v3 : Int32) (ls : Array Slot), lv_has ls 4 [(0, .int a0), (1, .int a1), (2, .int v2), (3, .int v3)] → loopF (fun k q => bX4_countMirrored_4 k a0 a1 q.1 q.2) n (v2, v3) = some q0 → WRi p l e rmX4_countMirrored s m [.int a0, .int a1] below meth c q0 (F0 m 4 ls []) := by
  obtain ⟨hx, hb, hr, hml, hown, hts, hlocks⟩ := id C
  intro n
  induction n with
  | zero =>
    intro v2 v3 ls hl hf
    cases hf
  | succ n ih =>
    intro v2 v3 ls hl hf
    have hf : bX4_countMirrored_4 (loopF (fun k q => bX4_countMirrored_4 k a0 a1 q.1 q.2) n) a0 a1 v2 v3 = some q0 := hf
    have hk4 := ih
    unfold bX4_countMirrored_4 at hf
    refine lv_iload_n hx hb dX4_countMirrored_4 rfl (lv_at hl 3 rfl) ?_
    refine lv_sipush (v := 999) hx hb dX4_countMirrored_5 (by decide) ?_
    refine lv_icmp_gt (tgt := 52) hx hb dX4_countMirrored_8 (by decide) (fun hc => ?_) (fun hc => ?_)
    · have hf := ft hf hc
      refine lv_iload_n hx hb dX4_countMirrored_52 rfl (lv_at hl 2 rfl) ?_
      exact ret_ri hx hb hr hlocks hf dX4_countMirrored_53
    · have hf := ff hf hc
      refine lv_iload_n hx hb dX4_countMirrored_11 rfl (lv_at hl 3 rfl) ?_
      refine lv_iload_n hx hb dX4_countMirrored_12 rfl (lv_at hl 3 rfl) ?_
      obtain ⟨r13, hr13, hf⟩ := bnd hf
      refine callS_ri (As := [.int v3, .int v3]) (rest := []) ⟨hx, hb, hml, hown, hts⟩ (CX4_withMirrored l hr13) (va_cwS 2 hts gX4_countMirrored_X4_withMirrored rfl rfl rfl kkX4_withMirrored.2 ⟨Nat.le_of_ble_eq_true rfl, Nat.le_of_ble_eq_true rfl⟩) hK hP hl.1 rfl (Nat.le_of_ble_eq_true rfl) dX4_countMirrored_13 ⟨Nat.zero_le _, Nat.zero_le _⟩ ?_
      refine lv_iload_n hx hb dX4_countMirrored_16 rfl (lv_at hl 0 rfl) ?_
      refine lv_iload_n hx hb dX4_countMirrored_17 rfl (lv_at hl 1 rfl) ?_
      obtain ⟨r18, hr18, hf⟩ := bnd hf
      refine callN_ri (As := [.int r13, .int a0, .int a1]) (rest := []) ⟨hx, hb, hml, hown, hts⟩ (CX9_isWithin l hr18) ⟨va_cnB 3 hts ggX4_countMirrored_X9_isWithin rfl rfl rfl (hK.2.1 ("SilenceCount$Laws", 82, yX9_isWithin, "SilenceCount") (by decide +kernel)) (hts _ mX4_countMirrored_iX9) kkX9_isWithin.2 ⟨Nat.le_of_ble_eq_true rfl, Nat.le_of_ble_eq_true rfl⟩, hts _ mX4_countMirrored_sX9_isWithin, trivial⟩ hK hP hl.1 rfl (Nat.le_of_ble_eq_true rfl) dX4_countMirrored_18 ⟨Nat.zero_le _, Nat.zero_le _⟩ ?_
      refine lv_if_eq (tgt := 27) hx hb dX4_countMirrored_21 (by decide) (fun hc => ?_) (fun hc => ?_)
      · have hf := ft hf hc
        exact BX4_countMirrored_27 C hK hP hk4 (lv_sub hl [0, 1, 2, 3] rfl) hf
      · have hf := ff hf hc
        refine lv_iinc (v := v2 + 1) (lv' := [(2, .int (v2 + 1)), (0, .int a0), (1, .int a1), (3, .int v3)]) hx hb dX4_countMirrored_24 hl (k := 2) rfl rfl (by decide) rfl (fun ls hl => ?_)
        exact BX4_countMirrored_27 C hK hP hk4 (lv_sub hl [1, 2, 0, 3] rfl) hf
def fX4_countMirrored (a0 : Int32) (a1 : Int32) : Option (Int32) :=
  loopF (fun k q => bX4_countMirrored_4 k a0 a1 q.1 q.2) FU (0, 1)
set_option maxRecDepth 100000 in
set_option maxHeartbeats 4000000 in
theorem CX4_countMirrored (l : Launch) {D : va_G} {ty : TY} {a0 : Int32} {a1 : Int32} {q0 : Int32} (hf : fX4_countMirrored a0 a1 = some q0) : ROi l yX4_countMirrored wsX4_countMirrored rmX4_countMirrored D ty [.int a0, .int a1] [] q0 := by
  refine ROi.start (cc := cX4_countMirrored) (maxL := 4) (ret := (some .int)) (own := RX4) (by decide) rfl rfl (Nat.le_of_ble_eq_true rfl) ?_
  intro p e s m below meth c ls C hK hP hl
  obtain ⟨hx, hb, hr, hml, hown, hts, hlocks⟩ := id C
  have hl : lv_has ls 4 [(0, .int a0), (1, .int a1)] := hl
  unfold fX4_countMirrored at hf
  refine lv_iconst (v := 0) hx hb dX4_countMirrored_0 (by decide) ?_
  refine lv_istore_n (lv' := [(2, .int 0), (0, .int a0), (1, .int a1)]) hx hb dX4_countMirrored_1 rfl hl (by decide) rfl (fun ls hl => ?_)
  refine lv_iconst (v := 1) hx hb dX4_countMirrored_2 (by decide) ?_
  refine lv_istore_n (lv' := [(3, .int 1), (2, .int 0), (0, .int a0), (1, .int a1)]) hx hb dX4_countMirrored_3 rfl hl (by decide) rfl (fun ls hl => ?_)
  exact BX4_countMirrored_4 C hK hP  FU _ _ _ (lv_sub hl [2, 3, 1, 0] rfl) hf
/-! ===== SilenceCount$Laws.countPowers(II)I ===== -/
abbrev rmX4_countPowers : Room := { frames := 1, cells := 0, slots := 0, locals := 22 }
theorem kkX4_countPowers : yX4_countPowers.cls = RX4 ∧ yX4_countPowers.cls ≠ "java/lang/invoke/MethodHandle" ∧ yX4_countPowers.cls ≠ "java/lang/invoke/VarHandle" ∧ (parseMethodDescriptor yX4_countPowers.desc).map (fun d => d.parameters.length) = some 2 := by decide +kernel
theorem mX4_countPowers_k73 : Cond.constant RX4 73 (100000) ∈ wsX4_countPowers := by decide +kernel
theorem mX4_countPowers_iX9 : Cond.initialized RX9 ∈ wsX4_countPowers := by decide +kernel
theorem mX4_countPowers_sX9_isWithin : Cond.static yX9_isWithin ∈ wsX4_countPowers := by decide +kernel
def bX4_countPowers_22 (k4 : Int32 × Int32 → Option (Int32)) (v2 : Int32) (v3 : Int32) : Option (Int32) :=
  k4 (v2, v3 * 2)
set_option maxRecDepth 100000 in
set_option maxHeartbeats 4000000 in
theorem BX4_countPowers_22 {p : Program} {l : Launch} {e : Env} {s : State} {m : MethodId} {below : List Frame} {meth : Method} {c : Code} {D : va_G} {ty : TY} {a0 : Int32} {a1 : Int32} {q0 : Int32} (C : cx p s m [.int a0, .int a1] meth c cX4_countPowers 4 (some .int) RX4 wsX4_countPowers) (hK : KK D ty s) (hP : va_P D vwCl [] s.heap) {k4 : Int32 × Int32 → Option (Int32)} (hk4 : ∀ (v2 : Int32) (v3 : Int32) (ls : Array Slot), lv_has ls 4 [(0, .int a0), (1, .int a1), (2, .int v2), (3, .int v3)] → k4 (v2, v3) = some q0 → WRi p l e rmX4_countPowers s m [.int a0, .int a1] below meth c q0 (F0 m 4 ls [])) {v2 : Int32} {v3 : Int32} {ls : Array Slot} (hl : lv_has ls 4 [(0, .int a0), (1, .int a1), (2, .int v2), (3, .int v3)]) (hf : bX4_countPowers_22 k4 v2 v3 = some q0) : WRi p l e rmX4_countPowers s m [.int a0, .int a1] below meth c q0 (F0 m 22 ls []) := by
  obtain ⟨hx, hb, hr, hml, hown, hts, hlocks⟩ := id C
  unfold bX4_countPowers_22 at hf
  refine lv_iload_n hx hb dX4_countPowers_22 rfl (lv_at hl 3 rfl) ?_
  refine lv_iconst (v := 2) hx hb dX4_countPowers_23 (by decide) ?_
  refine lv_imul hx hb dX4_countPowers_24 ?_
  refine lv_istore_n (lv' := [(3, .int (v3 * 2)), (0, .int a0), (1, .int a1), (2, .int v2)]) hx hb dX4_countPowers_25 rfl hl (by decide) rfl (fun ls hl => ?_)
  refine lv_goto (tgt := 4) hx hb dX4_countPowers_26 (by decide) ?_
  exact hk4 _ _ _ (lv_sub hl [1, 2, 3, 0] rfl) hf
def bX4_countPowers_4 (k4 : Int32 × Int32 → Option (Int32)) (a0 : Int32) (a1 : Int32) (v2 : Int32) (v3 : Int32) : Option (Int32) :=
  if 100000 < v3 then some v2 else (fX9_isWithin v3 a0 a1).bind fun r13 => if r13 = 0 then bX4_countPowers_22 k4 v2 v3 else bX4_countPowers_22 k4 (v2 + 1) v3
set_option maxRecDepth 100000 in
set_option maxHeartbeats 4000000 in
theorem BX4_countPowers_4 {p : Program} {l : Launch} {e : Env} {s : State} {m : MethodId} {below : List Frame} {meth : Method} {c : Code} {D : va_G} {ty : TY} {a0 : Int32} {a1 : Int32} {q0 : Int32} (C : cx p s m [.int a0, .int a1] meth c cX4_countPowers 4 (some .int) RX4 wsX4_countPowers) (hK : KK D ty s) (hP : va_P D vwCl [] s.heap)   : ∀ (n : Nat) (v2 : Int32) (v3 : Int32) (ls : Array Slot), lv_has ls 4 [(0, .int a0), (1, .int a1), (2, .int v2), (3, .int v3)] → loopF (fun k q => bX4_countPowers_4 k a0 a1 q.1 q.2) n (v2, v3) = some q0 → WRi p l e rmX4_countPowers s m [.int a0, .int a1] below meth c q0 (F0 m 4 ls []) := by
  obtain ⟨hx, hb, hr, hml, hown, hts, hlocks⟩ := id C
  intro n
  induction n with
  | zero =>
    intro v2 v3 ls hl hf
    cases hf
  | succ n ih =>
    intro v2 v3 ls hl hf
    have hf : bX4_countPowers_4 (loopF (fun k q => bX4_countPowers_4 k a0 a1 q.1 q.2) n) a0 a1 v2 v3 = some q0 := hf
    have hk4 := ih
    unfold bX4_countPowers_4 at hf
    refine lv_iload_n hx hb dX4_countPowers_4 rfl (lv_at hl 3 rfl) ?_
    refine lv_ldc (v := 100000) hx hb hown (hts _ mX4_countPowers_k73) dX4_countPowers_5 ?_
    refine lv_icmp_gt (tgt := 29) hx hb dX4_countPowers_7 (by decide) (fun hc => ?_) (fun hc => ?_)
    · have hf := ft hf hc
      refine lv_iload_n hx hb dX4_countPowers_29 rfl (lv_at hl 2 rfl) ?_
      exact ret_ri hx hb hr hlocks hf dX4_countPowers_30
    · have hf := ff hf hc
      refine lv_iload_n hx hb dX4_countPowers_10 rfl (lv_at hl 3 rfl) ?_
      refine lv_iload_n hx hb dX4_countPowers_11 rfl (lv_at hl 0 rfl) ?_
      refine lv_iload_n hx hb dX4_countPowers_12 rfl (lv_at hl 1 rfl) ?_
      obtain ⟨r13, hr13, hf⟩ := bnd hf
      refine callN_ri (As := [.int v3, .int a0, .int a1]) (rest := []) ⟨hx, hb, hml, hown, hts⟩ (CX9_isWithin l hr13) ⟨va_cnB 3 hts ggX4_countPowers_X9_isWithin rfl rfl rfl (hK.2.1 ("SilenceCount$Laws", 82, yX9_isWithin, "SilenceCount") (by decide +kernel)) (hts _ mX4_countPowers_iX9) kkX9_isWithin.2 ⟨Nat.le_of_ble_eq_true rfl, Nat.le_of_ble_eq_true rfl⟩, hts _ mX4_countPowers_sX9_isWithin, trivial⟩ hK hP hl.1 rfl (Nat.le_of_ble_eq_true rfl) dX4_countPowers_13 ⟨Nat.zero_le _, Nat.zero_le _⟩ ?_
      refine lv_if_eq (tgt := 22) hx hb dX4_countPowers_16 (by decide) (fun hc => ?_) (fun hc => ?_)
      · have hf := ft hf hc
        exact BX4_countPowers_22 C hK hP hk4 (lv_sub hl [0, 1, 2, 3] rfl) hf
      · have hf := ff hf hc
        refine lv_iinc (v := v2 + 1) (lv' := [(2, .int (v2 + 1)), (0, .int a0), (1, .int a1), (3, .int v3)]) hx hb dX4_countPowers_19 hl (k := 2) rfl rfl (by decide) rfl (fun ls hl => ?_)
        exact BX4_countPowers_22 C hK hP hk4 (lv_sub hl [1, 2, 0, 3] rfl) hf
def fX4_countPowers (a0 : Int32) (a1 : Int32) : Option (Int32) :=
  loopF (fun k q => bX4_countPowers_4 k a0 a1 q.1 q.2) FU (0, 1)
set_option maxRecDepth 100000 in
set_option maxHeartbeats 4000000 in
theorem CX4_countPowers (l : Launch) {D : va_G} {ty : TY} {a0 : Int32} {a1 : Int32} {q0 : Int32} (hf : fX4_countPowers a0 a1 = some q0) : ROi l yX4_countPowers wsX4_countPowers rmX4_countPowers D ty [.int a0, .int a1] [] q0 := by
  refine ROi.start (cc := cX4_countPowers) (maxL := 4) (ret := (some .int)) (own := RX4) (by decide) rfl rfl (Nat.le_of_ble_eq_true rfl) ?_
  intro p e s m below meth c ls C hK hP hl
  obtain ⟨hx, hb, hr, hml, hown, hts, hlocks⟩ := id C
  have hl : lv_has ls 4 [(0, .int a0), (1, .int a1)] := hl
  unfold fX4_countPowers at hf
  refine lv_iconst (v := 0) hx hb dX4_countPowers_0 (by decide) ?_
  refine lv_istore_n (lv' := [(2, .int 0), (0, .int a0), (1, .int a1)]) hx hb dX4_countPowers_1 rfl hl (by decide) rfl (fun ls hl => ?_)
  refine lv_iconst (v := 1) hx hb dX4_countPowers_2 (by decide) ?_
  refine lv_istore_n (lv' := [(3, .int 1), (2, .int 0), (0, .int a0), (1, .int a1)]) hx hb dX4_countPowers_3 rfl hl (by decide) rfl (fun ls hl => ?_)
  exact BX4_countPowers_4 C hK hP  FU _ _ _ (lv_sub hl [2, 3, 1, 0] rfl) hf
/-! ===== SilenceCount$Laws.greatestPowerUpTo(I)I ===== -/
abbrev rmX4_greatestPowerUpTo : Room := { frames := 0, cells := 0, slots := 0, locals := 0 }
theorem kkX4_greatestPowerUpTo : yX4_greatestPowerUpTo.cls = RX4 ∧ yX4_greatestPowerUpTo.cls ≠ "java/lang/invoke/MethodHandle" ∧ yX4_greatestPowerUpTo.cls ≠ "java/lang/invoke/VarHandle" ∧ (parseMethodDescriptor yX4_greatestPowerUpTo.desc).map (fun d => d.parameters.length) = some 1 := by decide +kernel
theorem mX4_greatestPowerUpTo_k86 : Cond.constant RX4 86 (1000000) ∈ wsX4_greatestPowerUpTo := by decide +kernel
def bX4_greatestPowerUpTo_20 (k4 : Int32 × Int32 → Option (Int32)) (v2 : Int32) (s0 : Int32) : Option (Int32) :=
  k4 (s0, v2 * 2)
set_option maxRecDepth 100000 in
set_option maxHeartbeats 4000000 in
theorem BX4_greatestPowerUpTo_20 {p : Program} {l : Launch} {e : Env} {s : State} {m : MethodId} {below : List Frame} {meth : Method} {c : Code} {D : va_G} {ty : TY} {a0 : Int32} {q0 : Int32} (C : cx p s m [.int a0] meth c cX4_greatestPowerUpTo 3 (some .int) RX4 wsX4_greatestPowerUpTo) (hK : KK D ty s) (hP : va_P D vwCl [] s.heap) {k4 : Int32 × Int32 → Option (Int32)} (hk4 : ∀ (v1 : Int32) (v2 : Int32) (ls : Array Slot), lv_has ls 3 [(0, .int a0), (1, .int v1), (2, .int v2)] → k4 (v1, v2) = some q0 → WRi p l e rmX4_greatestPowerUpTo s m [.int a0] below meth c q0 (F0 m 4 ls [])) {v2 : Int32} {s0 : Int32} {ls : Array Slot} (hl : lv_has ls 3 [(0, .int a0), (2, .int v2)]) (hf : bX4_greatestPowerUpTo_20 k4 v2 s0 = some q0) : WRi p l e rmX4_greatestPowerUpTo s m [.int a0] below meth c q0 (F0 m 20 ls [.int s0]) := by
  obtain ⟨hx, hb, hr, hml, hown, hts, hlocks⟩ := id C
  unfold bX4_greatestPowerUpTo_20 at hf
  refine lv_istore_n (lv' := [(1, .int s0), (0, .int a0), (2, .int v2)]) hx hb dX4_greatestPowerUpTo_20 rfl hl (by decide) rfl (fun ls hl => ?_)
  refine lv_iload_n hx hb dX4_greatestPowerUpTo_21 rfl (lv_at hl 2 rfl) ?_
  refine lv_iconst (v := 2) hx hb dX4_greatestPowerUpTo_22 (by decide) ?_
  refine lv_imul hx hb dX4_greatestPowerUpTo_23 ?_
  refine lv_istore_n (lv' := [(2, .int (v2 * 2)), (1, .int s0), (0, .int a0)]) hx hb dX4_greatestPowerUpTo_24 rfl hl (by decide) rfl (fun ls hl => ?_)
  refine lv_goto (tgt := 4) hx hb dX4_greatestPowerUpTo_25 (by decide) ?_
  exact hk4 _ _ _ (lv_sub hl [2, 1, 0] rfl) hf
def bX4_greatestPowerUpTo_4 (k4 : Int32 × Int32 → Option (Int32)) (a0 : Int32) (v1 : Int32) (v2 : Int32) : Option (Int32) :=
  if 1000000 < v2 then some v1 else if a0 < v2 then bX4_greatestPowerUpTo_20 k4 v2 v1 else bX4_greatestPowerUpTo_20 k4 v2 v2
set_option maxRecDepth 100000 in
set_option maxHeartbeats 4000000 in
theorem BX4_greatestPowerUpTo_4 {p : Program} {l : Launch} {e : Env} {s : State} {m : MethodId} {below : List Frame} {meth : Method} {c : Code} {D : va_G} {ty : TY} {a0 : Int32} {q0 : Int32} (C : cx p s m [.int a0] meth c cX4_greatestPowerUpTo 3 (some .int) RX4 wsX4_greatestPowerUpTo) (hK : KK D ty s) (hP : va_P D vwCl [] s.heap)   : ∀ (n : Nat) (v1 : Int32) (v2 : Int32) (ls : Array Slot), lv_has ls 3 [(0, .int a0), (1, .int v1), (2, .int v2)] → loopF (fun k q => bX4_greatestPowerUpTo_4 k a0 q.1 q.2) n (v1, v2) = some q0 → WRi p l e rmX4_greatestPowerUpTo s m [.int a0] below meth c q0 (F0 m 4 ls []) := by
  obtain ⟨hx, hb, hr, hml, hown, hts, hlocks⟩ := id C
  intro n
  induction n with
  | zero =>
    intro v1 v2 ls hl hf
    cases hf
  | succ n ih =>
    intro v1 v2 ls hl hf
    have hf : bX4_greatestPowerUpTo_4 (loopF (fun k q => bX4_greatestPowerUpTo_4 k a0 q.1 q.2) n) a0 v1 v2 = some q0 := hf
    have hk4 := ih
    unfold bX4_greatestPowerUpTo_4 at hf
    refine lv_iload_n hx hb dX4_greatestPowerUpTo_4 rfl (lv_at hl 2 rfl) ?_
    refine lv_ldc (v := 1000000) hx hb hown (hts _ mX4_greatestPowerUpTo_k86) dX4_greatestPowerUpTo_5 ?_
    refine lv_icmp_gt (tgt := 28) hx hb dX4_greatestPowerUpTo_7 (by decide) (fun hc => ?_) (fun hc => ?_)
    · have hf := ft hf hc
      refine lv_iload_n hx hb dX4_greatestPowerUpTo_28 rfl (lv_at hl 1 rfl) ?_
      exact ret_ri hx hb hr hlocks hf dX4_greatestPowerUpTo_29
    · have hf := ff hf hc
      refine lv_iload_n hx hb dX4_greatestPowerUpTo_10 rfl (lv_at hl 2 rfl) ?_
      refine lv_iload_n hx hb dX4_greatestPowerUpTo_11 rfl (lv_at hl 0 rfl) ?_
      refine lv_icmp_gt (tgt := 19) hx hb dX4_greatestPowerUpTo_12 (by decide) (fun hc => ?_) (fun hc => ?_)
      · have hf := ft hf hc
        refine lv_iload_n hx hb dX4_greatestPowerUpTo_19 rfl (lv_at hl 1 rfl) ?_
        exact BX4_greatestPowerUpTo_20 C hK hP hk4 (lv_sub hl [0, 2] rfl) hf
      · have hf := ff hf hc
        refine lv_iload_n hx hb dX4_greatestPowerUpTo_15 rfl (lv_at hl 2 rfl) ?_
        refine lv_goto (tgt := 20) hx hb dX4_greatestPowerUpTo_16 (by decide) ?_
        exact BX4_greatestPowerUpTo_20 C hK hP hk4 (lv_sub hl [0, 2] rfl) hf
def fX4_greatestPowerUpTo (a0 : Int32) : Option (Int32) :=
  loopF (fun k q => bX4_greatestPowerUpTo_4 k a0 q.1 q.2) FU (0, 1)
set_option maxRecDepth 100000 in
set_option maxHeartbeats 4000000 in
theorem CX4_greatestPowerUpTo (l : Launch) {D : va_G} {ty : TY} {a0 : Int32} {q0 : Int32} (hf : fX4_greatestPowerUpTo a0 = some q0) : ROi l yX4_greatestPowerUpTo wsX4_greatestPowerUpTo rmX4_greatestPowerUpTo D ty [.int a0] [] q0 := by
  refine ROi.start (cc := cX4_greatestPowerUpTo) (maxL := 3) (ret := (some .int)) (own := RX4) (by decide) rfl rfl (Nat.le_of_ble_eq_true rfl) ?_
  intro p e s m below meth c ls C hK hP hl
  obtain ⟨hx, hb, hr, hml, hown, hts, hlocks⟩ := id C
  have hl : lv_has ls 3 [(0, .int a0)] := hl
  unfold fX4_greatestPowerUpTo at hf
  refine lv_iconst (v := 0) hx hb dX4_greatestPowerUpTo_0 (by decide) ?_
  refine lv_istore_n (lv' := [(1, .int 0), (0, .int a0)]) hx hb dX4_greatestPowerUpTo_1 rfl hl (by decide) rfl (fun ls hl => ?_)
  refine lv_iconst (v := 1) hx hb dX4_greatestPowerUpTo_2 (by decide) ?_
  refine lv_istore_n (lv' := [(2, .int 1), (1, .int 0), (0, .int a0)]) hx hb dX4_greatestPowerUpTo_3 rfl hl (by decide) rfl (fun ls hl => ?_)
  exact BX4_greatestPowerUpTo_4 C hK hP  FU _ _ _ (lv_sub hl [2, 1, 0] rfl) hf
/-! ===== SilenceCount$Laws.startOfSearch(II)I ===== -/
abbrev rmX4_startOfSearch : Room := { frames := 1, cells := 0, slots := 0, locals := 22 }
theorem kkX4_startOfSearch : yX4_startOfSearch.cls = RX4 ∧ yX4_startOfSearch.cls ≠ "java/lang/invoke/MethodHandle" ∧ yX4_startOfSearch.cls ≠ "java/lang/invoke/VarHandle" ∧ (parseMethodDescriptor yX4_startOfSearch.desc).map (fun d => d.parameters.length) = some 2 := by decide +kernel
def fX4_startOfSearch (a0 : Int32) (a1 : Int32) : Option (Int32) :=
  if a0 = 0 then some a1 else if a0 = 1 then (fX4_rootOf a1).bind fun r35 => (fX4_rootOf a1).bind fun r39 => some (r35 * r39) else if a0 = 2 then some a1 else if a0 = 3 then some a1 else (fX4_greatestPowerUpTo a1).bind fun r45 => some r45
set_option maxRecDepth 100000 in
set_option maxHeartbeats 4000000 in
theorem CX4_startOfSearch (l : Launch) {D : va_G} {ty : TY} {a0 : Int32} {a1 : Int32} {q0 : Int32} (hf : fX4_startOfSearch a0 a1 = some q0) : ROi l yX4_startOfSearch wsX4_startOfSearch rmX4_startOfSearch D ty [.int a0, .int a1] [] q0 := by
  refine ROi.start (cc := cX4_startOfSearch) (maxL := 2) (ret := (some .int)) (own := RX4) (by decide) rfl rfl (Nat.le_of_ble_eq_true rfl) ?_
  intro p e s m below meth c ls C hK hP hl
  obtain ⟨hx, hb, hr, hml, hown, hts, hlocks⟩ := id C
  have hl : lv_has ls 2 [(0, .int a0), (1, .int a1)] := hl
  unfold fX4_startOfSearch at hf
  refine lv_iload_n hx hb dX4_startOfSearch_0 rfl (lv_at hl 0 rfl) ?_
  by_cases hc0 : a0 = 0
  · have hf := ft hf hc0
    refine lv_tableIn (tgt := 32) hx hb dX4_startOfSearch_1 (by rw [hc0]; decide) (by rw [hc0]; decide) (by rw [hc0] <;> rfl) (by decide) ?_
    refine lv_iload_n hx hb dX4_startOfSearch_32 rfl (lv_at hl 1 rfl) ?_
    exact ret_ri hx hb hr hlocks hf dX4_startOfSearch_33
  · have hf := ff hf hc0
    by_cases hc1 : a0 = 1
    · have hf := ft hf hc1
      refine lv_tableIn (tgt := 34) hx hb dX4_startOfSearch_1 (by rw [hc1]; decide) (by rw [hc1]; decide) (by rw [hc1] <;> rfl) (by decide) ?_
      refine lv_iload_n hx hb dX4_startOfSearch_34 rfl (lv_at hl 1 rfl) ?_
      obtain ⟨r35, hr35, hf⟩ := bnd hf
      refine callS_ri (As := [.int a1]) (rest := []) ⟨hx, hb, hml, hown, hts⟩ (CX4_rootOf l hr35) (va_cwS 1 hts gX4_startOfSearch_X4_rootOf rfl rfl rfl kkX4_rootOf.2 ⟨Nat.le_of_ble_eq_true rfl, Nat.le_of_ble_eq_true rfl⟩) hK hP hl.1 rfl (Nat.le_of_ble_eq_true rfl) dX4_startOfSearch_35 ⟨Nat.zero_le _, Nat.zero_le _⟩ ?_
      refine lv_iload_n hx hb dX4_startOfSearch_38 rfl (lv_at hl 1 rfl) ?_
      obtain ⟨r39, hr39, hf⟩ := bnd hf
      refine callS_ri (As := [.int a1]) (rest := [.int r35]) ⟨hx, hb, hml, hown, hts⟩ (CX4_rootOf l hr39) (va_cwS 1 hts gX4_startOfSearch_X4_rootOf rfl rfl rfl kkX4_rootOf.2 ⟨Nat.le_of_ble_eq_true rfl, Nat.le_of_ble_eq_true rfl⟩) hK hP hl.1 rfl (Nat.le_of_ble_eq_true rfl) dX4_startOfSearch_39 ⟨Nat.zero_le _, Nat.zero_le _⟩ ?_
      refine lv_imul hx hb dX4_startOfSearch_42 ?_
      exact ret_ri hx hb hr hlocks hf dX4_startOfSearch_43
    · have hf := ff hf hc1
      by_cases hc2 : a0 = 2
      · have hf := ft hf hc2
        refine lv_tableIn (tgt := 32) hx hb dX4_startOfSearch_1 (by rw [hc2]; decide) (by rw [hc2]; decide) (by rw [hc2] <;> rfl) (by decide) ?_
        refine lv_iload_n hx hb dX4_startOfSearch_32 rfl (lv_at hl 1 rfl) ?_
        exact ret_ri hx hb hr hlocks hf dX4_startOfSearch_33
      · have hf := ff hf hc2
        by_cases hc3 : a0 = 3
        · have hf := ft hf hc3
          refine lv_tableIn (tgt := 32) hx hb dX4_startOfSearch_1 (by rw [hc3]; decide) (by rw [hc3]; decide) (by rw [hc3] <;> rfl) (by decide) ?_
          refine lv_iload_n hx hb dX4_startOfSearch_32 rfl (lv_at hl 1 rfl) ?_
          exact ret_ri hx hb hr hlocks hf dX4_startOfSearch_33
        · have hf := ff hf hc3
          refine lv_tableOut (tgt := 44) hx hb dX4_startOfSearch_1 (by have h0 := sw_ne 0 (by decide) hc0; have h1 := sw_ne 1 (by decide) hc1; have h2 := sw_ne 2 (by decide) hc2; have h3 := sw_ne 3 (by decide) hc3; omega) (by decide) ?_
          refine lv_iload_n hx hb dX4_startOfSearch_44 rfl (lv_at hl 1 rfl) ?_
          obtain ⟨r45, hr45, hf⟩ := bnd hf
          refine callS_ri (As := [.int a1]) (rest := []) ⟨hx, hb, hml, hown, hts⟩ (CX4_greatestPowerUpTo l hr45) (va_cwS 1 hts gX4_startOfSearch_X4_greatestPowerUpTo rfl rfl rfl kkX4_greatestPowerUpTo.2 ⟨Nat.le_of_ble_eq_true rfl, Nat.le_of_ble_eq_true rfl⟩) hK hP hl.1 rfl (Nat.le_of_ble_eq_true rfl) dX4_startOfSearch_45 ⟨Nat.zero_le _, Nat.zero_le _⟩ ?_
          exact ret_ri hx hb hr hlocks hf dX4_startOfSearch_48
/-! ===== SilenceCount$Laws.nearestAtOrBelow(II)I ===== -/
abbrev rmX4_nearestAtOrBelow : Room := { frames := 2, cells := 0, slots := 0, locals := 44 }
theorem kkX4_nearestAtOrBelow : yX4_nearestAtOrBelow.cls = RX4 ∧ yX4_nearestAtOrBelow.cls ≠ "java/lang/invoke/MethodHandle" ∧ yX4_nearestAtOrBelow.cls ≠ "java/lang/invoke/VarHandle" ∧ (parseMethodDescriptor yX4_nearestAtOrBelow.desc).map (fun d => d.parameters.length) = some 2 := by decide +kernel
def bX4_nearestAtOrBelow_6 (k6 : Int32 → Option (Int32)) (a0 : Int32) (v2 : Int32) : Option (Int32) :=
  if v2 < 1 then some (-6) else (fX4_bowAt a0 v2).bind fun r13 => if r13 = 0 then k6 (v2 + (-1)) else some v2
set_option maxRecDepth 100000 in
set_option maxHeartbeats 4000000 in
theorem BX4_nearestAtOrBelow_6 {p : Program} {l : Launch} {e : Env} {s : State} {m : MethodId} {below : List Frame} {meth : Method} {c : Code} {D : va_G} {ty : TY} {a0 : Int32} {a1 : Int32} {q0 : Int32} (C : cx p s m [.int a0, .int a1] meth c cX4_nearestAtOrBelow 3 (some .int) RX4 wsX4_nearestAtOrBelow) (hK : KK D ty s) (hP : va_P D vwCl [] s.heap)   : ∀ (n : Nat) (v2 : Int32) (ls : Array Slot), lv_has ls 3 [(0, .int a0), (2, .int v2)] → loopF (fun k q => bX4_nearestAtOrBelow_6 k a0 q) n (v2) = some q0 → WRi p l e rmX4_nearestAtOrBelow s m [.int a0, .int a1] below meth c q0 (F0 m 6 ls []) := by
  obtain ⟨hx, hb, hr, hml, hown, hts, hlocks⟩ := id C
  intro n
  induction n with
  | zero =>
    intro v2 ls hl hf
    cases hf
  | succ n ih =>
    intro v2 ls hl hf
    have hf : bX4_nearestAtOrBelow_6 (loopF (fun k q => bX4_nearestAtOrBelow_6 k a0 q) n) a0 v2 = some q0 := hf
    have hk6 := ih
    unfold bX4_nearestAtOrBelow_6 at hf
    refine lv_iload_n hx hb dX4_nearestAtOrBelow_6 rfl (lv_at hl 1 rfl) ?_
    refine lv_iconst (v := 1) hx hb dX4_nearestAtOrBelow_7 (by decide) ?_
    refine lv_icmp_lt (tgt := 27) hx hb dX4_nearestAtOrBelow_8 (by decide) (fun hc => ?_) (fun hc => ?_)
    · have hf := ft hf hc
      refine lv_bipush (v := (-6)) hx hb dX4_nearestAtOrBelow_27 (by decide) ?_
      exact ret_ri hx hb hr hlocks hf dX4_nearestAtOrBelow_29
    · have hf := ff hf hc
      refine lv_iload_n hx hb dX4_nearestAtOrBelow_11 rfl (lv_at hl 0 rfl) ?_
      refine lv_iload_n hx hb dX4_nearestAtOrBelow_12 rfl (lv_at hl 1 rfl) ?_
      obtain ⟨r13, hr13, hf⟩ := bnd hf
      refine callS_ri (As := [.int a0, .int v2]) (rest := []) ⟨hx, hb, hml, hown, hts⟩ (CX4_bowAt l hr13) (va_cwS 2 hts gX4_nearestAtOrBelow_X4_bowAt rfl rfl rfl kkX4_bowAt.2 ⟨Nat.le_of_ble_eq_true rfl, Nat.le_of_ble_eq_true rfl⟩) hK hP hl.1 rfl (Nat.le_of_ble_eq_true rfl) dX4_nearestAtOrBelow_13 ⟨Nat.zero_le _, Nat.zero_le _⟩ ?_
      refine lv_if_eq (tgt := 21) hx hb dX4_nearestAtOrBelow_16 (by decide) (fun hc => ?_) (fun hc => ?_)
      · have hf := ft hf hc
        refine lv_iinc (v := v2 + (-1)) (lv' := [(2, .int (v2 + (-1))), (0, .int a0)]) hx hb dX4_nearestAtOrBelow_21 hl (k := 1) rfl rfl (by decide) rfl (fun ls hl => ?_)
        refine lv_goto (tgt := 6) hx hb dX4_nearestAtOrBelow_24 (by decide) ?_
        exact hk6 _ _ (lv_sub hl [1, 0] rfl) hf
      · have hf := ff hf hc
        refine lv_iload_n hx hb dX4_nearestAtOrBelow_19 rfl (lv_at hl 1 rfl) ?_
        exact ret_ri hx hb hr hlocks hf dX4_nearestAtOrBelow_20
def fX4_nearestAtOrBelow (a0 : Int32) (a1 : Int32) : Option (Int32) :=
  (fX4_startOfSearch a0 a1).bind fun r2 => loopF (fun k q => bX4_nearestAtOrBelow_6 k a0 q) FU (r2)
set_option maxRecDepth 100000 in
set_option maxHeartbeats 4000000 in
theorem CX4_nearestAtOrBelow (l : Launch) {D : va_G} {ty : TY} {a0 : Int32} {a1 : Int32} {q0 : Int32} (hf : fX4_nearestAtOrBelow a0 a1 = some q0) : ROi l yX4_nearestAtOrBelow wsX4_nearestAtOrBelow rmX4_nearestAtOrBelow D ty [.int a0, .int a1] [] q0 := by
  refine ROi.start (cc := cX4_nearestAtOrBelow) (maxL := 3) (ret := (some .int)) (own := RX4) (by decide) rfl rfl (Nat.le_of_ble_eq_true rfl) ?_
  intro p e s m below meth c ls C hK hP hl
  obtain ⟨hx, hb, hr, hml, hown, hts, hlocks⟩ := id C
  have hl : lv_has ls 3 [(0, .int a0), (1, .int a1)] := hl
  unfold fX4_nearestAtOrBelow at hf
  refine lv_iload_n hx hb dX4_nearestAtOrBelow_0 rfl (lv_at hl 0 rfl) ?_
  refine lv_iload_n hx hb dX4_nearestAtOrBelow_1 rfl (lv_at hl 1 rfl) ?_
  obtain ⟨r2, hr2, hf⟩ := bnd hf
  refine callS_ri (As := [.int a0, .int a1]) (rest := []) ⟨hx, hb, hml, hown, hts⟩ (CX4_startOfSearch l hr2) (va_cwS 2 hts gX4_nearestAtOrBelow_X4_startOfSearch rfl rfl rfl kkX4_startOfSearch.2 ⟨Nat.le_of_ble_eq_true rfl, Nat.le_of_ble_eq_true rfl⟩) hK hP hl.1 rfl (Nat.le_of_ble_eq_true rfl) dX4_nearestAtOrBelow_2 ⟨Nat.zero_le _, Nat.zero_le _⟩ ?_
  refine lv_istore_n (lv' := [(2, .int r2), (0, .int a0), (1, .int a1)]) hx hb dX4_nearestAtOrBelow_5 rfl hl (by decide) rfl (fun ls hl => ?_)
  exact BX4_nearestAtOrBelow_6 C hK hP  FU _ _ (lv_sub hl [1, 0] rfl) hf
/-! ===== SilenceCount$Pad.add(I)Z ===== -/
abbrev rmX5_add : Room := { frames := 0, cells := 0, slots := 0, locals := 0 }
theorem kkX5_add : yX5_add.cls = RX5 ∧ yX5_add.cls ≠ "java/lang/invoke/MethodHandle" ∧ yX5_add.cls ≠ "java/lang/invoke/VarHandle" ∧ (parseMethodDescriptor yX5_add.desc).map (fun d => d.parameters.length) = some 1 := by decide +kernel
theorem mX5_add_f21 : Cond.fieldLink RX5 21 "SilenceCount$Pad" "size" "I" ∈ wsX5_add := by decide +kernel
theorem mX5_add_f11 : Cond.fieldLink RX5 11 "SilenceCount$Pad" "signs" "[I" ∈ wsX5_add := by decide +kernel
theorem wX5_add_X5 : ∀ w ∈ u_ws RX5 TX5 5, w ∈ wsX5_add := by decide +kernel
def fX5_add (t_size : Int32) (t_signs : Nat → Int32) (a1 : Int32) : Option (Int32 × Int32 × (Nat → Int32)) :=
  if t_size < 60 then gIn t_size 60 (some (1, t_size + 1, upd t_signs (t_size : Int32).toNatClampNeg a1)) else some (0, t_size, t_signs)
set_option maxRecDepth 100000 in
set_option maxHeartbeats 4000000 in
theorem CX5_add (l : Launch) {D : va_G} {ty : TY} {A_t A_t_signs A_t_actMonks A_t_actSigns : Nat} {t_size : Int32} {t_acts : Int32} {t_signs : Nat → Int32} {t_actMonks : Nat → Int32} {t_actSigns : Nat → Int32} {a1 : Int32} {q0 : Int32 × Int32 × (Nat → Int32)} (hf : fX5_add t_size t_signs a1 = some q0) : RWi l yX5_add wsX5_add rmX5_add D ty [.ref A_t, .int a1] [(A_t, .inr (4, [.int t_size, .ref A_t_signs, .int t_acts, .ref A_t_actMonks, .ref A_t_actSigns])), (A_t_signs, .inl (ty.1, 60, .inl t_signs)), (A_t_actMonks, .inl (ty.1, 60, .inl t_actMonks)), (A_t_actSigns, .inl (ty.1, 60, .inl t_actSigns))] q0.1 [(A_t, .inr (4, [.int q0.2.1, .ref A_t_signs, .int t_acts, .ref A_t_actMonks, .ref A_t_actSigns])), (A_t_signs, .inl (ty.1, 60, .inl q0.2.2)), (A_t_actMonks, .inl (ty.1, 60, .inl t_actMonks)), (A_t_actSigns, .inl (ty.1, 60, .inl t_actSigns))] := by
  refine RWi.start (cc := cX5_add) (maxL := 2) (ret := (some .boolean)) (own := RX5) (by decide) rfl rfl (Nat.le_of_ble_eq_true rfl) ?_
  intro p e s m below meth c ls C hK hP hD hS hl
  obtain ⟨WC, hWC⟩ : ∃ w : va_W, w = [(A_t, .inr (4, [.int t_size, .ref A_t_signs, .int t_acts, .ref A_t_actMonks, .ref A_t_actSigns])), (A_t_signs, .inl (ty.1, 60, .inl t_signs)), (A_t_actMonks, .inl (ty.1, 60, .inl t_actMonks)), (A_t_actSigns, .inl (ty.1, 60, .inl t_actSigns))] := ⟨_, rfl⟩
  rw [← hWC] at hD hS ⊢
  have hD : va_D (va_A WC s.heap.size) [(A_t, .inr (4, [.int t_size, .ref A_t_signs, .int t_acts, .ref A_t_actMonks, .ref A_t_actSigns])), (A_t_signs, .inl (ty.1, 60, .inl t_signs)), (A_t_actMonks, .inl (ty.1, 60, .inl t_actMonks)), (A_t_actSigns, .inl (ty.1, 60, .inl t_actSigns))] := by rw [← hWC]; exact hD
  obtain ⟨hx, hb, hr, hml, hown, hts, hlocks⟩ := id C
  have hl : lv_has ls 2 [(0, .ref A_t), (1, .int a1)] := hl
  unfold fX5_add at hf
  refine lv_aload_n hx hb dX5_add_0 rfl (lv_at hl 0 rfl) ?_
  refine va_get (D := D) (ci := 4) (v := .int t_size) (C := RX5) (T := TX5) (N := 5) hx hb hts wX5_add_X5 hown hK.1 hP 0 rfl rfl 0 (by decide) (hts _ mX5_add_f21) (fun _ h9 => h9) rfl dX5_add_1 ?_
  refine lv_bipush (v := 60) hx hb dX5_add_4 (by decide) ?_
  refine lv_icmp_lt (tgt := 11) hx hb dX5_add_6 (by decide) (fun hc => ?_) (fun hc => ?_)
  · have hf := ft hf hc
    refine lv_aload_n hx hb dX5_add_11 rfl (lv_at hl 0 rfl) ?_
    refine va_get (D := D) (ci := 4) (v := .ref A_t_signs) (C := RX5) (T := TX5) (N := 5) hx hb hts wX5_add_X5 hown hK.1 hP 0 rfl rfl 1 (by decide) (hts _ mX5_add_f11) (fun _ h9 => h9) rfl dX5_add_12 ?_
    refine lv_aload_n hx hb dX5_add_15 rfl (lv_at hl 0 rfl) ?_
    refine va_get (D := D) (ci := 4) (v := .int t_size) (C := RX5) (T := TX5) (N := 5) hx hb hts wX5_add_X5 hown hK.1 hP 0 rfl rfl 0 (by decide) (hts _ mX5_add_f21) (fun _ h9 => h9) rfl dX5_add_16 ?_
    refine lv_iload_n hx hb dX5_add_19 rfl (lv_at hl 1 rfl) ?_
    obtain ⟨hin, hf⟩ := gIn_some hf
    refine va_iast hx hb hK.1 hP hD hS 1 0 rfl rfl hin dX5_add_20 (fun H locs hP hD hS => ?_)
    have hP : va_P D vwCl [(A_t, .inr (4, [.int t_size, .ref A_t_signs, .int t_acts, .ref A_t_actMonks, .ref A_t_actSigns])), (A_t_signs, .inl (ty.1, 60, .inl (upd t_signs (t_size : Int32).toNatClampNeg a1))), (A_t_actMonks, .inl (ty.1, 60, .inl t_actMonks)), (A_t_actSigns, .inl (ty.1, 60, .inl t_actSigns))] H := hP
    have hD : va_D (va_A WC s.heap.size) [(A_t, .inr (4, [.int t_size, .ref A_t_signs, .int t_acts, .ref A_t_actMonks, .ref A_t_actSigns])), (A_t_signs, .inl (ty.1, 60, .inl (upd t_signs (t_size : Int32).toNatClampNeg a1))), (A_t_actMonks, .inl (ty.1, 60, .inl t_actMonks)), (A_t_actSigns, .inl (ty.1, 60, .inl t_actSigns))] := hD
    refine lv_aload_n hx hb dX5_add_21 rfl (lv_at hl 0 rfl) ?_
    refine lv_dup hx hb dX5_add_22 rfl ?_
    refine va_get (D := D) (ci := 4) (v := .int t_size) (C := RX5) (T := TX5) (N := 5) hx hb hts wX5_add_X5 hown hK.1 hP 0 rfl rfl 0 (by decide) (hts _ mX5_add_f21) (fun _ h9 => h9) rfl dX5_add_23 ?_
    refine lv_iconst (v := 1) hx hb dX5_add_26 (by decide) ?_
    refine lv_iadd hx hb dX5_add_27 ?_
    refine va_put (D := D) (ci := 4) (v := .int (t_size + 1)) (ty := .int) (C := RX5) (T := TX5) (N := 5) hx hb hts wX5_add_X5 tyX5 tyX5_ok nmX5 hown hK.1 hP hD hS 0 rfl rfl 0 (by decide) (hts _ mX5_add_f21) (fun _ h9 => h9) rfl (by decide +kernel) rfl rfl (Nat.le_of_ble_eq_true rfl) dX5_add_28 (fun H locs hP hD hS => ?_)
    have hP : va_P D vwCl [(A_t, .inr (4, [.int (t_size + 1), .ref A_t_signs, .int t_acts, .ref A_t_actMonks, .ref A_t_actSigns])), (A_t_signs, .inl (ty.1, 60, .inl (upd t_signs (t_size : Int32).toNatClampNeg a1))), (A_t_actMonks, .inl (ty.1, 60, .inl t_actMonks)), (A_t_actSigns, .inl (ty.1, 60, .inl t_actSigns))] H := hP
    have hD : va_D (va_A WC s.heap.size) [(A_t, .inr (4, [.int (t_size + 1), .ref A_t_signs, .int t_acts, .ref A_t_actMonks, .ref A_t_actSigns])), (A_t_signs, .inl (ty.1, 60, .inl (upd t_signs (t_size : Int32).toNatClampNeg a1))), (A_t_actMonks, .inl (ty.1, 60, .inl t_actMonks)), (A_t_actSigns, .inl (ty.1, 60, .inl t_actSigns))] := hD
    refine lv_iconst (v := 1) hx hb dX5_add_31 (by decide) ?_
    cases hf
    exact ret_wz hx hb hr hlocks (Or.inr rfl) hP hD hS dX5_add_32
  · have hf := ff hf hc
    refine lv_iconst (v := 0) hx hb dX5_add_9 (by decide) ?_
    cases hf
    exact ret_wz hx hb hr hlocks (Or.inl rfl) hP hD hS dX5_add_10
/-! ===== SilenceCount$Year.monkDrawn(I)I ===== -/
abbrev rmX8_monkDrawn : Room := { frames := 1, cells := 0, slots := 0, locals := 22 }
theorem kkX8_monkDrawn : yX8_monkDrawn.cls = RX8 ∧ yX8_monkDrawn.cls ≠ "java/lang/invoke/MethodHandle" ∧ yX8_monkDrawn.cls ≠ "java/lang/invoke/VarHandle" ∧ (parseMethodDescriptor yX8_monkDrawn.desc).map (fun d => d.parameters.length) = some 1 := by decide +kernel
theorem mX8_monkDrawn_iX9 : Cond.initialized RX9 ∈ wsX8_monkDrawn := by decide +kernel
theorem mX8_monkDrawn_sX9_isWithin : Cond.static yX9_isWithin ∈ wsX8_monkDrawn := by decide +kernel
def fX8_monkDrawn (a0 : Int32) : Option (Int32) :=
  (fX9_isWithin (a0 - a0 / 8 * 8) 2 5).bind fun r6 => if r6 = 0 then some (-1) else some ((a0 / 8) - (a0 / 8) / 8 * 8)
set_option maxRecDepth 100000 in
set_option maxHeartbeats 4000000 in
theorem CX8_monkDrawn (l : Launch) {D : va_G} {ty : TY} {a0 : Int32} {q0 : Int32} (hf : fX8_monkDrawn a0 = some q0) : ROi l yX8_monkDrawn wsX8_monkDrawn rmX8_monkDrawn D ty [.int a0] [] q0 := by
  refine ROi.start (cc := cX8_monkDrawn) (maxL := 1) (ret := (some .int)) (own := RX8) (by decide) rfl rfl (Nat.le_of_ble_eq_true rfl) ?_
  intro p e s m below meth c ls C hK hP hl
  obtain ⟨hx, hb, hr, hml, hown, hts, hlocks⟩ := id C
  have hl : lv_has ls 1 [(0, .int a0)] := hl
  unfold fX8_monkDrawn at hf
  refine lv_iload_n hx hb dX8_monkDrawn_0 rfl (lv_at hl 0 rfl) ?_
  refine lv_bipush (v := 8) hx hb dX8_monkDrawn_1 (by decide) ?_
  refine lv_irem hx hb dX8_monkDrawn_3 (by decide) ?_
  refine lv_iconst (v := 2) hx hb dX8_monkDrawn_4 (by decide) ?_
  refine lv_iconst (v := 5) hx hb dX8_monkDrawn_5 (by decide) ?_
  obtain ⟨r6, hr6, hf⟩ := bnd hf
  refine callN_ri (As := [.int (a0 - a0 / 8 * 8), .int 2, .int 5]) (rest := []) ⟨hx, hb, hml, hown, hts⟩ (CX9_isWithin l hr6) ⟨va_cnB 3 hts ggX8_monkDrawn_X9_isWithin rfl rfl rfl (hK.2.1 ("SilenceCount$Year", 49, yX9_isWithin, "SilenceCount") (by decide +kernel)) (hts _ mX8_monkDrawn_iX9) kkX9_isWithin.2 ⟨Nat.le_of_ble_eq_true rfl, Nat.le_of_ble_eq_true rfl⟩, hts _ mX8_monkDrawn_sX9_isWithin, trivial⟩ hK hP hl.1 rfl (Nat.le_of_ble_eq_true rfl) dX8_monkDrawn_6 ⟨Nat.zero_le _, Nat.zero_le _⟩ ?_
  refine lv_if_eq (tgt := 22) hx hb dX8_monkDrawn_9 (by decide) (fun hc => ?_) (fun hc => ?_)
  · have hf := ft hf hc
    refine lv_iconst (v := (-1)) hx hb dX8_monkDrawn_22 (by decide) ?_
    exact ret_ri hx hb hr hlocks hf dX8_monkDrawn_23
  · have hf := ff hf hc
    refine lv_iload_n hx hb dX8_monkDrawn_12 rfl (lv_at hl 0 rfl) ?_
    refine lv_bipush (v := 8) hx hb dX8_monkDrawn_13 (by decide) ?_
    refine lv_idiv hx hb dX8_monkDrawn_15 (by decide) ?_
    refine lv_bipush (v := 8) hx hb dX8_monkDrawn_16 (by decide) ?_
    refine lv_irem hx hb dX8_monkDrawn_18 (by decide) ?_
    refine lv_goto (tgt := 23) hx hb dX8_monkDrawn_19 (by decide) ?_
    exact ret_ri hx hb hr hlocks hf dX8_monkDrawn_23
/-! ===== SilenceCount$Year.signDrawn(I)I ===== -/
abbrev rmX8_signDrawn : Room := { frames := 0, cells := 0, slots := 0, locals := 0 }
theorem kkX8_signDrawn : yX8_signDrawn.cls = RX8 ∧ yX8_signDrawn.cls ≠ "java/lang/invoke/MethodHandle" ∧ yX8_signDrawn.cls ≠ "java/lang/invoke/VarHandle" ∧ (parseMethodDescriptor yX8_signDrawn.desc).map (fun d => d.parameters.length) = some 1 := by decide +kernel
def fX8_signDrawn (a0 : Int32) : Option (Int32) :=
  if (a0 - a0 / 8 * 8) = 0 then some 33 else if (a0 - a0 / 8 * 8) = 1 then some 42 else if (a0 - a0 / 8 * 8) = 2 then some 107 else if (a0 - a0 / 8 * 8) = 3 then some 101 else if (a0 - a0 / 8 * 8) = 4 then some (65 + ((a0 / 64) - (a0 / 64) / 8 * 8)) else if (a0 - a0 / 8 * 8) = 5 then some 119 else some 58
set_option maxRecDepth 100000 in
set_option maxHeartbeats 4000000 in
theorem CX8_signDrawn (l : Launch) {D : va_G} {ty : TY} {a0 : Int32} {q0 : Int32} (hf : fX8_signDrawn a0 = some q0) : ROi l yX8_signDrawn wsX8_signDrawn rmX8_signDrawn D ty [.int a0] [] q0 := by
  refine ROi.start (cc := cX8_signDrawn) (maxL := 1) (ret := (some .int)) (own := RX8) (by decide) rfl rfl (Nat.le_of_ble_eq_true rfl) ?_
  intro p e s m below meth c ls C hK hP hl
  obtain ⟨hx, hb, hr, hml, hown, hts, hlocks⟩ := id C
  have hl : lv_has ls 1 [(0, .int a0)] := hl
  unfold fX8_signDrawn at hf
  refine lv_iload_n hx hb dX8_signDrawn_0 rfl (lv_at hl 0 rfl) ?_
  refine lv_bipush (v := 8) hx hb dX8_signDrawn_1 (by decide) ?_
  refine lv_irem hx hb dX8_signDrawn_3 (by decide) ?_
  by_cases hc0 : (a0 - a0 / 8 * 8) = 0
  · have hf := ft hf hc0
    refine lv_tableIn (tgt := 44) hx hb dX8_signDrawn_4 (by rw [hc0]; decide) (by rw [hc0]; decide) (by rw [hc0] <;> rfl) (by decide) ?_
    refine lv_bipush (v := 33) hx hb dX8_signDrawn_44 (by decide) ?_
    exact ret_ri hx hb hr hlocks hf dX8_signDrawn_46
  · have hf := ff hf hc0
    by_cases hc1 : (a0 - a0 / 8 * 8) = 1
    · have hf := ft hf hc1
      refine lv_tableIn (tgt := 47) hx hb dX8_signDrawn_4 (by rw [hc1]; decide) (by rw [hc1]; decide) (by rw [hc1] <;> rfl) (by decide) ?_
      refine lv_bipush (v := 42) hx hb dX8_signDrawn_47 (by decide) ?_
      exact ret_ri hx hb hr hlocks hf dX8_signDrawn_49
    · have hf := ff hf hc1
      by_cases hc2 : (a0 - a0 / 8 * 8) = 2
      · have hf := ft hf hc2
        refine lv_tableIn (tgt := 50) hx hb dX8_signDrawn_4 (by rw [hc2]; decide) (by rw [hc2]; decide) (by rw [hc2] <;> rfl) (by decide) ?_
        refine lv_bipush (v := 107) hx hb dX8_signDrawn_50 (by decide) ?_
        exact ret_ri hx hb hr hlocks hf dX8_signDrawn_52
      · have hf := ff hf hc2
        by_cases hc3 : (a0 - a0 / 8 * 8) = 3
        · have hf := ft hf hc3
          refine lv_tableIn (tgt := 53) hx hb dX8_signDrawn_4 (by rw [hc3]; decide) (by rw [hc3]; decide) (by rw [hc3] <;> rfl) (by decide) ?_
          refine lv_bipush (v := 101) hx hb dX8_signDrawn_53 (by decide) ?_
          exact ret_ri hx hb hr hlocks hf dX8_signDrawn_55
        · have hf := ff hf hc3
          by_cases hc4 : (a0 - a0 / 8 * 8) = 4
          · have hf := ft hf hc4
            refine lv_tableIn (tgt := 56) hx hb dX8_signDrawn_4 (by rw [hc4]; decide) (by rw [hc4]; decide) (by rw [hc4] <;> rfl) (by decide) ?_
            refine lv_bipush (v := 65) hx hb dX8_signDrawn_56 (by decide) ?_
            refine lv_iload_n hx hb dX8_signDrawn_58 rfl (lv_at hl 0 rfl) ?_
            refine lv_bipush (v := 64) hx hb dX8_signDrawn_59 (by decide) ?_
            refine lv_idiv hx hb dX8_signDrawn_61 (by decide) ?_
            refine lv_bipush (v := 8) hx hb dX8_signDrawn_62 (by decide) ?_
            refine lv_irem hx hb dX8_signDrawn_64 (by decide) ?_
            refine lv_iadd hx hb dX8_signDrawn_65 ?_
            exact ret_ri hx hb hr hlocks hf dX8_signDrawn_66
          · have hf := ff hf hc4
            by_cases hc5 : (a0 - a0 / 8 * 8) = 5
            · have hf := ft hf hc5
              refine lv_tableIn (tgt := 67) hx hb dX8_signDrawn_4 (by rw [hc5]; decide) (by rw [hc5]; decide) (by rw [hc5] <;> rfl) (by decide) ?_
              refine lv_bipush (v := 119) hx hb dX8_signDrawn_67 (by decide) ?_
              exact ret_ri hx hb hr hlocks hf dX8_signDrawn_69
            · have hf := ff hf hc5
              refine lv_tableOut (tgt := 70) hx hb dX8_signDrawn_4 (by have h0 := sw_ne 0 (by decide) hc0; have h1 := sw_ne 1 (by decide) hc1; have h2 := sw_ne 2 (by decide) hc2; have h3 := sw_ne 3 (by decide) hc3; have h4 := sw_ne 4 (by decide) hc4; have h5 := sw_ne 5 (by decide) hc5; omega) (by decide) ?_
              refine lv_bipush (v := 58) hx hb dX8_signDrawn_70 (by decide) ?_
              exact ret_ri hx hb hr hlocks hf dX8_signDrawn_72
/-! ===== SilenceCount.isLaw(I)Z ===== -/
abbrev rmX9_isLaw : Room := { frames := 1, cells := 0, slots := 0, locals := 22 }
theorem kkX9_isLaw : yX9_isLaw.cls = RX9 ∧ yX9_isLaw.cls ≠ "java/lang/invoke/MethodHandle" ∧ yX9_isLaw.cls ≠ "java/lang/invoke/VarHandle" ∧ (parseMethodDescriptor yX9_isLaw.desc).map (fun d => d.parameters.length) = some 1 := by decide +kernel
def fX9_isLaw (a0 : Int32) : Option (Int32) :=
  (fX9_isWithin a0 0 4).bind fun r3 => gB r3 (some r3)
set_option maxRecDepth 100000 in
set_option maxHeartbeats 4000000 in
theorem CX9_isLaw (l : Launch) {D : va_G} {ty : TY} {a0 : Int32} {q0 : Int32} (hf : fX9_isLaw a0 = some q0) : ROi l yX9_isLaw wsX9_isLaw rmX9_isLaw D ty [.int a0] [] q0 := by
  refine ROi.start (cc := cX9_isLaw) (maxL := 1) (ret := (some .boolean)) (own := RX9) (by decide) rfl rfl (Nat.le_of_ble_eq_true rfl) ?_
  intro p e s m below meth c ls C hK hP hl
  obtain ⟨hx, hb, hr, hml, hown, hts, hlocks⟩ := id C
  have hl : lv_has ls 1 [(0, .int a0)] := hl
  unfold fX9_isLaw at hf
  refine lv_iload_n hx hb dX9_isLaw_0 rfl (lv_at hl 0 rfl) ?_
  refine lv_iconst (v := 0) hx hb dX9_isLaw_1 (by decide) ?_
  refine lv_iconst (v := 4) hx hb dX9_isLaw_2 (by decide) ?_
  obtain ⟨r3, hr3, hf⟩ := bnd hf
  refine callS_ri (As := [.int a0, .int 0, .int 4]) (rest := []) ⟨hx, hb, hml, hown, hts⟩ (CX9_isWithin l hr3) (va_cwS 3 hts gX9_isLaw_X9_isWithin rfl rfl rfl kkX9_isWithin.2 ⟨Nat.le_of_ble_eq_true rfl, Nat.le_of_ble_eq_true rfl⟩) hK hP hl.1 rfl (Nat.le_of_ble_eq_true rfl) dX9_isLaw_3 ⟨Nat.zero_le _, Nat.zero_le _⟩ ?_
  obtain ⟨hbv, hf⟩ := gB_some hf
  exact ret_rz hx hb hr hlocks hbv hf dX9_isLaw_6
/-! ===== SilenceCount.canRelay(IIII)Z ===== -/
abbrev rmX9_canRelay : Room := { frames := 0, cells := 0, slots := 0, locals := 0 }
theorem kkX9_canRelay : yX9_canRelay.cls = RX9 ∧ yX9_canRelay.cls ≠ "java/lang/invoke/MethodHandle" ∧ yX9_canRelay.cls ≠ "java/lang/invoke/VarHandle" ∧ (parseMethodDescriptor yX9_canRelay.desc).map (fun d => d.parameters.length) = some 4 := by decide +kernel
def bX9_canRelay_12 (a0 : Int32) (a1 : Int32) (a2 : Int32) (a3 : Int32) (s0 : Int32) : Option (Int32) :=
  if a0 < s0 then some 0 else if (a0 * a3) < (a1 * a2) then some 0 else some 1
set_option maxRecDepth 100000 in
set_option maxHeartbeats 4000000 in
theorem BX9_canRelay_12 {p : Program} {l : Launch} {e : Env} {s : State} {m : MethodId} {below : List Frame} {meth : Method} {c : Code} {D : va_G} {ty : TY} {a0 : Int32} {a1 : Int32} {a2 : Int32} {a3 : Int32} {q0 : Int32} (C : cx p s m [.int a0, .int a1, .int a2, .int a3] meth c cX9_canRelay 5 (some .boolean) RX9 wsX9_canRelay) (hK : KK D ty s) (hP : va_P D vwCl [] s.heap)   {s0 : Int32} {ls : Array Slot} (hl : lv_has ls 5 [(0, .int a0), (1, .int a1), (2, .int a2), (3, .int a3)]) (hf : bX9_canRelay_12 a0 a1 a2 a3 s0 = some q0) : WRi p l e rmX9_canRelay s m [.int a0, .int a1, .int a2, .int a3] below meth c q0 (F0 m 12 ls [.int s0]) := by
  obtain ⟨hx, hb, hr, hml, hown, hts, hlocks⟩ := id C
  unfold bX9_canRelay_12 at hf
  refine lv_istore (lv' := [(4, .int s0), (0, .int a0), (1, .int a1), (2, .int a2), (3, .int a3)]) hx hb dX9_canRelay_12 hl (by decide) rfl (fun ls hl => ?_)
  refine lv_iload_n hx hb dX9_canRelay_14 rfl (lv_at hl 1 rfl) ?_
  refine lv_iload hx hb dX9_canRelay_15 (lv_at hl 0 rfl) ?_
  refine lv_icmp_lt (tgt := 33) hx hb dX9_canRelay_17 (by decide) (fun hc => ?_) (fun hc => ?_)
  · have hf := ft hf hc
    refine lv_iconst (v := 0) hx hb dX9_canRelay_33 (by decide) ?_
    exact ret_rz hx hb hr hlocks (Or.inl rfl) hf dX9_canRelay_34
  · have hf := ff hf hc
    refine lv_iload_n hx hb dX9_canRelay_20 rfl (lv_at hl 1 rfl) ?_
    refine lv_iload_n hx hb dX9_canRelay_21 rfl (lv_at hl 4 rfl) ?_
    refine lv_imul hx hb dX9_canRelay_22 ?_
    refine lv_iload_n hx hb dX9_canRelay_23 rfl (lv_at hl 2 rfl) ?_
    refine lv_iload_n hx hb dX9_canRelay_24 rfl (lv_at hl 3 rfl) ?_
    refine lv_imul hx hb dX9_canRelay_25 ?_
    refine lv_icmp_lt (tgt := 33) hx hb dX9_canRelay_26 (by decide) (fun hc => ?_) (fun hc => ?_)
    · have hf := ft hf hc
      refine lv_iconst (v := 0) hx hb dX9_canRelay_33 (by decide) ?_
      exact ret_rz hx hb hr hlocks (Or.inl rfl) hf dX9_canRelay_34
    · have hf := ff hf hc
      refine lv_iconst (v := 1) hx hb dX9_canRelay_29 (by decide) ?_
      refine lv_goto (tgt := 34) hx hb dX9_canRelay_30 (by decide) ?_
      exact ret_rz hx hb hr hlocks (Or.inr rfl) hf dX9_canRelay_34
def fX9_canRelay (a0 : Int32) (a1 : Int32) (a2 : Int32) (a3 : Int32) : Option (Int32) :=
  if a2 ≤ 1 then bX9_canRelay_12 a0 a1 a2 a3 a1 else bX9_canRelay_12 a0 a1 a2 a3 (2 * a1)
set_option maxRecDepth 100000 in
set_option maxHeartbeats 4000000 in
theorem CX9_canRelay (l : Launch) {D : va_G} {ty : TY} {a0 : Int32} {a1 : Int32} {a2 : Int32} {a3 : Int32} {q0 : Int32} (hf : fX9_canRelay a0 a1 a2 a3 = some q0) : ROi l yX9_canRelay wsX9_canRelay rmX9_canRelay D ty [.int a0, .int a1, .int a2, .int a3] [] q0 := by
  refine ROi.start (cc := cX9_canRelay) (maxL := 5) (ret := (some .boolean)) (own := RX9) (by decide) rfl rfl (Nat.le_of_ble_eq_true rfl) ?_
  intro p e s m below meth c ls C hK hP hl
  obtain ⟨hx, hb, hr, hml, hown, hts, hlocks⟩ := id C
  have hl : lv_has ls 5 [(0, .int a0), (1, .int a1), (2, .int a2), (3, .int a3)] := hl
  unfold fX9_canRelay at hf
  refine lv_iload_n hx hb dX9_canRelay_0 rfl (lv_at hl 2 rfl) ?_
  refine lv_iconst (v := 1) hx hb dX9_canRelay_1 (by decide) ?_
  refine lv_icmp_le (tgt := 11) hx hb dX9_canRelay_2 (by decide) (fun hc => ?_) (fun hc => ?_)
  · have hf := ft hf hc
    refine lv_iload_n hx hb dX9_canRelay_11 rfl (lv_at hl 1 rfl) ?_
    exact BX9_canRelay_12 C hK hP  (lv_sub hl [0, 1, 2, 3] rfl) hf
  · have hf := ff hf hc
    refine lv_iconst (v := 2) hx hb dX9_canRelay_5 (by decide) ?_
    refine lv_iload_n hx hb dX9_canRelay_6 rfl (lv_at hl 1 rfl) ?_
    refine lv_imul hx hb dX9_canRelay_7 ?_
    refine lv_goto (tgt := 12) hx hb dX9_canRelay_8 (by decide) ?_
    exact BX9_canRelay_12 C hK hP  (lv_sub hl [0, 1, 2, 3] rfl) hf
