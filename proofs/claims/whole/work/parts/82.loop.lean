/-! THE CLAIM OUT OF ONE WALK OF THE LAW'S BODY. Your part is whole_start (and what it stands on); all else here is the same for every law, but numbers. -/
def R_law : String := "SilenceCountLaw"
def lw_P (b : Addr) (xs : List Int32) (args : Array Value) (s : State) : Prop := args = #[.ref b] ∧ s.IntsAt b xs ∧ xs.length ≤ 320 ∧ (Jvm.Cond.and given_1 narrow_1).before args s = true
def lw_Q (_ : Array Value) (s : State) (o : Outcome) (t : State) : Prop := o = .returned (some (.int 1)) ∧ Framed s o t [] 600000 7302250
def lw_Z (below : List Frame) (a : Array Value) (s : State) : State → Prop := fun t => ∃ o, t.status = .running ∧ Ended t below o ∧ lw_Q a s o t
/-- the law's own end, with 1 on the stack, nothing written that was there before, its room as the claim has it -/
theorem lw_ret {p : Program} {l : Launch} {e : Env} {s : State} {m : MethodId} {below : List Frame} {meth : Method} {c : Code} {b : Nat} (hx : p.tables.exec = Jvm.exec) (hb : c.code = code) (hr : meth.sig.returnType = ret) (hlocks : meth.locks = false) {pc : Nat} {H : Heap} {ls : Array Slot} (hdg : decode code pc = .ok (.ireturn, 1)) : W p l e room_1 s m #[Value.ref b] below meth c H [] 600000 7302250 (lw_Z below #[Value.ref b] s) (F0 m pc ls [.int 1]) := by
  intro T hT X
  obtain ⟨fs, hret, hrun, hended, hW, hframe⟩ := X.leave (v := some (.int 1)) (hlocks := hlocks) (fun h => by rw [hr] at h; cases h)
  have hmeth' : T.vm.method? m = some meth := X.method'
  refine ⟨T.setFrames fs, ?_, .returned (some (.int 1)), hrun, hended, rfl, ⟨_, rfl⟩, hW, hframe⟩
  jvm_step X.here [X.here.top, hx, hb, hdg, hmeth', hr, ret, narrow_b1]
  (try refine ⟨rfl, ?_⟩); (try refine ⟨rfl, ?_⟩)
  first | (intro acts; rw [hret _ acts rfl rfl rfl]) | rw [hret _ _ rfl rfl rfl]
  exact Steps.refl _
/-- what holds at the law's entry: the machine, the code, the tables' words (any of lw_tbl by 'hts w (by decide +kernel)'), the script of L ints xs at the cell b, what the Statement gives of the start (any of its parts by flat_of_before) -/
def lw_At (p : Program) (s : State) (m : MethodId) (meth : Method) (c : Code) (b L : Nat) (xs : Nat → Int32) : Prop :=
  p.tables.exec = Jvm.exec ∧ c.code = code ∧ meth.sig.returnType = ret ∧ c.maxLocals = 4 ∧ s.vm.findClass R_law = some m.cls ∧ (∀ w ∈ lw_tbl, w.before #[Value.ref b] s = true) ∧ va_X b L xs s s.heap ∧ b < s.heap.size ∧ meth.locks = false ∧ (Jvm.Cond.and given_1 narrow_1).before #[Value.ref b] s = true
set_option maxRecDepth 100000 in
set_option maxHeartbeats 4000000 in
/-- the law's loop: i calls are done -/
theorem law_loop {p : Program} {l : Launch} {e : Env} {s : State} {m : MethodId} {below : List Frame} {meth : Method} {c : Code} {b L : Nat} {xs : Nat → Int32} {D : va_G} {ty : TY} {At Ar : Nat} (hL : L ≤ 320) (hr : meth.sig.returnType = ret) (hlocks : meth.locks = false) (E : lE p s m c b L xs D ty) :
    ∀ (N i : Nat) (H : Heap) (locs : List Loc) (ls : Array Slot), 5 * i ≤ L → L < 5 * (i + N) → LI D ty (fun q => s.heap.size ≤ q) At Ar H → va_S (fun q => s.heap.size ≤ q) s.heap H locs → lv_has ls 4 [(0, .ref b), (1, .ref At), (2, .ref Ar), (3, .int (nI (5 * i)))] → W p l e room_1 s m #[Value.ref b] below meth c H locs (48 + i) (667 + 1563 * i) (lw_Z below #[Value.ref b] s) (F0 m 18 ls []) := by
  intro N
  induction N with
  | zero => intro i H locs ls h1 h2; omega
  | succ N ih =>
    intro i H locs ls h1 h2 hI hS hl
    obtain ⟨hx, hb, hml, hown, hts, hX, hbl, hK⟩ := id E
    have hbA : ¬ (fun q : Nat => s.heap.size ≤ q) b := Nat.not_le.mpr hbl
    refine lv_iload_n hx hb dL_law_18 rfl (lv_at hl 3 rfl) ?_
    refine lv_aload_n hx hb dL_law_19 rfl (lv_at hl 0 rfl) ?_
    refine va_slen hx hb hX hbl hbA hS dL_law_20 ?_
    refine lv_iconst (v := 5) hx hb dL_law_21 (by decide) ?_
    refine lv_isub hx hb dL_law_22 ?_
    refine lv_icmp_gt (tgt := 1068) hx hb dL_law_23 (by decide) (fun hc => ?_) (fun hc => ?_)
    · refine lv_iconst (v := 1) hx hb dL_law_1068 (by decide) ?_
      refine va_forget (fun q h => hS.2.2 q h) ?_
      refine W.widen (k := 600000) (n := 7302250) (by omega) (by omega) ?_
      exact lw_ret hx hb hr hlocks dL_law_1069
    · have h5 : 5 * i + 5 ≤ L := by
        rcases Nat.lt_or_ge L (5 * i + 5) with q | q
        · exfalso
          apply hc
          have e1 : (nI L - nI 5).toInt = (L : Int) - 5 := pk_sub_toInt (by omega) (by decide)
          have e2 : (nI (5 * i)).toInt = ((5 * i : Nat) : Int) := nI_toInt (by omega)
          have e3 : (nI L - nI 5) < nI (5 * i) := by rw [Int32.lt_iff_toInt_lt, e1, e2]; omega
          exact e3
        · exact q
      have hin : vp_in (nI (5 * i)) L := vp_in_nI (by omega) (by omega)
      have hi : lR (nI (5 * i)) L := ⟨by rw [show nI (5 * i) + 1 = nI (5 * i + 1) from nI_add _ 1]; exact vp_in_nI (by omega) (by omega), by rw [show nI (5 * i) + 2 = nI (5 * i + 2) from nI_add _ 2]; exact vp_in_nI (by omega) (by omega), by rw [show nI (5 * i) + 3 = nI (5 * i + 3) from nI_add _ 3]; exact vp_in_nI (by omega) (by omega), by rw [show nI (5 * i) + 4 = nI (5 * i + 4) from nI_add _ 4]; exact vp_in_nI (by omega) (by omega)⟩
      have hf : 48 + i + 1 ≤ 600000 ∧ 667 + 1563 * i + 1563 ≤ 7302250 := ⟨by omega, by omega⟩
      have kk : ∀ (H1 : Heap) (locs1 : List Loc), LI D ty (fun q => s.heap.size ≤ q) At Ar H1 → va_S (fun q => s.heap.size ≤ q) s.heap H1 locs1 → W p l e room_1 s m #[Value.ref b] below meth c H1 locs1 (48 + i + 1) (667 + 1563 * i + 1563) (lw_Z below #[Value.ref b] s) (F0 m 1062 ls []) := by
        intro H1 locs1 hI1 hS1
        obtain ⟨y, ey⟩ : ∃ y : Int32, y = nI (5 * i) + 5 := ⟨_, rfl⟩
        refine lv_iinc (v := y) (lv' := [(3, .int y), (0, .ref b), (1, .ref At), (2, .ref Ar)]) hx hb dL_law_1062 hl (k := 3) rfl (by rw [ey]; rfl) (by decide) rfl (fun ls hl => ?_)
        refine lv_goto (tgt := 18) hx hb dL_law_1065 (by decide) ?_
        have ey2 : y = nI (5 * (i + 1)) := by rw [ey, show 5 * (i + 1) = 5 * i + 5 by omega]; exact nI_add _ 5
        rw [ey2] at hl
        rw [show 667 + 1563 * i + 1563 = 667 + 1563 * (i + 1) by omega, show 48 + i + 1 = 48 + (i + 1) by omega]
        exact ih (i + 1) H1 locs1 ls (by omega) (by omega) hI1 hS1 (lv_sub hl [1, 2, 3, 0] rfl)
      refine lv_aload_n hx hb dL_law_26 rfl (lv_at hl 0 rfl) ?_
      refine lv_iload_n hx hb dL_law_27 rfl (lv_at hl 3 rfl) ?_
      refine va_sld hx hb hX hbl hbA hS hin dL_law_28 ?_
      refine lv_bipush (v := 31) hx hb dL_law_29 (by decide) ?_
      refine lv_iand hx hb dL_law_31 ?_
      obtain ⟨j, hj, ej⟩ := pk_andE (xs (nI (5 * i)).toNatClampNeg) (m := 31) 5 (by decide)
      rw [ej]
      have hj : j < 32 := hj
      have hcs : j = 0 ∨ j = 1 ∨ j = 2 ∨ j = 3 ∨ j = 4 ∨ j = 5 ∨ j = 6 ∨ j = 7 ∨ j = 8 ∨ j = 9 ∨ j = 10 ∨ j = 11 ∨ j = 12 ∨ j = 13 ∨ j = 14 ∨ j = 15 ∨ j = 16 ∨ j = 17 ∨ j = 18 ∨ j = 19 ∨ j = 20 ∨ j = 21 ∨ j = 22 ∨ j = 23 ∨ j = 24 ∨ j = 25 ∨ j = 26 ∨ j = 27 ∨ j = 28 ∨ j = 29 ∨ j = 30 ∨ j = 31 := by omega
      obtain ⟨u, v, o, T, Wk, h, sh, n, mm, fc, fp, sg, mk, bk, bw, C, C', P, P', G, G', M, B, Z, S, I, K, i0, i1, ac, x0, x1, x2, x4, x5, x6, y1, y2, y3, y4, s0, k0, h0, z0, z1, z2, z3, z4, u1, u2, u3, u4, u5, u6, M0, S0, Y5, Y6, G0, Z5, Z6, N, hP, hD, hG, hC, hPa, hn, hQ, hSi, hi0, hi1⟩ := id hI
      rcases hcs with rfl | rfl | rfl | rfl | rfl | rfl | rfl | rfl | rfl | rfl | rfl | rfl | rfl | rfl | rfl | rfl | rfl | rfl | rfl | rfl | rfl | rfl | rfl | rfl | rfl | rfl | rfl | rfl | rfl | rfl | rfl | rfl
      · refine lv_tableIn (off := 140) (tgt := 172) hx hb dL_law_32 (by decide) (by decide) (by rfl) (by decide) ?_
        exact LK_monk E hP hD hG hC hPa hn hQ hSi hi0 hi1 hS hf hl hi kk
      · refine lv_tableIn (off := 183) (tgt := 215) hx hb dL_law_32 (by decide) (by decide) (by rfl) (by decide) ?_
        exact LK_leave E hP hD hG hC hPa hn hQ hSi hi0 hi1 hS hf hl hi kk
      · refine lv_tableIn (off := 206) (tgt := 238) hx hb dL_law_32 (by decide) (by decide) (by rfl) (by decide) ?_
        exact LK_set E hP hD hG hC hPa hn hQ hSi hi0 hi1 hS hf hl hi kk
      · refine lv_tableIn (off := 239) (tgt := 271) hx hb dL_law_32 (by decide) (by decide) (by rfl) (by decide) ?_
        exact LK_say E hP hD hG hC hPa hn hQ hSi hi0 hi1 hS hf hl hi kk
      · refine lv_tableIn (off := 262) (tgt := 294) hx hb dL_law_32 (by decide) (by decide) (by rfl) (by decide) ?_
        exact LK_wipe E hP hD hG hC hPa hn hQ hSi hi0 hi1 hS hf hl hi kk
      · refine lv_tableIn (off := 275) (tgt := 307) hx hb dL_law_32 (by decide) (by decide) (by rfl) (by decide) ?_
        exact LK_fault E hP hD hG hC hPa hn hQ hSi hi0 hi1 hS hf hl hi kk
      · refine lv_tableIn (off := 288) (tgt := 320) hx hb dL_law_32 (by decide) (by decide) (by rfl) (by decide) ?_
        exact LK_judge E hP hD hG hC hPa hn hQ hSi hi0 hi1 hS hf hl hi kk
      · refine lv_tableIn (off := 311) (tgt := 343) hx hb dL_law_32 (by decide) (by decide) (by rfl) (by decide) ?_
        exact LK_done E hP hD hG hC hPa hn hQ hSi hi0 hi1 hS hf hl hi kk
      · refine lv_tableIn (off := 324) (tgt := 356) hx hb dL_law_32 (by decide) (by decide) (by rfl) (by decide) ?_
        exact LK_state E hP hD hG hC hPa hn hQ hSi hi0 hi1 hS hf hl hi kk
      · refine lv_tableIn (off := 357) (tgt := 389) hx hb dL_law_32 (by decide) (by decide) (by rfl) (by decide) ?_
        exact LK_behind E hP hD hG hC hPa hn hQ hSi hi0 hi1 hS hf hl hi kk
      · refine lv_tableIn (off := 390) (tgt := 422) hx hb dL_law_32 (by decide) (by decide) (by rfl) (by decide) ?_
        exact LK_breaths E hP hD hG hC hPa hn hQ hSi hi0 hi1 hS hf hl hi kk
      · refine lv_tableIn (off := 413) (tgt := 445) hx hb dL_law_32 (by decide) (by decide) (by rfl) (by decide) ?_
        exact LK_noticed E hP hD hG hC hPa hn hQ hSi hi0 hi1 hS hf hl hi kk
      · refine lv_tableIn (off := 426) (tgt := 458) hx hb dL_law_32 (by decide) (by decide) (by rfl) (by decide) ?_
        exact LK_ahead E hP hD hG hC hPa hn hQ hSi hi0 hi1 hS hf hl hi kk
      · refine lv_tableIn (off := 439) (tgt := 471) hx hb dL_law_32 (by decide) (by decide) (by rfl) (by decide) ?_
        exact LK_differ E hP hD hG hC hPa hn hQ hSi hi0 hi1 hS hf hl hi kk
      · refine lv_tableIn (off := 452) (tgt := 484) hx hb dL_law_32 (by decide) (by decide) (by rfl) (by decide) ?_
        exact LK_alike E hP hD hG hC hPa hn hQ hSi hi0 hi1 hS hf hl hi kk
      · refine lv_tableIn (off := 475) (tgt := 507) hx hb dL_law_32 (by decide) (by decide) (by rfl) (by decide) ?_
        exact LK_ends E hP hD hG hC hPa hn hQ hSi hi0 hi1 hS hf hl hi kk
      · refine lv_tableIn (off := 498) (tgt := 530) hx hb dL_law_32 (by decide) (by decide) (by rfl) (by decide) ?_
        exact LK_meet E hP hD hG hC hPa hn hQ hSi hi0 hi1 hS hf hl hi kk
      · refine lv_tableIn (off := 531) (tgt := 563) hx hb dL_law_32 (by decide) (by decide) (by rfl) (by decide) ?_
        exact LK_bows E hP hD hG hC hPa hn hQ hSi hi0 hi1 hS hf hl hi kk
      · refine lv_tableIn (off := 574) (tgt := 606) hx hb dL_law_32 (by decide) (by decide) (by rfl) (by decide) ?_
        exact LK_next E hP hD hG hC hPa hn hQ hSi hi0 hi1 hS hf hl hi kk
      · refine lv_tableIn (off := 607) (tgt := 639) hx hb dL_law_32 (by decide) (by decide) (by rfl) (by decide) ?_
        exact LK_elbows E hP hD hG hC hPa hn hQ hSi hi0 hi1 hS hf hl hi kk
      · refine lv_tableIn (off := 630) (tgt := 662) hx hb dL_law_32 (by decide) (by decide) (by rfl) (by decide) ?_
        exact LK_relays E hP hD hG hC hPa hn hQ hSi hi0 hi1 hS hf hl hi kk
      · refine lv_tableIn (off := 683) (tgt := 715) hx hb dL_law_32 (by decide) (by decide) (by rfl) (by decide) ?_
        exact LK_beads E hP hD hG hC hPa hn hQ hSi hi0 hi1 hS hf hl hi kk
      · refine lv_tableIn (off := 716) (tgt := 748) hx hb dL_law_32 (by decide) (by decide) (by rfl) (by decide) ?_
        exact LK_seen E hP hD hG hC hPa hn hQ hSi hi0 hi1 hS hf hl hi kk
      · refine lv_tableIn (off := 775) (tgt := 807) hx hb dL_law_32 (by decide) (by decide) (by rfl) (by decide) ?_
        exact LK_forget E hP hD hG hC hPa hn hQ hSi hi0 hi1 hS hf hl hi kk
      · refine lv_tableIn (off := 788) (tgt := 820) hx hb dL_law_32 (by decide) (by decide) (by rfl) (by decide) ?_
        exact LK_skips E hP hD hG hC hPa hn hQ hSi hi0 hi1 hS hf hl hi kk
      · refine lv_tableIn (off := 821) (tgt := 853) hx hb dL_law_32 (by decide) (by decide) (by rfl) (by decide) ?_
        exact LK_ask E hP hD hG hC hPa hn hQ hSi hi0 hi1 hS hf hl hi kk
      · refine lv_tableIn (off := 864) (tgt := 896) hx hb dL_law_32 (by decide) (by decide) (by rfl) (by decide) ?_
        exact LK_bees E hP hD hG hC hPa hn hQ hSi hi0 hi1 hS hf hl hi kk
      · refine lv_tableIn (off := 918) (tgt := 950) hx hb dL_law_32 (by decide) (by decide) (by rfl) (by decide) ?_
        exact LK_year E hP hD hG hC hPa hn hQ hSi hi0 hi1 hS hf hl hi kk
      · refine lv_tableIn (off := 961) (tgt := 993) hx hb dL_law_32 (by decide) (by decide) (by rfl) (by decide) ?_
        exact LK_image E hP hD hG hC hPa hn hQ hSi hi0 hi1 hS hf hl hi kk
      · refine lv_tableIn (off := 984) (tgt := 1016) hx hb dL_law_32 (by decide) (by decide) (by rfl) (by decide) ?_
        exact LK_restore E hP hD hG hC hPa hn hQ hSi hi0 hi1 hS hf hl hi kk
      · refine lv_tableIn (off := 1007) (tgt := 1039) hx hb dL_law_32 (by decide) (by decide) (by rfl) (by decide) ?_
        exact LK_told E hP hD hG hC hPa hn hQ hSi hi0 hi1 hS hf hl hi kk
      · refine lv_tableOut (tgt := 1062) hx hb dL_law_32 (Or.inr (by decide)) (by decide) ?_
        exact W.widen (Nat.le_succ _) (Nat.le_add_right _ _) (kk H locs hI hS)
