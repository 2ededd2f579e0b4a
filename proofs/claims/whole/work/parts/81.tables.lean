/-! What the tables give the law. -/
theorem lt_iX1 : Cond.instantiable RX1 7 ∈ lw_tbl := List.mem_append_right _ (List.mem_of_getElem? (i := 89) (by decide +kernel))
theorem lt_iX2 : Cond.instantiable RX2 6 ∈ lw_tbl := List.mem_append_right _ (List.mem_of_getElem? (i := 26) (by decide +kernel))
theorem lt_iX3 : Cond.instantiable RX3 3 ∈ lw_tbl := List.mem_append_right _ (List.mem_of_getElem? (i := 204) (by decide +kernel))
theorem lt_iX4 : Cond.instantiable RX4 2 ∈ lw_tbl := List.mem_append_right _ (List.mem_of_getElem? (i := 126) (by decide +kernel))
theorem lt_iX5 : Cond.instantiable RX5 5 ∈ lw_tbl := List.mem_append_right _ (List.mem_of_getElem? (i := 62) (by decide +kernel))
theorem lt_iX6 : Cond.instantiable RX6 4 ∈ lw_tbl := List.mem_append_right _ (List.mem_of_getElem? (i := 139) (by decide +kernel))
theorem lt_iX7 : Cond.instantiable RX7 4 ∈ lw_tbl := List.mem_append_right _ (List.mem_of_getElem? (i := 164) (by decide +kernel))
theorem lt_iX8 : Cond.instantiable RX8 2 ∈ lw_tbl := List.mem_append_right _ (List.mem_of_getElem? (i := 186) (by decide +kernel))
theorem lt_iX9 : Cond.instantiable RX9 8 ∈ lw_tbl := List.mem_append_right _ (List.mem_of_getElem? (i := 18) (by decide +kernel))
theorem lt_iX10 : Cond.instantiable RX10 19 ∈ lw_tbl := List.mem_append_right _ (List.mem_of_getElem? (i := 701) (by decide +kernel))
theorem lt_aI : Cond.arrayClass .int ∈ lw_tbl := List.mem_append_right _ (List.mem_of_getElem? (i := 60) (by decide +kernel))
theorem lt_aJ : Cond.arrayClass .long ∈ lw_tbl := List.mem_append_right _ (List.mem_of_getElem? (i := 539) (by decide +kernel))
theorem lt_aZ : Cond.arrayClass .boolean ∈ lw_tbl := List.mem_append_right _ (List.mem_of_getElem? (i := 162) (by decide +kernel))
theorem lt_over : Cond.arrayOver (.object "SilenceCount$Image") ∈ lw_tbl := List.mem_append_right _ (List.mem_of_getElem? (i := 203) (by decide +kernel))
theorem lt_cX9 : Cond.classLink RL 7 RX9 ∈ lw_tbl := List.mem_append_right _ (List.mem_of_getElem? (i := 17) (by decide +kernel))
theorem lt_nX9 : Cond.initialized RX9 ∈ lw_tbl := List.mem_append_right _ (List.mem_of_getElem? (i := 1) (by decide +kernel))
theorem lt_mX9 : Cond.methodLink RL 9 yX9_init ∈ lw_tbl := List.mem_append_right _ (List.mem_of_getElem? (i := 19) (by decide +kernel))
theorem lt_sX9 : Cond.instanceMethod yX9_init ∈ lw_tbl := List.mem_append_right _ (List.mem_of_getElem? (i := 20) (by decide +kernel))
theorem lt_cX10 : Cond.classLink RL 10 RX10 ∈ lw_tbl := List.mem_append_right _ (List.mem_of_getElem? (i := 700) (by decide +kernel))
theorem lt_nX10 : Cond.initialized RX10 ∈ lw_tbl := List.mem_append_right _ (List.mem_of_getElem? (i := 10) (by decide +kernel))
theorem lt_mX10 : Cond.methodLink RL 12 yX10_init ∈ lw_tbl := List.mem_append_right _ (List.mem_of_getElem? (i := 702) (by decide +kernel))
theorem lt_sX10 : Cond.instanceMethod yX10_init ∈ lw_tbl := List.mem_append_right _ (List.mem_of_getElem? (i := 703) (by decide +kernel))
theorem lt_w0 : Cond.methodLinkNest "SilenceCount" 9 yX2_init "SilenceCount" ∈ lw_tbl := List.mem_append_right _ (List.mem_of_getElem? (i := 27) (by decide +kernel))
theorem lt_w1 : Cond.methodLinkNest "SilenceCount" 18 yX5_init "SilenceCount" ∈ lw_tbl := List.mem_append_right _ (List.mem_of_getElem? (i := 63) (by decide +kernel))
theorem lt_w2 : Cond.methodLinkNest "SilenceCount" 25 yX1_init "SilenceCount" ∈ lw_tbl := List.mem_append_right _ (List.mem_of_getElem? (i := 90) (by decide +kernel))
theorem lt_w3 : Cond.methodLinkNest "SilenceCount" 32 yX4_init "SilenceCount" ∈ lw_tbl := List.mem_append_right _ (List.mem_of_getElem? (i := 127) (by decide +kernel))
theorem lt_w4 : Cond.methodLinkNest "SilenceCount" 39 yX6_init "SilenceCount" ∈ lw_tbl := List.mem_append_right _ (List.mem_of_getElem? (i := 140) (by decide +kernel))
theorem lt_w5 : Cond.methodLinkNest "SilenceCount" 46 yX7_init "SilenceCount" ∈ lw_tbl := List.mem_append_right _ (List.mem_of_getElem? (i := 165) (by decide +kernel))
theorem lt_w6 : Cond.methodLinkNest "SilenceCount" 53 yX8_init "SilenceCount" ∈ lw_tbl := List.mem_append_right _ (List.mem_of_getElem? (i := 187) (by decide +kernel))
theorem lt_w7 : Cond.methodLinkNest "SilenceCount" 60 yX3_init "SilenceCount" ∈ lw_tbl := List.mem_append_right _ (List.mem_of_getElem? (i := 205) (by decide +kernel))
theorem lt_w8 : Cond.methodLinkNest "SilenceCount$Hours" 11 yX2_init "SilenceCount" ∈ lw_tbl := List.mem_append_right _ (List.mem_of_getElem? (i := 95) (by decide +kernel))
theorem lt_w9 : Cond.methodLinkNest "SilenceCount$Image" 18 yX6_init "SilenceCount" ∈ lw_tbl := List.mem_append_right _ (List.mem_of_getElem? (i := 212) (by decide +kernel))
theorem lt_w10 : Cond.methodLinkNest "SilenceCount$Image" 9 yX2_init "SilenceCount" ∈ lw_tbl := List.mem_append_right _ (List.mem_of_getElem? (i := 210) (by decide +kernel))
theorem lt_w11 : Cond.methodLinkNest "SilenceCount$Laws" 82 yX9_isWithin "SilenceCount" ∈ lw_tbl := List.mem_append_right _ (List.mem_of_getElem? (i := 526) (by decide +kernel))
theorem lt_w12 : Cond.methodLinkNest "SilenceCount$Pad" 42 yX9_isMonk "SilenceCount" ∈ lw_tbl := List.mem_append_right _ (List.mem_of_getElem? (i := 331) (by decide +kernel))
theorem lt_w13 : Cond.methodLinkNest "SilenceCount$Year" 11 yX2_init "SilenceCount" ∈ lw_tbl := List.mem_append_right _ (List.mem_of_getElem? (i := 192) (by decide +kernel))
theorem lt_w14 : Cond.methodLinkNest "SilenceCount$Year" 49 yX9_isWithin "SilenceCount" ∈ lw_tbl := List.mem_append_right _ (List.mem_of_getElem? (i := 661) (by decide +kernel))
theorem lt_nest : ∀ q ∈ nestL, Cond.methodLinkNest q.1 q.2.1 q.2.2.1 q.2.2.2 ∈ lw_tbl := List.forall_mem_cons.mpr ⟨lt_w0, List.forall_mem_cons.mpr ⟨lt_w1, List.forall_mem_cons.mpr ⟨lt_w2, List.forall_mem_cons.mpr ⟨lt_w3, List.forall_mem_cons.mpr ⟨lt_w4, List.forall_mem_cons.mpr ⟨lt_w5, List.forall_mem_cons.mpr ⟨lt_w6, List.forall_mem_cons.mpr ⟨lt_w7, List.forall_mem_cons.mpr ⟨lt_w8, List.forall_mem_cons.mpr ⟨lt_w9, List.forall_mem_cons.mpr ⟨lt_w10, List.forall_mem_cons.mpr ⟨lt_w11, List.forall_mem_cons.mpr ⟨lt_w12, List.forall_mem_cons.mpr ⟨lt_w13, List.forall_mem_cons.mpr ⟨lt_w14, fun _ h => absurd h List.not_mem_nil⟩⟩⟩⟩⟩⟩⟩⟩⟩⟩⟩⟩⟩⟩⟩
set_option maxRecDepth 100000 in
set_option maxHeartbeats 4000000 in
theorem law_KK {s : State} {args : Array Value} (hts : ∀ w ∈ lw_tbl, w.before args s = true) : ∃ (D : va_G) (ty : TY), KK D ty s := by
  obtain ⟨cX1, iX1, kX1⟩ := u_known (C := RX1) (T := TX1) (N := 7) (n := 7) hts inX1 (hts _ lt_iX1)
  obtain ⟨cX2, iX2, kX2⟩ := u_known (C := RX2) (T := TX2) (N := 6) (n := 6) hts inX2 (hts _ lt_iX2)
  obtain ⟨cX3, iX3, kX3⟩ := u_known (C := RX3) (T := TX3) (N := 3) (n := 3) hts inX3 (hts _ lt_iX3)
  obtain ⟨cX4, iX4, kX4⟩ := u_known (C := RX4) (T := TX4) (N := 2) (n := 2) hts inX4 (hts _ lt_iX4)
  obtain ⟨cX5, iX5, kX5⟩ := u_known (C := RX5) (T := TX5) (N := 5) (n := 5) hts inX5 (hts _ lt_iX5)
  obtain ⟨cX6, iX6, kX6⟩ := u_known (C := RX6) (T := TX6) (N := 4) (n := 4) hts inX6 (hts _ lt_iX6)
  obtain ⟨cX7, iX7, kX7⟩ := u_known (C := RX7) (T := TX7) (N := 4) (n := 4) hts inX7 (hts _ lt_iX7)
  obtain ⟨cX8, iX8, kX8⟩ := u_known (C := RX8) (T := TX8) (N := 2) (n := 2) hts inX8 (hts _ lt_iX8)
  obtain ⟨cX9, iX9, kX9⟩ := u_known (C := RX9) (T := TX9) (N := 8) (n := 8) hts inX9 (hts _ lt_iX9)
  obtain ⟨cX10, iX10, kX10⟩ := u_known (C := RX10) (T := TX10) (N := 19) (n := 19) hts inX10 (hts _ lt_iX10)
  obtain ⟨aI, bI, pI, fI, gI, hI⟩ := Cond.arrayClass_spec (hts _ lt_aI)
  obtain ⟨aJ, bJ, pJ, fJ, gJ, hJ⟩ := Cond.arrayClass_spec (hts _ lt_aJ)
  obtain ⟨aZ, bZ, pZ, fZ, gZ, hZ⟩ := Cond.arrayClass_spec (hts _ lt_aZ)
  obtain ⟨pG, aG, bG, g1, g2, g3, g4, g5⟩ := Cond.arrayOver_spec (hts _ lt_over)
  refine ⟨(fun k => match k with | 0 => cX1 | 1 => cX2 | 2 => cX3 | 3 => cX4 | 4 => cX5 | 5 => cX6 | 6 => cX7 | 7 => cX8 | 8 => cX9 | _ => cX10, fun k => match k with | 0 => iX1 | 1 => iX2 | 2 => iX3 | 3 => iX4 | 4 => iX5 | 5 => iX6 | 6 => iX7 | 7 => iX8 | 8 => iX9 | _ => iX10), (aI, aJ, aZ, aG), ⟨fun n q hq => ?_, fun n q hq => ?_⟩, fun q hq => va_Nw.of rfl (hts _ (lt_nest q hq)), va_AO.of (hts _ lt_over)⟩
  · match n, hq with
    | 0, hq => cases hq; exact kX1
    | 1, hq => cases hq; exact kX2
    | 2, hq => cases hq; exact kX3
    | 3, hq => cases hq; exact kX4
    | 4, hq => cases hq; exact kX5
    | 5, hq => cases hq; exact kX6
    | 6, hq => cases hq; exact kX7
    | 7, hq => cases hq; exact kX8
    | 8, hq => cases hq; exact kX9
    | 9, hq => cases hq; exact kX10
    | n + 10, hq => simp [vwCl] at hq
  · match n, hq with
    | 0, hq => cases hq; exact ⟨fun n z => ⟨fun k h => (by cases h), bI, gI, pI, hI⟩, fI⟩
    | 1, hq => cases hq; exact ⟨fun n z => ⟨fun k h => (by cases h), bJ, gJ, pJ, hJ⟩, fJ⟩
    | 2, hq => cases hq; exact ⟨fun n z => ⟨fun k h => (by cases h), bZ, gZ, pZ, hZ⟩, fZ⟩
    | 3, hq => cases hq; exact ⟨fun n z => ⟨fun k h => (by cases h), bG, g3, pG, g4⟩, bG, pG, g3, g4, g1, g5⟩
    | n + 4, hq => simp [tyL] at hq
theorem lw_GH0 : GH 0 0 1000000 9 (fun _ => 0) := ⟨by decide, by decide, fun k _ h => by simp at h, by decide, by decide, by decide, fun k _ h => by simp at h⟩
theorem lw_R0 (n B : Nat) : R2 n B (fun _ => 0) (fun _ => 0) (fun _ => 0) := ⟨fun k _ => ⟨rfl, Nat.zero_le _⟩, fun k _ => ⟨rfl, Nat.zero_le _⟩⟩
theorem lw_RS0 : RS 0 (fun _ => 0) (fun _ => 0) (fun _ => false) (fun _ => 0) (fun _ => 0) (fun _ => 0) (fun _ => 0) := ⟨Nat.zero_le _, fun i h => absurd h (Nat.not_lt_zero _)⟩
def lw_i0 : ImgC := (0, 0, 0, 1000000, 9, fun _ => 0, fun _ => 0, 0, fun _ => 0, fun _ => 0, fun _ => 0)
theorem lw_RI0 (j : Nat) : RIm j lw_i0 (fun _ => 0) (fun _ => 0) := Or.inl ⟨rfl, rfl⟩
set_option maxRecDepth 100000 in
set_option maxHeartbeats 4000000 in
theorem LI_0 {D : va_G} {ty : TY} {A : Nat → Prop} {At Ar : Nat} {u v : Nat → Nat} {H : Heap} (hP : va_P D vwCl (wX9 ty At u ++ wX10 ty Ar v) H) (hD : va_D A (wX9 ty At u ++ wX10 ty Ar v)) : LI D ty A At Ar H :=
  ⟨u, v, (none, none), 0, 0, 1000000, 9, 0, 0, (fun _ => 0), (fun _ => 0), (fun _ => 0), (fun _ => 0), (fun _ => 0), (fun _ => false), (fun _ => 0), (fun _ => 0), (fun _ => 0), (fun _ => 0), (fun _ => 0), (fun _ => 0), (fun _ => 0), (fun _ => 0), (fun _ => 0), (fun _ => 0), (fun _ => 0), (fun _ => 0), lw_i0, lw_i0, 0, 0, 0, 0, 0, 0, 0, 0, 0, 1000000, 9, 0, 0, 0, 0, 0, 0, 1000000, 9, 0, 0, 0, 0, 0, 0, (fun _ => 0), (fun _ => 0), (fun _ => 0), (fun _ => 0), (fun _ => 0), (fun _ => 0), (fun _ => 0), (fun _ => 0), hP.sub [0, 1, 2, 3, 4, 5, 6, 7, 8, 9, 10, 11, 13, 14, 15, 16, 17, 18, 19, 20, 21, 22, 23, 24, 25, 26, 27, 28, 29, 30, 31, 32, 33, 34, 35, 36, 37, 38, 39, 40, 41, 42, 43, 44, 45, 46, 47, 12] rfl, hD.sub [0, 1, 2, 3, 4, 5, 6, 7, 8, 9, 10, 11, 13, 14, 15, 16, 17, 18, 19, 20, 21, 22, 23, 24, 25, 26, 27, 28, 29, 30, 31, 32, 33, 34, 35, 36, 37, 38, 39, 40, 41, 42, 43, 44, 45, 46, 47, 12] (by decide) rfl, lw_GH0, lw_R0 _ _, lw_R0 _ _, Nat.zero_le _, lw_R0 _ _, lw_RS0, lw_RI0 _, lw_RI0 _⟩
