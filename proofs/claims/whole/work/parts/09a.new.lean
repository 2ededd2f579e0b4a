
/-! Methods that make cells: u names the new cells' addresses. -/
abbrev QNv (D : va_G) (WC : va_W) (W1 : (Nat → Nat) → va_W) (sz : Nat) : Array Value → State → Outcome → State → Prop := va_Qv (fun (_ : Nat → Nat) => True) (fun u t => va_P D vwCl (W1 u) t.heap ∧ va_D (va_A WC sz) (W1 u)) (va_A WC sz)
def RNv (l : Launch) (y : MethodName) (ws : List Cond) (rm : Room) (D : va_G) (ty : TY) (av : List Value) (WC : va_W) (mc ms : Nat) (W1 : (Nat → Nat) → va_W) : Prop := ∀ sz : Nat, Met l y ws rm (PRW D ty av WC sz) (QNv D WC W1 sz) mc ms (va_A WC sz)
abbrev WNv (p : Program) (l : Launch) (e : Env) (rm : Room) (s : State) (m : MethodId) (av : List Value) (below : List Frame) (meth : Method) (c : Code) (D : va_G) (WC : va_W) (mc ms : Nat) (W1 : (Nat → Nat) → va_W) (H : Heap) (locs : List Loc) (cells slots : Nat) (g : JFrame) : Prop := W p l e rm s m av.toArray below meth c H locs cells slots (MQ below (QNv D WC W1 s.heap.size) av.toArray s mc ms (va_A WC s.heap.size)) g
section NewStart
variable {l : Launch} {y : MethodName} {ws ws' : List Cond} {rm : Room} {D : va_G} {ty : TY} {av : List Value} {WC : va_W} {W1 : (Nat → Nat) → va_W} {cc : ByteArray} {maxL mc ms : Nat} {ret : Option FieldType} {own : String}
theorem RNv.start (hy : plainName y.cls = true) (hw : ws = Cond.code y cc maxL ret :: ws') (ho : y.cls = own) (hlen : (lg_sl av).length ≤ maxL)
    (body : ∀ (p : Program) (e : Env) (s : State) (m : MethodId) (below : List Frame) (meth : Method) (c : Code) (ls : Array Slot), cx p s m av meth c cc maxL ret own ws → meth.name = y.name → KK D ty s → va_P D vwCl WC s.heap → va_D (va_A WC s.heap.size) WC → va_S (va_A WC s.heap.size) s.heap s.heap [] → (∀ q, s.heap.size ≤ q → va_A WC s.heap.size q) → lv_has ls maxL (lv_args 0 av) → WNv p l e rm s m av below meth c D WC mc ms W1 s.heap [] 0 0 (F0 m 0 ls [])) : RNv l y ws rm D ty av WC mc ms W1 := by
  intro sz
  refine Met.ofW (cc := cc) (maxL := maxL) (ret := ret) hy hw ?_
  intro p e s m args below meth c s₁ B hml hv
  obtain ⟨rfl, hsz, hP, hK, hD0⟩ := hv
  subst hsz
  have hts := atoms_spec (ws := ws) B.pre
  have hown : s.vm.findClass own = some m.cls := by rw [← ho]; exact findClass_of_methodNamed B.named
  rw [lg_entry_eq]
  exact body p e s m below meth c _ ⟨B.exec, B.bytes, B.returns, hml, hown, hts, B.notSynchronized⟩ (name_of_methodNamed B.named B.method).1 hK hP hD0.self va_S.rf (fun q h => Or.inr h) (lv_entry av hlen)
end NewStart
section NewSteps
variable {p : Program} {l : Launch} {e : Env} {R : Room} {s : State} {m : MethodId} {args : Array Value} {below : List Frame} {meth : Method} {c : Code} {H H0 : Heap} {locs : List Loc} {cells slots : Nat} {Q : State → Prop}
variable {cc : ByteArray} {pc nL : Nat} {ls : Array Slot} {rest : List Value} {D : va_G} {ty : TY} {A : Nat → Prop} {ws0 : va_W}
theorem ret_nv {av : List Value} {WC : va_W} {W1 : (Nat → Nat) → va_W} (hexec : p.tables.exec = Jvm.exec) (hb : c.code = cc) (hr : meth.sig.returnType = none) (hlocks : meth.locks = false) (u : Nat → Nat) (hP : va_P D vwCl (W1 u) H) (hD : va_D (va_A WC s.heap.size) (W1 u)) (hS : va_S (va_A WC s.heap.size) s.heap H locs) (hdg : decode cc pc = .ok (.return_, 1)) : WNv p l e R s m av below meth c D WC cells slots W1 H locs cells slots (F0 m pc ls []) :=
  W.vret hexec hb hr (fun t ht _ => ⟨⟨u, rfl, trivial, by rw [ht]; exact hP, hD⟩, hS.F ht⟩) hS.2.2 hdg hlocks
theorem newI (hexec : p.tables.exec = Jvm.exec) (hb : c.code = cc) (harr : (Cond.arrayClass .int).before args s = true) (hK : KK D ty s) (hP : va_P D vwCl ws0 H) (hD : va_D A ws0) (hS : va_S A H0 H locs) (hA : ∀ q, H0.size ≤ q → A q) {n : Int32} (N : Nat) (hn : ¬ n < 0) (hN : n.toNatClampNeg = N) (hbytes : N * 4 ≤ 536870912) (hcells : cells + 1 ≤ R.cells) (hslots : slots + N ≤ R.slots) (hdg : decode cc pc = .ok (.newarray .int, 2))
    (kk : ∀ (q : Nat) (H1 : Heap), va_P D vwCl (ws0 ++ [(q, .inl (ty.1, N, .inl (fun _ => 0)))]) H1 → va_D A (ws0 ++ [(q, .inl (ty.1, N, .inl (fun _ => 0)))]) → va_S A H0 H1 locs → W p l e R s m args below meth c H1 locs (cells + 1) (slots + N) Q (F0 m (pc + 2) ls (.ref q :: rest))) : W p l e R s m args below meth c H locs cells slots Q (F0 m pc ls (.int n :: rest)) := by
  refine va_newa (atype := .int) (ty := .int) (N' := N) (a0 := (N, .inl (fun _ => 0))) hexec hb harr rfl hK.1 hP hD hS hA (fun cA => rfl) hn hN hbytes hcells hslots hdg (fun q cA H1 hK1 hP1 hD1 hS1 => ?_)
  have e1 : s.vm.findClass ("[" ++ FieldType.int.toString) = some ty.1 := (hK.1.2 0 _ rfl).2
  have e2 : s.vm.findClass ("[" ++ FieldType.int.toString) = some cA := (hK1.2 4 (cA, .int) rfl).2
  cases Option.some.inj (e1.symm.trans e2)
  exact kk q H1 hP1 hD1 hS1
theorem newJ (hexec : p.tables.exec = Jvm.exec) (hb : c.code = cc) (harr : (Cond.arrayClass .long).before args s = true) (hK : KK D ty s) (hP : va_P D vwCl ws0 H) (hD : va_D A ws0) (hS : va_S A H0 H locs) (hA : ∀ q, H0.size ≤ q → A q) {n : Int32} (N : Nat) (hn : ¬ n < 0) (hN : n.toNatClampNeg = N) (hbytes : N * 8 ≤ 536870912) (hcells : cells + 1 ≤ R.cells) (hslots : slots + N ≤ R.slots) (hdg : decode cc pc = .ok (.newarray .long, 2))
    (kk : ∀ (q : Nat) (H1 : Heap), va_P D vwCl (ws0 ++ [(q, .inl (ty.2.1, N, .inr (.inl (fun _ => 0))))]) H1 → va_D A (ws0 ++ [(q, .inl (ty.2.1, N, .inr (.inl (fun _ => 0))))]) → va_S A H0 H1 locs → W p l e R s m args below meth c H1 locs (cells + 1) (slots + N) Q (F0 m (pc + 2) ls (.ref q :: rest))) : W p l e R s m args below meth c H locs cells slots Q (F0 m pc ls (.int n :: rest)) := by
  refine va_newa (atype := .long) (ty := .long) (N' := N) (a0 := (N, .inr (.inl (fun _ => 0)))) hexec hb harr rfl hK.1 hP hD hS hA (fun cA => rfl) hn hN hbytes hcells hslots hdg (fun q cA H1 hK1 hP1 hD1 hS1 => ?_)
  have e1 : s.vm.findClass ("[" ++ FieldType.long.toString) = some ty.2.1 := (hK.1.2 1 _ rfl).2
  have e2 : s.vm.findClass ("[" ++ FieldType.long.toString) = some cA := (hK1.2 4 (cA, .long) rfl).2
  cases Option.some.inj (e1.symm.trans e2)
  exact kk q H1 hP1 hD1 hS1
theorem newZ (hexec : p.tables.exec = Jvm.exec) (hb : c.code = cc) (harr : (Cond.arrayClass .boolean).before args s = true) (hK : KK D ty s) (hP : va_P D vwCl ws0 H) (hD : va_D A ws0) (hS : va_S A H0 H locs) (hA : ∀ q, H0.size ≤ q → A q) {n : Int32} (N : Nat) (hn : ¬ n < 0) (hN : n.toNatClampNeg = N) (hbytes : N * 1 ≤ 536870912) (hcells : cells + 1 ≤ R.cells) (hslots : slots + N ≤ R.slots) (hdg : decode cc pc = .ok (.newarray .boolean, 2))
    (kk : ∀ (q : Nat) (H1 : Heap), va_P D vwCl (ws0 ++ [(q, .inl (ty.2.2.1, N, .inl (fun _ => 0)))]) H1 → va_D A (ws0 ++ [(q, .inl (ty.2.2.1, N, .inl (fun _ => 0)))]) → va_S A H0 H1 locs → W p l e R s m args below meth c H1 locs (cells + 1) (slots + N) Q (F0 m (pc + 2) ls (.ref q :: rest))) : W p l e R s m args below meth c H locs cells slots Q (F0 m pc ls (.int n :: rest)) := by
  refine va_newa (atype := .boolean) (ty := .boolean) (N' := N) (a0 := (N, .inl (fun _ => 0))) hexec hb harr rfl hK.1 hP hD hS hA (fun cA => rfl) hn hN hbytes hcells hslots hdg (fun q cA H1 hK1 hP1 hD1 hS1 => ?_)
  have e1 : s.vm.findClass ("[" ++ FieldType.boolean.toString) = some ty.2.2.1 := (hK.1.2 2 _ rfl).2
  have e2 : s.vm.findClass ("[" ++ FieldType.boolean.toString) = some cA := (hK1.2 4 (cA, .boolean) rfl).2
  cases Option.some.inj (e1.symm.trans e2)
  exact kk q H1 hP1 hD1 hS1
theorem newQ (hexec : p.tables.exec = Jvm.exec) (hb : c.code = cc) {own : String} {index : Nat} (hown : s.vm.findClass own = some m.cls) (hclink : (Cond.classLink own index "SilenceCount$Image").before args s = true) (hK : KK D ty s) (hP : va_P D vwCl ws0 H) (hD : va_D A ws0) (hS : va_S A H0 H locs) (hA : ∀ q, H0.size ≤ q → A q) {n : Int32} (N : Nat) (hn : ¬ n < 0) (hN : n.toNatClampNeg = N) (hbytes : N * 4 ≤ 536870912) (hcells : cells + 1 ≤ R.cells) (hslots : slots + N ≤ R.slots) (hdg : decode cc pc = .ok (.anewarray index, 3))
    (kk : ∀ (q : Nat) (H1 : Heap), va_P D vwCl (ws0 ++ [(q, .inl (ty.2.2.2, N, .inr (.inr (.inr (.inr (fun _ => none))))))]) H1 → va_D A (ws0 ++ [(q, .inl (ty.2.2.2, N, .inr (.inr (.inr (.inr (fun _ => none))))))]) → va_S A H0 H1 locs → W p l e R s m args below meth c H1 locs (cells + 1) (slots + N) Q (F0 m (pc + 3) ls (.ref q :: rest))) : W p l e R s m args below meth c H locs cells slots Q (F0 m pc ls (.int n :: rest)) := by
  refine va_newq (C := "SilenceCount$Image") (N' := N) hexec hb hown hclink hK.2.2 hK.1 hP hD hS hA hn hN hbytes hcells hslots hdg (fun q cA H1 hK1 hP1 hD1 hS1 => ?_)
  obtain ⟨_, _, _, _, _, e1⟩ : va_RA s ty.2.2.2 (.object "SilenceCount$Image") := (hK.1.2 3 _ rfl).2
  obtain ⟨_, _, _, _, _, e2⟩ : va_RA s cA (.object "SilenceCount$Image") := (hK1.2 4 (cA, .object "SilenceCount$Image") rfl).2
  cases Option.some.inj (e1.symm.trans e2)
  exact kk q H1 hP1 hD1 hS1
variable {y : MethodName} {ws : List Cond} {rm : Room} {As : List Value} {WC : va_W} {W1 : (Nat → Nat) → va_W} {mc ms index maxL : Nat} {bytes : ByteArray} {Ts : List Cond} {own : String} {b : Nat} {st : List Value}
theorem callI_n {host : String} (S : CallFix p m c cc nL s args Ts own) (hM : RNv l y ws rm D ty (.ref b :: As) WC mc ms W1) (cw : va_CN R s args own index y host bytes maxL none ws rm mc ms As.length ∧ y.name = "<init>" ∧ (Cond.instanceMethod y).before args s = true) (hK : KK D ty s) (hP : va_P D vwCl ws0 H) (hD : va_D A ws0) (hS : va_S A H0 H locs) (hA : ∀ q, H0.size ≤ q → A q) (isC isR : List Nat) (hC : isC.map (fun i => ws0[i]?) = WC.map some) (hn : va_nd isC = true ∧ va_nd isR = true) (hd : ∀ i ∈ isR, i ∉ isC) (hl : isR.all (fun i => decide (i < ws0.length)) = true) (hsize : ls.size = nL) (hst : st = As.reverse ++ .ref b :: rest) (hW : (rest.map fun v => v.category).sum ≤ 8) (hdg : decode cc pc = .ok (.invokespecial index, 3)) (hf : cells + mc ≤ R.cells ∧ slots + ms ≤ R.slots)
    (kk : ∀ (u : Nat → Nat) (H1 : Heap) (locs1 : List Loc), va_P D vwCl (pick ws0 isR ++ W1 u) H1 → va_D A (pick ws0 isR ++ W1 u) → va_S A H0 H1 locs1 → W p l e R s m args below meth c H1 locs1 (cells + mc) (slots + ms) Q (F0 m (pc + 3) ls rest)) : W p l e R s m args below meth c H locs cells slots Q (F0 m pc ls st) := by
  have hPc := hP.sub (ws' := WC) isC (pick_eq hC)
  have hDc := hD.sub (ws' := WC) isC hn.1 hC
  have hFc := va_free (wc := WC) hD hS hA isC hC
  refine va_callv (va_runIN (g := F0 m pc ls st) S (hM H.size) cw ⟨PRW.blind, fun U hU hW => ⟨rfl, by rw [hU], by rw [hU]; exact hPc, hK.warm hW, hDc.weaken (fun _ _ _ _ => trivial)⟩⟩ rfl rfl hsize hst (lv_room hW) hdg hf) hS (fun q _ h => hFc q h) hFc (fun u t H1 locs1 ht hvm hw hB hz1 hk1 hS => ?_)
  obtain ⟨hP1, hD1⟩ := hB
  rw [ht] at hP1
  obtain ⟨hP2, hD2⟩ := va_join (wr := pick ws0 isR) (w1 := W1 u) hP hD isC isR hC (pick_map ws0 isR hl) hn.2 hd hk1 hFc hP1 hD1
  exact kk u H1 locs1 hP2 hD2 hS
theorem callI_b (S : CallFix p m c cc nL s args Ts own) (hM : RNv l y ws rm D ty (.ref b :: As) WC mc ms W1) (cw : CallB R s args own index y bytes maxL none ws rm mc ms As.length ∧ y.name = "<init>" ∧ (Cond.instanceMethod y).before args s = true) (hK : KK D ty s) (hP : va_P D vwCl ws0 H) (hD : va_D A ws0) (hS : va_S A H0 H locs) (hA : ∀ q, H0.size ≤ q → A q) (isC isR : List Nat) (hC : isC.map (fun i => ws0[i]?) = WC.map some) (hn : va_nd isC = true ∧ va_nd isR = true) (hd : ∀ i ∈ isR, i ∉ isC) (hl : isR.all (fun i => decide (i < ws0.length)) = true) (hsize : ls.size = nL) (hst : st = As.reverse ++ .ref b :: rest) (hW : (rest.map fun v => v.category).sum ≤ 8) (hdg : decode cc pc = .ok (.invokespecial index, 3)) (hf : cells + mc ≤ R.cells ∧ slots + ms ≤ R.slots)
    (kk : ∀ (u : Nat → Nat) (H1 : Heap) (locs1 : List Loc), va_P D vwCl (pick ws0 isR ++ W1 u) H1 → va_D A (pick ws0 isR ++ W1 u) → va_S A H0 H1 locs1 → W p l e R s m args below meth c H1 locs1 (cells + mc) (slots + ms) Q (F0 m (pc + 3) ls rest)) : W p l e R s m args below meth c H locs cells slots Q (F0 m pc ls st) := by
  have hPc := hP.sub (ws' := WC) isC (pick_eq hC)
  have hDc := hD.sub (ws' := WC) isC hn.1 hC
  have hFc := va_free (wc := WC) hD hS hA isC hC
  refine va_callv (va_runI (g := F0 m pc ls st) S (hM H.size) cw ⟨PRW.blind, fun U hU hW => ⟨rfl, by rw [hU], by rw [hU]; exact hPc, hK.warm hW, hDc.weaken (fun _ _ _ _ => trivial)⟩⟩ rfl rfl hsize hst (lv_room hW) hdg hf) hS (fun q _ h => hFc q h) hFc (fun u t H1 locs1 ht hvm hw hB hz1 hk1 hS => ?_)
  obtain ⟨hP1, hD1⟩ := hB
  rw [ht] at hP1
  obtain ⟨hP2, hD2⟩ := va_join (wr := pick ws0 isR) (w1 := W1 u) hP hD isC isR hC (pick_map ws0 isR hl) hn.2 hd hk1 hFc hP1 hD1
  exact kk u H1 locs1 hP2 hD2 hS
end NewSteps
