/-! The forms in which this claim's contracts are written: a pure function (of ints, longs, rows as functions) says what a method answers, 'none' where it would leave the ground (an index, a divisor, fuel); the contract says: where the function answers 'some', the method does just so. -/
abbrev TY : Type := ClassId × ClassId × ClassId × ClassId
abbrev tyL (ty : TY) : List (ClassId × FieldType) := [(ty.1, .int), (ty.2.1, .long), (ty.2.2.1, .boolean), (ty.2.2.2, .object "SilenceCount$Image")]
def nestL : List (String × Nat × MethodName × String) := [
  ("SilenceCount", 9, yX2_init, "SilenceCount"), ("SilenceCount", 18, yX5_init, "SilenceCount"), ("SilenceCount", 25, yX1_init, "SilenceCount"), ("SilenceCount", 32, yX4_init, "SilenceCount"), ("SilenceCount", 39, yX6_init, "SilenceCount"), ("SilenceCount", 46, yX7_init, "SilenceCount"), ("SilenceCount", 53, yX8_init, "SilenceCount"), ("SilenceCount", 60, yX3_init, "SilenceCount"),
  ("SilenceCount$Hours", 11, yX2_init, "SilenceCount"), ("SilenceCount$Image", 18, yX6_init, "SilenceCount"), ("SilenceCount$Image", 9, yX2_init, "SilenceCount"), ("SilenceCount$Laws", 82, yX9_isWithin, "SilenceCount"), ("SilenceCount$Pad", 42, yX9_isMonk, "SilenceCount"), ("SilenceCount$Year", 11, yX2_init, "SilenceCount"), ("SilenceCount$Year", 49, yX9_isWithin, "SilenceCount")]
def NW (U : State) : Prop := (∀ q ∈ nestL, va_Nw (.methodLinkNest q.1 q.2.1 q.2.2.1 q.2.2.2) U) ∧ va_AO "SilenceCount$Image" U
def KK (D : va_G) (ty : TY) (U : State) : Prop := va_K D vwCl (tyL ty) U ∧ NW U
theorem KK.same {D : va_G} {ty : TY} {U U2 : State} (h : U.vm = U2.vm) (k : KK D ty U) : KK D ty U2 := ⟨va_K.moved (by rw [h]; exact Vm.Alike.refl _) k.1, fun q hq => va_Nw.same rfl h (k.2.1 q hq), va_AO.moved (by rw [h]; exact Vm.Alike.refl _) k.2.2⟩
theorem KK.warm {D : va_G} {ty : TY} {U U2 : State} (h : U.WarmedH U2.vm) (k : KK D ty U) : KK D ty U2 := ⟨va_K.moved h.alike k.1, fun q hq => va_Nw.warmM h (k.2.1 q hq), va_AO.moved h.alike k.2.2⟩
def PRO (D : va_G) (ty : TY) (av : List Value) (WC : va_W) : Array Value → State → Prop := va_Pc av (fun U => va_P D vwCl WC U.heap ∧ KK D ty U)
def PRW (D : va_G) (ty : TY) (av : List Value) (WC : va_W) (sz : Nat) : Array Value → State → Prop := va_Pc av (fun U => U.heap.size = sz ∧ va_P D vwCl WC U.heap ∧ KK D ty U ∧ va_D (fun _ => True) WC)
theorem PRO.blind {D : va_G} {ty : TY} {av : List Value} {WC : va_W} : FrameBlind (PRO D ty av WC) := fun a U g mk q => ⟨q.1, q.2.1, KK.same (U := U) rfl q.2.2⟩
theorem PRW.blind {D : va_G} {ty : TY} {av : List Value} {WC : va_W} {sz : Nat} : FrameBlind (PRW D ty av WC sz) := fun a U g mk q => ⟨q.1, q.2.1, q.2.2.1, KK.same (U := U) rfl q.2.2.2.1, q.2.2.2.2⟩
abbrev QRi (r0 : Int32) : Array Value → State → Outcome → State → Prop := vp_Si (fun r => r = r0)
abbrev QRl (r0 : Int64) : Array Value → State → Outcome → State → Prop := vp_Sl (fun r => r = r0)
abbrev QWi (D : va_G) (WC W1 : va_W) (sz : Nat) (r0 : Int32) : Array Value → State → Outcome → State → Prop := va_Qi (fun r (_ : Unit) => r = r0) (fun _ t => va_P D vwCl W1 t.heap ∧ va_D (va_A WC sz) W1) (va_A WC sz)
abbrev QWl (D : va_G) (WC W1 : va_W) (sz : Nat) (r0 : Int64) : Array Value → State → Outcome → State → Prop := va_Ql (fun r (_ : Unit) => r = r0) (fun _ t => va_P D vwCl W1 t.heap ∧ va_D (va_A WC sz) W1) (va_A WC sz)
abbrev QWv (D : va_G) (WC W1 : va_W) (sz : Nat) : Array Value → State → Outcome → State → Prop := va_Qv (fun (_ : Unit) => True) (fun _ t => va_P D vwCl W1 t.heap ∧ va_D (va_A WC sz) W1) (va_A WC sz)
/-- a method that answers an int and changes nothing -/
def ROi (l : Launch) (y : MethodName) (ws : List Cond) (rm : Room) (D : va_G) (ty : TY) (av : List Value) (WC : va_W) (r0 : Int32) : Prop := Met l y ws rm (PRO D ty av WC) (QRi r0) 0 0 (fun _ => False)
def ROl (l : Launch) (y : MethodName) (ws : List Cond) (rm : Room) (D : va_G) (ty : TY) (av : List Value) (WC : va_W) (r0 : Int64) : Prop := Met l y ws rm (PRO D ty av WC) (QRl r0) 0 0 (fun _ => False)
/-- a method that answers an int and makes the cells WC to W1; no cell is new -/
def RWi (l : Launch) (y : MethodName) (ws : List Cond) (rm : Room) (D : va_G) (ty : TY) (av : List Value) (WC : va_W) (r0 : Int32) (W1 : va_W) : Prop := ∀ sz : Nat, Met l y ws rm (PRW D ty av WC sz) (QWi D WC W1 sz r0) 0 0 (va_A WC sz)
def RWl (l : Launch) (y : MethodName) (ws : List Cond) (rm : Room) (D : va_G) (ty : TY) (av : List Value) (WC : va_W) (r0 : Int64) (W1 : va_W) : Prop := ∀ sz : Nat, Met l y ws rm (PRW D ty av WC sz) (QWl D WC W1 sz r0) 0 0 (va_A WC sz)
def RWv (l : Launch) (y : MethodName) (ws : List Cond) (rm : Room) (D : va_G) (ty : TY) (av : List Value) (WC : va_W) (W1 : va_W) : Prop := ∀ sz : Nat, Met l y ws rm (PRW D ty av WC sz) (QWv D WC W1 sz) 0 0 (va_A WC sz)
/-- what stands at a method's entry -/
def cx (p : Program) (s : State) (m : MethodId) (av : List Value) (meth : Method) (c : Code) (cc : ByteArray) (nL : Nat) (ret : Option FieldType) (own : String) (ws : List Cond) : Prop :=
  p.tables.exec = Jvm.exec ∧ c.code = cc ∧ meth.sig.returnType = ret ∧ c.maxLocals = nL ∧ s.vm.findClass own = some m.cls ∧ (∀ w ∈ ws, w.before av.toArray s = true) ∧ meth.locks = false
abbrev WRi (p : Program) (l : Launch) (e : Env) (rm : Room) (s : State) (m : MethodId) (av : List Value) (below : List Frame) (meth : Method) (c : Code) (r0 : Int32) (g : JFrame) : Prop := W p l e rm s m av.toArray below meth c s.heap [] 0 0 (MQ below (QRi r0) av.toArray s 0 0 (fun _ => False)) g
abbrev WRl (p : Program) (l : Launch) (e : Env) (rm : Room) (s : State) (m : MethodId) (av : List Value) (below : List Frame) (meth : Method) (c : Code) (r0 : Int64) (g : JFrame) : Prop := W p l e rm s m av.toArray below meth c s.heap [] 0 0 (MQ below (QRl r0) av.toArray s 0 0 (fun _ => False)) g
abbrev WWi (p : Program) (l : Launch) (e : Env) (rm : Room) (s : State) (m : MethodId) (av : List Value) (below : List Frame) (meth : Method) (c : Code) (D : va_G) (WC W1 : va_W) (r0 : Int32) (H : Heap) (locs : List Loc) (g : JFrame) : Prop := W p l e rm s m av.toArray below meth c H locs 0 0 (MQ below (QWi D WC W1 s.heap.size r0) av.toArray s 0 0 (va_A WC s.heap.size)) g
abbrev WWl (p : Program) (l : Launch) (e : Env) (rm : Room) (s : State) (m : MethodId) (av : List Value) (below : List Frame) (meth : Method) (c : Code) (D : va_G) (WC W1 : va_W) (r0 : Int64) (H : Heap) (locs : List Loc) (g : JFrame) : Prop := W p l e rm s m av.toArray below meth c H locs 0 0 (MQ below (QWl D WC W1 s.heap.size r0) av.toArray s 0 0 (va_A WC s.heap.size)) g
abbrev WWv (p : Program) (l : Launch) (e : Env) (rm : Room) (s : State) (m : MethodId) (av : List Value) (below : List Frame) (meth : Method) (c : Code) (D : va_G) (WC W1 : va_W) (H : Heap) (locs : List Loc) (g : JFrame) : Prop := W p l e rm s m av.toArray below meth c H locs 0 0 (MQ below (QWv D WC W1 s.heap.size) av.toArray s 0 0 (va_A WC s.heap.size)) g
def FU : Nat := 2000000
def loopF {σ ρ : Type} (body : (σ → Option ρ) → σ → Option ρ) : Nat → σ → Option ρ
  | 0, _ => none
  | n + 1, q => body (loopF body n) q
def im2 (a b : Nat) : Nat → Option Nat := fun k => if k = 0 then some a else if k = 1 then some b else none
theorem ft {c : Prop} [h : Decidable c] {α : Type} {t e r : α} (hf : (if c then t else e) = r) (hc : c) : t = r := (if_pos hc).symm.trans hf
theorem ff {c : Prop} [h : Decidable c] {α : Type} {t e r : α} (hf : (if c then t else e) = r) (hc : ¬ c) : e = r := (if_neg hc).symm.trans hf
theorem bnd {α β : Type} {o : Option α} {f : α → Option β} {b : β} (h : o.bind f = some b) : ∃ a, o = some a ∧ f a = some b := by
  cases o with
  | none => cases h
  | some a => exact ⟨a, rfl, h⟩
def gIn {α : Type} (i : Int32) (n : Nat) (x : Option α) : Option α := if i < 0 ∨ n ≤ i.toNatClampNeg then none else x
theorem gIn_some {α : Type} {i : Int32} {n : Nat} {x : Option α} {r : α} (h : gIn i n x = some r) : vp_in i n ∧ x = some r := by
  unfold gIn at h
  split at h
  · cases h
  · exact ⟨by assumption, h⟩
theorem gIn_ok {α : Type} {i : Int32} {n : Nat} {x : Option α} (h : vp_in i n) : gIn i n x = x := if_neg h
def gNz {α : Type} (d : Int32) (x : Option α) : Option α := if d = 0 then none else x
theorem gNz_some {α : Type} {d : Int32} {x : Option α} {r : α} (h : gNz d x = some r) : ¬ d = 0 ∧ x = some r := by
  unfold gNz at h
  split at h
  · cases h
  · exact ⟨by assumption, h⟩
theorem gNz_ok {α : Type} {d : Int32} {x : Option α} (h : ¬ d = 0) : gNz d x = x := if_neg h
def gNzL {α : Type} (d : Int64) (x : Option α) : Option α := if d = 0 then none else x
theorem gNzL_some {α : Type} {d : Int64} {x : Option α} {r : α} (h : gNzL d x = some r) : ¬ d = 0 ∧ x = some r := by
  unfold gNzL at h
  split at h
  · cases h
  · exact ⟨by assumption, h⟩
theorem gNzL_ok {α : Type} {d : Int64} {x : Option α} (h : ¬ d = 0) : gNzL d x = x := if_neg h
def gB {α : Type} (v : Int32) (x : Option α) : Option α := if v = 0 ∨ v = 1 then x else none
theorem gB_some {α : Type} {v : Int32} {x : Option α} {r : α} (h : gB v x = some r) : (v = 0 ∨ v = 1) ∧ x = some r := by
  unfold gB at h
  split at h
  · exact ⟨by assumption, h⟩
  · cases h
theorem gB_ok {α : Type} {v : Int32} {x : Option α} (h : v = 0 ∨ v = 1) : gB v x = x := if_pos h
theorem gB_nar {v : Int32} (h : v = 0 ∨ v = 1) : narrow .boolean (.int v) = .int v := by rcases h with rfl | rfl <;> rfl
theorem gB_fit {v : Int32} (h : v = 0 ∨ v = 1) : fits .boolean (.int v) = true := by rcases h with rfl | rfl <;> rfl
theorem sw_ne {x k : Int32} (z : Int) (hz : k.toInt = z) (h : ¬ x = k) : x.toInt ≠ z := fun e => h (Int32.toInt_inj.mp (e.trans hz.symm))
section LibStart
variable {l : Launch} {y : MethodName} {ws ws' : List Cond} {rm : Room} {D : va_G} {ty : TY} {av : List Value} {WC W1 : va_W} {cc : ByteArray} {maxL : Nat} {ret : Option FieldType} {own : String}
theorem ROi.start {r0 : Int32} (hy : plainName y.cls = true) (hw : ws = Cond.code y cc maxL ret :: ws') (ho : y.cls = own) (hlen : (lg_sl av).length ≤ maxL)
    (body : ∀ (p : Program) (e : Env) (s : State) (m : MethodId) (below : List Frame) (meth : Method) (c : Code) (ls : Array Slot), cx p s m av meth c cc maxL ret own ws → KK D ty s → va_P D vwCl WC s.heap → lv_has ls maxL (lv_args 0 av) → WRi p l e rm s m av below meth c r0 (F0 m 0 ls [])) : ROi l y ws rm D ty av WC r0 := by
  refine Met.ofW (cc := cc) (maxL := maxL) (ret := ret) hy hw ?_
  intro p e s m args below meth c s₁ B hml hv
  obtain ⟨rfl, hP, hK⟩ := hv
  have hts := atoms_spec (ws := ws) B.pre
  have hown : s.vm.findClass own = some m.cls := by rw [← ho]; exact findClass_of_methodNamed B.named
  rw [lg_entry_eq]
  exact body p e s m below meth c _ ⟨B.exec, B.bytes, B.returns, hml, hown, hts, B.notSynchronized⟩ hK hP (lv_entry av hlen)
theorem ROl.start {r0 : Int64} (hy : plainName y.cls = true) (hw : ws = Cond.code y cc maxL ret :: ws') (ho : y.cls = own) (hlen : (lg_sl av).length ≤ maxL)
    (body : ∀ (p : Program) (e : Env) (s : State) (m : MethodId) (below : List Frame) (meth : Method) (c : Code) (ls : Array Slot), cx p s m av meth c cc maxL ret own ws → KK D ty s → va_P D vwCl WC s.heap → lv_has ls maxL (lv_args 0 av) → WRl p l e rm s m av below meth c r0 (F0 m 0 ls [])) : ROl l y ws rm D ty av WC r0 := by
  refine Met.ofW (cc := cc) (maxL := maxL) (ret := ret) hy hw ?_
  intro p e s m args below meth c s₁ B hml hv
  obtain ⟨rfl, hP, hK⟩ := hv
  have hts := atoms_spec (ws := ws) B.pre
  have hown : s.vm.findClass own = some m.cls := by rw [← ho]; exact findClass_of_methodNamed B.named
  rw [lg_entry_eq]
  exact body p e s m below meth c _ ⟨B.exec, B.bytes, B.returns, hml, hown, hts, B.notSynchronized⟩ hK hP (lv_entry av hlen)
theorem RWi.start {r0 : Int32} (hy : plainName y.cls = true) (hw : ws = Cond.code y cc maxL ret :: ws') (ho : y.cls = own) (hlen : (lg_sl av).length ≤ maxL)
    (body : ∀ (p : Program) (e : Env) (s : State) (m : MethodId) (below : List Frame) (meth : Method) (c : Code) (ls : Array Slot), cx p s m av meth c cc maxL ret own ws → KK D ty s → va_P D vwCl WC s.heap → va_D (va_A WC s.heap.size) WC → va_S (va_A WC s.heap.size) s.heap s.heap [] → lv_has ls maxL (lv_args 0 av) → WWi p l e rm s m av below meth c D WC W1 r0 s.heap [] (F0 m 0 ls [])) : RWi l y ws rm D ty av WC r0 W1 := by
  intro sz
  refine Met.ofW (cc := cc) (maxL := maxL) (ret := ret) hy hw ?_
  intro p e s m args below meth c s₁ B hml hv
  obtain ⟨rfl, hsz, hP, hK, hD0⟩ := hv
  subst hsz
  have hts := atoms_spec (ws := ws) B.pre
  have hown : s.vm.findClass own = some m.cls := by rw [← ho]; exact findClass_of_methodNamed B.named
  rw [lg_entry_eq]
  exact body p e s m below meth c _ ⟨B.exec, B.bytes, B.returns, hml, hown, hts, B.notSynchronized⟩ hK hP hD0.self va_S.rf (lv_entry av hlen)
theorem RWl.start {r0 : Int64} (hy : plainName y.cls = true) (hw : ws = Cond.code y cc maxL ret :: ws') (ho : y.cls = own) (hlen : (lg_sl av).length ≤ maxL)
    (body : ∀ (p : Program) (e : Env) (s : State) (m : MethodId) (below : List Frame) (meth : Method) (c : Code) (ls : Array Slot), cx p s m av meth c cc maxL ret own ws → KK D ty s → va_P D vwCl WC s.heap → va_D (va_A WC s.heap.size) WC → va_S (va_A WC s.heap.size) s.heap s.heap [] → lv_has ls maxL (lv_args 0 av) → WWl p l e rm s m av below meth c D WC W1 r0 s.heap [] (F0 m 0 ls [])) : RWl l y ws rm D ty av WC r0 W1 := by
  intro sz
  refine Met.ofW (cc := cc) (maxL := maxL) (ret := ret) hy hw ?_
  intro p e s m args below meth c s₁ B hml hv
  obtain ⟨rfl, hsz, hP, hK, hD0⟩ := hv
  subst hsz
  have hts := atoms_spec (ws := ws) B.pre
  have hown : s.vm.findClass own = some m.cls := by rw [← ho]; exact findClass_of_methodNamed B.named
  rw [lg_entry_eq]
  exact body p e s m below meth c _ ⟨B.exec, B.bytes, B.returns, hml, hown, hts, B.notSynchronized⟩ hK hP hD0.self va_S.rf (lv_entry av hlen)
theorem RWv.start (hy : plainName y.cls = true) (hw : ws = Cond.code y cc maxL ret :: ws') (ho : y.cls = own) (hlen : (lg_sl av).length ≤ maxL)
    (body : ∀ (p : Program) (e : Env) (s : State) (m : MethodId) (below : List Frame) (meth : Method) (c : Code) (ls : Array Slot), cx p s m av meth c cc maxL ret own ws → KK D ty s → va_P D vwCl WC s.heap → va_D (va_A WC s.heap.size) WC → va_S (va_A WC s.heap.size) s.heap s.heap [] → lv_has ls maxL (lv_args 0 av) → WWv p l e rm s m av below meth c D WC W1 s.heap [] (F0 m 0 ls [])) : RWv l y ws rm D ty av WC W1 := by
  intro sz
  refine Met.ofW (cc := cc) (maxL := maxL) (ret := ret) hy hw ?_
  intro p e s m args below meth c s₁ B hml hv
  obtain ⟨rfl, hsz, hP, hK, hD0⟩ := hv
  subst hsz
  have hts := atoms_spec (ws := ws) B.pre
  have hown : s.vm.findClass own = some m.cls := by rw [← ho]; exact findClass_of_methodNamed B.named
  rw [lg_entry_eq]
  exact body p e s m below meth c _ ⟨B.exec, B.bytes, B.returns, hml, hown, hts, B.notSynchronized⟩ hK hP hD0.self va_S.rf (lv_entry av hlen)
end LibStart
section LibRet
variable {p : Program} {l : Launch} {e : Env} {R : Room} {s : State} {m : MethodId} {av : List Value} {below : List Frame} {meth : Method} {c : Code} {cc : ByteArray} {pc : Nat} {ls : Array Slot} {D : va_G} {WC W1 : va_W} {H : Heap} {locs : List Loc}
theorem ret_ri {v r0 : Int32} (hexec : p.tables.exec = Jvm.exec) (hb : c.code = cc) (hr : meth.sig.returnType = some .int) (hlocks : meth.locks = false) (hf : some v = some r0) (hdg : decode cc pc = .ok (.ireturn, 1)) : WRi p l e R s m av below meth c r0 (F0 m pc ls [.int v]) := by
  cases hf
  exact W.iret hexec hb hr (fun t ht hW => ⟨v, rfl, rfl, ht⟩) (fun q h => absurd h List.not_mem_nil) hdg
theorem ret_rz {v r0 : Int32} (hexec : p.tables.exec = Jvm.exec) (hb : c.code = cc) (hr : meth.sig.returnType = some .boolean) (hlocks : meth.locks = false) (hn : v = 0 ∨ v = 1) (hf : some v = some r0) (hdg : decode cc pc = .ok (.ireturn, 1)) : WRi p l e R s m av below meth c r0 (F0 m pc ls [.int v]) := by
  cases hf
  exact W.zret hexec hb hr (by rcases hn with rfl | rfl <;> rfl) (fun t ht hW => ⟨v, rfl, rfl, ht⟩) (fun q h => absurd h List.not_mem_nil) hdg
theorem ret_rl {v r0 : Int64} (hexec : p.tables.exec = Jvm.exec) (hb : c.code = cc) (hr : meth.sig.returnType = some .long) (hlocks : meth.locks = false) (hf : some v = some r0) (hdg : decode cc pc = .ok (.lreturn, 1)) : WRl p l e R s m av below meth c r0 (F0 m pc ls [.long v]) := by
  cases hf
  exact W.lret hexec hb hr (fun t ht hW => ⟨v, rfl, rfl, ht⟩) (fun q h => absurd h List.not_mem_nil) hdg
theorem ret_wi {v : Int32} (hexec : p.tables.exec = Jvm.exec) (hb : c.code = cc) (hr : meth.sig.returnType = some .int) (hlocks : meth.locks = false) (hP : va_P D vwCl W1 H) (hD : va_D (va_A WC s.heap.size) W1) (hS : va_S (va_A WC s.heap.size) s.heap H locs) (hdg : decode cc pc = .ok (.ireturn, 1)) : WWi p l e R s m av below meth c D WC W1 v H locs (F0 m pc ls [.int v]) :=
  W.iret hexec hb hr (fun t ht hW => ⟨⟨v, (), rfl, rfl, by rw [ht]; exact hP, hD⟩, hS.F ht⟩) hS.2.2 hdg
theorem ret_wl {v : Int64} (hexec : p.tables.exec = Jvm.exec) (hb : c.code = cc) (hr : meth.sig.returnType = some .long) (hlocks : meth.locks = false) (hP : va_P D vwCl W1 H) (hD : va_D (va_A WC s.heap.size) W1) (hS : va_S (va_A WC s.heap.size) s.heap H locs) (hdg : decode cc pc = .ok (.lreturn, 1)) : WWl p l e R s m av below meth c D WC W1 v H locs (F0 m pc ls [.long v]) :=
  W.lret hexec hb hr (fun t ht hW => ⟨⟨v, (), rfl, rfl, by rw [ht]; exact hP, hD⟩, hS.F ht⟩) hS.2.2 hdg
theorem ret_wz {v : Int32} (hexec : p.tables.exec = Jvm.exec) (hb : c.code = cc) (hr : meth.sig.returnType = some .boolean) (hlocks : meth.locks = false) (hn : v = 0 ∨ v = 1) (hP : va_P D vwCl W1 H) (hD : va_D (va_A WC s.heap.size) W1) (hS : va_S (va_A WC s.heap.size) s.heap H locs) (hdg : decode cc pc = .ok (.ireturn, 1)) : WWi p l e R s m av below meth c D WC W1 v H locs (F0 m pc ls [.int v]) :=
  W.zret hexec hb hr (by rcases hn with rfl | rfl <;> rfl) (fun t ht hW => ⟨⟨v, (), rfl, rfl, by rw [ht]; exact hP, hD⟩, hS.F ht⟩) hS.2.2 hdg
theorem ret_wv (hexec : p.tables.exec = Jvm.exec) (hb : c.code = cc) (hr : meth.sig.returnType = none) (hlocks : meth.locks = false) (hP : va_P D vwCl W1 H) (hD : va_D (va_A WC s.heap.size) W1) (hS : va_S (va_A WC s.heap.size) s.heap H locs) (hdg : decode cc pc = .ok (.return_, 1)) : WWv p l e R s m av below meth c D WC W1 H locs (F0 m pc ls []) :=
  W.vret hexec hb hr (fun t ht hW => ⟨⟨(), rfl, trivial, by rw [ht]; exact hP, hD⟩, hS.F ht⟩) hS.2.2 hdg
end LibRet
def pick (ws : va_W) (is : List Nat) : va_W := is.filterMap (fun i => ws[i]?)
theorem pick_map (ws : va_W) : ∀ (is : List Nat), is.all (fun i => decide (i < ws.length)) = true → is.map (fun i => ws[i]?) = (pick ws is).map some
  | [], _ => rfl
  | i :: is, h => by
    rw [List.all_cons, Bool.and_eq_true] at h
    have hi : i < ws.length := of_decide_eq_true h.1
    have ih := pick_map ws is h.2
    have e : ws[i]? = some ws[i] := List.getElem?_eq_getElem hi
    show ws[i]? :: is.map (fun i => ws[i]?) = _
    unfold pick at ih ⊢
    rw [List.filterMap_cons, e, ih]
    rfl
theorem pick_eq {ws : va_W} : ∀ {is : List Nat} {wc : va_W}, is.map (fun i => ws[i]?) = wc.map some → is.filterMap (fun i => ws[i]?) = wc
  | [], [], _ => rfl
  | [], _ :: _, h => by simp at h
  | _ :: _, [], h => by simp at h
  | i :: is, w :: wc, h => by
    simp only [List.map_cons, List.cons.injEq] at h
    rw [List.filterMap_cons, h.1, pick_eq h.2]
section LibCall
variable {p : Program} {l : Launch} {e : Env} {R : Room} {s : State} {m : MethodId} {args : Array Value} {below : List Frame} {meth : Method} {c : Code} {H : Heap} {locs : List Loc} {cells slots : Nat} {Q : State → Prop}
  {Ts ws ws' : List Cond} {cc bytes : ByteArray} {nL maxL index : Nat} {own : String} {y : MethodName} {ret : Option FieldType} {rm : Room} {D : va_G} {ty : TY} {b pc : Nat} {As rest st : List Value} {ls : Array Slot} {WC w1 ws0 : va_W} {A : Nat → Prop} {H0 : Heap}
theorem callV_ri {r0 : Int32} (S : CallFix p m c cc nL s args Ts own) (hM : ROi l y ws rm D ty (.ref b :: As) WC r0) (cw : CallW R s args own y.cls index y bytes maxL ret ws rm 0 0 As.length) (hK : KK D ty s) (hP : va_P D vwCl WC H) (q0 : Nat) {ci : Nat} {fs : List Value} {q : vw_C} (hc : vwCl[ci]? = some q) (hq : q.1 = y.cls) (he : WC[q0]? = some (b, .inr (ci, fs))) (hsize : ls.size = nL) (hst : st = As.reverse ++ .ref b :: rest) (hW : (rest.map fun v => v.category).sum ≤ 8) (hdg : decode cc pc = .ok (.invokevirtual index, 3)) (hf : cells ≤ R.cells ∧ slots ≤ R.slots)
    (kk : W p l e R s m args below meth c H locs cells slots Q (F0 m (pc + 3) ls (.int r0 :: rest))) : W p l e R s m args below meth c H locs cells slots Q (F0 m pc ls st) := by
  refine vp_callSi (W.runV (g := F0 m pc ls st) S hM cw ⟨PRO.blind, ?_, fun U hU hW => ⟨rfl, by rw [hU]; exact hP, hK.warm hW⟩⟩ rfl rfl hsize hst (lv_room hW) hdg ⟨hf.1, hf.2⟩) (fun r h => by cases h; exact kk)
  obtain ⟨cell, h1, h2, h3⟩ := va_recv hK.1 hP hc he
  exact ⟨cell, h1, h2, by rw [← hq]; exact h3⟩
theorem callV_rl {r0 : Int64} (S : CallFix p m c cc nL s args Ts own) (hM : ROl l y ws rm D ty (.ref b :: As) WC r0) (cw : CallW R s args own y.cls index y bytes maxL ret ws rm 0 0 As.length) (hK : KK D ty s) (hP : va_P D vwCl WC H) (q0 : Nat) {ci : Nat} {fs : List Value} {q : vw_C} (hc : vwCl[ci]? = some q) (hq : q.1 = y.cls) (he : WC[q0]? = some (b, .inr (ci, fs))) (hsize : ls.size = nL) (hst : st = As.reverse ++ .ref b :: rest) (hW : (rest.map fun v => v.category).sum ≤ 8) (hdg : decode cc pc = .ok (.invokevirtual index, 3)) (hf : cells ≤ R.cells ∧ slots ≤ R.slots)
    (kk : W p l e R s m args below meth c H locs cells slots Q (F0 m (pc + 3) ls (.long r0 :: rest))) : W p l e R s m args below meth c H locs cells slots Q (F0 m pc ls st) := by
  refine vp_callSl (W.runV (g := F0 m pc ls st) S hM cw ⟨PRO.blind, ?_, fun U hU hW => ⟨rfl, by rw [hU]; exact hP, hK.warm hW⟩⟩ rfl rfl hsize hst (lv_room hW) hdg ⟨hf.1, hf.2⟩) (fun r h => by cases h; exact kk)
  obtain ⟨cell, h1, h2, h3⟩ := va_recv hK.1 hP hc he
  exact ⟨cell, h1, h2, by rw [← hq]; exact h3⟩
theorem callS_ri {r0 : Int32} (S : CallFix p m c cc nL s args Ts own) (hM : ROi l y ws rm D ty As WC r0) (cw : CallB R s args own index y bytes maxL ret ws rm 0 0 As.length ∧ (Cond.static y).before args s = true) (hK : KK D ty s) (hP : va_P D vwCl WC H) (hsize : ls.size = nL) (hst : st = As.reverse ++ rest) (hW : (rest.map fun v => v.category).sum ≤ 8) (hdg : decode cc pc = .ok (.invokestatic index, 3)) (hf : cells ≤ R.cells ∧ slots ≤ R.slots)
    (kk : W p l e R s m args below meth c H locs cells slots Q (F0 m (pc + 3) ls (.int r0 :: rest))) : W p l e R s m args below meth c H locs cells slots Q (F0 m pc ls st) :=
  vp_callSi (W.runS (g := F0 m pc ls st) S hM cw ⟨PRO.blind, fun U hU hW => ⟨rfl, by rw [hU]; exact hP, hK.warm hW⟩⟩ rfl rfl hsize hst (lv_room hW) hdg ⟨hf.1, hf.2⟩) (fun r h => by cases h; exact kk)
theorem callS_rl {r0 : Int64} (S : CallFix p m c cc nL s args Ts own) (hM : ROl l y ws rm D ty As WC r0) (cw : CallB R s args own index y bytes maxL ret ws rm 0 0 As.length ∧ (Cond.static y).before args s = true) (hK : KK D ty s) (hP : va_P D vwCl WC H) (hsize : ls.size = nL) (hst : st = As.reverse ++ rest) (hW : (rest.map fun v => v.category).sum ≤ 8) (hdg : decode cc pc = .ok (.invokestatic index, 3)) (hf : cells ≤ R.cells ∧ slots ≤ R.slots)
    (kk : W p l e R s m args below meth c H locs cells slots Q (F0 m (pc + 3) ls (.long r0 :: rest))) : W p l e R s m args below meth c H locs cells slots Q (F0 m pc ls st) :=
  vp_callSl (W.runS (g := F0 m pc ls st) S hM cw ⟨PRO.blind, fun U hU hW => ⟨rfl, by rw [hU]; exact hP, hK.warm hW⟩⟩ rfl rfl hsize hst (lv_room hW) hdg ⟨hf.1, hf.2⟩) (fun r h => by cases h; exact kk)
/-- a nest mate's private static method -/
theorem callN_ri {r0 : Int32} {host : String} (S : CallFix p m c cc nL s args Ts own) (hM : ROi l y ws rm D ty As WC r0) (cw : va_CN R s args own index y host bytes maxL ret ws rm 0 0 As.length ∧ (Cond.static y).before args s = true ∧ True) (hK : KK D ty s) (hP : va_P D vwCl WC H) (hsize : ls.size = nL) (hst : st = As.reverse ++ rest) (hW : (rest.map fun v => v.category).sum ≤ 8) (hdg : decode cc pc = .ok (.invokestatic index, 3)) (hf : cells ≤ R.cells ∧ slots ≤ R.slots)
    (kk : W p l e R s m args below meth c H locs cells slots Q (F0 m (pc + 3) ls (.int r0 :: rest))) : W p l e R s m args below meth c H locs cells slots Q (F0 m pc ls st) :=
  vp_callSi (va_Run.run (va_runSN (g := F0 m pc ls st) S hM cw ⟨PRO.blind, fun U hU hW => ⟨rfl, by rw [hU]; exact hP, hK.warm hW⟩⟩ rfl rfl hsize hst (lv_room hW) hdg ⟨hf.1, hf.2⟩)) (fun r h => by cases h; exact kk)
/-- a method that changes its cells: the places of its cells among ours, of the others, and how they stand behind it -/
theorem callV_wi {r0 : Int32} (S : CallFix p m c cc nL s args Ts own) (hM : RWi l y ws rm D ty (.ref b :: As) WC r0 w1) (cw : CallW R s args own y.cls index y bytes maxL ret ws rm 0 0 As.length) (hK : KK D ty s) (hP : va_P D vwCl ws0 H) (hD : va_D A ws0) (hS : va_S A H0 H locs) (hA : ∀ q, H0.size ≤ q → A q) (isC isR isP : List Nat) (hC : isC.map (fun i => ws0[i]?) = WC.map some) (hn : va_nd isC = true ∧ va_nd isR = true ∧ va_nd isP = true) (hd : ∀ i ∈ isR, i ∉ isC) (hl : isR.all (fun i => decide (i < ws0.length)) = true) (hl2 : isP.all (fun i => decide (i < (pick ws0 isR ++ w1).length)) = true) (q0 : Nat) {ci : Nat} {fs : List Value} {q : vw_C} (hc : vwCl[ci]? = some q) (hq : q.1 = y.cls) (he : WC[q0]? = some (b, .inr (ci, fs))) (hsize : ls.size = nL) (hst : st = As.reverse ++ .ref b :: rest) (hW : (rest.map fun v => v.category).sum ≤ 8) (hdg : decode cc pc = .ok (.invokevirtual index, 3)) (hf : cells ≤ R.cells ∧ slots ≤ R.slots)
    (kk : ∀ (H1 : Heap) (locs1 : List Loc), va_P D vwCl (pick (pick ws0 isR ++ w1) isP) H1 → va_D A (pick (pick ws0 isR ++ w1) isP) → va_S A H0 H1 locs1 → W p l e R s m args below meth c H1 locs1 cells slots Q (F0 m (pc + 3) ls (.int r0 :: rest))) : W p l e R s m args below meth c H locs cells slots Q (F0 m pc ls st) := by
  have hPc := hP.sub (ws' := WC) isC (pick_eq hC)
  have hDc := hD.sub (ws' := WC) isC hn.1 hC
  have hFc := va_free (wc := WC) hD hS hA isC hC
  refine va_calli (va_runV (g := F0 m pc ls st) S (hM H.size) cw ⟨PRW.blind, ?_, fun U hU hW => ⟨rfl, by rw [hU], by rw [hU]; exact hPc, hK.warm hW, hDc.weaken (fun _ _ _ _ => trivial)⟩⟩ rfl rfl hsize hst (lv_room hW) hdg ⟨hf.1, hf.2⟩) hS (fun q _ h => hFc q h) hFc (fun r u t H1 locs1 ht hvm hw hB hz1 hk1 hS => ?_)
  · obtain ⟨cell, h1, h2, h3⟩ := va_recv hK.1 hPc hc he
    exact ⟨cell, h1, h2, by rw [← hq]; exact h3⟩
  · obtain ⟨hP1, hD1⟩ := hB
    rw [ht] at hP1
    obtain ⟨hP2, hD2⟩ := va_join (wr := pick ws0 isR) (w1 := w1) hP hD isC isR hC (pick_map ws0 isR hl) hn.2.1 hd hk1 hFc hP1 hD1
    cases hw
    exact kk H1 locs1 (hP2.sub isP rfl) (hD2.sub isP hn.2.2 (pick_map _ isP hl2)) hS
theorem callV_wl {r0 : Int64} (S : CallFix p m c cc nL s args Ts own) (hM : RWl l y ws rm D ty (.ref b :: As) WC r0 w1) (cw : CallW R s args own y.cls index y bytes maxL ret ws rm 0 0 As.length) (hK : KK D ty s) (hP : va_P D vwCl ws0 H) (hD : va_D A ws0) (hS : va_S A H0 H locs) (hA : ∀ q, H0.size ≤ q → A q) (isC isR isP : List Nat) (hC : isC.map (fun i => ws0[i]?) = WC.map some) (hn : va_nd isC = true ∧ va_nd isR = true ∧ va_nd isP = true) (hd : ∀ i ∈ isR, i ∉ isC) (hl : isR.all (fun i => decide (i < ws0.length)) = true) (hl2 : isP.all (fun i => decide (i < (pick ws0 isR ++ w1).length)) = true) (q0 : Nat) {ci : Nat} {fs : List Value} {q : vw_C} (hc : vwCl[ci]? = some q) (hq : q.1 = y.cls) (he : WC[q0]? = some (b, .inr (ci, fs))) (hsize : ls.size = nL) (hst : st = As.reverse ++ .ref b :: rest) (hW : (rest.map fun v => v.category).sum ≤ 8) (hdg : decode cc pc = .ok (.invokevirtual index, 3)) (hf : cells ≤ R.cells ∧ slots ≤ R.slots)
    (kk : ∀ (H1 : Heap) (locs1 : List Loc), va_P D vwCl (pick (pick ws0 isR ++ w1) isP) H1 → va_D A (pick (pick ws0 isR ++ w1) isP) → va_S A H0 H1 locs1 → W p l e R s m args below meth c H1 locs1 cells slots Q (F0 m (pc + 3) ls (.long r0 :: rest))) : W p l e R s m args below meth c H locs cells slots Q (F0 m pc ls st) := by
  have hPc := hP.sub (ws' := WC) isC (pick_eq hC)
  have hDc := hD.sub (ws' := WC) isC hn.1 hC
  have hFc := va_free (wc := WC) hD hS hA isC hC
  refine va_calll (va_runV (g := F0 m pc ls st) S (hM H.size) cw ⟨PRW.blind, ?_, fun U hU hW => ⟨rfl, by rw [hU], by rw [hU]; exact hPc, hK.warm hW, hDc.weaken (fun _ _ _ _ => trivial)⟩⟩ rfl rfl hsize hst (lv_room hW) hdg ⟨hf.1, hf.2⟩) hS (fun q _ h => hFc q h) hFc (fun r u t H1 locs1 ht hvm hw hB hz1 hk1 hS => ?_)
  · obtain ⟨cell, h1, h2, h3⟩ := va_recv hK.1 hPc hc he
    exact ⟨cell, h1, h2, by rw [← hq]; exact h3⟩
  · obtain ⟨hP1, hD1⟩ := hB
    rw [ht] at hP1
    obtain ⟨hP2, hD2⟩ := va_join (wr := pick ws0 isR) (w1 := w1) hP hD isC isR hC (pick_map ws0 isR hl) hn.2.1 hd hk1 hFc hP1 hD1
    cases hw
    exact kk H1 locs1 (hP2.sub isP rfl) (hD2.sub isP hn.2.2 (pick_map _ isP hl2)) hS
theorem callV_wv (S : CallFix p m c cc nL s args Ts own) (hM : RWv l y ws rm D ty (.ref b :: As) WC w1) (cw : CallW R s args own y.cls index y bytes maxL ret ws rm 0 0 As.length) (hK : KK D ty s) (hP : va_P D vwCl ws0 H) (hD : va_D A ws0) (hS : va_S A H0 H locs) (hA : ∀ q, H0.size ≤ q → A q) (isC isR isP : List Nat) (hC : isC.map (fun i => ws0[i]?) = WC.map some) (hn : va_nd isC = true ∧ va_nd isR = true ∧ va_nd isP = true) (hd : ∀ i ∈ isR, i ∉ isC) (hl : isR.all (fun i => decide (i < ws0.length)) = true) (hl2 : isP.all (fun i => decide (i < (pick ws0 isR ++ w1).length)) = true) (q0 : Nat) {ci : Nat} {fs : List Value} {q : vw_C} (hc : vwCl[ci]? = some q) (hq : q.1 = y.cls) (he : WC[q0]? = some (b, .inr (ci, fs))) (hsize : ls.size = nL) (hst : st = As.reverse ++ .ref b :: rest) (hW : (rest.map fun v => v.category).sum ≤ 8) (hdg : decode cc pc = .ok (.invokevirtual index, 3)) (hf : cells ≤ R.cells ∧ slots ≤ R.slots)
    (kk : ∀ (H1 : Heap) (locs1 : List Loc), va_P D vwCl (pick (pick ws0 isR ++ w1) isP) H1 → va_D A (pick (pick ws0 isR ++ w1) isP) → va_S A H0 H1 locs1 → W p l e R s m args below meth c H1 locs1 cells slots Q (F0 m (pc + 3) ls rest)) : W p l e R s m args below meth c H locs cells slots Q (F0 m pc ls st) := by
  have hPc := hP.sub (ws' := WC) isC (pick_eq hC)
  have hDc := hD.sub (ws' := WC) isC hn.1 hC
  have hFc := va_free (wc := WC) hD hS hA isC hC
  refine va_callv (va_runV (g := F0 m pc ls st) S (hM H.size) cw ⟨PRW.blind, ?_, fun U hU hW => ⟨rfl, by rw [hU], by rw [hU]; exact hPc, hK.warm hW, hDc.weaken (fun _ _ _ _ => trivial)⟩⟩ rfl rfl hsize hst (lv_room hW) hdg ⟨hf.1, hf.2⟩) hS (fun q _ h => hFc q h) hFc (fun u t H1 locs1 ht hvm hw hB hz1 hk1 hS => ?_)
  · obtain ⟨cell, h1, h2, h3⟩ := va_recv hK.1 hPc hc he
    exact ⟨cell, h1, h2, by rw [← hq]; exact h3⟩
  · obtain ⟨hP1, hD1⟩ := hB
    rw [ht] at hP1
    obtain ⟨hP2, hD2⟩ := va_join (wr := pick ws0 isR) (w1 := w1) hP hD isC isR hC (pick_map ws0 isR hl) hn.2.1 hd hk1 hFc hP1 hD1
    exact kk H1 locs1 (hP2.sub isP rfl) (hD2.sub isP hn.2.2 (pick_map _ isP hl2)) hS
theorem callS_wv (S : CallFix p m c cc nL s args Ts own) (hM : RWv l y ws rm D ty As WC w1) (cw : CallB R s args own index y bytes maxL ret ws rm 0 0 As.length ∧ (Cond.static y).before args s = true) (hK : KK D ty s) (hP : va_P D vwCl ws0 H) (hD : va_D A ws0) (hS : va_S A H0 H locs) (hA : ∀ q, H0.size ≤ q → A q) (isC isR isP : List Nat) (hC : isC.map (fun i => ws0[i]?) = WC.map some) (hn : va_nd isC = true ∧ va_nd isR = true ∧ va_nd isP = true) (hd : ∀ i ∈ isR, i ∉ isC) (hl : isR.all (fun i => decide (i < ws0.length)) = true) (hl2 : isP.all (fun i => decide (i < (pick ws0 isR ++ w1).length)) = true) (hsize : ls.size = nL) (hst : st = As.reverse ++ rest) (hW : (rest.map fun v => v.category).sum ≤ 8) (hdg : decode cc pc = .ok (.invokestatic index, 3)) (hf : cells ≤ R.cells ∧ slots ≤ R.slots)
    (kk : ∀ (H1 : Heap) (locs1 : List Loc), va_P D vwCl (pick (pick ws0 isR ++ w1) isP) H1 → va_D A (pick (pick ws0 isR ++ w1) isP) → va_S A H0 H1 locs1 → W p l e R s m args below meth c H1 locs1 cells slots Q (F0 m (pc + 3) ls rest)) : W p l e R s m args below meth c H locs cells slots Q (F0 m pc ls st) := by
  have hPc := hP.sub (ws' := WC) isC (pick_eq hC)
  have hDc := hD.sub (ws' := WC) isC hn.1 hC
  have hFc := va_free (wc := WC) hD hS hA isC hC
  refine va_callv (va_runS (g := F0 m pc ls st) S (hM H.size) cw ⟨PRW.blind, fun U hU hW => ⟨rfl, by rw [hU], by rw [hU]; exact hPc, hK.warm hW, hDc.weaken (fun _ _ _ _ => trivial)⟩⟩ rfl rfl hsize hst (lv_room hW) hdg ⟨hf.1, hf.2⟩) hS (fun q _ h => hFc q h) hFc (fun u t H1 locs1 ht hvm hw hB hz1 hk1 hS => ?_)
  · obtain ⟨hP1, hD1⟩ := hB
    rw [ht] at hP1
    obtain ⟨hP2, hD2⟩ := va_join (wr := pick ws0 isR) (w1 := w1) hP hD isC isR hC (pick_map ws0 isR hl) hn.2.1 hd hk1 hFc hP1 hD1
    exact kk H1 locs1 (hP2.sub isP rfl) (hD2.sub isP hn.2.2 (pick_map _ isP hl2)) hS
end LibCall
