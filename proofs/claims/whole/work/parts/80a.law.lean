/-! The law's own rows: calls in a world with a tail of cells that the callee has not. -/
theorem va_Pl {D : va_G} {cl : List vw_C} {X pl : va_W} {H : Heap} (h : va_P D cl (X ++ pl) H) : va_P D cl X H := h.by id (fun k q hk => by
  show (X ++ pl)[k]? = some q
  rw [List.getElem?_append_left (List.getElem?_eq_some_iff.mp hk).1]
  exact hk)
theorem va_Dl {A : Nat → Prop} {X pl : va_W} (h : va_D A (X ++ pl)) : va_D A X := h.by id (fun k q hk => by
  show (X ++ pl)[k]? = some q
  rw [List.getElem?_append_left (List.getElem?_eq_some_iff.mp hk).1]
  exact hk) (fun i j _ _ e => e)
theorem va_joinS {A0 : Nat → Prop} {D : va_G} {cl : List vw_C} {X Xn cx w1 wr pl : va_W} {H H1 : Heap} (hP : va_P D cl (X ++ pl) H) (hD : va_D A0 (X ++ pl)) (isC isR ads : List Nat) (hC : isC.map (fun i => X[i]?) = cx.map some) (hN : isC.map (fun i => Xn[i]?) = w1.map some) (hR : isR.map (fun i => X[i]?) = wr.map some) (hRn : isR.map (fun i => Xn[i]?) = wr.map some) (n : Nat) (hl1 : X.length = n) (hl2 : Xn.length = n) (hcov : (List.range n).all (fun k => isC.contains k || isR.contains k) = true) (hd : isR.all (fun k => !isC.contains k) = true) (hw1 : w1.map Prod.fst = ads) (hw2 : cx.map Prod.fst = ads)
    (hk : ∀ q : Nat, q < H.size → ¬ va_A cx H.size q → H1[q]? = H[q]?) (hP1 : va_P D cl w1 H1) : va_P D cl (Xn ++ pl) H1 ∧ va_D A0 (Xn ++ pl) := by
  have hXl : ∀ k : Nat, k < n → (X ++ pl)[k]? = X[k]? := fun k h => List.getElem?_append_left (by omega)
  have hWl : ∀ k : Nat, k < n → (Xn ++ pl)[k]? = Xn[k]? := fun k h => List.getElem?_append_left (by omega)
  have hRr : ∀ k : Nat, n ≤ k → (Xn ++ pl)[k]? = (X ++ pl)[k]? := fun k h => by
    rw [List.getElem?_append_right (by omega), List.getElem?_append_right (by omega), hl1, hl2]
  have get : ∀ {is : List Nat} {Y w : va_W}, is.map (fun i => Y[i]?) = w.map some → ∀ (j k : Nat), is[j]? = some k → Y[k]? = w[j]? := by
    intro is Y w h j k hj
    have h5 : (is.map (fun i => Y[i]?))[j]? = some (Y[k]?) := by rw [List.getElem?_map, hj]; rfl
    rw [h, List.getElem?_map] at h5
    cases hc : w[j]? with
    | none => rw [hc] at h5; cases h5
    | some z => rw [hc] at h5; exact (Option.some.inj h5).symm
  have cases' : ∀ (k : Nat) (q : Nat × va_E), k < n → Xn[k]? = some q → (k ∉ isC ∧ X[k]? = some q) ∨ ∃ j : Nat, w1[j]? = some q ∧ isC[j]? = some k := by
    intro k q hk hq
    have h1 := List.all_eq_true.mp hcov k (List.mem_range.mpr hk)
    rw [Bool.or_eq_true] at h1
    by_cases hm : k ∈ isC
    · obtain ⟨j, hj⟩ := List.getElem?_of_mem hm
      exact Or.inr ⟨j, by rw [← get hN j k hj]; exact hq, hj⟩
    · rcases h1 with h1 | h1
      · exact absurd (List.contains_iff_mem.mp h1) hm
      · obtain ⟨j, hj⟩ := List.getElem?_of_mem (List.contains_iff_mem.mp h1)
        exact Or.inl ⟨hm, by rw [get hR j k hj, ← get hRn j k hj]; exact hq⟩
  have hcx : ∀ (j k : Nat) (q : Nat × va_E), w1[j]? = some q → isC[j]? = some k → ∃ e, X[k]? = some (q.1, e) := by
    intro j k q h1 h2
    have h3 : (w1.map Prod.fst)[j]? = some q.1 := by rw [List.getElem?_map, h1]; rfl
    rw [hw1, ← hw2, List.getElem?_map] at h3
    cases hc : cx[j]? with
    | none => rw [hc] at h3; cases h3
    | some z =>
      rw [hc] at h3
      have h4 : z.1 = q.1 := Option.some.inj h3
      have h6 : X[k]? = some z := by rw [get hC j k h2]; exact hc
      exact ⟨z.2, by rw [h6, ← h4]⟩
  have adr : ∀ (k : Nat) (q : Nat × va_E), (Xn ++ pl)[k]? = some q → ∃ e, (X ++ pl)[k]? = some (q.1, e) := by
    intro k q hq
    by_cases hkl : k < n
    · rw [hWl k hkl] at hq
      rw [hXl k hkl]
      rcases cases' k q hkl hq with ⟨_, h⟩ | ⟨j, h1, h2⟩
      · exact ⟨q.2, h⟩
      · exact hcx j k q h1 h2
    · rw [hRr k (by omega)] at hq
      exact ⟨q.2, hq⟩
  have out : ∀ (k : Nat) (q : Nat × va_E), (X ++ pl)[k]? = some q → k ∉ isC → H1[q.1]? = H[q.1]? := by
    intro k q hq hn
    have hl := (hP k q hq).lt
    refine hk q.1 hl (fun h => ?_)
    rcases h with ⟨k2, e, h⟩ | h
    · obtain ⟨i, h1, h2⟩ := va_in_of isC hC h
      have hi := (List.getElem?_eq_some_iff.mp h2).1
      have h3 : (X ++ pl)[i]? = some (q.1, e) := by rw [hXl i (by omega)]; exact h2
      have h4 := hD.1 k i q (q.1, e) hq h3 rfl
      subst h4
      exact hn (List.mem_of_getElem? h1)
    · omega
  refine ⟨fun k q hq => ?_, fun i j x y hi hj hxy => ?_, fun k q hq => ?_⟩
  · by_cases hkl : k < n
    · have hq1 := hq
      rw [hWl k hkl] at hq1
      rcases cases' k q hkl hq1 with ⟨h1, h2⟩ | ⟨j, h1, h2⟩
      · have h3 : (X ++ pl)[k]? = some q := by rw [hXl k hkl]; exact h2
        exact (hP k q h3).kept (out k q h3 h1)
      · exact hP1 j q h1
    · rw [hRr k (by omega)] at hq
      refine (hP k q hq).kept (out k q hq (fun hm => ?_))
      obtain ⟨j, hj⟩ := List.getElem?_of_mem hm
      have h6 := get hC j k hj
      cases hc : cx[j]? with
      | none =>
        have h7 := congrArg List.length hC
        rw [List.length_map, List.length_map] at h7
        have h8 := (List.getElem?_eq_some_iff.mp hj).1
        have h9 := List.getElem?_eq_none_iff.mp hc
        omega
      | some z =>
        rw [hc] at h6
        have := (List.getElem?_eq_some_iff.mp h6).1
        omega
  · obtain ⟨e1, h1⟩ := adr i x hi
    obtain ⟨e2, h2⟩ := adr j y hj
    exact hD.1 i j _ _ h1 h2 hxy
  · obtain ⟨e, h⟩ := adr k q hq
    exact hD.2 k (q.1, e) h
section LawCalls
variable {p : Program} {l : Launch} {e : Env} {R : Room} {s : State} {m : MethodId} {args : Array Value} {below : List Frame} {meth : Method} {c : Code} {H H0 : Heap} {locs : List Loc} {cells slots : Nat} {Q : State → Prop}
variable {cc : ByteArray} {pc nL : Nat} {ls : Array Slot} {rest : List Value} {D : va_G} {ty : TY} {A : Nat → Prop} {X pl : va_W}
variable {y : MethodName} {ws : List Cond} {rm : Room} {As : List Value} {WC w1 : va_W} {index maxL : Nat} {bytes : ByteArray} {ret : Option FieldType} {Ts : List Cond} {own : String} {b : Nat} {st : List Value}
theorem callP_ri {r0 : Int32} (S : CallFix p m c cc nL s args Ts own) (hM : ROi l y ws rm D ty (.ref b :: As) WC r0) (cw : CallW R s args own y.cls index y bytes maxL ret ws rm 0 0 As.length) (hK : KK D ty s) (hP : va_P D vwCl (X ++ pl) H) (isC : List Nat) (hC : isC.map (fun i => X[i]?) = WC.map some) (q0 : Nat) {ci : Nat} {fs : List Value} {q : vw_C} (hc : vwCl[ci]? = some q) (hq : q.1 = y.cls) (he : WC[q0]? = some (b, .inr (ci, fs))) (hsize : ls.size = nL) (hst : st = As.reverse ++ .ref b :: rest) (hW : (rest.map fun v => v.category).sum ≤ 8) (hdg : decode cc pc = .ok (.invokevirtual index, 3)) (hf : cells ≤ R.cells ∧ slots ≤ R.slots)
    (kk : W p l e R s m args below meth c H locs cells slots Q (F0 m (pc + 3) ls (.int r0 :: rest))) : W p l e R s m args below meth c H locs cells slots Q (F0 m pc ls st) :=
  callV_ri S hM cw hK ((va_Pl hP).sub isC (pick_eq hC)) q0 hc hq he hsize hst hW hdg hf kk
theorem callP_rl {r0 : Int64} (S : CallFix p m c cc nL s args Ts own) (hM : ROl l y ws rm D ty (.ref b :: As) WC r0) (cw : CallW R s args own y.cls index y bytes maxL ret ws rm 0 0 As.length) (hK : KK D ty s) (hP : va_P D vwCl (X ++ pl) H) (isC : List Nat) (hC : isC.map (fun i => X[i]?) = WC.map some) (q0 : Nat) {ci : Nat} {fs : List Value} {q : vw_C} (hc : vwCl[ci]? = some q) (hq : q.1 = y.cls) (he : WC[q0]? = some (b, .inr (ci, fs))) (hsize : ls.size = nL) (hst : st = As.reverse ++ .ref b :: rest) (hW : (rest.map fun v => v.category).sum ≤ 8) (hdg : decode cc pc = .ok (.invokevirtual index, 3)) (hf : cells ≤ R.cells ∧ slots ≤ R.slots)
    (kk : W p l e R s m args below meth c H locs cells slots Q (F0 m (pc + 3) ls (.long r0 :: rest))) : W p l e R s m args below meth c H locs cells slots Q (F0 m pc ls st) :=
  callV_rl S hM cw hK ((va_Pl hP).sub isC (pick_eq hC)) q0 hc hq he hsize hst hW hdg hf kk
theorem callP_wi {r0 : Int32} (S : CallFix p m c cc nL s args Ts own) (hM : RWi l y ws rm D ty (.ref b :: As) WC r0 w1) (cw : CallW R s args own y.cls index y bytes maxL ret ws rm 0 0 As.length) (hK : KK D ty s) (hP : va_P D vwCl (X ++ pl) H) (hD : va_D A (X ++ pl)) (hS : va_S A H0 H locs) (hA : ∀ q, H0.size ≤ q → A q) (isC : List Nat) (hC : isC.map (fun i => X[i]?) = WC.map some) (hn : va_nd isC = true) (Xn wr : va_W) (isR ads : List Nat) (hN : isC.map (fun i => Xn[i]?) = w1.map some) (hR : isR.map (fun i => X[i]?) = wr.map some) (hRn : isR.map (fun i => Xn[i]?) = wr.map some) (n : Nat) (hl1 : X.length = n) (hl2 : Xn.length = n) (hcov : (List.range n).all (fun k => isC.contains k || isR.contains k) = true) (hd : isR.all (fun k => !isC.contains k) = true) (hw1 : w1.map Prod.fst = ads) (hw2 : WC.map Prod.fst = ads) (q0 : Nat) {ci : Nat} {fs : List Value} {q : vw_C} (hc : vwCl[ci]? = some q) (hq : q.1 = y.cls) (he : WC[q0]? = some (b, .inr (ci, fs))) (hsize : ls.size = nL) (hst : st = As.reverse ++ .ref b :: rest) (hW : (rest.map fun v => v.category).sum ≤ 8) (hdg : decode cc pc = .ok (.invokevirtual index, 3)) (hf : cells ≤ R.cells ∧ slots ≤ R.slots)
    (kk : ∀ (H1 : Heap) (locs1 : List Loc), va_P D vwCl (Xn ++ pl) H1 → va_D A (Xn ++ pl) → va_S A H0 H1 locs1 → W p l e R s m args below meth c H1 locs1 cells slots Q (F0 m (pc + 3) ls (.int r0 :: rest))) : W p l e R s m args below meth c H locs cells slots Q (F0 m pc ls st) := by
  have hPc := (va_Pl hP).sub (ws' := WC) isC (pick_eq hC)
  have hDc := (va_Dl hD).sub (ws' := WC) isC hn hC
  have hFc := va_free (wc := WC) (va_Dl hD) hS hA isC hC
  refine va_calli (va_runV (g := F0 m pc ls st) S (hM H.size) cw ⟨PRW.blind, ?_, fun U hU hW => ⟨rfl, by rw [hU], by rw [hU]; exact hPc, hK.warm hW, hDc.weaken (fun _ _ _ _ => trivial)⟩⟩ rfl rfl hsize hst (lv_room hW) hdg ⟨hf.1, hf.2⟩) hS (fun q _ h => hFc q h) hFc (fun r u t H1 locs1 ht hvm hw hB hz1 hk1 hS => ?_)
  · obtain ⟨cell, h1, h2, h3⟩ := va_recv hK.1 hPc hc he
    exact ⟨cell, h1, h2, by rw [← hq]; exact h3⟩
  · obtain ⟨hP1, hD1⟩ := hB
    rw [ht] at hP1
    obtain ⟨hP2, hD2⟩ := va_joinS hP hD isC isR ads hC hN hR hRn n hl1 hl2 hcov hd hw1 hw2 hk1 hP1
    cases hw
    exact kk H1 locs1 hP2 hD2 hS
theorem callP_wl {r0 : Int64} (S : CallFix p m c cc nL s args Ts own) (hM : RWl l y ws rm D ty (.ref b :: As) WC r0 w1) (cw : CallW R s args own y.cls index y bytes maxL ret ws rm 0 0 As.length) (hK : KK D ty s) (hP : va_P D vwCl (X ++ pl) H) (hD : va_D A (X ++ pl)) (hS : va_S A H0 H locs) (hA : ∀ q, H0.size ≤ q → A q) (isC : List Nat) (hC : isC.map (fun i => X[i]?) = WC.map some) (hn : va_nd isC = true) (Xn wr : va_W) (isR ads : List Nat) (hN : isC.map (fun i => Xn[i]?) = w1.map some) (hR : isR.map (fun i => X[i]?) = wr.map some) (hRn : isR.map (fun i => Xn[i]?) = wr.map some) (n : Nat) (hl1 : X.length = n) (hl2 : Xn.length = n) (hcov : (List.range n).all (fun k => isC.contains k || isR.contains k) = true) (hd : isR.all (fun k => !isC.contains k) = true) (hw1 : w1.map Prod.fst = ads) (hw2 : WC.map Prod.fst = ads) (q0 : Nat) {ci : Nat} {fs : List Value} {q : vw_C} (hc : vwCl[ci]? = some q) (hq : q.1 = y.cls) (he : WC[q0]? = some (b, .inr (ci, fs))) (hsize : ls.size = nL) (hst : st = As.reverse ++ .ref b :: rest) (hW : (rest.map fun v => v.category).sum ≤ 8) (hdg : decode cc pc = .ok (.invokevirtual index, 3)) (hf : cells ≤ R.cells ∧ slots ≤ R.slots)
    (kk : ∀ (H1 : Heap) (locs1 : List Loc), va_P D vwCl (Xn ++ pl) H1 → va_D A (Xn ++ pl) → va_S A H0 H1 locs1 → W p l e R s m args below meth c H1 locs1 cells slots Q (F0 m (pc + 3) ls (.long r0 :: rest))) : W p l e R s m args below meth c H locs cells slots Q (F0 m pc ls st) := by
  have hPc := (va_Pl hP).sub (ws' := WC) isC (pick_eq hC)
  have hDc := (va_Dl hD).sub (ws' := WC) isC hn hC
  have hFc := va_free (wc := WC) (va_Dl hD) hS hA isC hC
  refine va_calll (va_runV (g := F0 m pc ls st) S (hM H.size) cw ⟨PRW.blind, ?_, fun U hU hW => ⟨rfl, by rw [hU], by rw [hU]; exact hPc, hK.warm hW, hDc.weaken (fun _ _ _ _ => trivial)⟩⟩ rfl rfl hsize hst (lv_room hW) hdg ⟨hf.1, hf.2⟩) hS (fun q _ h => hFc q h) hFc (fun r u t H1 locs1 ht hvm hw hB hz1 hk1 hS => ?_)
  · obtain ⟨cell, h1, h2, h3⟩ := va_recv hK.1 hPc hc he
    exact ⟨cell, h1, h2, by rw [← hq]; exact h3⟩
  · obtain ⟨hP1, hD1⟩ := hB
    rw [ht] at hP1
    obtain ⟨hP2, hD2⟩ := va_joinS hP hD isC isR ads hC hN hR hRn n hl1 hl2 hcov hd hw1 hw2 hk1 hP1
    cases hw
    exact kk H1 locs1 hP2 hD2 hS
/-- a call that has the tail too, and one cell more -/
theorem callP_no {r0 : Int32} {x0 : Nat × va_E} {xt : va_W} {Wf Lf : Option Nat × Option Nat → va_W} {o : Option Nat × Option Nat} (hWf : ∀ z, Wf z = [x0] ++ Lf z) (S : CallFix p m c cc nL s args Ts own) (hM : RNo l y ws rm D ty (.ref b :: As) Wf o r0) (cw : CallW R s args own y.cls index y bytes maxL ret ws rm 1 1563 As.length) (hK : KK D ty s) (hP : va_P D vwCl ((x0 :: xt) ++ Lf o) H) (hD : va_D A ((x0 :: xt) ++ Lf o)) (hS : va_S A H0 H locs) (hA : ∀ q, H0.size ≤ q → A q) (isR : List Nat) (hR : isR.map (fun i => (x0 :: xt)[i]?) = xt.map some) (hn : va_nd isR = true) (hd : ∀ i ∈ isR, i ∉ [0]) {ci : Nat} {fs : List Value} {q : vw_C} (hc : vwCl[ci]? = some q) (hq : q.1 = y.cls) (he : x0 = (b, .inr (ci, fs))) (hsize : ls.size = nL) (hst : st = As.reverse ++ .ref b :: rest) (hW : (rest.map fun v => v.category).sum ≤ 8) (hdg : decode cc pc = .ok (.invokevirtual index, 3)) (hf : cells + 1 ≤ R.cells ∧ slots + 1563 ≤ R.slots)
    (kk : ∀ (u : Option Nat × Option Nat) (H1 : Heap) (locs1 : List Loc), va_P D vwCl ((x0 :: xt) ++ Lf u) H1 → va_D A ((x0 :: xt) ++ Lf u) → va_S A H0 H1 locs1 → W p l e R s m args below meth c H1 locs1 (cells + 1) (slots + 1563) Q (F0 m (pc + 3) ls (.int r0 :: rest))) : W p l e R s m args below meth c H locs cells slots Q (F0 m pc ls st) := by
  have hC : ([0] : List Nat).map (fun i => (x0 :: xt)[i]?) = [x0].map some := rfl
  have hPc : va_P D vwCl (Wf o) H := by rw [hWf]; exact hP.part [0] hC
  have hDc : va_D A (Wf o) := by rw [hWf]; exact hD.part [0] rfl hC
  have hFc : ∀ q, va_A (Wf o) H.size q → A q := by rw [hWf]; exact va_freeP hD hS hA [0] hC
  refine va_calli (va_runV (g := F0 m pc ls st) S (hM H.size) cw ⟨PRW.blind, ?_, fun U hU hW => ⟨rfl, by rw [hU], by rw [hU]; exact hPc, hK.warm hW, hDc.weaken (fun _ _ _ _ => trivial)⟩⟩ rfl rfl hsize hst (lv_room hW) hdg hf) hS (fun q _ h => hFc q h) hFc (fun r u t H1 locs1 ht hvm hw hB hz1 hk1 hS => ?_)
  · obtain ⟨cell, h1, h2, h3⟩ := va_recv (q0 := 0) hK.1 hPc hc (by rw [hWf, ← he]; rfl)
    exact ⟨cell, h1, h2, by rw [← hq]; exact h3⟩
  · obtain ⟨hP1, hD1⟩ := hB
    rw [ht] at hP1
    rw [hWf] at hP1 hD1 hk1 hFc
    rw [hWf] at hD1
    obtain ⟨hP2, hD2⟩ := va_joinP (wr := xt) (rx := [x0]) (pl1 := Lf u) hP hD [0] isR hC hR hn hd hk1 hFc hP1 hD1
    have hP3 : va_P D vwCl (([] ++ xt) ++ ([x0] ++ Lf u)) H1 := by
      rw [List.append_assoc] at hP2
      exact hP2
    have hD3 : va_D A (([] ++ xt) ++ ([x0] ++ Lf u)) := by
      rw [List.append_assoc] at hD2
      exact hD2
    have hP4 : va_P D vwCl (([x0] ++ Lf u) ++ xt) H1 := hP3.swap
    have hD4 : va_D A (([x0] ++ Lf u) ++ xt) := hD3.swap
    cases hw
    exact kk u H1 locs1 hP4.swap hD4.swap hS
end LawCalls
/-- what holds in the law throughout -/
def lE (p : Program) (s : State) (m : MethodId) (c : Code) (b L : Nat) (xs : Nat → Int32) (D : va_G) (ty : TY) : Prop := p.tables.exec = Jvm.exec ∧ c.code = cL_law ∧ c.maxLocals = 4 ∧ s.vm.findClass RL = some m.cls ∧ (∀ w ∈ wsL_law, w.before #[Value.ref b] s = true) ∧ va_X b L xs s s.heap ∧ b < s.heap.size ∧ KK D ty s
def lR (x : Int32) (L : Nat) : Prop := vp_in (x + 1) L ∧ vp_in (x + 2) L ∧ vp_in (x + 3) L ∧ vp_in (x + 4) L
theorem lw_arg {p : Program} {l : Launch} {e : Env} {s : State} {m : MethodId} {below : List Frame} {meth : Method} {c : Code} {b L : Nat} {xs : Nat → Int32} {D : va_G} {ty : TY} {At Ar : Nat} {H : Heap} {locs : List Loc} {cells slots : Nat} {Qz : State → Prop} {ls : Array Slot} {x : Int32} {rest : List Value} {pc : Nat} (E : lE p s m c b L xs D ty) (hS : va_S (fun q => s.heap.size ≤ q) s.heap H locs) (hl : lv_has ls 4 [(0, .ref b), (1, .ref At), (2, .ref Ar), (3, .int x)]) {k : Int} (v : Int32) (hk : Int32.ofInt k = v) (hin : vp_in (x + v) L) (d1 : decode cL_law pc = .ok (.aload_n 0, 1)) (d2 : decode cL_law (pc + 1) = .ok (.iload_n 3, 1)) (d3 : decode cL_law (pc + 2) = .ok (.iconst k, 1)) (d4 : decode cL_law (pc + 3) = .ok (.iadd, 1)) (d5 : decode cL_law (pc + 4) = .ok (.iaload, 1))
    (kk : W p l e room_1 s m #[Value.ref b] below meth c H locs cells slots Qz (F0 m (pc + 5) ls (.int (xs (x + v).toNatClampNeg) :: rest))) : W p l e room_1 s m #[Value.ref b] below meth c H locs cells slots Qz (F0 m pc ls rest) := by
  obtain ⟨hx, hb, hml, hown, hts, hX, hbl, hK⟩ := E
  refine lv_aload_n hx hb d1 rfl (lv_at hl 0 rfl) ?_
  refine lv_iload_n hx hb d2 rfl (lv_at hl 3 rfl) ?_
  refine lv_iconst (v := v) hx hb d3 hk ?_
  refine lv_iadd hx hb d4 ?_
  refine va_sld hx hb hX hbl (Nat.not_le.mpr hbl) hS hin d5 ?_
  exact kk
/-! the world of the law, and what ties both sides -/
def lX (ty : TY) (At Ar : Nat) (u v : Nat → Nat) (a_house_there : Int32) (a_house_awake : Int32) (a_house_start : Int32) (a_house_sharp : Int32) (a_house_counts : Nat → Int32) (a_house_paces : Nat → Int32) (a_pad_size : Int32) (a_pad_acts : Int32) (a_pad_signs : Nat → Int32) (a_pad_actMonks : Nat → Int32) (a_pad_actSigns : Nat → Int32) (a_hours_hasFault : Int32) (a_hours_wrongAct : Int32) (a_hours_why : Int32) (a_hours_breathsSoFar : Int32) (a_hours_breathOfFirstNought : Int32) (a_hours_firstNoticed : Int32) (a_hours_house_there : Int32) (a_hours_house_awake : Int32) (a_hours_house_start : Int32) (a_hours_house_sharp : Int32) (a_hours_house_counts : Nat → Int32) (a_hours_house_paces : Nat → Int32) (a_sights_size : Int32) (a_sights_monks : Nat → Int32) (a_sights_breaths : Nat → Int32) (a_sights_bowed : Nat → Int32) (a_worlds_size : Int32) (a_worlds_skippers : Int32) (a_worlds_hasNobody : Int32) (a_worlds_fitting : Nat → Int32) (a_trialYear_actsToNought : Int32) (a_trialYear_house_there : Int32) (a_trialYear_house_awake : Int32) (a_trialYear_house_start : Int32) (a_trialYear_house_sharp : Int32) (a_trialYear_house_counts : Nat → Int32) (a_trialYear_house_paces : Nat → Int32) (a_images_0_isKept : Int32) (a_images_0_house_there : Int32) (a_images_0_house_awake : Int32) (a_images_0_house_start : Int32) (a_images_0_house_sharp : Int32) (a_images_0_house_counts : Nat → Int32) (a_images_0_house_paces : Nat → Int32) (a_images_0_sights_size : Int32) (a_images_0_sights_monks : Nat → Int32) (a_images_0_sights_breaths : Nat → Int32) (a_images_0_sights_bowed : Nat → Int32) (a_images_1_isKept : Int32) (a_images_1_house_there : Int32) (a_images_1_house_awake : Int32) (a_images_1_house_start : Int32) (a_images_1_house_sharp : Int32) (a_images_1_house_counts : Nat → Int32) (a_images_1_house_paces : Nat → Int32) (a_images_1_sights_size : Int32) (a_images_1_sights_monks : Nat → Int32) (a_images_1_sights_breaths : Nat → Int32) (a_images_1_sights_bowed : Nat → Int32) (r_there : Int32) (r_awake : Int32) (r_house : Int32) (r_sharp : Int32) (r_sights : Int32) (r_signs : Int32) (r_up : Int32) (r_reason : Int32) (r_acts : Int32) (r_breaths : Int32) (r_zeroAt : Int32) (r_noticedAt : Int32) (r_count : Nat → Int32) (r_pace : Nat → Int32) (r_sight : Nat → Int32) (r_pad : Nat → Int32) (r_now : Nat → Int32) (r_image : Nat → Int32) (r_isKept : Nat → Int32) : va_W := [(At, .inr (8, [.ref (u 0), .ref (u 3), .ref (u 7), .ref (u 11), .ref (u 12), .ref (u 16), .ref (u 18), .ref (u 22)])), ((u 0), .inr (1, [.int a_house_there, .int a_house_awake, .int a_house_start, .int a_house_sharp, .ref (u 1), .ref (u 2)])), ((u 1), .inl (ty.1, 8, .inl a_house_counts)), ((u 2), .inl (ty.1, 8, .inl a_house_paces)), ((u 3), .inr (4, [.int a_pad_size, .ref (u 4), .int a_pad_acts, .ref (u 5), .ref (u 6)])), ((u 4), .inl (ty.1, 60, .inl a_pad_signs)), ((u 5), .inl (ty.1, 60, .inl a_pad_actMonks)), ((u 6), .inl (ty.1, 60, .inl a_pad_actSigns)), ((u 7), .inr (0, [.ref (u 8), .int a_hours_hasFault, .int a_hours_wrongAct, .int a_hours_why, .int a_hours_breathsSoFar, .int a_hours_breathOfFirstNought, .int a_hours_firstNoticed])), ((u 8), .inr (1, [.int a_hours_house_there, .int a_hours_house_awake, .int a_hours_house_start, .int a_hours_house_sharp, .ref (u 9), .ref (u 10)])), ((u 9), .inl (ty.1, 8, .inl a_hours_house_counts)), ((u 10), .inl (ty.1, 8, .inl a_hours_house_paces)), ((u 12), .inr (5, [.int a_sights_size, .ref (u 13), .ref (u 14), .ref (u 15)])), ((u 13), .inl (ty.1, 8, .inl a_sights_monks)), ((u 14), .inl (ty.1, 8, .inl a_sights_breaths)), ((u 15), .inl (ty.2.2.1, 8, .inl a_sights_bowed)), ((u 16), .inr (6, [.int a_worlds_size, .int a_worlds_skippers, .int a_worlds_hasNobody, .ref (u 17)])), ((u 17), .inl (ty.1, 8, .inl a_worlds_fitting)), ((u 18), .inr (7, [.ref (u 19), .int a_trialYear_actsToNought])), ((u 19), .inr (1, [.int a_trialYear_house_there, .int a_trialYear_house_awake, .int a_trialYear_house_start, .int a_trialYear_house_sharp, .ref (u 20), .ref (u 21)])), ((u 20), .inl (ty.1, 8, .inl a_trialYear_house_counts)), ((u 21), .inl (ty.1, 8, .inl a_trialYear_house_paces)), ((u 22), .inl (ty.2.2.2, 2, .inr (.inr (.inr (.inr (im2 (u 23) (u 31))))))), ((u 23), .inr (2, [.int a_images_0_isKept, .ref (u 24), .ref (u 27)])), ((u 24), .inr (1, [.int a_images_0_house_there, .int a_images_0_house_awake, .int a_images_0_house_start, .int a_images_0_house_sharp, .ref (u 25), .ref (u 26)])), ((u 25), .inl (ty.1, 8, .inl a_images_0_house_counts)), ((u 26), .inl (ty.1, 8, .inl a_images_0_house_paces)), ((u 27), .inr (5, [.int a_images_0_sights_size, .ref (u 28), .ref (u 29), .ref (u 30)])), ((u 28), .inl (ty.1, 8, .inl a_images_0_sights_monks)), ((u 29), .inl (ty.1, 8, .inl a_images_0_sights_breaths)), ((u 30), .inl (ty.2.2.1, 8, .inl a_images_0_sights_bowed)), ((u 31), .inr (2, [.int a_images_1_isKept, .ref (u 32), .ref (u 35)])), ((u 32), .inr (1, [.int a_images_1_house_there, .int a_images_1_house_awake, .int a_images_1_house_start, .int a_images_1_house_sharp, .ref (u 33), .ref (u 34)])), ((u 33), .inl (ty.1, 8, .inl a_images_1_house_counts)), ((u 34), .inl (ty.1, 8, .inl a_images_1_house_paces)), ((u 35), .inr (5, [.int a_images_1_sights_size, .ref (u 36), .ref (u 37), .ref (u 38)])), ((u 36), .inl (ty.1, 8, .inl a_images_1_sights_monks)), ((u 37), .inl (ty.1, 8, .inl a_images_1_sights_breaths)), ((u 38), .inl (ty.2.2.1, 8, .inl a_images_1_sights_bowed)), (Ar, .inr (9, [.int r_there, .int r_awake, .ref (v 0), .ref (v 1), .int r_house, .int r_sharp, .int r_sights, .ref (v 2), .int r_signs, .ref (v 3), .int r_up, .ref (v 4), .int r_reason, .int r_acts, .int r_breaths, .int r_zeroAt, .int r_noticedAt, .ref (v 5), .ref (v 6)])), ((v 0), .inl (ty.1, 8, .inl r_count)), ((v 1), .inl (ty.1, 8, .inl r_pace)), ((v 2), .inl (ty.1, 24, .inl r_sight)), ((v 3), .inl (ty.1, 60, .inl r_pad)), ((v 4), .inl (ty.1, 8, .inl r_now)), ((v 5), .inl (ty.1, 120, .inl r_image)), ((v 6), .inl (ty.2.2.1, 2, .inl r_isKept))]
def LI (D : va_G) (ty : TY) (A : Nat → Prop) (At Ar : Nat) (H : Heap) : Prop := ∃ (u v : Nat → Nat) (o : Option Nat × Option Nat) (T Wk h sh n mm : Nat) (fc fp sg mk bk : Nat → Nat) (bw : Nat → Bool) (C C' P P' G G' M B Z S I K : Nat → Int32) (i0 i1 : ImgC) (ac x0 x1 x2 x4 x5 x6 y1 y2 y3 y4 s0 k0 h0 z0 z1 z2 z3 z4 u1 u2 u3 u4 u5 u6 : Int32) (M0 S0 Y5 Y6 G0 Z5 Z6 N : Nat → Int32), va_P D vwCl ((lX ty At Ar u v (nI T) (nI Wk) (nI h) (nI sh) C P (nI n) ac G M0 S0 x0 x1 x2 x4 x5 x6 y1 y2 y3 y4 Y5 Y6 (nI mm) M B Z s0 k0 h0 G0 z0 z1 z2 z3 z4 Z5 Z6 i0.1 i0.2.1 i0.2.2.1 i0.2.2.2.1 i0.2.2.2.2.1 i0.2.2.2.2.2.1 i0.2.2.2.2.2.2.1 i0.2.2.2.2.2.2.2.1 i0.2.2.2.2.2.2.2.2.1 i0.2.2.2.2.2.2.2.2.2.1 i0.2.2.2.2.2.2.2.2.2.2 i1.1 i1.2.1 i1.2.2.1 i1.2.2.2.1 i1.2.2.2.2.1 i1.2.2.2.2.2.1 i1.2.2.2.2.2.2.1 i1.2.2.2.2.2.2.2.1 i1.2.2.2.2.2.2.2.2.1 i1.2.2.2.2.2.2.2.2.2.1 i1.2.2.2.2.2.2.2.2.2.2 (nI T) (nI Wk) (nI h) (nI sh) (nI mm) (nI n) u1 u2 u3 u4 u5 u6 C' P' S G' N I K) ++ lwW ty bw_PM bw_DM (u 11) o) H ∧ va_D A ((lX ty At Ar u v (nI T) (nI Wk) (nI h) (nI sh) C P (nI n) ac G M0 S0 x0 x1 x2 x4 x5 x6 y1 y2 y3 y4 Y5 Y6 (nI mm) M B Z s0 k0 h0 G0 z0 z1 z2 z3 z4 Z5 Z6 i0.1 i0.2.1 i0.2.2.1 i0.2.2.2.1 i0.2.2.2.2.1 i0.2.2.2.2.2.1 i0.2.2.2.2.2.2.1 i0.2.2.2.2.2.2.2.1 i0.2.2.2.2.2.2.2.2.1 i0.2.2.2.2.2.2.2.2.2.1 i0.2.2.2.2.2.2.2.2.2.2 i1.1 i1.2.1 i1.2.2.1 i1.2.2.2.1 i1.2.2.2.2.1 i1.2.2.2.2.2.1 i1.2.2.2.2.2.2.1 i1.2.2.2.2.2.2.2.1 i1.2.2.2.2.2.2.2.2.1 i1.2.2.2.2.2.2.2.2.2.1 i1.2.2.2.2.2.2.2.2.2.2 (nI T) (nI Wk) (nI h) (nI sh) (nI mm) (nI n) u1 u2 u3 u4 u5 u6 C' P' S G' N I K) ++ lwW ty bw_PM bw_DM (u 11) o) ∧ GH T Wk h sh fp ∧ R2 8 1000000 C C' fc ∧ R2 8 9 P P' fp ∧ n ≤ 60 ∧ R2 n 126 G G' sg ∧ RS mm mk bk bw M B Z S ∧ RIm 0 i0 I K ∧ RIm 1 i1 I K
set_option maxHeartbeats 4000000 in
theorem LI_mk {D : va_G} {ty : TY} {A : Nat → Prop} {At Ar : Nat} {H : Heap} {u v : Nat → Nat} {o : Option Nat × Option Nat} {T Wk h sh n mm : Nat} {fc fp sg mk bk : Nat → Nat} {bw : Nat → Bool} {C C' P P' G G' M B Z S I K : Nat → Int32} {i0 i1 : ImgC} {ac x0 x1 x2 x4 x5 x6 y1 y2 y3 y4 s0 k0 h0 z0 z1 z2 z3 z4 u1 u2 u3 u4 u5 u6 : Int32} {M0 S0 Y5 Y6 G0 Z5 Z6 N : Nat → Int32} (hP : va_P D vwCl ((lX ty At Ar u v (nI T) (nI Wk) (nI h) (nI sh) C P (nI n) ac G M0 S0 x0 x1 x2 x4 x5 x6 y1 y2 y3 y4 Y5 Y6 (nI mm) M B Z s0 k0 h0 G0 z0 z1 z2 z3 z4 Z5 Z6 i0.1 i0.2.1 i0.2.2.1 i0.2.2.2.1 i0.2.2.2.2.1 i0.2.2.2.2.2.1 i0.2.2.2.2.2.2.1 i0.2.2.2.2.2.2.2.1 i0.2.2.2.2.2.2.2.2.1 i0.2.2.2.2.2.2.2.2.2.1 i0.2.2.2.2.2.2.2.2.2.2 i1.1 i1.2.1 i1.2.2.1 i1.2.2.2.1 i1.2.2.2.2.1 i1.2.2.2.2.2.1 i1.2.2.2.2.2.2.1 i1.2.2.2.2.2.2.2.1 i1.2.2.2.2.2.2.2.2.1 i1.2.2.2.2.2.2.2.2.2.1 i1.2.2.2.2.2.2.2.2.2.2 (nI T) (nI Wk) (nI h) (nI sh) (nI mm) (nI n) u1 u2 u3 u4 u5 u6 C' P' S G' N I K) ++ lwW ty bw_PM bw_DM (u 11) o) H) (hD : va_D A ((lX ty At Ar u v (nI T) (nI Wk) (nI h) (nI sh) C P (nI n) ac G M0 S0 x0 x1 x2 x4 x5 x6 y1 y2 y3 y4 Y5 Y6 (nI mm) M B Z s0 k0 h0 G0 z0 z1 z2 z3 z4 Z5 Z6 i0.1 i0.2.1 i0.2.2.1 i0.2.2.2.1 i0.2.2.2.2.1 i0.2.2.2.2.2.1 i0.2.2.2.2.2.2.1 i0.2.2.2.2.2.2.2.1 i0.2.2.2.2.2.2.2.2.1 i0.2.2.2.2.2.2.2.2.2.1 i0.2.2.2.2.2.2.2.2.2.2 i1.1 i1.2.1 i1.2.2.1 i1.2.2.2.1 i1.2.2.2.2.1 i1.2.2.2.2.2.1 i1.2.2.2.2.2.2.1 i1.2.2.2.2.2.2.2.1 i1.2.2.2.2.2.2.2.2.1 i1.2.2.2.2.2.2.2.2.2.1 i1.2.2.2.2.2.2.2.2.2.2 (nI T) (nI Wk) (nI h) (nI sh) (nI mm) (nI n) u1 u2 u3 u4 u5 u6 C' P' S G' N I K) ++ lwW ty bw_PM bw_DM (u 11) o)) (hG : GH T Wk h sh fp) (hC : R2 8 1000000 C C' fc) (hPa : R2 8 9 P P' fp) (hn : n ≤ 60) (hQ : R2 n 126 G G' sg) (hSi : RS mm mk bk bw M B Z S) (hi0 : RIm 0 i0 I K) (hi1 : RIm 1 i1 I K) : LI D ty A At Ar H := ⟨u, v, o, T, Wk, h, sh, n, mm, fc, fp, sg, mk, bk, bw, C, C', P, P', G, G', M, B, Z, S, I, K, i0, i1, ac, x0, x1, x2, x4, x5, x6, y1, y2, y3, y4, s0, k0, h0, z0, z1, z2, z3, z4, u1, u2, u3, u4, u5, u6, M0, S0, Y5, Y6, G0, Z5, Z6, N, hP, hD, hG, hC, hPa, hn, hQ, hSi, hi0, hi1⟩
