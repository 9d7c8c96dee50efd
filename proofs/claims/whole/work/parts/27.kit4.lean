/-! two worlds side by side, a call over one of them -/
section KB
variable {p : Program} {l : Launch} {e : Env} {R : Room} {s : State} {m : MethodId} {args : Array Value} {below : List Frame} {meth : Method} {c : Code} {H : Heap} {locs : List Loc} {Q : State → Prop} {A : Nat → Prop} {D : va_G} {tys : List (ClassId × FieldType)} {v : Option Value} {wx wm wc' : va_W} {cc : ByteArray} {pc : Nat} {ls : Array Slot}
variable {cells slots : Nat} {rest st0 : List Value} {own : String} {idx maxL maxL0 : Nat} {y : MethodName} {bytes : ByteArray} {ret : Option FieldType} {rm : Room} {As : List Value} {b : Addr}
theorem spl_l {H : Heap} (h : va_P D cls9 (wx ++ wm) H) : va_P D cls9 wx H := fun k q hk => h k q (by rw [List.getElem?_append_left (List.getElem?_eq_some_iff.mp hk).1]; exact hk)
theorem spl_r {H : Heap} (h : va_P D cls9 (wx ++ wm) H) : va_P D cls9 wm H := fun k q hk => h (wx.length + k) q (by rw [List.getElem?_append_right (by omega), Nat.add_sub_cancel_left]; exact hk)
theorem spl_dl {A : Nat → Prop} (h : va_D A (wx ++ wm)) : va_D A wx := ⟨fun i j p q hi hj hpq => h.1 i j p q (by rw [List.getElem?_append_left (List.getElem?_eq_some_iff.mp hi).1]; exact hi) (by rw [List.getElem?_append_left (List.getElem?_eq_some_iff.mp hj).1]; exact hj) hpq, fun k q hk => h.2 k q (by rw [List.getElem?_append_left (List.getElem?_eq_some_iff.mp hk).1]; exact hk)⟩
theorem spl_dr {A : Nat → Prop} (h : va_D A (wx ++ wm)) : va_D A wm := ⟨fun i j p q hi hj hpq => by
    have := h.1 (wx.length + i) (wx.length + j) p q (by rw [List.getElem?_append_right (by omega), Nat.add_sub_cancel_left]; exact hi) (by rw [List.getElem?_append_right (by omega), Nat.add_sub_cancel_left]; exact hj) hpq
    omega, fun k q hk => h.2 (wx.length + k) q (by rw [List.getElem?_append_right (by omega), Nat.add_sub_cancel_left]; exact hk)⟩
theorem spl_x {A : Nat → Prop} (h : va_D A (wx ++ wm)) {i j : Nat} {p q : Nat × va_E} (hi : wx[i]? = some p) (hj : wm[j]? = some q) : p.1 ≠ q.1 := by
  intro hpq
  have hl := (List.getElem?_eq_some_iff.mp hi).1
  have := h.1 i (wx.length + j) p q (by rw [List.getElem?_append_left hl]; exact hi) (by rw [List.getElem?_append_right (by omega), Nat.add_sub_cancel_left]; exact hj) hpq
  omega
theorem spl_F {wc : va_W} (hD : va_D A wc) (hA : ∀ q : Nat, s.heap.size ≤ q → A q) (hS : va_S A s.heap H locs) : ∀ q, va_A wc H.size q → A q := fun q h => by
  rcases h with ⟨k, e, h⟩ | h
  · exact hD.2 k (q, e) h
  · exact hA q (Nat.le_trans hS.1 h)
theorem cVl (hM : CT l D tys y bytes maxL ret rm (.ref b :: As) wx v wc') (ci q0 : Nat) {qc : vw_C} {fs : List Value} (hx : p.tables.exec = Jvm.exec) (hb : c.code = cc) (hml : c.maxLocals = maxL0) (hown : s.vm.findClass own = some m.cls) (hts : ∀ x ∈ tblG, x.before args s = true) (hK : KK D tys s) (hA : ∀ q : Nat, s.heap.size ≤ q → A q) (hW : va_P D cls9 (wx ++ wm) H ∧ va_D A (wx ++ wm)) (hS : va_S A s.heap H locs)
    (t1 : Cond.code y bytes maxL ret ∈ tblG) (t2 : Cond.methodLink own idx y ∈ tblG) (t3 : Cond.instanceMethod y ∈ tblG) (t4 : Cond.selects qc.1 y y ∈ tblG) (t5 : Cond.initialized qc.1 ∈ tblG)
    (hd : y.cls = qc.1 ∧ y.cls ≠ "java/lang/invoke/MethodHandle" ∧ y.cls ≠ "java/lang/invoke/VarHandle" ∧ (parseMethodDescriptor y.desc).map (fun d => d.parameters.length) = some As.length) (hR : rm.frames + 1 ≤ R.frames ∧ 8 + (maxL + 11) + rm.locals ≤ R.locals) (hz : rm.cells = 0 ∧ rm.slots = 0) (hRc : cells ≤ R.cells ∧ slots ≤ R.slots)
    (hc : cls9[ci]? = some qc) (he : wx[q0]? = some (b, .inr (ci, fs)))
    (hl : ls.size = maxL0) (hst : st0 = As.reverse ++ .ref b :: rest) (hcat : (rest.map fun v => v.category).sum ≤ 8) (d : decode cc pc = .ok (.invokevirtual idx, 3))
    (kk : ∀ (H1 : Heap) (locs1 : List Loc), (va_P D cls9 (wc' ++ wm) H1 ∧ va_D A (wc' ++ wm)) → va_S A s.heap H1 locs1 → W p l e R s m args below meth c H1 locs1 cells slots Q (F0 m (pc + 3) ls (v.toList ++ rest))) : W p l e R s m args below meth c H locs cells slots Q (F0 m pc ls st0) := by
  have hPc := spl_l hW.1
  have hDc := spl_dl hW.2
  have hF := spl_F hDc hA hS
  refine callT0 (mc := 0) (ms := 0) (va_runV (As := As) (rest := rest) (C := qc.1) ⟨hx, hb, hml, hown, hts⟩ (hM H.size) (cwV As.length hts (goodV t1 t2 t3 t4 t5) rfl hz.1 hz.2 hd hR) ⟨PW_blind, va_recv hK.1 hPc hc he, fun U hU hWm => ⟨rfl, PW_at hK hPc hDc hU hWm⟩⟩ rfl rfl hl hst (lv_room hcat) d hRc) hS (fun q _ h => hF q h) hF (fun t H1 locs1 ht hvm hB hz1 hk1 hS1 => ?_)
  obtain ⟨hP1, -, hD1⟩ := hB
  rw [ht] at hP1
  have hPr := spl_r hW.1
  have ap : ∀ (k : Nat) (q : Nat × va_E), wm[k]? = some q → q.1 < H.size ∧ ¬ va_A wx H.size q.1 := by
    intro k q hk
    have hlt := (hPr k q hk).lt
    refine ⟨hlt, fun h => ?_⟩
    rcases h with ⟨k2, e2, h⟩ | h
    · exact spl_x hW.2 h hk rfl
    · omega
  refine kk H1 locs1 ⟨va_P.app hP1 (fun k q hk => (hPr k q hk).kept (hk1 q.1 (ap k q hk).1 (ap k q hk).2)), va_D.app (hD1.weaken (fun k q _ h => hF q.1 h)) (spl_dr hW.2) (fun i j p q hi hj hpq => (ap j q hj).2 (by rw [← hpq]; exact hD1.2 i p hi))⟩ hS1
theorem cVr (hM : CT l D tys y bytes maxL ret rm (.ref b :: As) wm v wc') (ci q0 : Nat) {qc : vw_C} {fs : List Value} (hx : p.tables.exec = Jvm.exec) (hb : c.code = cc) (hml : c.maxLocals = maxL0) (hown : s.vm.findClass own = some m.cls) (hts : ∀ x ∈ tblG, x.before args s = true) (hK : KK D tys s) (hA : ∀ q : Nat, s.heap.size ≤ q → A q) (hW : va_P D cls9 (wx ++ wm) H ∧ va_D A (wx ++ wm)) (hS : va_S A s.heap H locs)
    (t1 : Cond.code y bytes maxL ret ∈ tblG) (t2 : Cond.methodLink own idx y ∈ tblG) (t3 : Cond.instanceMethod y ∈ tblG) (t4 : Cond.selects qc.1 y y ∈ tblG) (t5 : Cond.initialized qc.1 ∈ tblG)
    (hd : y.cls = qc.1 ∧ y.cls ≠ "java/lang/invoke/MethodHandle" ∧ y.cls ≠ "java/lang/invoke/VarHandle" ∧ (parseMethodDescriptor y.desc).map (fun d => d.parameters.length) = some As.length) (hR : rm.frames + 1 ≤ R.frames ∧ 8 + (maxL + 11) + rm.locals ≤ R.locals) (hz : rm.cells = 0 ∧ rm.slots = 0) (hRc : cells ≤ R.cells ∧ slots ≤ R.slots)
    (hc : cls9[ci]? = some qc) (he : wm[q0]? = some (b, .inr (ci, fs)))
    (hl : ls.size = maxL0) (hst : st0 = As.reverse ++ .ref b :: rest) (hcat : (rest.map fun v => v.category).sum ≤ 8) (d : decode cc pc = .ok (.invokevirtual idx, 3))
    (kk : ∀ (H1 : Heap) (locs1 : List Loc), (va_P D cls9 (wx ++ wc') H1 ∧ va_D A (wx ++ wc')) → va_S A s.heap H1 locs1 → W p l e R s m args below meth c H1 locs1 cells slots Q (F0 m (pc + 3) ls (v.toList ++ rest))) : W p l e R s m args below meth c H locs cells slots Q (F0 m pc ls st0) := by
  have hPc := spl_r hW.1
  have hDc := spl_dr hW.2
  have hF := spl_F hDc hA hS
  refine callT0 (mc := 0) (ms := 0) (va_runV (As := As) (rest := rest) (C := qc.1) ⟨hx, hb, hml, hown, hts⟩ (hM H.size) (cwV As.length hts (goodV t1 t2 t3 t4 t5) rfl hz.1 hz.2 hd hR) ⟨PW_blind, va_recv hK.1 hPc hc he, fun U hU hWm => ⟨rfl, PW_at hK hPc hDc hU hWm⟩⟩ rfl rfl hl hst (lv_room hcat) d hRc) hS (fun q _ h => hF q h) hF (fun t H1 locs1 ht hvm hB hz1 hk1 hS1 => ?_)
  obtain ⟨hP1, -, hD1⟩ := hB
  rw [ht] at hP1
  have hPl := spl_l hW.1
  have ap : ∀ (k : Nat) (q : Nat × va_E), wx[k]? = some q → q.1 < H.size ∧ ¬ va_A wm H.size q.1 := by
    intro k q hk
    have hlt := (hPl k q hk).lt
    refine ⟨hlt, fun h => ?_⟩
    rcases h with ⟨k2, e2, h⟩ | h
    · exact spl_x hW.2 hk h rfl
    · omega
  refine kk H1 locs1 ⟨va_P.app (fun k q hk => (hPl k q hk).kept (hk1 q.1 (ap k q hk).1 (ap k q hk).2)) hP1, va_D.app (spl_dl hW.2) (hD1.weaken (fun k q _ h => hF q.1 h)) (fun i j p q hi hj hpq => (ap i p hi).2 (by rw [hpq]; exact hD1.2 j q hj))⟩ hS1
end KB
