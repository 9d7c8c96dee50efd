section KU
variable {p : Program} {l : Launch} {e : Env} {R : Room} {s : State} {m : MethodId} {args : Array Value} {below : List Frame} {meth : Method} {c : Code} {H : Heap} {locs : List Loc} {Q : State → Prop} {A : Nat → Prop} {D : va_G} {tys : List (ClassId × FieldType)} {v : Option Value} {wc wc' : va_W} {cc : ByteArray} {pc : Nat} {ls : Array Slot}
variable {cells slots : Nat} {rest st0 : List Value} {own : String} {idx maxL maxL0 : Nat} {y : MethodName} {bytes : ByteArray} {ret : Option FieldType} {rm : Room} {As : List Value} {b : Addr}
/-- a call of an instance method over the whole of the caller's cells -/
theorem cVa (hM : CT l D tys y bytes maxL ret rm (.ref b :: As) wc v wc') (ci q0 : Nat) {qc : vw_C} {fs : List Value} (hx : p.tables.exec = Jvm.exec) (hb : c.code = cc) (hml : c.maxLocals = maxL0) (hown : s.vm.findClass own = some m.cls) (hts : ∀ x ∈ tblG, x.before args s = true) (hK : KK D tys s) (hA : ∀ q : Nat, s.heap.size ≤ q → A q) (hW : va_P D cls9 wc H ∧ va_D A wc) (hS : va_S A s.heap H locs)
    (t1 : Cond.code y bytes maxL ret ∈ tblG) (t2 : Cond.methodLink own idx y ∈ tblG) (t3 : Cond.instanceMethod y ∈ tblG) (t4 : Cond.selects qc.1 y y ∈ tblG) (t5 : Cond.initialized qc.1 ∈ tblG)
    (hd : y.cls = qc.1 ∧ y.cls ≠ "java/lang/invoke/MethodHandle" ∧ y.cls ≠ "java/lang/invoke/VarHandle" ∧ (parseMethodDescriptor y.desc).map (fun d => d.parameters.length) = some As.length) (hR : rm.frames + 1 ≤ R.frames ∧ 8 + (maxL + 11) + rm.locals ≤ R.locals) (hz : rm.cells = 0 ∧ rm.slots = 0) (hRc : cells ≤ R.cells ∧ slots ≤ R.slots)
    (hc : cls9[ci]? = some qc) (he : wc[q0]? = some (b, .inr (ci, fs)))
    (hl : ls.size = maxL0) (hst : st0 = As.reverse ++ .ref b :: rest) (hcat : (rest.map fun v => v.category).sum ≤ 8) (d : decode cc pc = .ok (.invokevirtual idx, 3))
    (kk : ∀ (H1 : Heap) (locs1 : List Loc), (va_P D cls9 wc' H1 ∧ va_D A wc') → va_S A s.heap H1 locs1 → W p l e R s m args below meth c H1 locs1 cells slots Q (F0 m (pc + 3) ls (v.toList ++ rest))) : W p l e R s m args below meth c H locs cells slots Q (F0 m pc ls st0) := by
  have hF : ∀ q, va_A wc H.size q → A q := fun q h => by
    rcases h with ⟨k, e, h⟩ | h
    · exact hW.2.2 k (q, e) h
    · exact hA q (Nat.le_trans hS.1 h)
  refine callT0 (mc := 0) (ms := 0) (va_runV (As := As) (rest := rest) (C := qc.1) ⟨hx, hb, hml, hown, hts⟩ (hM H.size) (cwV As.length hts (goodV t1 t2 t3 t4 t5) rfl hz.1 hz.2 hd hR) ⟨PW_blind, va_recv hK.1 hW.1 hc he, fun U hU hWm => ⟨rfl, PW_at hK hW.1 hW.2 hU hWm⟩⟩ rfl rfl hl hst (lv_room hcat) d hRc) hS (fun q _ h => hF q h) hF (fun t H1 locs1 ht hvm hB hz1 hk1 hS1 => ?_)
  obtain ⟨hP1, -, hD1⟩ := hB
  rw [ht] at hP1
  exact kk H1 locs1 ⟨hP1, hD1.weaken (fun k q _ h => hF q.1 h)⟩ hS1
end KU
/-- a step of a loop that may end the method: its answer, or on with what it hands on -/
def sumE {γ β : Type} (x : γ ⊕ β) (g : β → γ) : γ := match x with
  | .inl r => r
  | .inr q => g q
theorem sumE_l {γ β : Type} {x : γ ⊕ β} {g : β → γ} {r : γ} (h : x = .inl r) : sumE x g = r := by subst h; rfl
theorem sumE_r {γ β : Type} {x : γ ⊕ β} {g : β → γ} {q : β} (h : x = .inr q) : sumE x g = g q := by subst h; rfl
