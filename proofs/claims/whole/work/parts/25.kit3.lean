/-! constructors: the contract of a method that makes cells, at addresses that come with it -/
def CTA (l : Launch) (D : va_G) (tys : List (ClassId × FieldType)) (y : MethodName) (code : ByteArray) (maxL : Nat) (rm : Room) (as : List Value) (w : va_W) (mc ms : Nat) (w' : (Nat → Nat) → va_W) : Prop :=
  ∀ sz : Nat, Met l y (wsG y code maxL none) rm (va_Pc as (PW D tys sz w)) (QD none (fun t => ∃ q : Nat → Nat, BW D tys (va_A w sz) (w' q) t) (va_A w sz)) mc ms (va_A w sz)
theorem CTA.of {l : Launch} {D : va_G} {tys : List (ClassId × FieldType)} {y : MethodName} {code : ByteArray} {maxL : Nat} {rm : Room} {as : List Value} {w : va_W} {mc ms : Nat} {w' : (Nat → Nat) → va_W} (hy : plainName y.cls = true) (hyn : y.name = "<init>") (hn : (lg_sl as).length ≤ maxL)
    (body : ∀ (p : Program) (e : Env) (s : State) (m : MethodId) (args : Array Value) (below : List Frame) (meth : Method) (c : Code) (A : Nat → Prop) (Q : State → Prop) (ls : Array Slot), Q = MQ below (QD none (fun t => ∃ q : Nat → Nat, BW D tys A (w' q) t) A) args s mc ms A → p.tables.exec = Jvm.exec → c.code = code → meth.sig.returnType = none → c.maxLocals = maxL → s.vm.findClass y.cls = some m.cls → (∀ x ∈ tblG, x.before args s = true) → meth.locks = false → meth.name = "<init>" → KK D tys s → (∀ q : Nat, s.heap.size ≤ q → A q) → (va_P D cls9 w s.heap ∧ va_D A w) → va_S A s.heap s.heap [] → lv_has ls maxL (lv_args 0 as) →
      W p l e rm s m args below meth c s.heap [] 0 0 Q (F0 m 0 ls [])) : CTA l D tys y code maxL rm as w mc ms w' := by
  intro sz
  refine Met.ofW (cc := code) (maxL := maxL) (ret := none) hy rfl ?_
  intro p e s m args below meth c s₁ B hml hv
  obtain ⟨rfl, hsz, hP, hK, hD0⟩ := hv
  have hts := atoms_spec (ws := wsG y code maxL none) B.pre
  have hown : s.vm.findClass y.cls = some m.cls := findClass_of_methodNamed B.named
  have hin : meth.name = "<init>" := (name_of_methodNamed B.named B.method).1.trans hyn
  have hl := lv_entry as (n := maxL) hn
  rw [lg_entry_eq]
  generalize (lg_sl as ++ List.replicate (maxL - (lg_sl as).length) Slot.unset).toArray = ls at hl ⊢
  subst hsz
  exact body p e s m as.toArray below meth c (va_A w s.heap.size) _ ls rfl B.exec B.bytes B.returns hml hown (fun x hx => hts x (List.mem_cons_of_mem _ hx)) B.notSynchronized hin hK (fun q h => Or.inr h) ⟨hP, hD0.self⟩ va_S.rf hl
section KA
variable {p : Program} {l : Launch} {e : Env} {R : Room} {s : State} {m : MethodId} {args : Array Value} {below : List Frame} {meth : Method} {c : Code} {H : Heap} {locs : List Loc} {Q : State → Prop} {A : Nat → Prop} {D : va_G} {tys : List (ClassId × FieldType)} {w : va_W} {cc : ByteArray} {pc : Nat} {ls : Array Slot}
variable {cells slots mc ms : Nat} {rest : List Value} {b : Addr}
theorem retVA {w' : (Nat → Nat) → va_W} (q : Nat → Nat) (hQ : Q = MQ below (QD none (fun t => ∃ q : Nat → Nat, BW D tys A (w' q) t) A) args s cells slots A) (hx : p.tables.exec = Jvm.exec) (hb : c.code = cc) (hr : meth.sig.returnType = none) (hlk : meth.locks = false) (hK : KK D tys s) (hW : va_P D cls9 w H ∧ va_D A w) (hS : va_S A s.heap H locs) (hw : w' q = w) (d : decode cc pc = .ok (.return_, 1)) : W p l e R s m args below meth c H locs cells slots Q (F0 m pc ls []) := by
  subst hQ
  exact W.vret hx hb hr (fun t ht hWm => ⟨⟨rfl, q, by rw [ht, hw]; exact hW.1, va_K.moved hWm.alike hK.1, by rw [hw]; exact hW.2⟩, hS.F ht⟩) hS.2.2 d
theorem naW {atype : ArrayType} {ty : FieldType} {cT : ClassId} {n : Int32} {N' : Nat} {a0 : vp_A} (t0 : Nat) (hx : p.tables.exec = Jvm.exec) (hb : c.code = cc) (harr : (Cond.arrayClass (newarray.typeOf atype)).before args s = true) (hty : newarray.typeOf atype = ty) (h3 : ty = .int ∨ ty = .long ∨ ty = .boolean) (ht : tys[t0]? = some (cT, ty)) (hK : KK D tys s) (hA : ∀ q : Nat, s.heap.size ≤ q → A q) (hW : va_P D cls9 w H ∧ va_D A w) (hS : va_S A s.heap H locs)
    (ha : ∀ cA : ClassId, vp_cell cA a0 = arrV cA N' (fun _ => defaultValue ty)) (hn : ¬ n < 0) (hN : n.toNatClampNeg = N') (hbytes : N' * componentBytes ty ≤ 536870912) (hcells : cells + 1 ≤ R.cells) (hslots : slots + N' ≤ R.slots) (hdg : decode cc pc = .ok (.newarray atype, 2))
    (kk : ∀ (q : Nat) (H1 : Heap), (va_P D cls9 (w ++ [(q, .inl (cT, a0))]) H1 ∧ va_D A (w ++ [(q, .inl (cT, a0))])) → va_S A s.heap H1 locs → W p l e R s m args below meth c H1 locs (cells + 1) (slots + N') Q (F0 m (pc + 2) ls (.ref q :: rest))) : W p l e R s m args below meth c H locs cells slots Q (F0 m pc ls (.int n :: rest)) := by
  refine va_newa hx hb harr hty hK.1 hW.1 hW.2 hS hA ha hn hN hbytes hcells hslots hdg (fun q cA H1 hK' hP hD hS1 => ?_)
  have e : cA = cT := by
    have h1 := (hK'.2 tys.length (cA, ty) (by simp)).2
    have h2 := (hK.1.2 t0 (cT, ty) ht).2
    rcases h3 with rfl | rfl | rfl <;> exact Option.some.inj (h1.symm.trans h2)
  subst e
  exact kk q H1 ⟨hP, hD⟩ hS1
/-- behind a constructor's call: its object and the cells that it made beside the rest, in the order that is asked for -/
theorem afterI {eb : va_E} {w' wt : (Nat → Nat) → va_W} {wr : va_W} {a : Array Value} {st0 : List Value} (hr : va_Run p l e R s m args below meth c H locs cells slots mc ms (F0 m pc ls st0) rest (QD none (fun t => ∃ q : Nat → Nat, BW D tys (va_A [(b, eb)] H.size) (w' q) t) (va_A [(b, eb)] H.size) a) (va_A [(b, eb)] H.size)) (i : Nat) (isR : List Nat) (hA : ∀ q : Nat, s.heap.size ≤ q → A q) (hW : va_P D cls9 w H ∧ va_D A w) (hS : va_S A s.heap H locs)
    (hC : [i].map (fun i => w[i]?) = [(b, eb)].map some) (hR : isR.map (fun i => w[i]?) = wr.map some) (hn : va_nd isR = true) (hdis : ∀ j ∈ isR, j ∉ [i]) (perm : List Nat) (hnp : va_nd perm = true) (hp : ∀ q, perm.map (fun i => (wr ++ w' q)[i]?) = (wt q).map some)
    (kk : ∀ (q : Nat → Nat) (H1 : Heap) (locs1 : List Loc), (va_P D cls9 (wt q) H1 ∧ va_D A (wt q)) → va_S A s.heap H1 locs1 → W p l e R s m args below meth c H1 locs1 (cells + mc) (slots + ms) Q (F0 m (pc + 3) ls rest)) : W p l e R s m args below meth c H locs cells slots Q (F0 m pc ls st0) := by
  have hF := va_free (wc := [(b, eb)]) hW.2 hS hA [i] hC
  refine callT0 hr hS (fun q _ h => hF q h) hF (fun t H1 locs1 ht hvm hB hz1 hk1 hS1 => ?_)
  obtain ⟨q, hP1, -, hD1⟩ := hB
  rw [ht] at hP1
  obtain ⟨hP2, hD2⟩ := va_join (wr := wr) (w1 := w' q) hW.1 hW.2 [i] isR hC hR hn hdis hk1 hF hP1 hD1
  refine kk q H1 locs1 ⟨?_, hD2.sub perm hnp (hp q)⟩ hS1
  intro k x hk
  have h1 : (perm.map (fun i => (wr ++ w' q)[i]?))[k]? = some (some x) := by rw [hp q, List.getElem?_map, hk]; rfl
  rw [List.getElem?_map] at h1
  cases hi : perm[k]? with
  | none => rw [hi] at h1; cases h1
  | some j => rw [hi] at h1; exact hP2 j x (Option.some.inj h1)
/-- the object that a constructor is called on, as its start asks -/
theorem PreI {eb : va_E} {i : Nat} {H : Heap} (hK : KK D tys s) (hW : va_P D cls9 w H ∧ va_D A w) (hC : [i].map (fun i => w[i]?) = [(b, eb)].map some) : PreS s H (va_Pc [.ref b] (PW D tys H.size [(b, eb)])) (.ref b :: []) := by
  have h0 : w[i]? = some (b, eb) := by
    simp only [List.map_cons, List.map_nil, List.cons.injEq, and_true] at hC
    exact hC
  refine ⟨PW_blind, fun U hU hWm => ⟨rfl, PW_at hK (H := H) (wc := [(b, eb)]) (A := A) ?_ ?_ hU hWm⟩⟩
  · intro k q hk
    cases k with
    | zero => cases hk; exact hW.1 i _ h0
    | succ k => simp at hk
  · refine ⟨fun j k p q hj hk _ => ?_, fun k q hk => ?_⟩
    · cases j with
      | zero => cases k with
        | zero => rfl
        | succ k => simp at hk
      | succ j => simp at hj
    · cases k with
      | zero => cases hk; exact hW.2.2 i _ h0
      | succ k => simp at hk
end KA
