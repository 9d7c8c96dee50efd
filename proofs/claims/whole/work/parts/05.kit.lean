/-! the words that every method takes: all good words of the tables; nest words beside them -/
abbrev cls9 : List vw_C := [(RX0, TX0, 2), (RX1, TX1, 3), (RX2, TX2, 7), (RX3, TX3, 2), (RX4, TX4, 2), (RX5, TX5, 2), (RX6, TX6, 3), (RX7, TX7, 9), (RX8, TX8, 28)]
abbrev tys3 (cI cJ cZ : ClassId) : List (ClassId × FieldType) := [(cI, .int), (cJ, .long), (cZ, .boolean)]
def tblG : List Cond := lw_tbl.filter goodWord
theorem tblG_sub {w : Cond} (h : w ∈ tblG) : w ∈ lw_tbl := (List.mem_filter.mp h).1
theorem tblG_good {w : Cond} (h : w ∈ tblG) : (w.onTables && w.keeps) = true ∨ ∃ ty, w = .arrayClass ty := good_of_word (List.mem_filter.mp h).2
theorem tblG_in {w : Cond} (i : Nat) (h : lw_tbl[i]? = some w) (hg : goodWord w = true) : w ∈ tblG := List.mem_filter.mpr ⟨List.mem_of_getElem? h, hg⟩
def wsG (y : MethodName) (code : ByteArray) (maxL : Nat) (ret : Option FieldType) : List Cond := .code y code maxL ret :: tblG
theorem goodG {y : MethodName} {code : ByteArray} {maxL : Nat} {ret : Option FieldType} (h : Cond.code y code maxL ret ∈ tblG) : GoodIn tblG (wsG y code maxL ret) := fun w hw => by
  rcases List.mem_cons.mp hw with rfl | hw
  · exact ⟨h, tblG_good h⟩
  · exact ⟨hw, tblG_good hw⟩
theorem goodV {own C : String} {idx : Nat} {y : MethodName} {code : ByteArray} {maxL : Nat} {ret : Option FieldType} (h : Cond.code y code maxL ret ∈ tblG) (h1 : Cond.methodLink own idx y ∈ tblG) (h2 : Cond.instanceMethod y ∈ tblG) (h3 : Cond.selects C y y ∈ tblG) (h4 : Cond.initialized C ∈ tblG) : GoodIn tblG (wsV own idx C y (wsG y code maxL ret)) := fun w hw => by
  unfold wsV at hw
  rcases List.mem_append.mp hw with hw | hw
  · simp only [List.mem_cons, List.not_mem_nil, or_false] at hw
    rcases hw with rfl | rfl | rfl | rfl
    · exact ⟨h1, tblG_good h1⟩
    · exact ⟨h2, tblG_good h2⟩
    · exact ⟨h3, tblG_good h3⟩
    · exact ⟨h4, tblG_good h4⟩
  · exact goodG h w hw
theorem goodS {own : String} {idx : Nat} {y : MethodName} {code : ByteArray} {maxL : Nat} {ret : Option FieldType} (h : Cond.code y code maxL ret ∈ tblG) (h1 : Cond.methodLink own idx y ∈ tblG) (h2 : Cond.static y ∈ tblG) (h4 : Cond.initialized y.cls ∈ tblG) : GoodIn tblG (va_wsS own idx y (wsG y code maxL ret)) := fun w hw => by
  unfold va_wsS at hw
  rcases List.mem_append.mp hw with hw | hw
  · simp only [List.mem_cons, List.not_mem_nil, or_false] at hw
    rcases hw with rfl | rfl | rfl
    · exact ⟨h1, tblG_good h1⟩
    · exact ⟨h2, tblG_good h2⟩
    · exact ⟨h4, tblG_good h4⟩
  · exact goodG h w hw
def isNest : Cond → Bool
  | .fieldLinkNest _ _ _ _ _ _ => true
  | .methodLinkNest _ _ _ _ => true
  | _ => false
def NW (U : State) : Prop := ∀ w ∈ lw_tbl, isNest w = true → va_Nw w U
theorem NW.warm {s U : State} (hW : s.WarmedH U.vm) (h : NW s) : NW U := by
  intro w hw hn
  have h1 := h w hw hn
  cases w <;> first | exact absurd hn (by decide) | exact va_Nw.warmF hW h1 | exact va_Nw.warmM hW h1 | (simp [isNest] at hn)
theorem NW.same {u U : State} (hv : u.vm = U.vm) (h : NW u) : NW U := by
  intro w hw hn
  have h1 := h w hw hn
  cases w <;> first | exact absurd hn (by decide) | exact va_Nw.same rfl hv h1 | (simp [isNest] at hn)
theorem NW.of {A : Array Value} {U : State} (h : ∀ w ∈ lw_tbl, w.before A U = true) : NW U := by
  intro w hw hn
  have h1 := h w hw
  cases w <;> first | exact absurd hn (by decide) | exact va_Nw.of rfl h1 | (simp [isNest] at hn)
def KK (D : va_G) (tys : List (ClassId × FieldType)) (U : State) : Prop := va_K D cls9 tys U ∧ NW U
/-! worlds: some cells put anew at their places -/
def putw : va_W → List Nat → va_W → va_W
  | ws, i :: is, c :: cs => putw (ws.set i c) is cs
  | ws, _, _ => ws
def okL (cur : va_W) : List Nat → va_W → Prop
  | i :: is, c :: cs => (∃ e, cur[i]? = some (c.1, e)) ∧ okL cur is cs
  | [], [] => True
  | _, _ => False
theorem okL_of {cur : va_W} : ∀ (is : List Nat) (wc w1 : va_W), is.map (fun i => cur[i]?) = wc.map some → w1.map Prod.fst = wc.map Prod.fst → okL cur is w1
  | [], [], [], _, _ => trivial
  | i :: is, c :: wc, d :: w1, h1, h2 => by
    simp only [List.map_cons, List.cons.injEq] at h1 h2
    exact ⟨⟨c.2, by rw [h1.1, h2.1]⟩, okL_of is wc w1 h1.2 h2.2⟩
  | [], _ :: _, _, h, _ => by simp at h
  | _ :: _, [], _, h, _ => by simp at h
  | _, [], _ :: _, _, h => by simp at h
  | _, _ :: _, [], _, h => by simp at h
theorem okL_set {cur : va_W} {i : Nat} {a : Nat} {e e' : va_E} (hi : cur[i]? = some (a, e)) : ∀ (is : List Nat) (w1 : va_W), okL cur is w1 → okL (cur.set i (a, e')) is w1
  | [], [], _ => trivial
  | j :: is, d :: w1, ⟨⟨f, hf⟩, h⟩ => by
    refine ⟨?_, okL_set hi is w1 h⟩
    by_cases hj : j = i
    · subst hj
      rw [hi] at hf
      cases hf
      exact ⟨e', List.getElem?_set_self (List.getElem?_eq_some_iff.mp hi).1⟩
    · exact ⟨f, by rw [List.getElem?_set_ne (Ne.symm hj)]; exact hf⟩
  | [], _ :: _, h => h
  | _ :: _, [], h => h
theorem putw_aux {A0 : Nat → Prop} {D : va_G} {cl : List vw_C} {H1 : Heap} : ∀ (is : List Nat) (w1 cur : va_W), va_D A0 cur → okL cur is w1 → (∀ c ∈ w1, va_at D cl c H1) → (∀ (k : Nat) (q : Nat × va_E), cur[k]? = some q → k ∉ is → va_at D cl q H1) → va_P D cl (putw cur is w1) H1 ∧ va_D A0 (putw cur is w1)
  | [], [], cur, hD, _, _, h => ⟨fun k q hk => h k q hk List.not_mem_nil, hD⟩
  | i :: is, c :: cs, cur, hD, ⟨⟨e, he⟩, hok⟩, hg, h => by
    refine putw_aux is cs (cur.set i c) (hD.set (e := c.2) he) (okL_set (e' := c.2) he is cs hok) (fun d hd => hg d (List.mem_cons_of_mem _ hd)) ?_
    intro k q hk hn
    by_cases hki : k = i
    · subst hki
      rw [List.getElem?_set_self (List.getElem?_eq_some_iff.mp he).1] at hk
      cases hk
      exact hg c List.mem_cons_self
    · rw [List.getElem?_set_ne (Ne.symm hki)] at hk
      exact h k q hk (fun z => by rcases List.mem_cons.mp z with z | z; exact hki z; exact hn z)
  | [], _ :: _, _, _, h, _, _ => h.elim
  | _ :: _, [], _, _, h, _, _ => h.elim
theorem putw_ok {A0 : Nat → Prop} {D : va_G} {cl : List vw_C} {ws wc w1 : va_W} {H H1 : Heap} (hP : va_P D cl ws H) (hD : va_D A0 ws) (is : List Nat) (hC : is.map (fun i => ws[i]?) = wc.map some) (hf : w1.map Prod.fst = wc.map Prod.fst)
    (hk : ∀ q : Nat, q < H.size → ¬ va_A wc H.size q → H1[q]? = H[q]?) (hP1 : va_P D cl w1 H1) : va_P D cl (putw ws is w1) H1 ∧ va_D A0 (putw ws is w1) := by
  refine putw_aux is w1 ws hD (okL_of is wc w1 hC hf) (fun c hc => ?_) (fun k q hq hn => ?_)
  · obtain ⟨k, hk⟩ := List.getElem?_of_mem hc
    exact hP1 k c hk
  · have hl := (hP k q hq).lt
    refine (hP k q hq).kept (hk q.1 hl (fun h => ?_))
    rcases h with ⟨k2, e, h⟩ | h
    · have h1 : (is.map (fun i => ws[i]?))[k2]? = some (some (q.1, e)) := by rw [hC, List.getElem?_map, h]; rfl
      rw [List.getElem?_map] at h1
      cases hi : is[k2]? with
      | none => rw [hi] at h1; cases h1
      | some i =>
        rw [hi] at h1
        have h2 : ws[i]? = some (q.1, e) := Option.some.inj h1
        have h3 := hD.1 k i q (q.1, e) hq h2 rfl
        subst h3
        exact hn (List.mem_of_getElem? hi)
    · omega
/-! the contract: with these arguments, over these cells, the method returns just this answer, and the cells are just these -/
def QD (v : Option Value) (B : State → Prop) (A : Nat → Prop) : Array Value → State → Outcome → State → Prop := fun _ st oc t => (oc = .returned v ∧ B t) ∧ va_F A st t
def BW (D : va_G) (tys : List (ClassId × FieldType)) (A : Nat → Prop) (w : va_W) : State → Prop := fun t => va_P D cls9 w t.heap ∧ va_K D cls9 tys t ∧ va_D A w
def PW (D : va_G) (tys : List (ClassId × FieldType)) (sz : Nat) (w : va_W) : State → Prop := fun U => U.heap.size = sz ∧ va_P D cls9 w U.heap ∧ KK D tys U ∧ va_D (fun _ => True) w
def CT (l : Launch) (D : va_G) (tys : List (ClassId × FieldType)) (y : MethodName) (code : ByteArray) (maxL : Nat) (ret : Option FieldType) (rm : Room) (as : List Value) (w : va_W) (v : Option Value) (w' : va_W) : Prop :=
  ∀ sz : Nat, Met l y (wsG y code maxL ret) rm (va_Pc as (PW D tys sz w)) (QD v (BW D tys (va_A w sz) w') (va_A w sz)) 0 0 (va_A w sz)
theorem CT.of {l : Launch} {D : va_G} {tys : List (ClassId × FieldType)} {y : MethodName} {code : ByteArray} {maxL : Nat} {ret : Option FieldType} {rm : Room} {as : List Value} {w : va_W} {v : Option Value} {w' : va_W} (hy : plainName y.cls = true) (hn : (lg_sl as).length ≤ maxL)
    (body : ∀ (p : Program) (e : Env) (s : State) (m : MethodId) (args : Array Value) (below : List Frame) (meth : Method) (c : Code) (A : Nat → Prop) (Q : State → Prop) (ls : Array Slot), Q = MQ below (QD v (BW D tys A w') A) args s 0 0 A → p.tables.exec = Jvm.exec → c.code = code → meth.sig.returnType = ret → c.maxLocals = maxL → s.vm.findClass y.cls = some m.cls → (∀ x ∈ tblG, x.before args s = true) → meth.locks = false → KK D tys s → (∀ q : Nat, s.heap.size ≤ q → A q) → (va_P D cls9 w s.heap ∧ va_D A w) → va_S A s.heap s.heap [] → lv_has ls maxL (lv_args 0 as) →
      W p l e rm s m args below meth c s.heap [] 0 0 Q (F0 m 0 ls [])) : CT l D tys y code maxL ret rm as w v w' := by
  intro sz
  refine Met.ofW (cc := code) (maxL := maxL) (ret := ret) hy rfl ?_
  intro p e s m args below meth c s₁ B hml hv
  obtain ⟨rfl, hsz, hP, hK, hD0⟩ := hv
  have hts := atoms_spec (ws := wsG y code maxL ret) B.pre
  have hown : s.vm.findClass y.cls = some m.cls := findClass_of_methodNamed B.named
  have hl := lv_entry as (n := maxL) hn
  rw [lg_entry_eq]
  generalize (lg_sl as ++ List.replicate (maxL - (lg_sl as).length) Slot.unset).toArray = ls at hl ⊢
  subst hsz
  exact body p e s m as.toArray below meth c (va_A w s.heap.size) _ ls rfl B.exec B.bytes B.returns hml hown (fun x hx => hts x (List.mem_cons_of_mem _ hx)) B.notSynchronized hK (fun q h => Or.inr h) ⟨hP, hD0.self⟩ va_S.rf hl
section KT
variable {p : Program} {l : Launch} {e : Env} {R : Room} {s : State} {m : MethodId} {args : Array Value} {below : List Frame} {meth : Method} {c : Code} {H : Heap} {locs : List Loc} {Q : State → Prop} {A : Nat → Prop} {D : va_G} {tys : List (ClassId × FieldType)} {v : Option Value} {w w' : va_W} {cc : ByteArray} {pc : Nat} {ls : Array Slot}
theorem retI {r : Int32} (hQ : Q = MQ below (QD v (BW D tys A w') A) args s 0 0 A) (hx : p.tables.exec = Jvm.exec) (hb : c.code = cc) (hr : meth.sig.returnType = some .int) (hlk : meth.locks = false) (hK : KK D tys s) (hW : va_P D cls9 w H ∧ va_D A w) (hS : va_S A s.heap H locs) (hv : v = some (.int r)) (hw : w' = w) (d : decode cc pc = .ok (.ireturn, 1)) : W p l e R s m args below meth c H locs 0 0 Q (F0 m pc ls [.int r]) := by
  subst hQ; subst hv; subst hw
  exact W.iret hx hb hr (fun t ht hWm => ⟨⟨rfl, by rw [ht]; exact hW.1, va_K.moved hWm.alike hK.1, hW.2⟩, hS.F ht⟩) hS.2.2 d
theorem retZ {r : Int32} (hQ : Q = MQ below (QD v (BW D tys A w') A) args s 0 0 A) (hx : p.tables.exec = Jvm.exec) (hb : c.code = cc) (hr : meth.sig.returnType = some .boolean) (hlk : meth.locks = false) (hK : KK D tys s) (hW : va_P D cls9 w H ∧ va_D A w) (hS : va_S A s.heap H locs) (hz : r = 0 ∨ r = 1) (hv : v = some (.int r)) (hw : w' = w) (d : decode cc pc = .ok (.ireturn, 1)) : W p l e R s m args below meth c H locs 0 0 Q (F0 m pc ls [.int r]) := by
  subst hQ; subst hv; subst hw
  exact W.zret hx hb hr (by rcases hz with rfl | rfl <;> rfl) (fun t ht hWm => ⟨⟨rfl, by rw [ht]; exact hW.1, va_K.moved hWm.alike hK.1, hW.2⟩, hS.F ht⟩) hS.2.2 d
theorem retL {r : Int64} (hQ : Q = MQ below (QD v (BW D tys A w') A) args s 0 0 A) (hx : p.tables.exec = Jvm.exec) (hb : c.code = cc) (hr : meth.sig.returnType = some .long) (hlk : meth.locks = false) (hK : KK D tys s) (hW : va_P D cls9 w H ∧ va_D A w) (hS : va_S A s.heap H locs) (hv : v = some (.long r)) (hw : w' = w) (d : decode cc pc = .ok (.lreturn, 1)) : W p l e R s m args below meth c H locs 0 0 Q (F0 m pc ls [.long r]) := by
  subst hQ; subst hv; subst hw
  exact W.lret hx hb hr (fun t ht hWm => ⟨⟨rfl, by rw [ht]; exact hW.1, va_K.moved hWm.alike hK.1, hW.2⟩, hS.F ht⟩) hS.2.2 d
theorem retV (hQ : Q = MQ below (QD v (BW D tys A w') A) args s 0 0 A) (hx : p.tables.exec = Jvm.exec) (hb : c.code = cc) (hr : meth.sig.returnType = none) (hlk : meth.locks = false) (hK : KK D tys s) (hW : va_P D cls9 w H ∧ va_D A w) (hS : va_S A s.heap H locs) (hv : v = none) (hw : w' = w) (d : decode cc pc = .ok (.return_, 1)) : W p l e R s m args below meth c H locs 0 0 Q (F0 m pc ls []) := by
  subst hQ; subst hv; subst hw
  exact W.vret hx hb hr (fun t ht hWm => ⟨⟨rfl, by rw [ht]; exact hW.1, va_K.moved hWm.alike hK.1, hW.2⟩, hS.F ht⟩) hS.2.2 d
variable {cells slots mc ms : Nat} {rest st0 : List Value} {a : Array Value} {A0 A1 : Nat → Prop} {H0 : Heap} {free : Addr → Prop}
theorem callT0 {B : State → Prop} (hr : va_Run p l e R s m args below meth c H locs cells slots mc ms (F0 m pc ls st0) rest (QD v B A1 a) free) (hS : va_S A0 H0 H locs) (hA : ∀ q, q < H.size → A1 q → A0 q) (hf : ∀ q, free q → A0 q)
    (kk : ∀ (t : State) (H1 : Heap) (locs1 : List Loc), t.heap = H1 → s.vm.Alike t.vm → B t → H.size ≤ H1.size → (∀ q : Nat, q < H.size → ¬ A1 q → H1[q]? = H[q]?) → va_S A0 H0 H1 locs1 → W p l e R s m args below meth c H1 locs1 (cells + mc) (slots + ms) Q (F0 m (pc + 3) ls (v.toList ++ rest))) : W p l e R s m args below meth c H locs cells slots Q (F0 m pc ls st0) := by
  intro T hT X
  obtain ⟨v', st₀, t, T', L, h0, X', hL, e1, e2, ⟨⟨hv, hb⟩, hz, hk⟩, st⟩ := hr T hT X
  cases hv
  rw [h0] at hz hk
  obtain ⟨t2, a1, b1⟩ := kk t T'.heap (locs ++ L) e1.symm (by rw [← e2]; exact X'.warmed.alike) hb (by rw [e1]; exact hz) (fun q h1 h2 => by rw [e1]; exact hk q h1 h2)
    ⟨Nat.le_trans hS.1 (by rw [e1]; exact hz), fun q h1 h2 => by rw [e1, hk q (Nat.lt_of_lt_of_le h1 hS.1) (fun z => h2 (hA q (Nat.lt_of_lt_of_le h1 hS.1) z))]; exact hS.2.1 q h1 h2, fun q hq => by
      rcases List.mem_append.mp hq with h | h
      · exact hS.2.2 q h
      · exact hf _ (hL q h)⟩ T' rfl X'
  exact ⟨t2, st t2 a1, b1⟩
variable {wc wc' : va_W} {own : String} {idx maxL maxL0 : Nat} {y : MethodName} {bytes : ByteArray} {ret : Option FieldType} {rm : Room} {As : List Value} {b : Addr}
theorem PW_at {D : va_G} {tys : List (ClassId × FieldType)} {wc : va_W} {A : Nat → Prop} {U s : State} {H : Heap} (hK : KK D tys s) (hP : va_P D cls9 wc H) (hD : va_D A wc) (hU : U.heap = H) (hW : s.WarmedH U.vm) : PW D tys H.size wc U := ⟨by rw [hU], by rw [hU]; exact hP, ⟨va_K.moved hW.alike hK.1, NW.warm hW hK.2⟩, hD.weaken (fun _ _ _ _ => trivial)⟩
theorem PW_blind {D : va_G} {tys : List (ClassId × FieldType)} {wc : va_W} {sz : Nat} {as : List Value} : FrameBlind (va_Pc as (PW D tys sz wc)) := fun a U g mk q => by
  obtain ⟨q0, q1, q2, q3, q4⟩ := q
  exact ⟨q0, q1, q2, ⟨va_K.moved (u := U) (U := U.calling g mk a) (Vm.Alike.refl U.vm) q3.1, NW.same (u := U) (U := U.calling g mk a) rfl q3.2⟩, q4⟩
/-- a call of an instance method -/
theorem cV (hM : CT l D tys y bytes maxL ret rm (.ref b :: As) wc v wc') (is : List Nat) (ci q0 : Nat) {qc : vw_C} {fs : List Value} (hx : p.tables.exec = Jvm.exec) (hb : c.code = cc) (hml : c.maxLocals = maxL0) (hown : s.vm.findClass own = some m.cls) (hts : ∀ x ∈ tblG, x.before args s = true) (hK : KK D tys s) (hA : ∀ q : Nat, s.heap.size ≤ q → A q) (hW : va_P D cls9 w H ∧ va_D A w) (hS : va_S A s.heap H locs)
    (t1 : Cond.code y bytes maxL ret ∈ tblG) (t2 : Cond.methodLink own idx y ∈ tblG) (t3 : Cond.instanceMethod y ∈ tblG) (t4 : Cond.selects qc.1 y y ∈ tblG) (t5 : Cond.initialized qc.1 ∈ tblG)
    (hd : y.cls = qc.1 ∧ y.cls ≠ "java/lang/invoke/MethodHandle" ∧ y.cls ≠ "java/lang/invoke/VarHandle" ∧ (parseMethodDescriptor y.desc).map (fun d => d.parameters.length) = some As.length) (hR : rm.frames + 1 ≤ R.frames ∧ 8 + (maxL + 11) + rm.locals ≤ R.locals) (hz : rm.cells = 0 ∧ rm.slots = 0) (hRc : cells ≤ R.cells ∧ slots ≤ R.slots)
    (hC : is.map (fun i => w[i]?) = wc.map some) (as : List Nat) (hf1 : wc.map Prod.fst = as) (hf2 : wc'.map Prod.fst = as) (hnd : va_nd is = true) (hc : cls9[ci]? = some qc) (he : wc[q0]? = some (b, .inr (ci, fs)))
    (hl : ls.size = maxL0) (hst : st0 = As.reverse ++ .ref b :: rest) (hcat : (rest.map fun v => v.category).sum ≤ 8) (d : decode cc pc = .ok (.invokevirtual idx, 3))
    (kk : ∀ (H1 : Heap) (locs1 : List Loc), (va_P D cls9 (putw w is wc') H1 ∧ va_D A (putw w is wc')) → va_S A s.heap H1 locs1 → W p l e R s m args below meth c H1 locs1 cells slots Q (F0 m (pc + 3) ls (v.toList ++ rest))) : W p l e R s m args below meth c H locs cells slots Q (F0 m pc ls st0) := by
  have hDc : va_D A wc := hW.2.sub is hnd hC
  have hPc : va_P D cls9 wc H := by
    intro k q hk
    have h1 : (is.map (fun i => w[i]?))[k]? = some (some q) := by rw [hC, List.getElem?_map, hk]; rfl
    rw [List.getElem?_map] at h1
    cases hi : is[k]? with
    | none => rw [hi] at h1; cases h1
    | some i => rw [hi] at h1; exact hW.1 i q (Option.some.inj h1)
  have hF := va_free (wc := wc) hW.2 hS hA is hC
  refine callT0 (mc := 0) (ms := 0) (va_runV (As := As) (rest := rest) (C := qc.1) ⟨hx, hb, hml, hown, hts⟩ (hM H.size) (cwV As.length hts (goodV t1 t2 t3 t4 t5) rfl hz.1 hz.2 hd hR) ⟨PW_blind, va_recv hK.1 hPc hc he, fun U hU hWm => ⟨rfl, PW_at hK hPc hDc hU hWm⟩⟩ rfl rfl hl hst (lv_room hcat) d hRc) hS (fun q _ h => hF q h) hF (fun t H1 locs1 ht hvm hB hz1 hk1 hS1 => ?_)
  obtain ⟨hP1, -, -⟩ := hB
  rw [ht] at hP1
  exact kk H1 locs1 (putw_ok hW.1 hW.2 is hC (hf2.trans hf1.symm) hk1 hP1) hS1
/-- a call of a static method -/
theorem cS (hM : CT l D tys y bytes maxL ret rm As wc v wc') (is : List Nat) (hx : p.tables.exec = Jvm.exec) (hb : c.code = cc) (hml : c.maxLocals = maxL0) (hown : s.vm.findClass own = some m.cls) (hts : ∀ x ∈ tblG, x.before args s = true) (hK : KK D tys s) (hA : ∀ q : Nat, s.heap.size ≤ q → A q) (hW : va_P D cls9 w H ∧ va_D A w) (hS : va_S A s.heap H locs)
    (t1 : Cond.code y bytes maxL ret ∈ tblG) (t2 : Cond.methodLink own idx y ∈ tblG) (t3 : Cond.static y ∈ tblG) (t5 : Cond.initialized y.cls ∈ tblG)
    (hd : y.cls ≠ "java/lang/invoke/MethodHandle" ∧ y.cls ≠ "java/lang/invoke/VarHandle" ∧ (parseMethodDescriptor y.desc).map (fun d => d.parameters.length) = some As.length) (hR : rm.frames + 1 ≤ R.frames ∧ 8 + (maxL + 11) + rm.locals ≤ R.locals) (hz : rm.cells = 0 ∧ rm.slots = 0) (hRc : cells ≤ R.cells ∧ slots ≤ R.slots)
    (hC : is.map (fun i => w[i]?) = wc.map some) (as : List Nat) (hf1 : wc.map Prod.fst = as) (hf2 : wc'.map Prod.fst = as) (hnd : va_nd is = true)
    (hl : ls.size = maxL0) (hst : st0 = As.reverse ++ rest) (hcat : (rest.map fun v => v.category).sum ≤ 8) (d : decode cc pc = .ok (.invokestatic idx, 3))
    (kk : ∀ (H1 : Heap) (locs1 : List Loc), (va_P D cls9 (putw w is wc') H1 ∧ va_D A (putw w is wc')) → va_S A s.heap H1 locs1 → W p l e R s m args below meth c H1 locs1 cells slots Q (F0 m (pc + 3) ls (v.toList ++ rest))) : W p l e R s m args below meth c H locs cells slots Q (F0 m pc ls st0) := by
  have hDc : va_D A wc := hW.2.sub is hnd hC
  have hPc : va_P D cls9 wc H := by
    intro k q hk
    have h1 : (is.map (fun i => w[i]?))[k]? = some (some q) := by rw [hC, List.getElem?_map, hk]; rfl
    rw [List.getElem?_map] at h1
    cases hi : is[k]? with
    | none => rw [hi] at h1; cases h1
    | some i => rw [hi] at h1; exact hW.1 i q (Option.some.inj h1)
  have hF := va_free (wc := wc) hW.2 hS hA is hC
  refine callT0 (mc := 0) (ms := 0) (va_runS (As := As) (rest := rest) ⟨hx, hb, hml, hown, hts⟩ (hM H.size) (va_cwS As.length hts (goodS t1 t2 t3 t5) rfl hz.1 hz.2 hd hR) ⟨PW_blind, fun U hU hWm => ⟨rfl, PW_at hK hPc hDc hU hWm⟩⟩ rfl rfl hl hst (lv_room hcat) d hRc) hS (fun q _ h => hF q h) hF (fun t H1 locs1 ht hvm hB hz1 hk1 hS1 => ?_)
  obtain ⟨hP1, -, -⟩ := hB
  rw [ht] at hP1
  exact kk H1 locs1 (putw_ok hW.1 hW.2 is hC (hf2.trans hf1.symm) hk1 hP1) hS1
/-- a call of a private static method of the nest's host -/
theorem cSN {host : String} (hM : CT l D tys y bytes maxL ret rm As wc v wc') (is : List Nat) (hx : p.tables.exec = Jvm.exec) (hb : c.code = cc) (hml : c.maxLocals = maxL0) (hown : s.vm.findClass own = some m.cls) (hts : ∀ x ∈ tblG, x.before args s = true) (hK : KK D tys s) (hA : ∀ q : Nat, s.heap.size ≤ q → A q) (hW : va_P D cls9 w H ∧ va_D A w) (hS : va_S A s.heap H locs)
    (t1 : Cond.code y bytes maxL ret ∈ tblG) (t2 : Cond.methodLinkNest own idx y host ∈ lw_tbl) (t3 : Cond.static y ∈ tblG) (t5 : Cond.initialized y.cls ∈ tblG)
    (hd : y.cls ≠ "java/lang/invoke/MethodHandle" ∧ y.cls ≠ "java/lang/invoke/VarHandle" ∧ (parseMethodDescriptor y.desc).map (fun d => d.parameters.length) = some As.length) (hR : rm.frames + 1 ≤ R.frames ∧ 8 + (maxL + 11) + rm.locals ≤ R.locals) (hz : rm.cells = 0 ∧ rm.slots = 0) (hRc : cells ≤ R.cells ∧ slots ≤ R.slots)
    (hC : is.map (fun i => w[i]?) = wc.map some) (as : List Nat) (hf1 : wc.map Prod.fst = as) (hf2 : wc'.map Prod.fst = as) (hnd : va_nd is = true)
    (hl : ls.size = maxL0) (hst : st0 = As.reverse ++ rest) (hcat : (rest.map fun v => v.category).sum ≤ 8) (d : decode cc pc = .ok (.invokestatic idx, 3))
    (kk : ∀ (H1 : Heap) (locs1 : List Loc), (va_P D cls9 (putw w is wc') H1 ∧ va_D A (putw w is wc')) → va_S A s.heap H1 locs1 → W p l e R s m args below meth c H1 locs1 cells slots Q (F0 m (pc + 3) ls (v.toList ++ rest))) : W p l e R s m args below meth c H locs cells slots Q (F0 m pc ls st0) := by
  have hDc : va_D A wc := hW.2.sub is hnd hC
  have hPc : va_P D cls9 wc H := by
    intro k q hk
    have h1 : (is.map (fun i => w[i]?))[k]? = some (some q) := by rw [hC, List.getElem?_map, hk]; rfl
    rw [List.getElem?_map] at h1
    cases hi : is[k]? with
    | none => rw [hi] at h1; cases h1
    | some i => rw [hi] at h1; exact hW.1 i q (Option.some.inj h1)
  have hF := va_free (wc := wc) hW.2 hS hA is hC
  refine callT0 (mc := 0) (ms := 0) (va_runSN (As := As) (rest := rest) ⟨hx, hb, hml, hown, hts⟩ (hM H.size) ⟨va_cnB As.length hts (goodG t1) rfl hz.1 hz.2 (hK.2 _ t2 rfl) (hts _ t5) hd hR, hts _ t3, trivial⟩ ⟨PW_blind, fun U hU hWm => ⟨rfl, PW_at hK hPc hDc hU hWm⟩⟩ rfl rfl hl hst (lv_room hcat) d hRc) hS (fun q _ h => hF q h) hF (fun t H1 locs1 ht hvm hB hz1 hk1 hS1 => ?_)
  obtain ⟨hP1, -, -⟩ := hB
  rw [ht] at hP1
  exact kk H1 locs1 (putw_ok hW.1 hW.2 is hC (hf2.trans hf1.symm) hk1 hP1) hS1
end KT
