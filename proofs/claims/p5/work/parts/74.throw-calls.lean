/-! methods of the class that may throw: contracts, returns, throws, calls of them -/
def exN (k : Nat) : String := if k = 0 then "java/lang/IllegalStateException" else if k = 1 then "java/util/NoSuchElementException" else if k = 2 then "java/lang/IllegalArgumentException" else "java/lang/UnsupportedOperationException"
def tc {α : Type} (x : α ⊕ Nat) : Nat := match x with
  | .inl _ => 0
  | .inr _ => 1
def tsl {α : Type} (x : α ⊕ Nat) : Nat := match x with
  | .inl _ => 0
  | .inr _ => 6
/-- it throws an exception of kind k; the heap holds the new state -/
def xQt (D : va_G) (cB cI cJ cZ cS cP : ClassId) (A : Nat → Prop) (ad : Nat → Nat) (x : CS) (k : Nat) : Array Value → State → Outcome → State → Prop := fun _ st oc t =>
  (∃ (a : Addr) (cell : Cell), oc = .threw a ∧ t.heap[a]? = some cell ∧ t.vm.findClass (exN k) = some cell.cls ∧ cell.vm = .none ∧ xB D cB cI cJ cZ cS cP A ad x t) ∧ va_F A st t
def xQx {α : Type} (D : va_G) (cB cI cJ cZ cS cP : ClassId) (A : Nat → Prop) (ad : Nat → Nat) (f : α → Option LV) (x : CS × (α ⊕ Nat)) : Array Value → State → Outcome → State → Prop := match x.2 with
  | .inl v => xQ0 D cB cI cJ cZ cS cP A ad x.1 (f v)
  | .inr k => xQt D cB cI cJ cZ cS cP A ad x.1 k
def bT {α β : Type} (x : Option (CS × (α ⊕ Nat))) (f : CS → α → Option (CS × (β ⊕ Nat))) : Option (CS × (β ⊕ Nat)) := match x with
  | none => none
  | some (u, .inl v) => f u v
  | some (u, .inr k) => some (u, .inr k)
theorem bT_some {α β : Type} {x : Option (CS × (α ⊕ Nat))} {f : CS → α → Option (CS × (β ⊕ Nat))} {r : CS × (β ⊕ Nat)} (h : bT x f = some r) : (∃ u v, x = some (u, .inl v) ∧ f u v = some r) ∨ (∃ u k, x = some (u, .inr k) ∧ r = (u, .inr k)) := by
  cases x with
  | none => cases h
  | some q =>
    obtain ⟨u, z⟩ := q
    cases z with
    | inl v => exact Or.inl ⟨u, v, rfl, h⟩
    | inr k => exact Or.inr ⟨u, k, rfl, (Option.some.inj h).symm⟩
theorem MetX.ofW {l : Launch} {y : MethodName} {ws ws' : List Cond} {rm : Room} {Pc : Array Value → State → Prop} {Qc : Array Value → State → Outcome → State → Prop} {mc ms : Nat} {free : Addr → Prop} {cc : ByteArray} {maxL : Nat} {ret : Option FieldType}
    (hy : plainName y.cls = true) (hw : ws = Cond.code y cc maxL ret :: ws')
    (body : ∀ p e s m args below meth c s₁, BodyLoose p l y (headSpec ws rm) cc maxL ret e s m args below meth c s₁ → c.maxLocals = maxL → c.exceptionTable.isEmpty = true → Pc args s →
      W p l e (headSpec ws rm).room s m args below meth c s.heap [] 0 0 (MQX below Qc args s mc ms free) (entryFrame m args maxL)) : MetX l y ws rm Pc Qc mc ms free := by
  refine MetFree.of_bodyS (code := cc) (maxLocals := maxL) (ret := ret) hy ?_ ?_
  · intro args s m h hn
    obtain ⟨meth, c, h1, h2, h3, h4, h5, h6, -, -⟩ := Cond.code_spec hn (atoms_spec (ws := ws) h _ (by rw [hw]; exact List.mem_cons_self))
    exact ⟨meth, c, h1, h2, h3, h4, h5, h6⟩
  · intro p e s m args below meth c s₁ B hml hP _
    have hh0 : s₁.heap = s.heap := by rw [B.state]; rfl
    have hno : c.exceptionTable.isEmpty = true := B.noHandlers (atoms_spec (ws := ws) B.pre _ (by rw [hw]; exact List.mem_cons_self))
    obtain ⟨t, a1, o, b1, b2, b3⟩ := body p e s m args below meth c s₁ B hml hno hP s₁ hh0 (Stand.of_body B)
    exact ⟨t, o, a1, b1, b2, ⟨b3.1, b3.2⟩⟩
theorem MetX.ret {l : Launch} {y : MethodName} {ws : List Cond} {rm : Room} {Pc : Array Value → State → Prop} {Qc : Array Value → State → Outcome → State → Prop} {mc ms : Nat} {free : Addr → Prop} (h : MetX l y ws rm Pc Qc mc ms free) (hq : ∀ a st o t, Qc a st o t → ∃ v, o = .returned v) : Met l y ws rm Pc Qc mc ms free := by
  intro p e h1 h2 h3 s m args below h4 h5 h6 h7
  obtain ⟨n, o, q1, q2, q3, q4, L, q5, q6⟩ := h p e h1 h2 h3 s m args below h4 h5 h6 h7
  exact ⟨n, o, q1, q2, q3, q4, L, ⟨hq _ _ _ _ q4, q5.1, q5.2⟩, q6⟩
theorem out_none {c : Code} (h : c.exceptionTable.isEmpty = true) (pc : Nat) : ∀ x ∈ c.exceptionTable.toList, covers x pc = false := by
  intro x hx
  have h1 : c.exceptionTable.toList = [] := by
    rw [Array.isEmpty_iff] at h
    rw [h]
  rw [h1] at hx
  exact absurd hx List.not_mem_nil
section TCALL
variable {p : Program} {l : Launch} {e : Env} {R : Room} {s : State} {m : MethodId} {args : Array Value} {below : List Frame} {meth : Method} {c : Code} {H : Heap} {locs : List Loc} {cells slots : Nat} {Q : State → Prop} {Ts : List Cond} {own C : String} {index nL maxL mc ms n : Nat} {y : MethodName} {bytes cc : ByteArray} {ret : Option FieldType} {ws : List Cond} {rm : Room} {Pc : Array Value → State → Prop} {Qc : Array Value → State → Outcome → State → Prop} {free : Addr → Prop} {b : Addr} {As rest : List Value} {g : JFrame}
def PostT (Qc : Array Value → State → Outcome → State → Prop) (mc ms : Nat) (free : Addr → Prop) : Pt → Array Value → Addr → Pt → Prop := fun A a v B =>
  ∃ (g : JFrame) (mk : MethodId) (t : State) (L : List Loc), B.U.heap = t.heap ∧ B.U.vm = t.vm ∧ Qc a (A.U.calling g mk a) (.threw v) t ∧ B.locs = A.locs ++ L ∧ (∀ q ∈ L, free q.base) ∧ B.cells = A.cells + mc ∧ B.slots = A.slots + ms
theorem callBackT (cb : CallB R s args own index y bytes maxL ret ws rm mc ms n) (hM : MetX l y ws rm Pc Qc mc ms free) (hthr : ∀ a st o t, Qc a st o t → ∃ x, o = .threw x) (hbl : FrameBlind Pc) : BackT l R p e below s args y 3 8 (PreOf R mc ms Pc) (PostT Qc mc ms free) := by
  obtain ⟨hrc, hrs, hfr, hlo, hws, hcw, -, hini, -⟩ := cb
  have hinit : ∀ (a' : Array Value) (U : State), s.WarmedH U.vm → (Cond.initialized y.cls).before a' U = true := fun a' U hW => word_at hW (Or.inl (by first | rfl | simp [Cond.onTables, Cond.keeps, Cond.steady])) hini
  refine BackT.of_free (S := headSpec ws rm) (P := Pc) (K := fun _ _ _ _ _ => True) (Q := fun a st o t => Qc a st o t ∧ ∃ L, FrX st t L mc ms ∧ ∀ q ∈ L, free q.base) (bytes := bytes) (maxL := maxL) (ret := ret)
    (E := fun a st o t L k n => k = mc ∧ n = ms ∧ ∀ q ∈ L, free q.base) hM hfr hlo ?_ ?_ (fun _ _ _ _ _ _ _ _ _ => trivial) ?_ ?_
  · intro m meth c A a X hp
    exact ⟨atoms_intro fun w hw => hws w hw _ _ X.warmed, hws _ hcw _ _ X.warmed, hinit _ _ X.warmed, by rw [show (headSpec ws rm).room.cells = mc from hrc]; exact hp.1, by rw [show (headSpec ws rm).room.slots = ms from hrs]; exact hp.2.1⟩
  · intro m meth c A a g mk X hp
    exact hbl _ _ _ _ hp.2.2
  · intro a st o t ⟨hq, L, hF, hL⟩
    exact ⟨L, mc, ms, ⟨hthr _ _ _ _ hq, hF.1, hF.2⟩, rfl, rfl, hL⟩
  · intro m meth c A a g mk v t L k n X hp hq hF ⟨e1, e2, hL⟩
    subst e1; subst e2
    exact ⟨g, mk, t, L, rfl, rfl, hq.1, rfl, hL, rfl, rfl⟩
/-- a call whose callee throws -/
def RunT (p : Program) (l : Launch) (e : Env) (R : Room) (s : State) (m : MethodId) (args : Array Value) (below : List Frame) (meth : Method) (c : Code) (H : Heap) (locs : List Loc) (cells slots mc ms : Nat) (g : JFrame) (rest : List Value) (Qa : State → Outcome → State → Prop) (free : Addr → Prop) : Prop :=
  ∀ T : State, T.heap = H → Stand p l e R s m args below meth c T locs cells slots → ∃ (v : Addr) (st₀ t T' : State) (L : List Loc), st₀.heap = H ∧ Stand p l e R s m args below meth c T' (locs ++ L) (cells + mc) (slots + ms) ∧ (∀ q ∈ L, free q.base) ∧ T'.heap = t.heap ∧ T'.vm = t.vm ∧ Qa st₀ (.threw v) t ∧
    ∀ target, Steps p.tables e below ((T'.setTop { g with stack := rest }).pushFrame (.throwing v)) target → Steps p.tables e below (T.setTop g) target
theorem runVT (S : CallFix p m c cc nL s args Ts own) (hM : MetX l y ws rm Pc Qc mc ms free) (hthr : ∀ a st o t, Qc a st o t → ∃ x, o = .threw x) (cw : CallW R s args own C index y bytes maxL ret ws rm mc ms n) (hp : PreV s H C b Pc As)
    (hg : g.method = m) (hn : As.length = n) (hsize : g.locals.size = nL) (hstack : g.stack = As.reverse ++ .ref b :: rest) (hW : 2 * g.monitorRoom + (rest.map fun v => v.category).sum ≤ 8) (hdg : decode cc g.pc = .ok (.invokevirtual index, 3)) (hf : cells + mc ≤ R.cells ∧ slots + ms ≤ R.slots) :
    RunT p l e R s m args below meth c H locs cells slots mc ms g rest (Qc (Value.ref b :: As).toArray) (free) := by
  have hK : BackT l R p e below s args y 3 8 (PreOf R mc ms Pc) (PostT Qc mc ms free) := callBackT cw.1 hM hthr hp.1
  obtain ⟨⟨-, -, -, -, -, -, hcode, -, hy, hlen, hlink⟩, hinst, hsel⟩ := cw
  obtain ⟨hx, hb, hml, hown, -⟩ := S
  obtain ⟨-, ⟨cellB, hcB, hobj, hcls⟩, hPc⟩ := hp
  intro T hT X
  obtain ⟨mk, methM, hnamed, hmethM, hstM, habM⟩ := Cond.instanceMethod_spec hinst
  obtain ⟨methM', cM, hmethM', -, -, -, -, -, -, hsigM⟩ := Cond.code_spec hnamed hcode
  cases hmethM.symm.trans hmethM'
  obtain ⟨c2, r2, m2, q1, q2, q3, q4, kP, hkP, hkPi⟩ := Cond.selects_spec hsel
  cases hcls.symm.trans q1
  cases (State.methodFound?_of_named hnamed hy).symm.trans q2
  cases hnamed.symm.trans q3
  have hselP : selectMethod e.platform s.vm cellB.cls mk = .method mk := by rw [Launch.admits_selectMethod X.admits]; exact q4
  obtain ⟨vm₁, X₁, hstep₁⟩ := X.invokevirtual hx hown hlink hnamed hmethM hstM hkP hkPi hy (a := b) (cell := cellB) (by rw [hT]; exact hcB)
    (fun z h => by rw [h] at hobj; cases hobj) hselP hmethM habM hkP hkPi (g := g) hg (argsL := As) (rest := rest) (hn.trans (hlen _ hsigM)) hstack (by rw [hb]; exact hdg)
  obtain ⟨v, ⟨U', l2, c2, s2⟩, X', ⟨g', mk', t, L, e1, e2, hq, h1, hL, h2, h3⟩, hsteps⟩ := hK m meth c ⟨T.setVm vm₁, locs, cells, slots⟩ { g with stack := rest } (.invokevirtual index) mk (Value.ref b :: As).toArray X₁ hg (hsize.trans hml.symm) (by rw [hb]; exact hdg) hW (X₁.named hnamed) ⟨hf.1, hf.2, hPc (T.setVm vm₁) hT X₁.warmed⟩
  dsimp only [Pt.U, Pt.locs, Pt.cells, Pt.slots] at X' e1 e2 h1 h2 h3 hsteps
  subst h1; subst h2; subst h3
  exact ⟨v, (T.setVm vm₁).calling g' mk' (Value.ref b :: As).toArray, t, U', L, hT, X', hL, e1, e2, hq, fun target h => hstep₁ _ fun acts => by rw [doInvoke_state]; exact hsteps.trans h⟩
end TCALL
theorem xQt_thr {D : va_G} {cB cI cJ cZ cS cP : ClassId} {A : Nat → Prop} {ad : Nat → Nat} {x : CS} {k : Nat} : ∀ a st o t, xQt D cB cI cJ cZ cS cP A ad x k a st o t → ∃ v, o = .threw v := by
  intro a st o t h
  obtain ⟨⟨v, cell, hv, -⟩, -⟩ := h
  exact ⟨v, hv⟩
theorem xQ0_ret {D : va_G} {cB cI cJ cZ cS cP : ClassId} {A : Nat → Prop} {ad : Nat → Nat} {x : CS} {v : Option LV} : ∀ a st o t, xQ0 D cB cI cJ cZ cS cP A ad x v a st o t → ∃ v, o = .returned v := by
  intro a st o t h
  exact ⟨_, h.1.1⟩
/-- a contract of a method that may throw, out of a walk from the entry -/
theorem xMetX {l : Launch} {s0 : State} {b0 : Nat} {y : MethodName} {own : String} {b : ByteArray} {n : Nat} {ret : Option FieldType} {rm : Room} {D : va_G} {cB cI cJ cZ cS cP : ClassId} {ad : Nat → Nat} {u : CS} {sz mc ms : Nat} {As : List Value} {Qc : Array Value → State → Outcome → State → Prop}
    (hy : plainName y.cls = true) (hcls : y.cls = own) (hlen : (lg_sl As).length ≤ n)
    (walk : ∀ (p : Program) (e : Env) (s : State) (m : MethodId) (below : List Frame) (meth : Method) (c : Code) (ls : Array Slot), s.heap.size = sz → c.exceptionTable.isEmpty = true → XCx p s s0 b0 m As.toArray meth c own b n ret D cB cI cJ cZ cS cP (xA cB cI cJ cZ cS cP ad u sz) → va_P D cls (wC cB cI cJ cZ cS cP ad u) s.heap → va_D (xA cB cI cJ cZ cS cP ad u sz) (wC cB cI cJ cZ cS cP ad u) → va_S (xA cB cI cJ cZ cS cP ad u sz) s.heap s.heap [] → lv_has ls n (lv_args 0 As) →
      W p l e rm s m As.toArray below meth c s.heap [] 0 0 (MQX below Qc As.toArray s mc ms (xA cB cI cJ cZ cS cP ad u sz)) (F0 m 0 ls [])) :
    MetX l y (wd_ws y b n ret) rm (xPc s0 b0 D cB cI cJ cZ cS cP ad u sz As) Qc mc ms (xA cB cI cJ cZ cS cP ad u sz) := by
  refine MetX.ofW (cc := b) (maxL := n) (ret := ret) hy rfl ?_
  intro p e s m args below meth c s₁ B hml hno hv
  obtain ⟨rfl, hsz, hbz, hP, hK, hD0, hO⟩ := hv
  have hts := atoms_spec (ws := wd_ws y b n ret) B.pre
  have hown : s.vm.findClass own = some m.cls := by rw [← hcls]; exact findClass_of_methodNamed B.named
  have hD := hD0.self (sz := sz)
  have hl := lv_entry As (n := n) hlen
  rw [lg_entry_eq]
  generalize (lg_sl As ++ List.replicate (n - (lg_sl As).length) Slot.unset).toArray = ls at hl ⊢
  refine walk p e s m below meth c ls hsz hno ⟨B.exec, B.bytes, B.returns, hml, fun w h => hts w (List.mem_cons_of_mem _ h), hown, hK, fun q h => Or.inr (by omega), B.notSynchronized, fun q h => ?_, hO, by omega⟩ hP hD va_S.rf hl
  rcases h with ⟨k, e1, h⟩ | h
  · exact hD0.2 k _ h
  · omega
section XOUT
variable {p : Program} {l : Launch} {e : Env} {R : Room} {s s0 : State} {m : MethodId} {args a0 : Array Value} {below : List Frame} {meth : Method} {c : Code} {H : Heap} {locs : List Loc} {cells slots : Nat} {Q : State → Prop}
variable {cc : ByteArray} {pc nL n idx b0 i ci nF k ic ix is q : Nat} {ls : Array Slot} {rest st st0 : List Value} {ret rt : Option FieldType} {D : va_G} {cB cI cJ cZ cS cP : ClassId} {A : Nat → Prop} {ad : Nat → Nat} {u x : CS} {y : MethodName} {b : ByteArray} {rm : Room} {As : List Value} {nA mc ms : Nat} {own C tx : String} {F : u_T} {ty : Nat → FieldType} {a : Array Value} {names : List String} {jx : Nat} {rx : ByteArray}
theorem x_thrown (C0 : XCx p s s0 b0 m args meth c own cc nL ret D cB cI cJ cZ cS cP A) (hD : va_D A (wC cB cI cJ cZ cS cP ad u)) (hS : va_S A s.heap H locs)
    (hr : RunT p l e R s m args below meth c H locs cells slots mc ms (F0 m pc ls st0) rest (xQt D cB cI cJ cZ cS cP (xA cB cI cJ cZ cS cP ad u H.size) ad x k a) (xA cB cI cJ cZ cS cP ad u H.size))
    (kk : ∀ (v : Addr) (cell : Cell) (H1 : Heap) (locs1 : List Loc), va_P D cls (wC cB cI cJ cZ cS cP ad x) H1 → va_D A (wC cB cI cJ cZ cS cP ad x) → va_S A s.heap H1 locs1 → H1[v]? = some cell → s.vm.findClass (exN k) = some cell.cls → cell.vm = .none → WT p l e R s m args below meth c H1 locs1 (cells + mc) (slots + ms) Q (F0 m pc ls rest) v) :
    W p l e R s m args below meth c H locs cells slots Q (F0 m pc ls st0) := by
  obtain ⟨hx, hb, hr2, hml, ht, hown, hK, hA, hlocks, hA0, hO, hbs⟩ := C0
  have hFc : ∀ q, xA cB cI cJ cZ cS cP ad u H.size q → A q := fun q h => by
    rcases h with ⟨k, e1, h⟩ | h
    · exact hD.2 k _ h
    · exact hA q (Nat.le_trans hS.1 h)
  intro T hT X
  obtain ⟨v, st₀, t, T', L, h0, X', hL, e1, e2, ⟨⟨v2, cell, hv, hc1, hc2, hc3, hP2, hK2, hD2⟩, hz, hk⟩, sx⟩ := hr T hT X
  cases hv
  rw [h0] at hz hk
  obtain ⟨t2, a2, b2⟩ := kk v cell T'.heap (locs ++ L) (by rw [e1]; exact hP2) (hD2.weaken (fun _ _ _ h => hFc _ h))
    ⟨Nat.le_trans hS.1 (by rw [e1]; exact hz), fun q h1 h2 => by rw [e1, hk q (Nat.lt_of_lt_of_le h1 hS.1) (fun z => h2 (hFc q z))]; exact hS.2.1 q h1 h2, fun q hq => by
      rcases List.mem_append.mp hq with h | h
      · exact hS.2.2 q h
      · exact hFc _ (hL q h)⟩ (by rw [e1]; exact hc1) (by rw [← X'.warmed.alike.findClass, e2]; exact hc2) hc3 T' rfl X'
  exact ⟨t2, sx t2 a2, b2⟩
/-- an exception that leaves the method, in the contract's words -/
theorem xt_leave (C0 : XCx p s s0 b0 m args meth c own cc nL ret D cB cI cJ cZ cS cP A) (hout : ∀ x ∈ c.exceptionTable.toList, covers x pc = false) (hP : va_P D cls (wC cB cI cJ cZ cS cP ad u) H) (hD : va_D A (wC cB cI cJ cZ cS cP ad u)) (hS : va_S A s.heap H locs) {v : Addr} {cell : Cell} (h1 : H[v]? = some cell) (h2 : s.vm.findClass (exN k) = some cell.cls) (h3 : cell.vm = .none) :
    WT p l e R s m args below meth c H locs cells slots (MQX below (xQt D cB cI cJ cZ cS cP A ad u k) args s cells slots A) (F0 m pc ls rest) v := by
  obtain ⟨hx, hb, hr2, hml, ht, hown, hK, hA, hlocks, hA0, hO, hbs⟩ := C0
  exact wt_leave hlocks hout (fun t h hW => ⟨⟨v, cell, rfl, by rw [h]; exact h1, by rw [hW.alike.findClass]; exact h2, h3, by rw [h]; exact hP, va_K.moved hW.alike hK, hD⟩, hS.F h⟩) hS.2.2
theorem xV_run (C0 : XCx p s s0 b0 m args meth c own cc nL ret D cB cI cJ cZ cS cP A) (hP : va_P D cls (wC cB cI cJ cZ cS cP ad u) H) (hD : va_D A (wC cB cI cJ cZ cS cP ad u)) (hS : va_S A s.heap H locs) (K : CKl cls ci C F nF ty) (hrc0 : isO u i ci = true)
    (hC : MetX l y (wd_ws y b n rt) rm (xPc s0 b0 D cB cI cJ cZ cS cP ad u H.size (.ref (ad i) :: As)) (xQt D cB cI cJ cZ cS cP (xA cB cI cJ cZ cS cP ad u H.size) ad x k) mc ms (xA cB cI cJ cZ cS cP ad u H.size))
    (hk : Cond.code y b n rt ∈ wd_tbl) (hl : Cond.methodLink own idx y ∈ wd_tbl) (hi : Cond.instanceMethod y ∈ wd_tbl) (hsel : Cond.selects C y y ∈ wd_tbl) (hini : Cond.initialized C ∈ wd_tbl) (hrc : rm.cells = mc) (hrs : rm.slots = ms)
    (hd : y.cls = C ∧ y.cls ≠ "java/lang/invoke/MethodHandle" ∧ y.cls ≠ "java/lang/invoke/VarHandle" ∧ (parseMethodDescriptor y.desc).map (fun d => d.parameters.length) = some nA) (hAs : As.length = nA) (hR : rm.frames + 1 ≤ R.frames ∧ 8 + (n + 11) + rm.locals ≤ R.locals) (hsz : ls.size = nL) (hr8 : (rest.map fun v => v.category).sum ≤ 8) (hdg : decode cc pc = .ok (.invokevirtual idx, 3)) (hst0 : st = As.reverse ++ .ref (ad i) :: rest) (hf : cells + mc ≤ R.cells ∧ slots + ms ≤ R.slots) :
    RunT p l e R s m args below meth c H locs cells slots mc ms (F0 m pc ls st) rest (xQt D cB cI cJ cZ cS cP (xA cB cI cJ cZ cS cP ad u H.size) ad x k (Value.ref (ad i) :: As).toArray) (xA cB cI cJ cZ cS cP ad u H.size) := by
  have hp := x_pre (As := (.ref (ad i) :: As)) C0 hP hD hS
  obtain ⟨hx, hb, hr, hml, ht, hown, hK, hA, hlocks, hA0, hO, hbs⟩ := id C0
  subst hst0
  obtain ⟨f, hil, hif⟩ := isO_some hrc0
  have hrecv := va_recv hK hP K.1 (q0 := i) (fs := fl nF (fun j => lvV ad (f j))) (by rw [wC_at hil, hif]; show some (ad i, Sum.inr (ci, fl (clN ci) _)) = _; rw [clN_of K.1])
  have hG : GoodIn wd_tbl (wsV own idx C y (wd_ws y b n rt)) := fun w h => by
    rcases List.mem_append.mp h with h | h
    · have hm : w ∈ wd_tbl := by
        simp only [List.mem_cons, List.not_mem_nil, or_false] at h
        rcases h with rfl | rfl | rfl | rfl
        · exact hl
        · exact hi
        · exact hsel
        · exact hini
      exact ⟨hm, wd_gd hm⟩
    · exact wd_in (fun _ z => z) hk w h
  exact runVT (As := As) (rest := rest) ⟨hx, hb, hml, hown, ht⟩ hC xQt_thr (cwV nA ht hG rfl hrc hrs hd hR) ⟨hp.1, hrecv, hp.2⟩ rfl hAs hsz rfl (by simpa using hr8) hdg hf
/-- 'throw new X("..")' as a method's end -/
theorem xt_throw (C0 : XCx p s s0 b0 m args meth c own cc nL ret D cB cI cJ cZ cS cP A) (hP : va_P D cls (wC cB cI cJ cZ cS cP ad u) H) (hD : va_D A (wC cB cI cJ cZ cS cP ad u)) (hS : va_S A s.heap H locs) (hL : l.stackTraces = false) (hT0 : ∀ w ∈ lwA, w.before a0 s0 = true) (hb0 : s0.heap.size ≤ b0)
    (x0 : decode rx 0 = .ok (.aload_n 0, 1)) (x1 : decode rx 1 = .ok (.aload_n 1, 1)) (x2 : decode rx 2 = .ok (.invokespecial jx, 3)) (x5 : decode rx 5 = .ok (.return_, 1)) (hat : ∀ w ∈ Bundle.ownAtomsX own ic (exN k) jx rx names, w ∈ lwA ∧ okw w = true) (hcl : Cond.classLink own ix (exN k) ∈ lwA) (hin : Cond.instantiable (exN k) 6 ∈ lwA) (hini : Cond.initialized (exN k) ∈ lwA)
    (hX : Bundle.fit (exN k) = true) (hN : ∀ n ∈ names, Bundle.fit n = true) (hR0 : vk_R own is tx q s0)
    (hout : ∀ x ∈ c.exceptionTable.toList, covers x (pc + 9) = false) (hfr : names.length + 3 < R.frames) (hlo : (rest.map fun v => v.category).sum + (13 * (names.length + 1) + 43) ≤ R.locals) (hc : cells + 1 ≤ R.cells) (hs : slots + 6 ≤ R.slots) (hsz : ls.size = nL)
    (d0 : decode cc pc = .ok (.new ix, 3)) (d3 : decode cc (pc + 3) = .ok (.dup, 1)) (d4 : decode cc (pc + 4) = .ok (.ldc is, 2)) (d6 : decode cc (pc + 6) = .ok (.invokespecial ic, 3)) (d9 : decode cc (pc + 9) = .ok (.athrow, 1)) :
    W p l e R s m args below meth c H locs cells slots (MQX below (xQt D cB cI cJ cZ cS cP A ad u k) args s (cells + 1) (slots + 6) A) (F0 m pc ls rest) := by
  obtain ⟨hx, hb, hr2, hml, ht, hown, hK, hA, hlocks, hA0, hO, hbs⟩ := id C0
  refine x_throw C0 hS hL hT0 hb0 x0 x1 x2 x5 hat hcl hin hini hX hN hR0 hout hfr hlo hc hs hsz d0 d3 d4 d6 d9 hS.2.2 (fun t cell h1 h2 h3 h4 h5 h6 => ⟨⟨H.size, cell, rfl, h2, by rw [h1.alike.findClass]; exact h3, h4, hP.kept (fun j z hz => h6 z.1 ((hP j z hz).lt)), va_K.moved h1.alike hK, hD⟩, Nat.le_trans hS.1 h5, fun z hz1 hz2 => ?_⟩)
  rw [h6 z (Nat.lt_of_lt_of_le hz1 hS.1)]
  exact hS.2.1 z hz1 hz2
end XOUT
theorem metx_ret {l : Launch} {y : MethodName} {ws : List Cond} {rm : Room} {Pc : Array Value → State → Prop} {mc ms : Nat} {free : Addr → Prop} {α : Type} {D : va_G} {cB cI cJ cZ cS cP : ClassId} {A : Nat → Prop} {ad : Nat → Nat} {f : α → Option LV} {x : CS} {v : α} (h : MetX l y ws rm Pc (xQx D cB cI cJ cZ cS cP A ad f (x, .inl v)) mc ms free) : Met l y ws rm Pc (xQ0 D cB cI cJ cZ cS cP A ad x (f v)) mc ms free := MetX.ret h xQ0_ret
theorem metx_thr {l : Launch} {y : MethodName} {ws : List Cond} {rm : Room} {Pc : Array Value → State → Prop} {mc ms : Nat} {free : Addr → Prop} {α : Type} {D : va_G} {cB cI cJ cZ cS cP : ClassId} {A : Nat → Prop} {ad : Nat → Nat} {f : α → Option LV} {x : CS} {k : Nat} (h : MetX l y ws rm Pc (xQx D cB cI cJ cZ cS cP A ad f (x, .inr k)) mc ms free) : MetX l y ws rm Pc (xQt D cB cI cJ cZ cS cP A ad x k) mc ms free := h
theorem lw_of {w : Cond} (k : Nat) (h : lwA[k]? = some w) : w ∈ lwA := List.mem_of_getElem? h
theorem lw_mem (ws : List Cond) (ps : List Nat) (hp : ws = ps.filterMap (fun i => lwA[i]?)) (h : ws.all okw = true) : ∀ w ∈ ws, w ∈ lwA ∧ okw w = true := by
  intro w hw
  have h1 := List.all_eq_true.mp h w hw
  rw [hp] at hw
  obtain ⟨i, -, hi⟩ := List.mem_filterMap.mp hw
  exact ⟨lw_of i hi, h1⟩
def rx7 : ByteArray := ⟨#[0x2a, 0x2b, 0xb7, 0x00, 0x07, 0xb1]⟩
def rx13 : ByteArray := ⟨#[0x2a, 0x2b, 0xb7, 0x00, 0x0d, 0xb1]⟩
theorem rx7_0 : decode rx7 0 = .ok (.aload_n 0, 1) := by decide +kernel
theorem rx7_1 : decode rx7 1 = .ok (.aload_n 1, 1) := by decide +kernel
theorem rx7_2 : decode rx7 2 = .ok (.invokespecial 7, 3) := by decide +kernel
theorem rx7_5 : decode rx7 5 = .ok (.return_, 1) := by decide +kernel
theorem rx13_0 : decode rx13 0 = .ok (.aload_n 0, 1) := by decide +kernel
theorem rx13_1 : decode rx13 1 = .ok (.aload_n 1, 1) := by decide +kernel
theorem rx13_2 : decode rx13 2 = .ok (.invokespecial 13, 3) := by decide +kernel
theorem rx13_5 : decode rx13 5 = .ok (.return_, 1) := by decide +kernel
def exUp : List String := ["java/lang/RuntimeException", "java/lang/Exception"]
section XRT
variable {p : Program} {l : Launch} {e : Env} {R : Room} {s s0 : State} {m : MethodId} {args : Array Value} {below : List Frame} {meth : Method} {c : Code} {H : Heap} {locs : List Loc}
variable {cc : ByteArray} {pc nL b0 : Nat} {ls : Array Slot} {D : va_G} {cB cI cJ cZ cS cP : ClassId} {A : Nat → Prop} {ad : Nat → Nat} {u : CS} {own : String}
theorem xt_i {v : Int32} {x : CS × (Int32 ⊕ Nat)} (C0 : XCx p s s0 b0 m args meth c own cc nL (some .int) D cB cI cJ cZ cS cP A) (hP : va_P D cls (wC cB cI cJ cZ cS cP ad u) H) (hD : va_D A (wC cB cI cJ cZ cS cP ad u)) (hS : va_S A s.heap H locs) (hf : some (u, Sum.inl v) = some x) (hdg : decode cc pc = .ok (.ireturn, 1)) : W p l e R s m args below meth c H locs 0 0 (MQX below (xQx D cB cI cJ cZ cS cP A ad (fun v => some (.inl v)) x) args s (tc x.2) (tsl x.2) A) (F0 m pc ls [.int v]) := by
  cases hf
  exact wq_mono (fun t h => MQX.of (fun _ _ h => h) (Nat.le_refl _) (Nat.le_refl _) h) (xr0_i (x := (u, v)) C0 hP hD hS rfl hdg)
theorem xt_z {v : Int32} {x : CS × (Int32 ⊕ Nat)} (C0 : XCx p s s0 b0 m args meth c own cc nL (some .boolean) D cB cI cJ cZ cS cP A) (hP : va_P D cls (wC cB cI cJ cZ cS cP ad u) H) (hD : va_D A (wC cB cI cJ cZ cS cP ad u)) (hS : va_S A s.heap H locs) (hz : isb v = true) (hf : some (u, Sum.inl v) = some x) (hdg : decode cc pc = .ok (.ireturn, 1)) : W p l e R s m args below meth c H locs 0 0 (MQX below (xQx D cB cI cJ cZ cS cP A ad (fun v => some (.inl v)) x) args s (tc x.2) (tsl x.2) A) (F0 m pc ls [.int v]) := by
  cases hf
  exact wq_mono (fun t h => MQX.of (fun _ _ h => h) (Nat.le_refl _) (Nat.le_refl _) h) (xr0_z (x := (u, v)) C0 hP hD hS hz rfl hdg)
theorem xt_v {x : CS × (Unit ⊕ Nat)} (C0 : XCx p s s0 b0 m args meth c own cc nL none D cB cI cJ cZ cS cP A) (hP : va_P D cls (wC cB cI cJ cZ cS cP ad u) H) (hD : va_D A (wC cB cI cJ cZ cS cP ad u)) (hS : va_S A s.heap H locs) (hf : some (u, Sum.inl ()) = some x) (hdg : decode cc pc = .ok (.return_, 1)) : W p l e R s m args below meth c H locs 0 0 (MQX below (xQx D cB cI cJ cZ cS cP A ad (fun _ => none) x) args s (tc x.2) (tsl x.2) A) (F0 m pc ls []) := by
  cases hf
  exact wq_mono (fun t h => MQX.of (fun _ _ h => h) (Nat.le_refl _) (Nat.le_refl _) h) (xr0_v (x := (u, ())) C0 hP hD hS rfl hdg)
end XRT
/-! methods that may throw and may make cells -/
def xQy {α : Type} (D : va_G) (cB cI cJ cZ cS cP : ClassId) (A : Nat → Prop) (ad0 : Nat → Nat) (n : Nat) (f : α → Option LV) (x : CS × (α ⊕ Nat)) : Array Value → State → Outcome → State → Prop := match x.2 with
  | .inl v => xQ D cB cI cJ cZ cS cP A ad0 n x.1 (f v)
  | .inr k => fun _ st oc t => (∃ (ad2 : Nat → Nat) (a : Addr) (cell : Cell), oc = .threw a ∧ t.heap[a]? = some cell ∧ t.vm.findClass (exN k) = some cell.cls ∧ cell.vm = .none ∧ (∀ i, i < n → ad2 i = ad0 i) ∧ xB D cB cI cJ cZ cS cP A ad2 x.1 t) ∧ va_F A st t
theorem gt9 {a b c d e f : Nat} (h : a ≤ b ∧ c ≤ d) : a ≤ b + e ∧ c ≤ d + f := by omega
theorem MQX.mono {below : List Frame} {Qc Qc2 : Array Value → State → Outcome → State → Prop} {a : Array Value} {s t : State} {mc ms mc2 ms2 : Nat} {free : Addr → Prop} (hQ : ∀ o t, Qc a s o t → Qc2 a s o t) (h1 : mc ≤ mc2) (h2 : ms ≤ ms2) (h : MQX below Qc a s mc ms free t) : MQX below Qc2 a s mc2 ms2 free t := by
  obtain ⟨o, q1, q2, q3, L, q4, q5⟩ := h
  exact ⟨o, q1, q2, hQ o t q3, L, ⟨q4.1, q4.2.mono h1 h2⟩, q5⟩
section XYT
variable {p : Program} {l : Launch} {e : Env} {R : Room} {s s0 : State} {m : MethodId} {args a0 : Array Value} {below : List Frame} {meth : Method} {c : Code} {H : Heap} {locs : List Loc}
variable {cc : ByteArray} {pc nL b0 ce sl uN uS mc ms k ic ix is q : Nat} {ls : Array Slot} {rest : List Value} {ret : Option FieldType} {D : va_G} {cB cI cJ cZ cS cP : ClassId} {A : Nat → Prop} {ad ad0 : Nat → Nat} {u : CS} {own tx : String} {names : List String} {jx : Nat} {rx : ByteArray}
theorem yx_i {v : Int32} {x : CS × (Int32 ⊕ Nat)} (C0 : XCx p s s0 b0 m args meth c own cc nL (some .int) D cB cI cJ cZ cS cP A) (hP : va_P D cls (wC cB cI cJ cZ cS cP ad u) H) (hD : va_D A (wC cB cI cJ cZ cS cP ad u)) (hS : va_S A s.heap H locs) (hB : AB uN uS ad0 u ad ce sl) (hm : uN + mc = x.1.1.1 + tc x.2 ∧ uS + ms = x.1.1.2 + tsl x.2) (hf : some (u, Sum.inl v) = some x) (hdg : decode cc pc = .ok (.ireturn, 1)) : W p l e R s m args below meth c H locs ce sl (MQX below (xQy D cB cI cJ cZ cS cP A ad0 uN (fun v => some (.inl v)) x) args s mc ms A) (F0 m pc ls [.int v]) := by
  cases hf
  exact wq_mono (fun t h => MQX.of (fun _ _ h => h) (Nat.le_refl _) (Nat.le_refl _) h) (yr_i (x := (u, v)) C0 hP hD hS hB hm rfl hdg)
theorem yx_v {x : CS × (Unit ⊕ Nat)} (C0 : XCx p s s0 b0 m args meth c own cc nL none D cB cI cJ cZ cS cP A) (hP : va_P D cls (wC cB cI cJ cZ cS cP ad u) H) (hD : va_D A (wC cB cI cJ cZ cS cP ad u)) (hS : va_S A s.heap H locs) (hB : AB uN uS ad0 u ad ce sl) (hm : uN + mc = x.1.1.1 + tc x.2 ∧ uS + ms = x.1.1.2 + tsl x.2) (hf : some (u, Sum.inl ()) = some x) (hdg : decode cc pc = .ok (.return_, 1)) : W p l e R s m args below meth c H locs ce sl (MQX below (xQy D cB cI cJ cZ cS cP A ad0 uN (fun _ => none) x) args s mc ms A) (F0 m pc ls []) := by
  cases hf
  exact wq_mono (fun t h => MQX.of (fun _ _ h => h) (Nat.le_refl _) (Nat.le_refl _) h) (yr_v (x := (u, ())) C0 hP hD hS hB hm rfl hdg)
theorem yx_throw {α : Type} {f : α → Option LV} (C0 : XCx p s s0 b0 m args meth c own cc nL ret D cB cI cJ cZ cS cP A) (hP : va_P D cls (wC cB cI cJ cZ cS cP ad u) H) (hD : va_D A (wC cB cI cJ cZ cS cP ad u)) (hS : va_S A s.heap H locs) (hB : AB uN uS ad0 u ad ce sl) (hm : uN + R.cells = u.1.1 + 1 ∧ uS + R.slots = u.1.2 + 6) (hL : l.stackTraces = false) (hT0 : ∀ w ∈ lwA, w.before a0 s0 = true) (hb0 : s0.heap.size ≤ b0)
    (x0 : decode rx 0 = .ok (.aload_n 0, 1)) (x1 : decode rx 1 = .ok (.aload_n 1, 1)) (x2 : decode rx 2 = .ok (.invokespecial jx, 3)) (x5 : decode rx 5 = .ok (.return_, 1)) (hat : ∀ w ∈ Bundle.ownAtomsX own ic (exN k) jx rx names, w ∈ lwA ∧ okw w = true) (hcl : Cond.classLink own ix (exN k) ∈ lwA) (hin : Cond.instantiable (exN k) 6 ∈ lwA) (hini : Cond.initialized (exN k) ∈ lwA)
    (hX : Bundle.fit (exN k) = true) (hN : ∀ n ∈ names, Bundle.fit n = true) (hR0 : vk_R own is tx q s0)
    (hout : ∀ x ∈ c.exceptionTable.toList, covers x (pc + 9) = false) (hfr : names.length + 3 < R.frames) (hlo : (rest.map fun v => v.category).sum + (13 * (names.length + 1) + 43) ≤ R.locals) (hsz : ls.size = nL)
    (d0 : decode cc pc = .ok (.new ix, 3)) (d3 : decode cc (pc + 3) = .ok (.dup, 1)) (d4 : decode cc (pc + 4) = .ok (.ldc is, 2)) (d6 : decode cc (pc + 6) = .ok (.invokespecial ic, 3)) (d9 : decode cc (pc + 9) = .ok (.athrow, 1)) :
    W p l e R s m args below meth c H locs ce sl (MQX below (xQy D cB cI cJ cZ cS cP A ad0 uN f (u, Sum.inr k)) args s R.cells R.slots A) (F0 m pc ls rest) := by
  obtain ⟨b1, b2, b3⟩ := hB
  refine wq_mono (fun t h => MQX.mono (fun o t h2 => ?_) (by omega) (by omega) h) (xt_throw C0 hP hD hS hL hT0 hb0 x0 x1 x2 x5 hat hcl hin hini hX hN hR0 hout hfr hlo (by omega) (by omega) hsz d0 d3 d4 d6 d9)
  obtain ⟨⟨a1, cell, h3, h4, h5, h6, h7⟩, h8⟩ := h2
  exact ⟨⟨ad, a1, cell, h3, h4, h5, h6, b3, h7⟩, h8⟩
end XYT
/-! methods with a handler -/
def wd_wsW (y : MethodName) (b : ByteArray) (n : Nat) (r : Option FieldType) (hh : List (Nat × Nat × Nat × Nat)) : List Cond := Cond.codeWith y b n r hh :: wd_tbl
theorem ex_tbl (L : List ExceptionTableEntry) : (L.map (fun h => (h.startPc, h.endPc, h.handlerPc, h.catchType))).map (fun q => (⟨q.1, q.2.1, q.2.2.1, q.2.2.2⟩ : ExceptionTableEntry)) = L := by
  rw [List.map_map]
  exact (List.map_congr_left (fun h _ => rfl)).trans (List.map_id L)
theorem xMetW {l : Launch} {s0 : State} {b0 : Nat} {y : MethodName} {own : String} {b : ByteArray} {n : Nat} {ret : Option FieldType} {hh : List (Nat × Nat × Nat × Nat)} {rm : Room} {D : va_G} {cB cI cJ cZ cS cP : ClassId} {ad : Nat → Nat} {u : CS} {sz mc ms : Nat} {As : List Value} {Qc : Array Value → State → Outcome → State → Prop}
    (hy : plainName y.cls = true) (hcls : y.cls = own) (hlen : (lg_sl As).length ≤ n)
    (walk : ∀ (p : Program) (e : Env) (s : State) (m : MethodId) (below : List Frame) (meth : Method) (c : Code) (ls : Array Slot), s.heap.size = sz → c.exceptionTable.toList = hh.map (fun q => (⟨q.1, q.2.1, q.2.2.1, q.2.2.2⟩ : ExceptionTableEntry)) → XCx p s s0 b0 m As.toArray meth c own b n ret D cB cI cJ cZ cS cP (xA cB cI cJ cZ cS cP ad u sz) → va_P D cls (wC cB cI cJ cZ cS cP ad u) s.heap → va_D (xA cB cI cJ cZ cS cP ad u sz) (wC cB cI cJ cZ cS cP ad u) → va_S (xA cB cI cJ cZ cS cP ad u sz) s.heap s.heap [] → lv_has ls n (lv_args 0 As) →
      W p l e rm s m As.toArray below meth c s.heap [] 0 0 (MQ below Qc As.toArray s mc ms (xA cB cI cJ cZ cS cP ad u sz)) (F0 m 0 ls [])) :
    Met l y (wd_wsW y b n ret hh) rm (xPc s0 b0 D cB cI cJ cZ cS cP ad u sz As) Qc mc ms (xA cB cI cJ cZ cS cP ad u sz) := by
  refine va_MetW (cc := b) (maxL := n) (ret := ret) (hh := hh) hy rfl ?_
  intro p e s m args below meth c s₁ B hml hv
  obtain ⟨rfl, hsz, hbz, hP, hK, hD0, hO⟩ := hv
  have hts := atoms_spec (ws := wd_wsW y b n ret hh) B.pre
  have hown : s.vm.findClass own = some m.cls := by rw [← hcls]; exact findClass_of_methodNamed B.named
  have hex : c.exceptionTable.toList = hh.map (fun q => (⟨q.1, q.2.1, q.2.2.1, q.2.2.2⟩ : ExceptionTableEntry)) := by
    obtain ⟨m9, meth9, c9, hn9, h1, h2, -, -, h5, -⟩ := Cond.codeWith_spec (hts _ List.mem_cons_self)
    cases B.named.symm.trans hn9
    cases B.method.symm.trans h1
    cases (Stand.of_body B).code.symm.trans h2
    rw [← h5, ex_tbl]
  have hD := hD0.self (sz := sz)
  have hl := lv_entry As (n := n) hlen
  rw [lg_entry_eq]
  generalize (lg_sl As ++ List.replicate (n - (lg_sl As).length) Slot.unset).toArray = ls at hl ⊢
  refine walk p e s m below meth c ls hsz hex ⟨B.exec, B.bytes, B.returns, hml, fun w h => hts w (List.mem_cons_of_mem _ h), hown, hK, fun q h => Or.inr (by omega), B.notSynchronized, fun q h => ?_, hO, by omega⟩ hP hD va_S.rf hl
  rcases h with ⟨k, e1, h⟩ | h
  · exact hD0.2 k _ h
  · omega
section XHD
variable {p : Program} {l : Launch} {e : Env} {R : Room} {s s0 : State} {m : MethodId} {args : Array Value} {below : List Frame} {meth : Method} {c : Code} {H : Heap} {locs : List Loc} {cells slots : Nat} {Q : State → Prop}
variable {cc : ByteArray} {pc nL n idx b0 i ci nF k : Nat} {ls : Array Slot} {rest st : List Value} {ret rt : Option FieldType} {D : va_G} {cB cI cJ cZ cS cP : ClassId} {A : Nat → Prop} {ad : Nat → Nat} {u x : CS} {v : Option LV} {y : MethodName} {b : ByteArray} {rm : Room} {As : List Value} {nA mc ms : Nat} {own C : String} {F : u_T} {ty : Nat → FieldType} {a : Array Value} {hh : List (Nat × Nat × Nat × Nat)} {sk sv : Nat → Nat}
/-- what was thrown is caught by its own class's row, the first that covers the place -/
theorem wt_catch (C0 : XCx p s s0 b0 m args meth c own cc nL ret D cB cI cJ cZ cS cP A) (hE : ENV s0 b0 sk sv) (hS : va_S A s.heap H locs) (row : ExceptionTableEntry) (rows : List ExceptionTableEntry) (hsp : c.exceptionTable.toList = row :: rows) (hcv : covers row pc = true) (h0 : row.catchType ≠ 0) (hl : Cond.classLink own row.catchType (exN k) ∈ wd_tbl) (hca : Cond.castable (exN k) (exN k) ∈ lwA) {w : Addr} {cell : Cell} (h1 : H[w]? = some cell) (h2 : s.vm.findClass (exN k) = some cell.cls) (h3 : cell.vm = .none)
    (kk : W p l e R s m args below meth c H locs cells slots Q (F0 m row.handlerPc ls [.ref w])) : WT p l e R s m args below meth c H locs cells slots Q (F0 m pc ls rest) w := by
  obtain ⟨hx, hb, hr2, hml, ht, hown, hK, hA, hlocks, hA0, hO, hbs⟩ := C0
  obtain ⟨⟨a0, hT0⟩, hb0, -⟩ := hE
  intro T hT X
  have hcs : (Cond.castable (exN k) (exN k)).before args s = true := st_word (s := s) hO.1 (fun z hz => hO.2 z (by omega)) rfl (hT0 _ hca)
  obtain ⟨c3, c4, hc3, hc4, hasg⟩ := Cond.castable_spec hcs
  cases Option.some.inj (hc3.symm.trans h2)
  cases Option.some.inj (hc4.symm.trans h2)
  obtain ⟨vm', X', sx⟩ := X.caughtLink w (g := F0 m pc ls rest) rfl hown [] row rows hsp (fun z hz => absurd hz List.not_mem_nil) hcv h0 (ht _ hl) h2 (by rw [hT]; exact h1) (by rw [h3]; rfl) hasg
  obtain ⟨t, q1, q2⟩ := kk (T.setVm vm') hT X'
  refine ⟨t, ?_, q2⟩
  rw [X.pushThrowing_eq]
  exact sx t q1
theorem xh_i {v : Int32} {x : CS × Int32} (C0 : XCx p s s0 b0 m args meth c own cc nL (some .int) D cB cI cJ cZ cS cP A) (hP : va_P D cls (wC cB cI cJ cZ cS cP ad u) H) (hD : va_D A (wC cB cI cJ cZ cS cP ad u)) (hS : va_S A s.heap H locs) (h1 : cells ≤ mc) (h2 : slots ≤ ms) (hf : some (u, v) = some x) (hdg : decode cc pc = .ok (.ireturn, 1)) : W p l e R s m args below meth c H locs cells slots (MQ below (xQ0 D cB cI cJ cZ cS cP A ad x.1 (some (.inl x.2))) args s mc ms A) (F0 m pc ls [.int v]) := by
  obtain ⟨hx, hb, hr, hml, ht, hown, hK, hA, hlocks, hA0, hO, hbs⟩ := C0
  cases hf
  exact W.widen h1 h2 (W.iret hx hb hr (fun t h hW => ⟨⟨rfl, by rw [h]; exact hP, va_K.moved hW.alike hK, hD⟩, hS.F h⟩) hS.2.2 hdg)
/-- a call of a method with a handler, which makes no cells of the world -/
theorem xVw (C0 : XCx p s s0 b0 m args meth c own cc nL ret D cB cI cJ cZ cS cP A) (hP : va_P D cls (wC cB cI cJ cZ cS cP ad u) H) (hD : va_D A (wC cB cI cJ cZ cS cP ad u)) (hS : va_S A s.heap H locs) (K : CKl cls ci C F nF ty) (hrc0 : isO u i ci = true)
    (hC : Met l y (wd_wsW y b n rt hh) rm (xPc s0 b0 D cB cI cJ cZ cS cP ad u H.size (.ref (ad i) :: As)) (xQ0 D cB cI cJ cZ cS cP (xA cB cI cJ cZ cS cP ad u H.size) ad x v) mc ms (xA cB cI cJ cZ cS cP ad u H.size))
    (hk : Cond.codeWith y b n rt hh ∈ wd_tbl) (hl : Cond.methodLink own idx y ∈ wd_tbl) (hi : Cond.instanceMethod y ∈ wd_tbl) (hsel : Cond.selects C y y ∈ wd_tbl) (hini : Cond.initialized C ∈ wd_tbl) (hrc : rm.cells = mc) (hrs : rm.slots = ms)
    (hd : y.cls = C ∧ y.cls ≠ "java/lang/invoke/MethodHandle" ∧ y.cls ≠ "java/lang/invoke/VarHandle" ∧ (parseMethodDescriptor y.desc).map (fun d => d.parameters.length) = some nA) (hAs : As.length = nA) (hR : rm.frames + 1 ≤ R.frames ∧ 8 + (n + 11) + rm.locals ≤ R.locals) (hsz : ls.size = nL) (hr8 : (rest.map fun v => v.category).sum ≤ 8) (hdg : decode cc pc = .ok (.invokevirtual idx, 3)) (hst0 : st = As.reverse ++ .ref (ad i) :: rest) (hf : cells + mc ≤ R.cells ∧ slots + ms ≤ R.slots)
    (kk : ∀ (H1 : Heap) (locs1 : List Loc), va_P D cls (wC cB cI cJ cZ cS cP ad x) H1 → va_D A (wC cB cI cJ cZ cS cP ad x) → va_S A s.heap H1 locs1 → W p l e R s m args below meth c H1 locs1 (cells + mc) (slots + ms) Q (F0 m (pc + 3) ls ((v.map (lvV ad)).toList ++ rest))) : W p l e R s m args below meth c H locs cells slots Q (F0 m pc ls st) := by
  have hp := x_pre (As := (.ref (ad i) :: As)) C0 hP hD hS
  obtain ⟨hx, hb, hr, hml, ht, hown, hK, hA, hlocks, hA0, hO, hbs⟩ := id C0
  subst hst0
  obtain ⟨f, hil, hif⟩ := isO_some hrc0
  obtain ⟨cellB, hcB, hobj, hcls⟩ := va_recv hK hP K.1 (q0 := i) (fs := fl nF (fun j => lvV ad (f j))) (by rw [wC_at hil, hif]; show some (ad i, Sum.inr (ci, fl (clN ci) _)) = _; rw [clN_of K.1])
  have hws : ∀ w ∈ wd_wsW y b n rt hh, ∀ (a' : Array Value) (U : State), s.WarmedH U.vm → w.before a' U = true := fun w hw a' U hW => by
    rcases List.mem_cons.mp hw with rfl | hw
    · exact word_at hW (wd_gd hk) (ht _ hk)
    · exact word_at hW (wd_gd hw) (ht _ hw)
  have hFc : ∀ q, xA cB cI cJ cZ cS cP ad u H.size q → A q := fun q h => by
    rcases h with ⟨k, e1, h⟩ | h
    · exact hD.2 k _ h
    · exact hA q (Nat.le_trans hS.1 h)
  intro T hT X
  have hBk : Back l R p e below s args y 3 8 (PreOf R mc ms (xPc s0 b0 D cB cI cJ cZ cS cP ad u H.size (.ref (ad i) :: As))) (PostOf (xQ0 D cB cI cJ cZ cS cP (xA cB cI cJ cZ cS cP ad u H.size) ad x v) mc ms (xA cB cI cJ cZ cS cP ad u H.size)) := va_backW (hh := hh) (bytes := b) (maxL := n) (ret := rt) hC hp.1 hrc hrs hR.1 hR.2 hws List.mem_cons_self (fun a' U hW => by rw [hd.1]; exact word_at hW (wd_gd hini) (ht _ hini))
  obtain ⟨mk, methM, hnamed, hmethM, hstM, habM⟩ := Cond.instanceMethod_spec (ht _ hi)
  obtain ⟨m9, methM', cM, hn9, hmethM', -, -, -, -, -, -, hsigM⟩ := Cond.codeWith_spec (ht _ hk)
  cases hnamed.symm.trans hn9
  cases hmethM.symm.trans hmethM'
  obtain ⟨c2, r2, m2, q1, q2, q3, q4, kP, hkP, hkPi⟩ := Cond.selects_spec (ht _ hsel)
  cases hcls.symm.trans q1
  cases (State.methodFound?_of_named hnamed ⟨hd.2.1, hd.2.2.1⟩).symm.trans q2
  cases hnamed.symm.trans q3
  have hselP : selectMethod e.platform s.vm cellB.cls mk = .method mk := by rw [Launch.admits_selectMethod X.admits]; exact q4
  have hln : As.length = methM.sig.parameters.length := by
    have h9 := hd.2.2.2
    rw [hsigM] at h9
    exact hAs.trans (Option.some.inj h9).symm
  obtain ⟨vm₁, X₁, hstep₁⟩ := X.invokevirtual hx hown (ht _ hl) hnamed hmethM hstM hkP hkPi ⟨hd.2.1, hd.2.2.1⟩ (a := ad i) (cell := cellB) (by rw [hT]; exact hcB)
    (fun z h => by rw [h] at hobj; cases hobj) hselP hmethM habM hkP hkPi (g := F0 m pc ls (As.reverse ++ .ref (ad i) :: rest)) rfl (argsL := As) (rest := rest) hln rfl (by rw [hb]; exact hdg)
  obtain ⟨v1, ⟨U', l2, c2, s2⟩, X', ⟨g', mk', t, L, e1, e2, ⟨⟨hv, hP2, hK2, hD2⟩, hz, hk2⟩, h1, hL, h2, h3⟩, hsteps⟩ := hBk m meth c ⟨T.setVm vm₁, locs, cells, slots⟩ (F0 m pc ls rest) (.invokevirtual idx) mk (Value.ref (ad i) :: As).toArray X₁ rfl (hsz.trans hml.symm) (by rw [hb]; exact hdg) (by simpa using hr8) (X₁.named hnamed) ⟨hf.1, hf.2, hp.2 (T.setVm vm₁) hT X₁.warmed⟩
  dsimp only [Pt.U, Pt.locs, Pt.cells, Pt.slots] at X' e1 e2 h1 h2 h3 hsteps hz hk2
  subst h1; subst h2; subst h3
  cases hv
  have hz2 : H.size ≤ t.heap.size := by rw [← hT]; exact hz
  have hk3 : ∀ q, q < H.size → ¬ xA cB cI cJ cZ cS cP ad u H.size q → t.heap[q]? = H[q]? := fun q h1 h2 => by
    have h3 := hk2 q (by show q < T.heap.size; rw [hT]; exact h1) h2
    rw [← hT]
    exact h3
  obtain ⟨t2, a1, b1⟩ := kk U'.heap (locs ++ L) (by rw [e1]; exact hP2) (hD2.weaken (fun _ _ _ h => hFc _ h))
    ⟨Nat.le_trans hS.1 (by rw [e1]; exact hz2), fun q h1 h2 => by rw [e1, hk3 q (Nat.lt_of_lt_of_le h1 hS.1) (fun z => h2 (hFc q z))]; exact hS.2.1 q h1 h2, fun q hq => by
      rcases List.mem_append.mp hq with h | h
      · exact hS.2.2 q h
      · exact hFc _ (hL q h)⟩ U' rfl X'
  exact ⟨t2, hstep₁ _ fun acts => by rw [doInvoke_state]; exact hsteps.trans a1, b1⟩
end XHD
def bH {α β : Type} (x : Option (CS × (α ⊕ Nat))) (f : CS → α → Option β) (h : CS → Option β) : Option β := match x with
  | none => none
  | some (u, .inl v) => f u v
  | some (u, .inr k) => if k = 3 then h u else none
theorem bH_some {α β : Type} {x : Option (CS × (α ⊕ Nat))} {f : CS → α → Option β} {h : CS → Option β} {r : β} (hh : bH x f h = some r) : (∃ u v, x = some (u, .inl v) ∧ f u v = some r) ∨ (∃ u, x = some (u, .inr 3) ∧ h u = some r) := by
  cases x with
  | none => cases hh
  | some q =>
    obtain ⟨u, z⟩ := q
    cases z with
    | inl v => exact Or.inl ⟨u, v, rfl, hh⟩
    | inr k =>
      have h2 : (if k = 3 then h u else none) = some r := hh
      by_cases hk : k = 3
      · rw [if_pos hk] at h2
        subst hk
        exact Or.inr ⟨u, rfl, h2⟩
      · rw [if_neg hk] at h2
        cases h2
