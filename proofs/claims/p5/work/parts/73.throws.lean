/-! throws: a walk begun anew at a state it has come to; a word at a later state; contracts of methods that may throw -/
theorem st_hears {T : State} {s : State} {m : MethodId} {below : List Frame} {fs : List Frame} (hW : s.WarmedH T.vm) : (T.setFrames fs).hears m below = s.hears m below := by
  have em : ∀ x, (T.setFrames fs).vm.method? x = s.vm.method? x := fun x => hW.alike.method? x
  unfold State.hears
  cases below with
  | nil => simp only [em]
  | cons f r => cases f <;> simp only [State.code?_eq, em]
theorem st_again {p : Program} {l : Launch} {e : Env} {R : Room} {s : State} {m : MethodId} {args : Array Value} {below : List Frame} {meth : Method} {c : Code} {T : State} {locs : List Loc} {cells slots : Nat} (X : Stand p l e R s m args below meth c T locs cells slots) (hc : cells ≤ R.cells) (hs : slots ≤ R.slots) :
    Stand p l e { R with cells := R.cells - cells, slots := R.slots - slots } (T.setFrames (.invoking m args :: below)) m args below meth c T [] 0 0 := by
  obtain ⟨g₀, hr⟩ := X.frames_eq
  obtain ⟨th, hth, -⟩ := State.frames_cons hr
  have hcur : T.cur < T.threads.size := (Array.getElem?_eq_some_iff.mp hth).1
  have hfr : (T.setFrames (.invoking m args :: below)).frames = .invoking m args :: below := State.frames_setFrames _ hcur
  obtain ⟨th2, hth2, -⟩ := State.frames_cons hfr
  have hT : (T.setFrames (.invoking m args :: below)).setFrames T.frames = T := by rw [State.setFrames_setFrames, State.setFrames_self hth]
  have hcur2 : (T.setFrames (.invoking m args :: below)).cur < (T.setFrames (.invoking m args :: below)).threads.size := State.cur_lt_of_frames hfr
  refine ⟨X.admits, X.cas, X.clock, hfr, ?_, ?_, X.method', X.code, X.here, X.tail, State.WarmedH.refl _, ?_, ?_, ?_⟩
  · have h := X.room
    have e1 : (T.setFrames (.invoking m args :: below)).localsInUse = s.localsInUse := by rw [State.localsInUse_invoking hfr X.method' X.code, State.localsInUse_invoking X.frames X.method X.code]
    have e2 : (T.setFrames (.invoking m args :: below)).frames.length = s.frames.length := by rw [hfr, X.frames]
    have e3 : e.platform.stackLimits (T.setFrames (.invoking m args :: below)).me = e.platform.stackLimits s.me := (State.stackLimits_setFrames _ T _).trans X.limits
    have e4 : (T.setFrames (.invoking m args :: below)).me.stackBytes = s.me.stackBytes := (State.stackBytes_setFrames T _).trans X.bytes
    have e5 : (T.setFrames (.invoking m args :: below)).slotsTrue = true := X.book
    have h1 := X.heapSize
    have h2 := X.used
    simp only [State.hasRoom, Bool.and_eq_true, decide_eq_true_eq] at h ⊢
    rw [e1, e2, e3, e4]
    refine ⟨⟨⟨h.1.1.1, ?_⟩, ?_⟩, e5⟩
    · show T.heap.size + (R.cells - cells) ≤ _
      have := h.1.1.2
      omega
    · show T.slotsUsed + (R.slots - slots) ≤ _
      have := h.1.2
      omega
  · rw [st_hears X.warmed]
    exact X.hears
  · exact ((State.stackLimits_setFrames _ T _)).symm
  · exact (State.stackBytes_setFrames T _).symm
  · have h := (State.sameButNew.refl (T.setFrames (.invoking m args :: below)) hth2).setFrames T.frames hcur2
    rw [hT] at h
    exact h
/-- what a walk begun anew did, seen from the first start -/
theorem st_back {p : Program} {l : Launch} {e : Env} {R : Room} {s : State} {m : MethodId} {args : Array Value} {below : List Frame} {meth : Method} {c : Code} {T U : State} {locs L : List Loc} {cells slots k n : Nat} (X : Stand p l e R s m args below meth c T locs cells slots)
    (h : (T.setFrames (.invoking m args :: below)).sameButNew ({ U with vm := T.vm } : State) L k n) : s.sameButNew ({ U with vm := s.vm } : State) (locs ++ L) (cells + k) (slots + n) := by
  obtain ⟨g₀, hr⟩ := X.frames_eq
  obtain ⟨th, hth, -⟩ := State.frames_cons hr
  obtain ⟨q1, q2, q3, q4, q5, q6⟩ := h
  have h2 : T.sameButNew ({ U with vm := T.vm } : State) L k n := by
    refine ⟨?_, q2, q3, q4, q5, q6⟩
    rw [State.setFrames_setFrames] at q1
    exact q1
  exact X.same.trans (h2.setVm s.vm)

theorem st_eval {o n d : String} {v : Value} {s0 s : State} {a0 a : Array Value} (hW : s0.WarmedH s.vm) (hH : ∀ q, q < s0.heap.size → s.heap[q]? = s0.heap[q]?) (hv : (Term.static o n d).eval a0 s0 none [] s0 = some v) : (Term.static o n d).eval a s none [] s = some v := by
  have h1 := Term.static_setVm hW.alike hv
  cases hi : (s0.setVm s.vm).fieldFound? o n d with
  | none => simp [Term.eval, State.fieldNamed?, hi] at h1
  | some w =>
    obtain ⟨c, k, i, f⟩ := w
    obtain ⟨hst, b, cell, ha, hcell, -, hslot⟩ := Term.static_spec hi h1
    have hs : cell.vm.isStatics = true := by
      simp only [Term.eval, State.fieldNamed?, hi, Option.bind_eq_bind, Option.bind_some, hst, beq_self_eq_true, if_true, Option.pure_def, ha, hcell] at h1
      by_cases h' : cell.vm.isStatics = true
      · exact h'
      · simp [h'] at h1
    have hcell0 : s0.heap[b]? = some cell := hcell
    have hi' : s.fieldFound? o n d = some (c, k, i, f) := hi
    exact Term.static_eval hi' hst ha (by rw [hH b (Array.getElem?_eq_some_iff.mp hcell0).1]; exact hcell0) hs hslot
theorem st_isRef {o n d : String} {s0 s : State} {a0 a : Array Value} (hW : s0.WarmedH s.vm) (hH : ∀ q, q < s0.heap.size → s.heap[q]? = s0.heap[q]?) (h : (Cond.isRef (.static o n d)).before a0 s0 = true) : (Cond.isRef (.static o n d)).before a s = true := by
  simp only [Cond.before, Cond.holds, Cond.value] at h ⊢
  cases hv : (Term.static o n d).eval a0 s0 none [] s0 with
  | none => rw [hv] at h; simp at h
  | some v =>
    rw [st_eval (a := a) hW hH hv]
    rw [hv] at h
    exact h
theorem st_lays {o n d : String} {s0 s : State} {a0 a : Array Value} (hW : s0.WarmedH s.vm) (hH : ∀ q, q < s0.heap.size → s.heap[q]? = s0.heap[q]?) (h : (Cond.laysStatic o n d).before a0 s0 = true) : (Cond.laysStatic o n d).before a s = true := by
  have h1 := Cond.laysStatic_setVm hW.alike h
  simp only [Cond.before, Cond.holds, Cond.value] at h1 ⊢
  have e1 : (s0.setVm s.vm).vm = s.vm := rfl
  have e2 : (s0.setVm s.vm).fieldFound? o n d = s.fieldFound? o n d := rfl
  have e3 : (s0.setVm s.vm).heap = s0.heap := rfl
  rw [e1, e2, e3] at h1
  cases hc : s.vm.findClass o with
  | none => rw [hc] at h1; simp at h1
  | some c =>
    cases hf : s.fieldFound? o n d with
    | none => rw [hc, hf] at h1; simp at h1
    | some w =>
      obtain ⟨c', k, i, f⟩ := w
      rw [hc, hf] at h1
      cases hk : k.statics with
      | none => simp [hk] at h1
      | some b =>
        cases hb : s0.heap[b]? with
        | none => simp [hk, hb] at h1
        | some cell =>
          have hlt := (Array.getElem?_eq_some_iff.mp hb).1
          simp only [hk, Option.bind_some, hb, Option.map_some] at h1
          simp only [hk, Option.bind_some, hH b hlt, hb, Option.map_some]
          exact h1
def okw (c : Cond) : Bool := (c.onTables && c.keepsFace) || (match c with
  | .laysStatic _ _ _ => true
  | .isRef (.static _ _ _) => true
  | _ => false)
theorem st_word {s0 s : State} {a0 a : Array Value} (hW : s0.WarmedH s.vm) (hH : ∀ q, q < s0.heap.size → s.heap[q]? = s0.heap[q]?) {c : Cond} (hc : okw c = true) (h : c.before a0 s0 = true) : c.before a s = true := by
  by_cases h1 : (c.onTables && c.keepsFace) = true
  · rw [Bool.and_eq_true] at h1
    have h2 : c.before a0 (s0.setVm s.vm) = true := Cond.before_shiftedFace (State.Shifted.of_warmed hW) _ h1.2 h
    have e := Cond.onTables_vm (A := a0) (A' := a) (U := s0) (U' := s) s.vm c h1.1
    have e2 : s.setVm s.vm = s := rfl
    rw [e2] at e
    rw [← e]
    exact h2
  · unfold okw at hc
    rw [Bool.or_eq_true] at hc
    rcases hc with hc | hc
    · exact absurd hc h1
    · split at hc
      · exact st_lays hW hH h
      · exact st_isRef hW hH h
      · cases hc
def FrX (st t : State) (L : List Loc) (k n : Nat) : Prop := st.WarmedH t.vm ∧ st.sameButNew ({ t with vm := st.vm } : State) L k n
def MetX (l : Launch) (y : MethodName) (ws : List Cond) (rm : Room) (Pc : Array Value → State → Prop) (Qc : Array Value → State → Outcome → State → Prop) (mc ms : Nat) (free : Addr → Prop) : Prop :=
  MetFree l y (headSpec ws rm) Pc (fun _ _ _ _ _ => True) (fun a st o t => Qc a st o t ∧ ∃ L, FrX st t L mc ms ∧ ∀ q ∈ L, free q.base)
def MQX (below : List Frame) (Qc : Array Value → State → Outcome → State → Prop) (a : Array Value) (s : State) (mc ms : Nat) (free : Addr → Prop) : State → Prop := fun t =>
  ∃ o, t.status = .running ∧ Ended t below o ∧ Qc a s o t ∧ ∃ L, FrX s t L mc ms ∧ ∀ q ∈ L, free q.base
theorem MQX.of {below : List Frame} {Qc Qc2 : Array Value → State → Outcome → State → Prop} {a : Array Value} {s t : State} {mc ms mc2 ms2 : Nat} {free : Addr → Prop} (hQ : ∀ o t, Qc a s o t → Qc2 a s o t) (h1 : mc ≤ mc2) (h2 : ms ≤ ms2) (h : MQ below Qc a s mc ms free t) : MQX below Qc2 a s mc2 ms2 free t := by
  obtain ⟨o, q1, q2, q3, L, q4, q5⟩ := h
  exact ⟨o, q1, q2, hQ o t q3, L, ⟨q4.2.1, q4.2.2.mono h1 h2⟩, q5⟩
section WX
variable {p : Program} {l : Launch} {e : Env} {R : Room} {s : State} {m : MethodId} {args : Array Value} {below : List Frame} {meth : Method} {c : Code} {H : Heap} {locs : List Loc} {cells slots : Nat} {Q Q2 : State → Prop} {g : JFrame}
theorem wq_mono (h : ∀ t, Q t → Q2 t) (k : W p l e R s m args below meth c H locs cells slots Q g) : W p l e R s m args below meth c H locs cells slots Q2 g := by
  intro T hT X
  obtain ⟨t, a, b⟩ := k T hT X
  exact ⟨t, a, h t b⟩
/-- the point where an exception is under way in the frame g -/
def WT (p : Program) (l : Launch) (e : Env) (R : Room) (s : State) (m : MethodId) (args : Array Value) (below : List Frame) (meth : Method) (c : Code) (H : Heap) (locs : List Loc) (cells slots : Nat) (Q : State → Prop) (g : JFrame) (a : Addr) : Prop :=
  ∀ T : State, T.heap = H → Stand p l e R s m args below meth c T locs cells slots → ∃ t, Steps p.tables e below ((T.setTop g).pushFrame (.throwing a)) t ∧ Q t
theorem wt_leave {Qc : Array Value → State → Outcome → State → Prop} {free : Addr → Prop} {pc : Nat} {ls : Array Slot} {st : List Value} {a : Addr} (hlocks : meth.locks = false) (hout : ∀ x ∈ c.exceptionTable.toList, covers x pc = false) (hq : ∀ t : State, t.heap = H → s.WarmedH t.vm → Qc args s (.threw a) t) (hf : ∀ q ∈ locs, free q.base) : WT p l e R s m args below meth c H locs cells slots (MQX below Qc args s cells slots free) (F0 m pc ls st) a := by
  intro T hT X
  obtain ⟨h1, h2, h3, h4, h5⟩ := X.leaveThrown a (g := F0 m pc ls st) rfl rfl rfl hout hlocks
  exact ⟨_, h1, .threw a, h2, h3, hq _ hT h4, locs, ⟨h4, h5⟩, hf⟩
end WX
theorem same_nil {s U : State} {k n : Nat} (h : s.sameButNew U [] k n) : ∀ q, q < s.heap.size → U.heap[q]? = s.heap[q]? := by
  intro q hq
  obtain ⟨-, -, -, -, -, q6⟩ := h
  have e : s.heap[q]? = some s.heap[q] := Array.getElem?_eq_getElem hq
  obtain ⟨c', h1, h2, h3, h4⟩ := q6 q _ e
  have h5 : c'.slots = (s.heap[q]).slots := by
    apply Array.ext_getElem?
    intro i
    exact h4 i List.not_mem_nil
  have h6 : c' = s.heap[q] := by
    rw [h2, h5]
  rw [h1, e, h6]
set_option maxHeartbeats 1000000 in
/-- as the library's row for 'new X(msg); throw', the first constructor's own call at any place of its pool -/
theorem th_any {p : Program} {l : Launch} {e : Env} {R : Room} {s : State} {m₀ : MethodId} {args : Array Value} {below : List Frame} {meth : Method} {c : Code} {V : State} {locs : List Loc} {cells slots : Nat} (X : Stand p l e R s m₀ args below meth c V locs cells slots) (hexec : p.tables.exec = Jvm.exec) (htr : e.platform.stackTraces = false) {own cls : String} {names : List String} {ic ix : Nat} {rx : ByteArray}
    (x0 : decode rx 0 = .ok (.aload_n 0, 1)) (x1 : decode rx 1 = .ok (.aload_n 1, 1)) (x2 : decode rx 2 = .ok (.invokespecial ix, 3)) (x5 : decode rx 5 = .ok (.return_, 1))
    (hown : s.vm.findClass own = some m₀.cls) (hcls : Bundle.fit cls = true) (hnames : ∀ n ∈ names, Bundle.fit n = true) (h : ∀ a ∈ Bundle.ownAtomsX own ic cls ix rx names, a.before args s = true)
    (hback : (Cond.fieldLink Bundle.tN 198 Bundle.tN "backtrace" "Ljava/lang/Object;").before args s = true ∧ (Cond.lays Bundle.tN Bundle.tN "backtrace" "Ljava/lang/Object;").before args s = true ∧ (Cond.lays cls Bundle.tN "backtrace" "Ljava/lang/Object;").before args s = true)
    (hlocs : locs = []) {a : Addr} {cX : ClassId} {kX : Class} (hfoundX : s.vm.findClass cls = some cX) (hkX : s.vm.classes[cX]? = some kX) (hcell : V.heap[a]? = some (freshCell cX kX)) (hnew : s.heap.size ≤ a) {msg : Value} (hmsg : msg.isRef = true)
    {g : JFrame} (hg : g.method = m₀) (hsize : g.locals.size = c.maxLocals) (hlocked : g.locked = none) (hentered : g.entered = []) {rest : List Value} (hstack : g.stack = msg :: .ref a :: .ref a :: rest)
    (hd6 : decode c.code g.pc = .ok (.invokespecial ic, 3)) (hd9 : decode c.code (g.pc + 3) = .ok (.athrow, 1)) (hout : ∀ x ∈ c.exceptionTable.toList, covers x (g.pc + 3) = false)
    (hRframes : names.length + 3 < R.frames) (hRlocals : 2 * g.monitorRoom + ((Value.ref a :: rest).map fun v => v.category).sum + (13 * (names.length + 1) + 42) ≤ R.locals) (hlocks : meth.locks = false) :
    ∃ U : State, Steps p.tables e below (V.setTop g) U ∧ U.status = .running ∧ Ended U below (.threw a) ∧ s.WarmedH U.vm ∧ s.sameButNew ({ U with vm := s.vm } : State) [] cells slots ∧ ∃ ce, U.heap[a]? = some ce ∧ s.vm.findClass cls = some ce.cls ∧ ce.vm = .none := by
  subst hlocs
  have hpl : e.platform.magicAccessors = ({} : Platform).magicAccessors := by rw [X.admits.platform]
  have hw : ∀ x, x ∈ Bundle.ownAtomsX own ic cls ix rx names → x.holds args s none s [] = true := fun x hx => h x hx
  -- the chain of constructors
  obtain ⟨T, Z0, L, -, Y⟩ := ThrowableC.of_atoms (args := args) (by rw [X.admits.platform]) (by rw [X.admits.platform]) hpl (fun x hx => h x (by simp [Bundle.ownAtomsX, hx]))
  obtain ⟨Z, M, LZ, LM, hnZ⟩ := Init0T.ofS_atoms (args := args) hpl L Y (fun x hx => h x (by simp [Bundle.ownAtomsX, hx]))
  obtain ⟨P1, Ps, hlen, L1, hL, hP1, hl1, hl2⟩ := Bundle.chainSX (args := args) hpl hnZ x0 x1 x2 x5 names cls hcls hnames (fun x hx => h x (by simp [Bundle.ownAtomsX, hx]))
  have hfc := findClass_of_methodNamed hP1
  have hfound : s.vm.findClass cls = some P1.m.cls := hfc
  cases Option.some.inj (hfoundX.symm.trans hfound)
  obtain ⟨c1, k1, hc1, hk, hord, -, -, hn6⟩ := Cond.instantiable_spec (hw (.instantiable cls 6) (by simp [Bundle.ownAtomsX]))
  cases Option.some.inj (hc1.symm.trans hfound)
  cases Option.some.inj (hkX.symm.trans hk)
  have sel : ∀ {t : MethodName} {mt : MethodId}, s.methodNamed? t = some mt → (t.cls ≠ "java/lang/invoke/MethodHandle" ∧ t.cls ≠ "java/lang/invoke/VarHandle") → (Cond.selects cls t t).holds args s none s [] = true → selectMethod e.platform s.vm P1.m.cls mt = .method mt := by
    intro t mt hn hne hs
    obtain ⟨c2, r2, m2, q1, q2, q3, q4, -⟩ := Cond.selects_spec hs
    cases Option.some.inj (q1.symm.trans hfound)
    cases Option.some.inj (q2.symm.trans (State.methodFound?_of_named hn hne))
    cases Option.some.inj (q3.symm.trans hn)
    rw [Launch.admits_selectMethod X.admits]
    exact q4
  -- the static fields of Throwable
  obtain ⟨cS0, hcS0, hiss⟩ := Y.statics
  obtain ⟨u0, hu0⟩ := Cond.staticRefV Y.unassigned L.unassignedStatic L.statics hcS0 hiss (hw (.isRef (.static Bundle.tN "UNASSIGNED_STACK" Bundle.steD)) (by simp [Bundle.ownAtomsX]))
  obtain ⟨sen, hsen⟩ := Cond.staticRefV Y.sentinel L.sentinelStatic L.statics hcS0 hiss (hw (.isRef (.static Bundle.tN "SUPPRESSED_SENTINEL" Bundle.listD)) (by simp [Bundle.ownAtomsX]))
  obtain ⟨cellS, hcS', heS, -, hkeep⟩ := X.same.2.2.2.2.2 T.aS cS0 hcS0
  have hcellS : V.heap[T.aS]? = some cellS := hcS'
  have hknownS : cellS.vm ≠ .unknown := fun hu => by
    rw [heS] at hu
    rw [show cS0.vm = .unknown from hu] at hiss
    cases hiss
  have hneS : T.aS ≠ a := Nat.ne_of_lt (Nat.lt_of_lt_of_le (Array.getElem?_eq_some_iff.mp hcS0).1 hnew)
  -- where the fields of a new cell lie
  obtain ⟨iM, hffM⟩ := Y.msg
  obtain ⟨ci, i9, fB, hk9, hg9, ha9, hsB, -, hnB, htB, hffB⟩ := Cond.ownField (t := .object "java/lang/Object") Y.found L.cls (by decide +kernel) hback.1 hback.2.1 e.platform hpl
  obtain ⟨tyC, dC, hdC, hdnC⟩ := Cond.laysAt hfound hk Y.cause (hw (.lays cls Bundle.tN "cause" "Ljava/lang/Throwable;") (by simp [Bundle.ownAtomsX]))
  obtain ⟨tyS, dS, hdS, hdnS⟩ := Cond.laysAt hfound hk Y.stack (hw (.lays cls Bundle.tN "stackTrace" Bundle.steD) (by simp [Bundle.ownAtomsX]))
  obtain ⟨tyP, dP, hdP, hdnP⟩ := Cond.laysAt hfound hk Y.supp (hw (.lays cls Bundle.tN "suppressedExceptions" Bundle.listD) (by simp [Bundle.ownAtomsX]))
  obtain ⟨tyM, dM, hdM, hdnM⟩ := Cond.laysAt hfound hk hffM (hw (.lays cls Bundle.tN "detailMessage" "Ljava/lang/String;") (by simp [Bundle.ownAtomsX]))
  obtain ⟨tyB, dB, hdB, hdnB⟩ := Cond.laysAt hfound hk hffB hback.2.2
  have bC := Cond.laysApart hdB hdC hdnB hdnC (by rw [hnB, Y.causeName]; decide)
  have bS := Cond.laysApart hdB hdS hdnB hdnS (by rw [hnB, Y.stackName]; decide)
  have bP := Cond.laysApart hdB hdP hdnB hdnP (by rw [hnB, Y.suppName]; decide)
  have hskip : SkipFacts T e.platform s (fun u => u) u0 ((preparedCellV T.toThrowableT (freshCell P1.m.cls kX) a u0 sen).withEntry V.cur) :=
    ⟨{ ci198 := ci, i198 := i9, fBack := fB }, ⟨hk9, hg9, ha9, hsB⟩, by
      have hz := fresh_default (c := P1.m.cls) tyB
      rw [htB] at hz
      simpa [preparedCellV, Cell.setSlot, Cell.withEntry, Array.getElem?_setIfInBounds, bC, bS, bP, bC.symm, bS.symm, bP.symm, defaultValue] using hz, fun _ _ => rfl⟩
  -- the calls
  obtain ⟨tm, methC, cdC, kC, vm₁, hnC, -, -, -, -, -, -, -, hW₁, st1⟩ := Steps.initColdS (tb := p.tables) (e := e) (below := below) (s := s) (U := V) X.here hexec X.warmed hpl hown (t := Bundle.initS cls) rfl rfl (Bundle.fit_spec hcls).2
    (hw (.methodLink own ic (Bundle.initS cls)) (by simp [Bundle.ownAtomsX])) (h (.instanceMethod (Bundle.initS cls)) (by cases names <;> simp [Bundle.ownAtomsX, Bundle.chainSAtomsX, Bundle.passSAtoms])) (bytes := rx) (maxL := 2) (h (.code (Bundle.initS cls) rx 2 none) (by cases names <;> simp [Bundle.ownAtomsX, Bundle.chainSAtomsX, Bundle.passSAtoms]))
    (f := g) hg (a := a) (msg := msg) (rest := .ref a :: rest) hstack hd6
  cases Option.some.inj (hnC.symm.trans hP1)
  have X₁ := X.noted hW₁
  obtain ⟨vm₂, X₂, st2⟩ := X₁.ctorMessageOffV hexec (g := { g with stack := .ref a :: rest }) hg hsize T L Z LZ M LM (P1 :: Ps)
    (fun P hP => by rcases List.mem_cons.mp hP with rfl | hP; exact L1; exact hL P hP) ⟨hl1, hl2⟩ (u0 := u0) (sen := sen) (self := a) hmsg (cell := freshCell P1.m.cls kX) (cellS := cellS)
    hcell (fun _ => by simp) (by simp) rfl rfl (sel Y.fill0 (by decide) (hw (.selects cls Bundle.tFill0 Bundle.tFill0) (by simp [Bundle.ownAtomsX]))) (sel Y.fill (by decide) (hw (.selects cls Bundle.tFill Bundle.tFill) (by simp [Bundle.ownAtomsX]))) hcellS hneS hknownS (by rw [hkeep _ List.not_mem_nil]; exact hu0) (by rw [hkeep _ List.not_mem_nil]; exact hsen)
    (Takes.of_laid hk hord tyC (by rw [Y.causeType]; rfl)) (Takes.of_laid hk hord tyS (by rw [Y.stackType]; exact fits_refV_array _ u0)) (Takes.of_laid hk hord tyP (by rw [Y.suppType]; exact fits_refV_object _ sen))
    (Takes.of_laid hk hord tyM (by rw [Y.msgType]; exact fits_refV_object _ ⟨msg, hmsg⟩)) Y.objLocals hskip htr [] hd6
    (by simp only [List.length_cons, hlen]; omega) (by simp only [List.length_cons, hlen]; exact hRlocals)
  obtain ⟨hwalk, hrun, hended, hWU, hsame⟩ := X₂.athrowLeaves hexec (g := { g with stack := .ref a :: rest, pc := g.pc + 3 }) hg hlocked hentered hout (a := a) (rest := rest) rfl hd9 hlocks
  have hlt : a < ((V.setVm vm₁).setVm vm₂).heap.size := (Array.getElem?_eq_some_iff.mp hcell).1
  refine ⟨_, st1 _ (fun acts => ?_), hrun, hended, hWU, hsame.weaken (fun y hy hlt' => ?_) (Nat.le_refl _) (Nat.le_refl _), _, heapAt_setCell_self (s := (V.setVm vm₁).setVm vm₂) (plainBareV T.toThrowableT (freshCell P1.m.cls kX) a u0 sen msg) hlt, hfound, rfl⟩
  · rw [doInvoke_state]
    exact st2 _ hwalk
  · exfalso
    have hb : y.base = a := by
      simp only [List.nil_append, List.mem_cons, List.not_mem_nil, or_false] at hy
      rcases hy with rfl | rfl | rfl | rfl | rfl <;> rfl
    rw [hb] at hlt'
    exact Nat.not_lt.mpr hnew hlt'
section XTHROW
variable {p : Program} {l : Launch} {e : Env} {R : Room} {s s0 : State} {m : MethodId} {args a0 : Array Value} {below : List Frame} {meth : Method} {c : Code} {H : Heap} {locs : List Loc}
variable {cc : ByteArray} {pc nL b0 ce sl ic ix is q : Nat} {ls : Array Slot} {rest : List Value} {ret : Option FieldType} {D : va_G} {cB cI cJ cZ cS cP : ClassId} {A free : Nat → Prop} {own X tx : String} {names : List String} {jx : Nat} {rx : ByteArray} {Qc : Array Value → State → Outcome → State → Prop}
/-- 'throw new X("..")' out of the method -/
theorem x_throw (C0 : XCx p s s0 b0 m args meth c own cc nL ret D cB cI cJ cZ cS cP A) (hS : va_S A s.heap H locs) (hL : l.stackTraces = false) (hT0 : ∀ w ∈ lwA, w.before a0 s0 = true) (hb0 : s0.heap.size ≤ b0)
    (x0 : decode rx 0 = .ok (.aload_n 0, 1)) (x1 : decode rx 1 = .ok (.aload_n 1, 1)) (x2 : decode rx 2 = .ok (.invokespecial jx, 3)) (x5 : decode rx 5 = .ok (.return_, 1)) (hat : ∀ w ∈ Bundle.ownAtomsX own ic X jx rx names, w ∈ lwA ∧ okw w = true) (hcl : Cond.classLink own ix X ∈ lwA) (hin : Cond.instantiable X 6 ∈ lwA) (hini : Cond.initialized X ∈ lwA)
    (hX : Bundle.fit X = true) (hN : ∀ n ∈ names, Bundle.fit n = true) (hR0 : vk_R own is tx q s0)
    (hout : ∀ x ∈ c.exceptionTable.toList, covers x (pc + 9) = false) (hfr : names.length + 3 < R.frames) (hlo : (rest.map fun v => v.category).sum + (13 * (names.length + 1) + 43) ≤ R.locals) (hc : ce + 1 ≤ R.cells) (hs : sl + 6 ≤ R.slots) (hsz : ls.size = nL)
    (d0 : decode cc pc = .ok (.new ix, 3)) (d3 : decode cc (pc + 3) = .ok (.dup, 1)) (d4 : decode cc (pc + 4) = .ok (.ldc is, 2)) (d6 : decode cc (pc + 6) = .ok (.invokespecial ic, 3)) (d9 : decode cc (pc + 9) = .ok (.athrow, 1)) (hf : ∀ z ∈ locs, free z.base)
    (hq : ∀ (t : State) (cell : Cell), s.WarmedH t.vm → t.heap[H.size]? = some cell → s.vm.findClass X = some cell.cls → cell.vm = .none → H.size ≤ t.heap.size → (∀ z, z < H.size → t.heap[z]? = H[z]?) → Qc args s (.threw H.size) t) :
    W p l e R s m args below meth c H locs ce sl (MQX below Qc args s (ce + 1) (sl + 6) free) (F0 m pc ls rest) := by
  obtain ⟨hx, hb, hr, hml, ht, hown, hK, hA, hlocks, hA0, hO, hbs⟩ := C0
  intro T hT X0
  have hTs : T.heap.size = H.size := by rw [hT]
  have X1 := st_again X0 (by omega) (by omega)
  have hW0 : s0.WarmedH T.vm := State.WarmedH.trans hO.1 X0.warmed
  have hH : ∀ z, z < s0.heap.size → T.heap[z]? = s0.heap[z]? := fun z hz => by
    rw [hT, hS.2.1 z (by omega) (fun w => absurd (hA0 z w) (by omega)), hO.2 z (by omega)]
  have hw : ∀ w, w ∈ lwA → okw w = true → w.before args (T.setFrames (.invoking m args :: below)) = true := fun w h1 h2 => st_word (s := T.setFrames (.invoking m args :: below)) hW0 hH h2 (hT0 w h1)
  have hown2 : (T.setFrames (.invoking m args :: below)).vm.findClass own = some m.cls := by
    show T.vm.findClass own = _
    rw [X0.warmed.alike.findClass]
    exact hown
  have htr : e.platform.stackTraces = false := by
    rw [X0.admits.platform]
    exact hL
  have key : W p l e { R with cells := R.cells - ce, slots := R.slots - sl } (T.setFrames (.invoking m args :: below)) m args below meth c H [] 0 0 (fun U => U.status = .running ∧ Ended U below (.threw H.size) ∧ (T.setFrames (.invoking m args :: below)).WarmedH U.vm ∧ (T.setFrames (.invoking m args :: below)).sameButNew ({ U with vm := T.vm } : State) [] 1 6 ∧ ∃ cell, U.heap[H.size]? = some cell ∧ T.vm.findClass X = some cell.cls ∧ cell.vm = .none) (F0 m pc ls rest) := by
    refine W.newc hx hb hown2 (hw _ hcl rfl) (hw _ hin rfl) (hw _ hini rfl) rfl d0 (by show 0 + 1 ≤ R.cells - ce; omega) (by show 0 + 6 ≤ R.slots - sl; omega) (fun cC kC h1 h2 h3 h4 => ?_)
    refine lv_dup hx hb d3 rfl ?_
    refine va_ldcS hx hb hown2 (vk_R.warm (U := T.setFrames (.invoking m args :: below)) hW0 hR0) d4 ?_
    intro T2 hT2 X2
    have hw2 : ∀ w, w ∈ Bundle.ownAtomsX own ic X jx rx names → w.before args (T.setFrames (.invoking m args :: below)) = true := fun w h => hw w (hat w h).1 (hat w h).2
    obtain ⟨U, q1, q2, q3, q4, q5, cell, q6, q7, q8⟩ := th_any X2 hx htr x0 x1 x2 x5 hown2 hX hN hw2 ⟨hw2 _ (by simp [Bundle.ownAtomsX]), hw2 _ (by simp [Bundle.ownAtomsX]), hw2 _ (by simp [Bundle.ownAtomsX])⟩ rfl h1 h2 (a := H.size) (by rw [hT2, Array.getElem?_push_size]) (by show T.heap.size ≤ H.size; omega) (msg := .ref q) rfl (g := F0 m (pc + 6) ls (.ref q :: .ref H.size :: .ref H.size :: rest)) rfl (hsz.trans hml.symm) rfl rfl (rest := rest) rfl (by rw [hb]; exact d6) (by rw [hb]; exact d9) hout hfr (by
        show 2 * 0 + ((Value.ref H.size :: rest).map fun v => v.category).sum + (13 * (names.length + 1) + 42) ≤ R.locals
        have e1 : ((Value.ref H.size :: rest).map fun v => v.category).sum = 1 + (rest.map fun v => v.category).sum := by simp [Value.category]
        omega) hlocks
    exact ⟨U, q1, q2, q3, q4, q5, cell, q6, q7, q8⟩
  obtain ⟨U, q1, q2, q3, q4, q5, cell, q6, q7, q8⟩ := key T hT X1
  have q9 := st_back X0 q5
  have q10 := same_nil q5
  have q11 : s.WarmedH U.vm := State.WarmedH.trans X0.warmed q4
  refine ⟨U, q1, .threw H.size, q2, q3, hq U cell q11 q6 (by rw [← X0.warmed.alike.findClass]; exact q7) q8 (by have h9 : T.heap.size ≤ U.heap.size := q5.2.1; omega) (fun z hz => ?_), locs, ⟨q11, by simpa using q9⟩, hf⟩
  have h9 := q10 z (by show z < T.heap.size; omega)
  rw [← hT]
  exact h9
end XTHROW
