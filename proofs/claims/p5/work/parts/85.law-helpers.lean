/-! the law's own helpers: the class's world and the law's array of one long -/
def oW (cJ : ClassId) (o : Nat) (f : Nat → Int64) : va_W := [(o, .inl (cJ, 1, .inr (.inl f)))]
def NC (s0 : State) (a b : String) : Prop := ∀ ca cb, s0.vm.findClass a = some ca → s0.vm.findClass b = some cb → s0.vm.assignable ca cb = false
def hPc (s0 : State) (b0 : Nat) (D : va_G) (cB cI cJ cZ cS cP : ClassId) (w : va_W) (sz : Nat) (As : List Value) : Array Value → State → Prop :=
  va_Pc As (fun U => U.heap.size = sz ∧ b0 ≤ sz ∧ va_P D cls w U.heap ∧ va_K D cls (ty6 cB cI cJ cZ cS cP) U ∧ va_D (fun q => b0 ≤ q) w ∧ OldOk s0 b0 U)
def hQc (D : va_G) (cB cI cJ cZ cS cP : ClassId) (A : Nat → Prop) (ad : Nat → Nat) (n : Nat) (x : CS) (o : Nat) (f : Nat → Int64) (code : Int32) : Array Value → State → Outcome → State → Prop := fun _ st oc t =>
  (∃ ad2 : Nat → Nat, oc = .returned (some (.int code)) ∧ (∀ i, i < n → ad2 i = ad i) ∧ va_P D cls (wC cB cI cJ cZ cS cP ad2 x ++ oW cJ o f) t.heap ∧ va_K D cls (ty6 cB cI cJ cZ cS cP) t ∧ va_D A (wC cB cI cJ cZ cS cP ad2 x ++ oW cJ o f)) ∧ va_F A st t
theorem hMetW {l : Launch} {s0 : State} {b0 : Nat} {y : MethodName} {own : String} {b : ByteArray} {n : Nat} {ret : Option FieldType} {hh : List (Nat × Nat × Nat × Nat)} {rm : Room} {D : va_G} {cB cI cJ cZ cS cP : ClassId} {w : va_W} {sz mc ms : Nat} {As : List Value} {Qc : Array Value → State → Outcome → State → Prop}
    (hy : plainName y.cls = true) (hcls : y.cls = own) (hlen : (lg_sl As).length ≤ n)
    (walk : ∀ (p : Program) (e : Env) (s : State) (m : MethodId) (below : List Frame) (meth : Method) (c : Code) (ls : Array Slot), s.heap.size = sz → c.exceptionTable.toList = hh.map (fun q => (⟨q.1, q.2.1, q.2.2.1, q.2.2.2⟩ : ExceptionTableEntry)) → XCx p s s0 b0 m As.toArray meth c own b n ret D cB cI cJ cZ cS cP (va_A w sz) → va_P D cls w s.heap → va_D (va_A w sz) w → va_S (va_A w sz) s.heap s.heap [] → lv_has ls n (lv_args 0 As) →
      W p l e rm s m As.toArray below meth c s.heap [] 0 0 (MQ below Qc As.toArray s mc ms (va_A w sz)) (F0 m 0 ls [])) :
    Met l y (wd_wsW y b n ret hh) rm (hPc s0 b0 D cB cI cJ cZ cS cP w sz As) Qc mc ms (va_A w sz) := by
  refine va_MetW (cc := b) (maxL := n) (ret := ret) (hh := hh) hy rfl ?_
  intro p e s m args below meth c s₁ B hml hv
  obtain ⟨rfl, hsz, hbz, hP, hK, hD0, hO⟩ := hv
  have hts := atoms_spec (ws := wd_wsW y b n ret hh) B.pre
  have hown : s.vm.findClass own = some m.cls := by rw [← hcls]; exact findClass_of_methodNamed B.named
  have hex : c.exceptionTable.toList = hh.map (fun q => (⟨q.1, q.2.1, q.2.2.1, q.2.2.2⟩ : ExceptionTableEntry)) := by
    obtain ⟨m9, meth9, c9, hn9, h1, h2, -, -, h5, -⟩ := Cond.codeWith_spec (hts _ List.mem_cons_self)
    cases B.named.symm.trans hn9
    cases B.method.symm.trans h1
    cases (Stand.of_body B).code.symm.trans h2
    rw [← h5, ex_tbl]
  have hD := hD0.self (sz := sz)
  have hl := lv_entry As (n := n) hlen
  rw [lg_entry_eq]
  generalize (lg_sl As ++ List.replicate (n - (lg_sl As).length) Slot.unset).toArray = ls at hl ⊢
  refine walk p e s m below meth c ls hsz hex ⟨B.exec, B.bytes, B.returns, hml, fun w h => hts w (List.mem_cons_of_mem _ h), hown, hK, fun q h => Or.inr (by omega), B.notSynchronized, fun q h => ?_, hO, by omega⟩ hP hD va_S.rf hl
  rcases h with ⟨k, e1, h⟩ | h
  · exact hD0.2 k _ h
  · omega
section HROW
variable {p : Program} {l : Launch} {e : Env} {R : Room} {s s0 : State} {m : MethodId} {args : Array Value} {below : List Frame} {meth : Method} {c : Code} {H : Heap} {locs : List Loc} {cells slots : Nat} {Q : State → Prop}
variable {cc : ByteArray} {pc nL n idx b0 i ci nF k o : Nat} {ls : Array Slot} {rest st : List Value} {ret rt : Option FieldType} {D : va_G} {cB cI cJ cZ cS cP : ClassId} {A : Nat → Prop} {ad ad0 : Nat → Nat} {u x : CS} {y : MethodName} {b : ByteArray} {rm : Room} {As : List Value} {nA mc ms : Nat} {own C : String} {F : u_T} {ty : Nat → FieldType} {sk sv : Nat → Nat} {r : va_W} {f : Nat → Int64}
/-- what was thrown passes some rows and is caught by one -/
theorem wt_catchN (C0 : XCx p s s0 b0 m args meth c own cc nL ret D cB cI cJ cZ cS cP A) (hE : ENV s0 b0 sk sv) (pre : List ExceptionTableEntry) (row : ExceptionTableEntry) (rows : List ExceptionTableEntry) (hsp : c.exceptionTable.toList = pre ++ row :: rows) (hpass : ∀ y ∈ pre, ∃ nm, y.catchType ≠ 0 ∧ Cond.classLink own y.catchType nm ∈ wd_tbl ∧ NC s0 (exN k) nm) (hcv : covers row pc = true) (h0 : row.catchType ≠ 0) (hl : Cond.classLink own row.catchType (exN k) ∈ wd_tbl) (hca : Cond.castable (exN k) (exN k) ∈ lwA) {w : Addr} {cell : Cell} (h1 : H[w]? = some cell) (h2 : s.vm.findClass (exN k) = some cell.cls) (h3 : cell.vm = .none)
    (kk : W p l e R s m args below meth c H locs cells slots Q (F0 m row.handlerPc ls [.ref w])) : WT p l e R s m args below meth c H locs cells slots Q (F0 m pc ls rest) w := by
  obtain ⟨hx, hb, hr2, hml, ht, hown, hK, hA, hlocks, hA0, hO, hbs⟩ := C0
  obtain ⟨⟨a0, hT0⟩, hb0, -⟩ := hE
  intro T hT X
  have hcs : (Cond.castable (exN k) (exN k)).before args s = true := st_word (s := s) hO.1 (fun z hz => hO.2 z (by omega)) rfl (hT0 _ hca)
  obtain ⟨c3, c4, hc3, hc4, hasg⟩ := Cond.castable_spec hcs
  cases Option.some.inj (hc3.symm.trans h2)
  cases Option.some.inj (hc4.symm.trans h2)
  obtain ⟨hend, hk0⟩ := X.catches_of_link hown h0 (ht _ hl) h2 hasg
  have hpl : e.platform.magicAccessors = ({} : Platform).magicAccessors := by rw [X.admits.platform]
  obtain ⟨vm', X', sx⟩ := X.caughtThrough w (g := F0 m pc ls rest) rfl (by rw [hT]; exact h1) (by rw [h3]; rfl) hk0 pre row rows hsp (fun y hy => by
    obtain ⟨nm, g1, g2, g3⟩ := hpass y hy
    obtain ⟨c', hc', hcl⟩ := Cond.classLink_spec hown (ht _ g2) e.platform hpl
    refine Or.inr ⟨g1, c', hcl, ?_⟩
    rw [hO.1.alike.assignable]
    exact g3 _ _ (by rw [← hO.1.alike.findClass]; exact h2) (by rw [← hO.1.alike.findClass]; exact hc')) hcv hend
  obtain ⟨t, q1, q2⟩ := kk (T.setVm vm') hT X'
  refine ⟨t, ?_, q2⟩
  rw [X.pushThrowing_eq]
  exact sx t q1
theorem h_ret {v : Int32} (C0 : XCx p s s0 b0 m args meth c own cc nL (some .int) D cB cI cJ cZ cS cP A) (hP : va_P D cls (wC cB cI cJ cZ cS cP ad u ++ oW cJ o f) H) (hD : va_D A (wC cB cI cJ cZ cS cP ad u ++ oW cJ o f)) (hS : va_S A s.heap H locs) (hag : ∀ i, i < n → ad i = ad0 i) (h1 : cells ≤ mc) (h2 : slots ≤ ms) (hdg : decode cc pc = .ok (.ireturn, 1)) : W p l e R s m args below meth c H locs cells slots (MQ below (hQc D cB cI cJ cZ cS cP A ad0 n u o f v) args s mc ms A) (F0 m pc ls [.int v]) := by
  obtain ⟨hx, hb, hr, hml, ht, hown, hK, hA, hlocks, hA0, hO, hbs⟩ := C0
  exact W.widen h1 h2 (W.iret hx hb hr (fun t h hW => ⟨⟨ad, rfl, hag, by rw [h]; exact hP, va_K.moved hW.alike hK, hD⟩, hS.F h⟩) hS.2.2 hdg)
/-- a call of a thrower that is the class's, beside a rest: it throws -/
theorem h_runT {Qc : Array Value → State → Outcome → State → Prop} (C0 : XCx p s s0 b0 m args meth c own cc nL ret D cB cI cJ cZ cS cP A) (hP : va_P D cls (wC cB cI cJ cZ cS cP ad u) H) (hD : va_D A (wC cB cI cJ cZ cS cP ad u)) (hS : va_S A s.heap H locs) (K : CKl cls ci C F nF ty) (hrc0 : isO u i ci = true)
    (hC : MetX l y (wd_ws y b n rt) rm (xPc s0 b0 D cB cI cJ cZ cS cP ad u H.size (.ref (ad i) :: As)) Qc mc ms (xA cB cI cJ cZ cS cP ad u H.size)) (hthr : ∀ a st o t, Qc a st o t → ∃ x, o = .threw x)
    (hk : Cond.code y b n rt ∈ wd_tbl) (hl : Cond.methodLink own idx y ∈ wd_tbl) (hi : Cond.instanceMethod y ∈ wd_tbl) (hsel : Cond.selects C y y ∈ wd_tbl) (hini : Cond.initialized C ∈ wd_tbl) (hrc : rm.cells = mc) (hrs : rm.slots = ms)
    (hd : y.cls = C ∧ y.cls ≠ "java/lang/invoke/MethodHandle" ∧ y.cls ≠ "java/lang/invoke/VarHandle" ∧ (parseMethodDescriptor y.desc).map (fun d => d.parameters.length) = some nA) (hAs : As.length = nA) (hR : rm.frames + 1 ≤ R.frames ∧ 8 + (n + 11) + rm.locals ≤ R.locals) (hsz : ls.size = nL) (hr8 : (rest.map fun v => v.category).sum ≤ 8) (hdg : decode cc pc = .ok (.invokevirtual idx, 3)) (hst0 : st = As.reverse ++ .ref (ad i) :: rest) (hf : cells + mc ≤ R.cells ∧ slots + ms ≤ R.slots) :
    RunT p l e R s m args below meth c H locs cells slots mc ms (F0 m pc ls st) rest (Qc (Value.ref (ad i) :: As).toArray) (xA cB cI cJ cZ cS cP ad u H.size) := by
  have hp := x_pre (As := (.ref (ad i) :: As)) C0 hP hD hS
  obtain ⟨hx, hb, hr, hml, ht, hown, hK, hA, hlocks, hA0, hO, hbs⟩ := id C0
  subst hst0
  obtain ⟨f, hil, hif⟩ := isO_some hrc0
  have hrecv := va_recv hK hP K.1 (q0 := i) (fs := fl nF (fun j => lvV ad (f j))) (by rw [wC_at hil, hif]; show some (ad i, Sum.inr (ci, fl (clN ci) _)) = _; rw [clN_of K.1])
  have hG : GoodIn wd_tbl (wsV own idx C y (wd_ws y b n rt)) := fun w h => by
    rcases List.mem_append.mp h with h | h
    · have hm : w ∈ wd_tbl := by
        simp only [List.mem_cons, List.not_mem_nil, or_false] at h
        rcases h with rfl | rfl | rfl | rfl
        · exact hl
        · exact hi
        · exact hsel
        · exact hini
      exact ⟨hm, wd_gd hm⟩
    · exact wd_in (fun _ z => z) hk w h
  exact runVT (As := As) (rest := rest) ⟨hx, hb, hml, hown, ht⟩ hC hthr (cwV nA ht hG rfl hrc hrs hd hR) ⟨hp.1, hrecv, hp.2⟩ rfl hAs hsz rfl (by simpa using hr8) hdg hf
/-- the law's array of one long, written -/
theorem h_out (hx : p.tables.exec = Jvm.exec) (hb : c.code = cc) (hK : va_K D cls (ty6 cB cI cJ cZ cS cP) s) {w : va_W} (hP : va_P D cls (w ++ oW cJ o f) H) (hD : va_D A (w ++ oW cJ o f)) (hS : va_S A s.heap H locs) {z : Int64} (hdg : decode cc pc = .ok (.lastore, 1))
    (kk : ∀ (H1 : Heap) (locs1 : List Loc), va_P D cls (w ++ oW cJ o (vp_updL f 0 z)) H1 → va_D A (w ++ oW cJ o (vp_updL f 0 z)) → va_S A s.heap H1 locs1 → W p l e R s m args below meth c H1 locs1 cells slots Q (F0 m (pc + 1) ls rest)) : W p l e R s m args below meth c H locs cells slots Q (F0 m pc ls (.long z :: .int 0 :: .ref o :: rest)) := by
  have hP2 : va_P D cls (oW cJ o f ++ w) H := wP_perm List.perm_append_comm hP
  have hD2 : va_D A (oW cJ o f ++ w) := wD_perm List.perm_append_comm hD
  refine va_last hx hb hK hP2 hD2 hS 0 2 (f := f) rfl rfl (fun h => by rcases h with h | h <;> revert h <;> decide) hdg (fun H1 locs1 hP1 hD1 hS1 => ?_)
  have e1 : (oW cJ o f ++ w).set 0 (o, .inl (cJ, 1, .inr (.inl (vp_updL f (0 : Int32).toNatClampNeg z)))) = oW cJ o (vp_updL f 0 z) ++ w := rfl
  rw [e1] at hP1 hD1
  exact kk H1 locs1 (wP_perm List.perm_append_comm hP1) (wD_perm List.perm_append_comm hD1) hS1
end HROW
