/-! a contract of the class's methods over its heap as a value -/
def OldOk (s0 : State) (b0 : Nat) (U : State) : Prop := s0.WarmedH U.vm ∧ ∀ q, q < b0 → U.heap[q]? = s0.heap[q]?
def xPc (s0 : State) (b0 : Nat) (D : va_G) (cB cI cJ cZ cS cP : ClassId) (ad : Nat → Nat) (u : CS) (sz : Nat) (As : List Value) : Array Value → State → Prop :=
  va_Pc As (fun U => U.heap.size = sz ∧ b0 ≤ sz ∧ va_P D cls (wC cB cI cJ cZ cS cP ad u) U.heap ∧ va_K D cls (ty6 cB cI cJ cZ cS cP) U ∧ va_D (fun q => b0 ≤ q) (wC cB cI cJ cZ cS cP ad u) ∧ OldOk s0 b0 U)
def xB (D : va_G) (cB cI cJ cZ cS cP : ClassId) (A : Nat → Prop) (ad : Nat → Nat) (u : CS) (t : State) : Prop :=
  va_P D cls (wC cB cI cJ cZ cS cP ad u) t.heap ∧ va_K D cls (ty6 cB cI cJ cZ cS cP) t ∧ va_D A (wC cB cI cJ cZ cS cP ad u)
/-- it returns a value (none: void); the heap holds the new state, under an address map that agrees with the old one on what was there -/
def xQ (D : va_G) (cB cI cJ cZ cS cP : ClassId) (A : Nat → Prop) (ad : Nat → Nat) (n : Nat) (x : CS) (v : Option LV) : Array Value → State → Outcome → State → Prop := fun _ st oc t =>
  (∃ ad2 : Nat → Nat, oc = .returned (v.map (lvV ad2)) ∧ (∀ i, i < n → ad2 i = ad i) ∧ xB D cB cI cJ cZ cS cP A ad2 x t) ∧ va_F A st t
abbrev xA (cB cI cJ cZ cS cP : ClassId) (ad : Nat → Nat) (u : CS) (sz : Nat) : Nat → Prop := va_A (wC cB cI cJ cZ cS cP ad u) sz
def XCx (p : Program) (s s0 : State) (b0 : Nat) (m : MethodId) (args : Array Value) (meth : Method) (c : Code) (own : String) (cc : ByteArray) (nL : Nat) (ret : Option FieldType) (D : va_G) (cB cI cJ cZ cS cP : ClassId) (A : Nat → Prop) : Prop :=
  p.tables.exec = Jvm.exec ∧ c.code = cc ∧ meth.sig.returnType = ret ∧ c.maxLocals = nL ∧ (∀ w ∈ wd_tbl, w.before args s = true) ∧ s.vm.findClass own = some m.cls ∧ va_K D cls (ty6 cB cI cJ cZ cS cP) s ∧ (∀ q, s.heap.size ≤ q → A q) ∧ meth.locks = false ∧ (∀ q, A q → b0 ≤ q) ∧ OldOk s0 b0 s ∧ b0 ≤ s.heap.size
section XRET
variable {p : Program} {l : Launch} {e : Env} {R : Room} {s s0 : State} {m : MethodId} {args : Array Value} {below : List Frame} {meth : Method} {c : Code} {H : Heap} {locs : List Loc}
variable {cc : ByteArray} {pc nL b0 ce sl mc ms n : Nat} {ls : Array Slot} {D : va_G} {cB cI cJ cZ cS cP : ClassId} {A : Nat → Prop} {ad ad0 : Nat → Nat} {u : CS} {own : String}
theorem xr_i {v : Int32} {x : CS × Int32} (C0 : XCx p s s0 b0 m args meth c own cc nL (some .int) D cB cI cJ cZ cS cP A) (hP : va_P D cls (wC cB cI cJ cZ cS cP ad u) H) (hD : va_D A (wC cB cI cJ cZ cS cP ad u)) (hS : va_S A s.heap H locs) (hag : ∀ i, i < n → ad i = ad0 i) (hmc : ce = mc) (hms : sl = ms) (hf : some (u, v) = some x) (hdg : decode cc pc = .ok (.ireturn, 1)) : W p l e R s m args below meth c H locs ce sl (MQ below (xQ D cB cI cJ cZ cS cP A ad0 n x.1 (some (.inl x.2))) args s mc ms A) (F0 m pc ls [.int v]) := by
  obtain ⟨hx, hb, hr, hml, ht, hown, hK, hA, hlocks, hA0, hO, hbs⟩ := C0
  cases hf
  subst hmc
  subst hms
  exact W.iret hx hb hr (fun t h hW => ⟨⟨ad, rfl, hag, by rw [h]; exact hP, va_K.moved hW.alike hK, hD⟩, hS.F h⟩) hS.2.2 hdg
theorem xr_z {v : Int32} {x : CS × Int32} (C0 : XCx p s s0 b0 m args meth c own cc nL (some .boolean) D cB cI cJ cZ cS cP A) (hP : va_P D cls (wC cB cI cJ cZ cS cP ad u) H) (hD : va_D A (wC cB cI cJ cZ cS cP ad u)) (hS : va_S A s.heap H locs) (hag : ∀ i, i < n → ad i = ad0 i) (hmc : ce = mc) (hms : sl = ms) (hz : isb v = true) (hf : some (u, v) = some x) (hdg : decode cc pc = .ok (.ireturn, 1)) : W p l e R s m args below meth c H locs ce sl (MQ below (xQ D cB cI cJ cZ cS cP A ad0 n x.1 (some (.inl x.2))) args s mc ms A) (F0 m pc ls [.int v]) := by
  obtain ⟨hx, hb, hr, hml, ht, hown, hK, hA, hlocks, hA0, hO, hbs⟩ := C0
  cases hf
  subst hmc
  subst hms
  exact W.zret hx hb hr (isb_n hz) (fun t h hW => ⟨⟨ad, rfl, hag, by rw [h]; exact hP, va_K.moved hW.alike hK, hD⟩, hS.F h⟩) hS.2.2 hdg
theorem xr_l {v : Int64} {x : CS × Int64} (C0 : XCx p s s0 b0 m args meth c own cc nL (some .long) D cB cI cJ cZ cS cP A) (hP : va_P D cls (wC cB cI cJ cZ cS cP ad u) H) (hD : va_D A (wC cB cI cJ cZ cS cP ad u)) (hS : va_S A s.heap H locs) (hag : ∀ i, i < n → ad i = ad0 i) (hmc : ce = mc) (hms : sl = ms) (hf : some (u, v) = some x) (hdg : decode cc pc = .ok (.lreturn, 1)) : W p l e R s m args below meth c H locs ce sl (MQ below (xQ D cB cI cJ cZ cS cP A ad0 n x.1 (some (.inr (.inl x.2)))) args s mc ms A) (F0 m pc ls [.long v]) := by
  obtain ⟨hx, hb, hr, hml, ht, hown, hK, hA, hlocks, hA0, hO, hbs⟩ := C0
  cases hf
  subst hmc
  subst hms
  exact W.lret hx hb hr (fun t h hW => ⟨⟨ad, rfl, hag, by rw [h]; exact hP, va_K.moved hW.alike hK, hD⟩, hS.F h⟩) hS.2.2 hdg
theorem xr_v {x : CS × Unit} (C0 : XCx p s s0 b0 m args meth c own cc nL none D cB cI cJ cZ cS cP A) (hP : va_P D cls (wC cB cI cJ cZ cS cP ad u) H) (hD : va_D A (wC cB cI cJ cZ cS cP ad u)) (hS : va_S A s.heap H locs) (hag : ∀ i, i < n → ad i = ad0 i) (hmc : ce = mc) (hms : sl = ms) (hf : some (u, ()) = some x) (hdg : decode cc pc = .ok (.return_, 1)) : W p l e R s m args below meth c H locs ce sl (MQ below (xQ D cB cI cJ cZ cS cP A ad0 n x.1 none) args s mc ms A) (F0 m pc ls []) := by
  obtain ⟨hx, hb, hr, hml, ht, hown, hK, hA, hlocks, hA0, hO, hbs⟩ := C0
  cases hf
  subst hmc
  subst hms
  exact W.vret hx hb hr (fun t h hW => ⟨⟨ad, rfl, hag, by rw [h]; exact hP, va_K.moved hW.alike hK, hD⟩, hS.F h⟩) hS.2.2 hdg
theorem xr_r {v : Option Nat} {x : CS × Option Nat} {C : String} (C0 : XCx p s s0 b0 m args meth c own cc nL (some (.object C)) D cB cI cJ cZ cS cP A) (hP : va_P D cls (wC cB cI cJ cZ cS cP ad u) H) (hD : va_D A (wC cB cI cJ cZ cS cP ad u)) (hS : va_S A s.heap H locs) (hag : ∀ i, i < n → ad i = ad0 i) (hmc : ce = mc) (hms : sl = ms) (hf : some (u, v) = some x) (hdg : decode cc pc = .ok (.areturn, 1)) : W p l e R s m args below meth c H locs ce sl (MQ below (xQ D cB cI cJ cZ cS cP A ad0 n x.1 (some (.inr (.inr x.2)))) args s mc ms A) (F0 m pc ls [va_rf (v.map ad)]) := by
  obtain ⟨hx, hb, hr, hml, ht, hown, hK, hA, hlocks, hA0, hO, hbs⟩ := C0
  cases hf
  subst hmc
  subst hms
  exact W.aret hx hb hr (Or.inl ⟨C, rfl⟩) (by cases v with | none => exact Or.inl rfl | some k => exact Or.inr ⟨ad k, rfl⟩) (fun t h hW => ⟨⟨ad, rfl, hag, by rw [h]; exact hP, va_K.moved hW.alike hK, hD⟩, hS.F h⟩) hS.2.2 hdg
end XRET
/-- a contract out of a walk from the entry -/
theorem xMet {l : Launch} {s0 : State} {b0 : Nat} {y : MethodName} {own : String} {b : ByteArray} {n : Nat} {ret : Option FieldType} {rm : Room} {D : va_G} {cB cI cJ cZ cS cP : ClassId} {ad : Nat → Nat} {u : CS} {sz mc ms : Nat} {As : List Value} {Qc : Array Value → State → Outcome → State → Prop}
    (hy : plainName y.cls = true) (hcls : y.cls = own) (hlen : (lg_sl As).length ≤ n)
    (walk : ∀ (p : Program) (e : Env) (s : State) (m : MethodId) (below : List Frame) (meth : Method) (c : Code) (ls : Array Slot), s.heap.size = sz → meth.name = y.name → XCx p s s0 b0 m As.toArray meth c own b n ret D cB cI cJ cZ cS cP (xA cB cI cJ cZ cS cP ad u sz) → va_P D cls (wC cB cI cJ cZ cS cP ad u) s.heap → va_D (xA cB cI cJ cZ cS cP ad u sz) (wC cB cI cJ cZ cS cP ad u) → va_S (xA cB cI cJ cZ cS cP ad u sz) s.heap s.heap [] → lv_has ls n (lv_args 0 As) →
      W p l e rm s m As.toArray below meth c s.heap [] 0 0 (MQ below Qc As.toArray s mc ms (xA cB cI cJ cZ cS cP ad u sz)) (F0 m 0 ls [])) :
    Met l y (wd_ws y b n ret) rm (xPc s0 b0 D cB cI cJ cZ cS cP ad u sz As) Qc mc ms (xA cB cI cJ cZ cS cP ad u sz) := by
  refine Met.ofW (cc := b) (maxL := n) (ret := ret) hy rfl ?_
  intro p e s m args below meth c s₁ B hml hv
  obtain ⟨rfl, hsz, hbz, hP, hK, hD0, hO⟩ := hv
  have hts := atoms_spec (ws := wd_ws y b n ret) B.pre
  have hown : s.vm.findClass own = some m.cls := by rw [← hcls]; exact findClass_of_methodNamed B.named
  have hD := hD0.self (sz := sz)
  have hl := lv_entry As (n := n) hlen
  rw [lg_entry_eq]
  generalize (lg_sl As ++ List.replicate (n - (lg_sl As).length) Slot.unset).toArray = ls at hl ⊢
  refine walk p e s m below meth c ls hsz (name_of_methodNamed B.named B.method).1 ⟨B.exec, B.bytes, B.returns, hml, fun w h => hts w (List.mem_cons_of_mem _ h), hown, hK, fun q h => Or.inr (by omega), B.notSynchronized, fun q h => ?_, hO, by omega⟩ hP hD va_S.rf hl
  rcases h with ⟨k, e1, h⟩ | h
  · exact hD0.2 k _ h
  · omega
section XCALL
variable {p : Program} {l : Launch} {e : Env} {R : Room} {s s0 : State} {m : MethodId} {args : Array Value} {below : List Frame} {meth : Method} {c : Code} {H : Heap} {locs : List Loc} {cells slots : Nat} {Q : State → Prop}
variable {cc : ByteArray} {pc nL n idx b0 : Nat} {ls : Array Slot} {rest st0 : List Value} {ret rt : Option FieldType} {D : va_G} {cB cI cJ cZ cS cP : ClassId} {A : Nat → Prop} {ad : Nat → Nat} {u : CS} {y : MethodName} {b : ByteArray} {rm : Room} {As : List Value} {nA mc ms : Nat} {own C : String} {a : Array Value}
/-- behind a call that returned -/
theorem x_back {x : CS} {v : Option LV} {N : Nat} (C0 : XCx p s s0 b0 m args meth c own cc nL ret D cB cI cJ cZ cS cP A) (hD : va_D A (wC cB cI cJ cZ cS cP ad u)) (hS : va_S A s.heap H locs)
    (hr : va_Run p l e R s m args below meth c H locs cells slots mc ms (F0 m pc ls st0) rest (xQ D cB cI cJ cZ cS cP (xA cB cI cJ cZ cS cP ad u H.size) ad N x v a) (xA cB cI cJ cZ cS cP ad u H.size))
    (kk : ∀ (ad2 : Nat → Nat) (H1 : Heap) (locs1 : List Loc), (∀ i, i < N → ad2 i = ad i) → va_P D cls (wC cB cI cJ cZ cS cP ad2 x) H1 → va_D A (wC cB cI cJ cZ cS cP ad2 x) → va_S A s.heap H1 locs1 → W p l e R s m args below meth c H1 locs1 (cells + mc) (slots + ms) Q (F0 m (pc + 3) ls ((v.map (lvV ad2)).toList ++ rest))) :
    W p l e R s m args below meth c H locs cells slots Q (F0 m pc ls st0) := by
  obtain ⟨hx, hb, hr2, hml, ht, hown, hK, hA, hlocks, hA0, hO, hbs⟩ := C0
  have hFc : ∀ q, xA cB cI cJ cZ cS cP ad u H.size q → A q := fun q h => by
    rcases h with ⟨k, e1, h⟩ | h
    · exact hD.2 k _ h
    · exact hA q (Nat.le_trans hS.1 h)
  intro T hT X
  obtain ⟨v1, st₀, t, T', L, h0, X', hL, e1, e2, ⟨⟨ad2, hv, hag, hP2, hK2, hD2⟩, hz, hk⟩, st⟩ := hr T hT X
  cases hv
  rw [h0] at hz hk
  obtain ⟨t2, a1, b1⟩ := kk ad2 T'.heap (locs ++ L) hag (by rw [e1]; exact hP2) (hD2.weaken (fun _ _ _ h => hFc _ h))
    ⟨Nat.le_trans hS.1 (by rw [e1]; exact hz), fun q h1 h2 => by rw [e1, hk q (Nat.lt_of_lt_of_le h1 hS.1) (fun z => h2 (hFc q z))]; exact hS.2.1 q h1 h2, fun q hq => by
      rcases List.mem_append.mp hq with h | h
      · exact hS.2.2 q h
      · exact hFc _ (hL q h)⟩ T' rfl X'
  exact ⟨t2, st t2 a1, b1⟩
/-- what a callee may count on -/
theorem x_pre (C0 : XCx p s s0 b0 m args meth c own cc nL ret D cB cI cJ cZ cS cP A) (hP : va_P D cls (wC cB cI cJ cZ cS cP ad u) H) (hD : va_D A (wC cB cI cJ cZ cS cP ad u)) (hS : va_S A s.heap H locs) : FrameBlind (xPc s0 b0 D cB cI cJ cZ cS cP ad u H.size As) ∧ ∀ U : State, U.heap = H → s.WarmedH U.vm → xPc s0 b0 D cB cI cJ cZ cS cP ad u H.size As As.toArray U := by
  obtain ⟨hx, hb, hr2, hml, ht, hown, hK, hA, hlocks, hA0, hO, hbs⟩ := C0
  refine ⟨fun a U g mk q => ?_, fun U hU hW => ⟨rfl, by rw [hU], Nat.le_trans hbs hS.1, by rw [hU]; exact hP, va_K.moved hW.alike hK, hD.weaken (fun _ _ _ h => hA0 _ h), State.WarmedH.trans hO.1 hW, fun q h => ?_⟩⟩
  · obtain ⟨q0, q1, q2, qP, qK, qD, qO⟩ := q
    exact ⟨q0, q1, q2, qP, va_K.moved (u := U) (U := U.calling g mk a) (Vm.Alike.refl U.vm) qK, qD, qO⟩
  · rw [hU, hS.2.1 q (Nat.lt_of_lt_of_le h hbs) (fun z => absurd (hA0 q z) (Nat.not_le.mpr h))]
    exact hO.2 q h
end XCALL
