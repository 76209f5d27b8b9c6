/-! pure programs that may fail; a contract of the reference's methods over its state as a value -/
def ck {α : Type} (b : Bool) (x : Option α) : Option α := if b = true then x else none
theorem ck_some {α : Type} {b : Bool} {x : Option α} {r : α} (h : ck b x = some r) : b = true ∧ x = some r := by
  unfold ck at h
  by_cases hb : b = true
  · rw [if_pos hb] at h
    exact ⟨hb, h⟩
  · rw [if_neg hb] at h
    cases h
def br {α : Type} (b : Bool) (x y : α) : α := if b = true then x else y
theorem br_p {α : Type} {c : Prop} (d : Decidable c) {x y : α} (h : c) : br (@decide c d) x y = x := if_pos (decide_eq_true h)
theorem br_n {α : Type} {c : Prop} (d : Decidable c) {x y : α} (h : ¬ c) : br (@decide c d) x y = y := if_neg (fun z => h (of_decide_eq_true z))
def bnd {α β : Type} (x : Option (MS × α)) (f : MS → α → Option β) : Option β := match x with
  | none => none
  | some q => f q.1 q.2
theorem bnd_some {α β : Type} {x : Option (MS × α)} {f : MS → α → Option β} {r : β} (h : bnd x f = some r) : ∃ u v, x = some (u, v) ∧ f u v = some r := by
  cases x with
  | none => cases h
  | some q => exact ⟨q.1, q.2, rfl, h⟩
def isK (k t : Nat) : Bool := decide (k ∈ AK) && decide (kd k = t)
theorem isK_1 {k t : Nat} (h : isK k t = true) : k ∈ AK := by
  unfold isK at h
  rw [Bool.and_eq_true] at h
  exact of_decide_eq_true h.1
theorem isK_2 {k t : Nat} (h : isK k t = true) : kd k = t := by
  unfold isK at h
  rw [Bool.and_eq_true] at h
  exact of_decide_eq_true h.2
def isb (v : Int32) : Bool := decide (v = 0 ∨ v = 1)
theorem isb_n {v : Int32} (h : isb v = true) : narrow .boolean (.int v) = .int v := by
  rcases (of_decide_eq_true h : v = 0 ∨ v = 1) with rfl | rfl <;> rfl
theorem isb_f {v : Int32} (h : isb v = true) : fits .boolean (.int v) = true := by
  rcases (of_decide_eq_true h : v = 0 ∨ v = 1) with rfl | rfl <;> rfl
theorem wM_D {cB cI cJ cZ cS : ClassId} {iM h0 : Nat} {ad : Nat → Nat} {u u2 : MS} {A : Nat → Prop} (h : va_D A (wM cB cI cJ cZ cS iM h0 ad u)) : va_D A (wM cB cI cJ cZ cS iM h0 ad u2) := by
  have h1 := wD_nd.mp h
  have e1 : ∀ v : MS, (wM cB cI cJ cZ cS iM h0 ad v).map Prod.fst = h0 :: AK.map ad := fun v => by
    unfold wM
    rw [List.map_cons, List.map_map]
    rfl
  refine wD_nd.mpr ⟨by rw [e1, ← e1 u]; exact h1.1, fun q hq => ?_⟩
  have h2 : q.1 ∈ (wM cB cI cJ cZ cS iM h0 ad u).map Prod.fst := by
    rw [e1, ← e1 u2]
    exact List.mem_map_of_mem hq
  obtain ⟨q2, h3, h4⟩ := List.mem_map.mp h2
  rw [← h4]
  exact h1.2 q2 h3
def mPc (D : va_G) (cl : List vw_C) (cB cI cJ cZ cS : ClassId) (iM h0 : Nat) (ad : Nat → Nat) (u : MS) (sz : Nat) (As : List Value) : Array Value → State → Prop :=
  va_Pc As (fun U => U.heap.size = sz ∧ va_P D cl (wM cB cI cJ cZ cS iM h0 ad u) U.heap ∧ va_K D cl (ty5 cB cI cJ cZ cS) U ∧ va_D (fun _ => True) (wM cB cI cJ cZ cS iM h0 ad u))
def mB (D : va_G) (cl : List vw_C) (cB cI cJ cZ cS : ClassId) (iM h0 : Nat) (ad : Nat → Nat) (A : Nat → Prop) (u : MS) (t : State) : Prop :=
  va_P D cl (wM cB cI cJ cZ cS iM h0 ad u) t.heap ∧ va_K D cl (ty5 cB cI cJ cZ cS) t ∧ va_D A (wM cB cI cJ cZ cS iM h0 ad u)
abbrev mA (cB cI cJ cZ cS : ClassId) (iM h0 : Nat) (ad : Nat → Nat) (u : MS) (sz : Nat) : Nat → Prop := va_A (wM cB cI cJ cZ cS iM h0 ad u) sz
def mQi (D : va_G) (cl : List vw_C) (cB cI cJ cZ cS : ClassId) (iM h0 : Nat) (ad : Nat → Nat) (A : Nat → Prop) (x : MS × Int32) : Array Value → State → Outcome → State → Prop :=
  va_Qi (fun (r : Int32) (v : MS) => r = x.2 ∧ v = x.1) (mB D cl cB cI cJ cZ cS iM h0 ad A) A
def mQl (D : va_G) (cl : List vw_C) (cB cI cJ cZ cS : ClassId) (iM h0 : Nat) (ad : Nat → Nat) (A : Nat → Prop) (x : MS × Int64) : Array Value → State → Outcome → State → Prop :=
  va_Ql (fun (r : Int64) (v : MS) => r = x.2 ∧ v = x.1) (mB D cl cB cI cJ cZ cS iM h0 ad A) A
def mQv (D : va_G) (cl : List vw_C) (cB cI cJ cZ cS : ClassId) (iM h0 : Nat) (ad : Nat → Nat) (A : Nat → Prop) (x : MS × Unit) : Array Value → State → Outcome → State → Prop :=
  va_Qv (fun (v : MS) => v = x.1) (mB D cl cB cI cJ cZ cS iM h0 ad A) A
/-- what stands fixed while a method of the reference is walked -/
def MCx (p : Program) (s : State) (m : MethodId) (args : Array Value) (meth : Method) (c : Code) (cc : ByteArray) (nL : Nat) (ret : Option FieldType) (D : va_G) (cl : List vw_C) (cB cI cJ cZ cS : ClassId) (iM : Nat) (A : Nat → Prop) : Prop :=
  p.tables.exec = Jvm.exec ∧ c.code = cc ∧ meth.sig.returnType = ret ∧ c.maxLocals = nL ∧ (∀ w ∈ wd_tbl, w.before args s = true) ∧ s.vm.findClass R_M = some m.cls ∧ cl[iM]? = some (R_M, F_M, 171) ∧ va_K D cl (ty5 cB cI cJ cZ cS) s ∧ (∀ q, s.heap.size ≤ q → A q) ∧ meth.locks = false
section MRET
variable {p : Program} {l : Launch} {e : Env} {R : Room} {s : State} {m : MethodId} {args : Array Value} {below : List Frame} {meth : Method} {c : Code} {H : Heap} {locs : List Loc}
variable {cc : ByteArray} {pc nL : Nat} {ls : Array Slot} {D : va_G} {cl : List vw_C} {cB cI cJ cZ cS : ClassId} {A : Nat → Prop} {iM h0 : Nat} {ad : Nat → Nat} {u : MS}
theorem mr_i {v : Int32} {x : MS × Int32} (C0 : MCx p s m args meth c cc nL (some .int) D cl cB cI cJ cZ cS iM A) (hP : va_P D cl (wM cB cI cJ cZ cS iM h0 ad u) H) (hD : va_D A (wM cB cI cJ cZ cS iM h0 ad u)) (hS : va_S A s.heap H locs) (hf : some (u, v) = some x) (hdg : decode cc pc = .ok (.ireturn, 1)) : W p l e R s m args below meth c H locs 0 0 (MQ below (mQi D cl cB cI cJ cZ cS iM h0 ad A x) args s 0 0 A) (F0 m pc ls [.int v]) := by
  obtain ⟨hx, hb, hr, hml, ht, hown, hM, hK, hA, hlocks⟩ := C0
  cases hf
  exact W.iret hx hb hr (fun t h hW => ⟨⟨v, u, rfl, ⟨rfl, rfl⟩, by rw [h]; exact hP, va_K.moved hW.alike hK, hD⟩, hS.F h⟩) hS.2.2 hdg
theorem mr_z {v : Int32} {x : MS × Int32} (C0 : MCx p s m args meth c cc nL (some .boolean) D cl cB cI cJ cZ cS iM A) (hP : va_P D cl (wM cB cI cJ cZ cS iM h0 ad u) H) (hD : va_D A (wM cB cI cJ cZ cS iM h0 ad u)) (hS : va_S A s.heap H locs) (hv : isb v = true) (hf : some (u, v) = some x) (hdg : decode cc pc = .ok (.ireturn, 1)) : W p l e R s m args below meth c H locs 0 0 (MQ below (mQi D cl cB cI cJ cZ cS iM h0 ad A x) args s 0 0 A) (F0 m pc ls [.int v]) := by
  obtain ⟨hx, hb, hr, hml, ht, hown, hM, hK, hA, hlocks⟩ := C0
  cases hf
  exact W.zret hx hb hr (isb_n hv) (fun t h hW => ⟨⟨v, u, rfl, ⟨rfl, rfl⟩, by rw [h]; exact hP, va_K.moved hW.alike hK, hD⟩, hS.F h⟩) hS.2.2 hdg
theorem mr_l {v : Int64} {x : MS × Int64} (C0 : MCx p s m args meth c cc nL (some .long) D cl cB cI cJ cZ cS iM A) (hP : va_P D cl (wM cB cI cJ cZ cS iM h0 ad u) H) (hD : va_D A (wM cB cI cJ cZ cS iM h0 ad u)) (hS : va_S A s.heap H locs) (hf : some (u, v) = some x) (hdg : decode cc pc = .ok (.lreturn, 1)) : W p l e R s m args below meth c H locs 0 0 (MQ below (mQl D cl cB cI cJ cZ cS iM h0 ad A x) args s 0 0 A) (F0 m pc ls [.long v]) := by
  obtain ⟨hx, hb, hr, hml, ht, hown, hM, hK, hA, hlocks⟩ := C0
  cases hf
  exact W.lret hx hb hr (fun t h hW => ⟨⟨v, u, rfl, ⟨rfl, rfl⟩, by rw [h]; exact hP, va_K.moved hW.alike hK, hD⟩, hS.F h⟩) hS.2.2 hdg
theorem mr_v {x : MS × Unit} (C0 : MCx p s m args meth c cc nL none D cl cB cI cJ cZ cS iM A) (hP : va_P D cl (wM cB cI cJ cZ cS iM h0 ad u) H) (hD : va_D A (wM cB cI cJ cZ cS iM h0 ad u)) (hS : va_S A s.heap H locs) (hf : some (u, ()) = some x) (hdg : decode cc pc = .ok (.return_, 1)) : W p l e R s m args below meth c H locs 0 0 (MQ below (mQv D cl cB cI cJ cZ cS iM h0 ad A x) args s 0 0 A) (F0 m pc ls []) := by
  obtain ⟨hx, hb, hr, hml, ht, hown, hM, hK, hA, hlocks⟩ := C0
  cases hf
  exact W.vret hx hb hr (fun t h hW => ⟨⟨u, rfl, rfl, by rw [h]; exact hP, va_K.moved hW.alike hK, hD⟩, hS.F h⟩) hS.2.2 hdg
end MRET
/-- a contract out of a walk from the entry -/
theorem mMet {l : Launch} {y : MethodName} {b : ByteArray} {n : Nat} {ret : Option FieldType} {rm : Room} {D : va_G} {cl : List vw_C} {cB cI cJ cZ cS : ClassId} {iM h0 : Nat} {ad : Nat → Nat} {u : MS} {sz : Nat} {As : List Value} {Qc : Array Value → State → Outcome → State → Prop}
    (hy : plainName y.cls = true) (hcls : y.cls = R_M) (hM : cl[iM]? = some (R_M, F_M, 171)) (hlen : (lg_sl As).length ≤ n)
    (walk : ∀ (p : Program) (e : Env) (s : State) (m : MethodId) (below : List Frame) (meth : Method) (c : Code) (ls : Array Slot), s.heap.size = sz → MCx p s m As.toArray meth c b n ret D cl cB cI cJ cZ cS iM (mA cB cI cJ cZ cS iM h0 ad u sz) → va_P D cl (wM cB cI cJ cZ cS iM h0 ad u) s.heap → va_D (mA cB cI cJ cZ cS iM h0 ad u sz) (wM cB cI cJ cZ cS iM h0 ad u) → va_S (mA cB cI cJ cZ cS iM h0 ad u sz) s.heap s.heap [] → lv_has ls n (lv_args 0 As) →
      W p l e rm s m As.toArray below meth c s.heap [] 0 0 (MQ below Qc As.toArray s 0 0 (mA cB cI cJ cZ cS iM h0 ad u sz)) (F0 m 0 ls [])) :
    Met l y (wd_ws y b n ret) rm (mPc D cl cB cI cJ cZ cS iM h0 ad u sz As) Qc 0 0 (mA cB cI cJ cZ cS iM h0 ad u sz) := by
  refine Met.ofW (cc := b) (maxL := n) (ret := ret) hy rfl ?_
  intro p e s m args below meth c s₁ B hml hv
  obtain ⟨rfl, hsz, hP, hK, hD0⟩ := hv
  have hts := atoms_spec (ws := wd_ws y b n ret) B.pre
  have hown : s.vm.findClass R_M = some m.cls := by rw [← hcls]; exact findClass_of_methodNamed B.named
  have hD := hD0.self (sz := sz)
  have hl := lv_entry As (n := n) hlen
  rw [lg_entry_eq]
  generalize (lg_sl As ++ List.replicate (n - (lg_sl As).length) Slot.unset).toArray = ls at hl ⊢
  exact walk p e s m below meth c ls hsz ⟨B.exec, B.bytes, B.returns, hml, fun w h => hts w (List.mem_cons_of_mem _ h), hown, hM, hK, fun q h => Or.inr (by omega), B.notSynchronized⟩ hP hD va_S.rf hl
def lt {α β : Type} (x : α) (k : α → Option β) : Option β := k x
theorem lt_some {α β : Type} {x : α} {k : α → Option β} {r : β} (h : lt x k = some r) : ∃ z, z = x ∧ k z = some r := ⟨x, rfl, h⟩
