/-! methods that make no cells: the address map stays as it is -/
def xQ0 (D : va_G) (cB cI cJ cZ cS cP : ClassId) (A : Nat → Prop) (ad : Nat → Nat) (x : CS) (v : Option LV) : Array Value → State → Outcome → State → Prop := fun _ st oc t =>
  (oc = .returned (v.map (lvV ad)) ∧ xB D cB cI cJ cZ cS cP A ad x t) ∧ va_F A st t
section XRET0
variable {p : Program} {l : Launch} {e : Env} {R : Room} {s s0 : State} {m : MethodId} {args : Array Value} {below : List Frame} {meth : Method} {c : Code} {H : Heap} {locs : List Loc}
variable {cc : ByteArray} {pc nL b0 : Nat} {ls : Array Slot} {D : va_G} {cB cI cJ cZ cS cP : ClassId} {A : Nat → Prop} {ad : Nat → Nat} {u : CS} {own : String}
theorem xr0_i {v : Int32} {x : CS × Int32} (C0 : XCx p s s0 b0 m args meth c own cc nL (some .int) D cB cI cJ cZ cS cP A) (hP : va_P D cls (wC cB cI cJ cZ cS cP ad u) H) (hD : va_D A (wC cB cI cJ cZ cS cP ad u)) (hS : va_S A s.heap H locs) (hf : some (u, v) = some x) (hdg : decode cc pc = .ok (.ireturn, 1)) : W p l e R s m args below meth c H locs 0 0 (MQ below (xQ0 D cB cI cJ cZ cS cP A ad x.1 (some (.inl x.2))) args s 0 0 A) (F0 m pc ls [.int v]) := by
  obtain ⟨hx, hb, hr, hml, ht, hown, hK, hA, hlocks, hA0, hO, hbs⟩ := C0
  cases hf
  exact W.iret hx hb hr (fun t h hW => ⟨⟨rfl, by rw [h]; exact hP, va_K.moved hW.alike hK, hD⟩, hS.F h⟩) hS.2.2 hdg
theorem xr0_z {v : Int32} {x : CS × Int32} (C0 : XCx p s s0 b0 m args meth c own cc nL (some .boolean) D cB cI cJ cZ cS cP A) (hP : va_P D cls (wC cB cI cJ cZ cS cP ad u) H) (hD : va_D A (wC cB cI cJ cZ cS cP ad u)) (hS : va_S A s.heap H locs) (hz : isb v = true) (hf : some (u, v) = some x) (hdg : decode cc pc = .ok (.ireturn, 1)) : W p l e R s m args below meth c H locs 0 0 (MQ below (xQ0 D cB cI cJ cZ cS cP A ad x.1 (some (.inl x.2))) args s 0 0 A) (F0 m pc ls [.int v]) := by
  obtain ⟨hx, hb, hr, hml, ht, hown, hK, hA, hlocks, hA0, hO, hbs⟩ := C0
  cases hf
  exact W.zret hx hb hr (isb_n hz) (fun t h hW => ⟨⟨rfl, by rw [h]; exact hP, va_K.moved hW.alike hK, hD⟩, hS.F h⟩) hS.2.2 hdg
theorem xr0_l {v : Int64} {x : CS × Int64} (C0 : XCx p s s0 b0 m args meth c own cc nL (some .long) D cB cI cJ cZ cS cP A) (hP : va_P D cls (wC cB cI cJ cZ cS cP ad u) H) (hD : va_D A (wC cB cI cJ cZ cS cP ad u)) (hS : va_S A s.heap H locs) (hf : some (u, v) = some x) (hdg : decode cc pc = .ok (.lreturn, 1)) : W p l e R s m args below meth c H locs 0 0 (MQ below (xQ0 D cB cI cJ cZ cS cP A ad x.1 (some (.inr (.inl x.2)))) args s 0 0 A) (F0 m pc ls [.long v]) := by
  obtain ⟨hx, hb, hr, hml, ht, hown, hK, hA, hlocks, hA0, hO, hbs⟩ := C0
  cases hf
  exact W.lret hx hb hr (fun t h hW => ⟨⟨rfl, by rw [h]; exact hP, va_K.moved hW.alike hK, hD⟩, hS.F h⟩) hS.2.2 hdg
theorem xr0_v {x : CS × Unit} (C0 : XCx p s s0 b0 m args meth c own cc nL none D cB cI cJ cZ cS cP A) (hP : va_P D cls (wC cB cI cJ cZ cS cP ad u) H) (hD : va_D A (wC cB cI cJ cZ cS cP ad u)) (hS : va_S A s.heap H locs) (hf : some (u, ()) = some x) (hdg : decode cc pc = .ok (.return_, 1)) : W p l e R s m args below meth c H locs 0 0 (MQ below (xQ0 D cB cI cJ cZ cS cP A ad x.1 none) args s 0 0 A) (F0 m pc ls []) := by
  obtain ⟨hx, hb, hr, hml, ht, hown, hK, hA, hlocks, hA0, hO, hbs⟩ := C0
  cases hf
  exact W.vret hx hb hr (fun t h hW => ⟨⟨rfl, by rw [h]; exact hP, va_K.moved hW.alike hK, hD⟩, hS.F h⟩) hS.2.2 hdg
theorem xr0_r {v : Option Nat} {x : CS × Option Nat} {C : String} (C0 : XCx p s s0 b0 m args meth c own cc nL (some (.object C)) D cB cI cJ cZ cS cP A) (hP : va_P D cls (wC cB cI cJ cZ cS cP ad u) H) (hD : va_D A (wC cB cI cJ cZ cS cP ad u)) (hS : va_S A s.heap H locs) (hf : some (u, v) = some x) (hdg : decode cc pc = .ok (.areturn, 1)) : W p l e R s m args below meth c H locs 0 0 (MQ below (xQ0 D cB cI cJ cZ cS cP A ad x.1 (some (.inr (.inr x.2)))) args s 0 0 A) (F0 m pc ls [va_rf (v.map ad)]) := by
  obtain ⟨hx, hb, hr, hml, ht, hown, hK, hA, hlocks, hA0, hO, hbs⟩ := C0
  cases hf
  exact W.aret hx hb hr (Or.inl ⟨C, rfl⟩) (by cases v with | none => exact Or.inl rfl | some k => exact Or.inr ⟨ad k, rfl⟩) (fun t h hW => ⟨⟨rfl, by rw [h]; exact hP, va_K.moved hW.alike hK, hD⟩, hS.F h⟩) hS.2.2 hdg
end XRET0
section XCALL0
variable {p : Program} {l : Launch} {e : Env} {R : Room} {s s0 : State} {m : MethodId} {args : Array Value} {below : List Frame} {meth : Method} {c : Code} {H : Heap} {locs : List Loc} {cells slots : Nat} {Q : State → Prop}
variable {cc : ByteArray} {pc nL n idx b0 : Nat} {ls : Array Slot} {rest st0 : List Value} {ret rt : Option FieldType} {D : va_G} {cB cI cJ cZ cS cP : ClassId} {A : Nat → Prop} {ad : Nat → Nat} {u : CS} {y : MethodName} {b : ByteArray} {rm : Room} {As : List Value} {nA mc ms : Nat} {own C : String} {a : Array Value}
/-- behind a call that returned -/
theorem x_back0 {x : CS} {v : Option LV} (C0 : XCx p s s0 b0 m args meth c own cc nL ret D cB cI cJ cZ cS cP A) (hD : va_D A (wC cB cI cJ cZ cS cP ad u)) (hS : va_S A s.heap H locs)
    (hr : va_Run p l e R s m args below meth c H locs cells slots 0 0 (F0 m pc ls st0) rest (xQ0 D cB cI cJ cZ cS cP (xA cB cI cJ cZ cS cP ad u H.size) ad x v a) (xA cB cI cJ cZ cS cP ad u H.size))
    (kk : ∀ (H1 : Heap) (locs1 : List Loc), va_P D cls (wC cB cI cJ cZ cS cP ad x) H1 → va_D A (wC cB cI cJ cZ cS cP ad x) → va_S A s.heap H1 locs1 → W p l e R s m args below meth c H1 locs1 cells slots Q (F0 m (pc + 3) ls ((v.map (lvV ad)).toList ++ rest))) :
    W p l e R s m args below meth c H locs cells slots Q (F0 m pc ls st0) := by
  obtain ⟨hx, hb, hr2, hml, ht, hown, hK, hA, hlocks, hA0, hO, hbs⟩ := C0
  have hFc : ∀ q, xA cB cI cJ cZ cS cP ad u H.size q → A q := fun q h => by
    rcases h with ⟨k, e1, h⟩ | h
    · exact hD.2 k _ h
    · exact hA q (Nat.le_trans hS.1 h)
  intro T hT X
  obtain ⟨v1, st₀, t, T', L, h0, X', hL, e1, e2, ⟨⟨hv, hP2, hK2, hD2⟩, hz, hk⟩, st⟩ := hr T hT X
  cases hv
  rw [h0] at hz hk
  obtain ⟨t2, a1, b1⟩ := kk T'.heap (locs ++ L) (by rw [e1]; exact hP2) (hD2.weaken (fun _ _ _ h => hFc _ h))
    ⟨Nat.le_trans hS.1 (by rw [e1]; exact hz), fun q h1 h2 => by rw [e1, hk q (Nat.lt_of_lt_of_le h1 hS.1) (fun z => h2 (hFc q z))]; exact hS.2.1 q h1 h2, fun q hq => by
      rcases List.mem_append.mp hq with h | h
      · exact hS.2.2 q h
      · exact hFc _ (hL q h)⟩ T' rfl X'
  exact ⟨t2, st t2 a1, b1⟩
end XCALL0
section XCALLS0
variable {p : Program} {l : Launch} {e : Env} {R : Room} {s s0 : State} {m : MethodId} {args : Array Value} {below : List Frame} {meth : Method} {c : Code} {H : Heap} {locs : List Loc} {cells slots : Nat} {Q : State → Prop}
variable {cc : ByteArray} {pc nL n idx b0 i ci nF : Nat} {ls : Array Slot} {rest st : List Value} {ret rt : Option FieldType} {D : va_G} {cB cI cJ cZ cS cP : ClassId} {A : Nat → Prop} {ad : Nat → Nat} {u x : CS} {v : Option LV} {y : MethodName} {b : ByteArray} {rm : Room} {As : List Value} {nA mc ms : Nat} {own C : String} {F : u_T} {ty : Nat → FieldType}
theorem xV0 (C0 : XCx p s s0 b0 m args meth c own cc nL ret D cB cI cJ cZ cS cP A) (hP : va_P D cls (wC cB cI cJ cZ cS cP ad u) H) (hD : va_D A (wC cB cI cJ cZ cS cP ad u)) (hS : va_S A s.heap H locs) (K : CKl cls ci C F nF ty) (hrc0 : isO u i ci = true) 
    (hC : Met l y (wd_ws y b n rt) rm (xPc s0 b0 D cB cI cJ cZ cS cP ad u H.size (.ref (ad i) :: As)) (xQ0 D cB cI cJ cZ cS cP (xA cB cI cJ cZ cS cP ad u H.size) ad x v) 0 0 (xA cB cI cJ cZ cS cP ad u H.size))
    (hk : Cond.code y b n rt ∈ wd_tbl) (hl : Cond.methodLink own idx y ∈ wd_tbl) (hi : Cond.instanceMethod y ∈ wd_tbl) (hsel : Cond.selects C y y ∈ wd_tbl) (hini : Cond.initialized C ∈ wd_tbl) (hrc : rm.cells = 0) (hrs : rm.slots = 0)
    (hd : y.cls = C ∧ y.cls ≠ "java/lang/invoke/MethodHandle" ∧ y.cls ≠ "java/lang/invoke/VarHandle" ∧ (parseMethodDescriptor y.desc).map (fun d => d.parameters.length) = some nA) (hAs : As.length = nA) (hR : rm.frames + 1 ≤ R.frames ∧ 8 + (n + 11) + rm.locals ≤ R.locals) (hsz : ls.size = nL) (hr8 : (rest.map fun v => v.category).sum ≤ 8) (hdg : decode cc pc = .ok (.invokevirtual idx, 3)) (hst0 : st = As.reverse ++ .ref (ad i) :: rest) (hf : cells + 0 ≤ R.cells ∧ slots + 0 ≤ R.slots)
    (kk : ∀ (H1 : Heap) (locs1 : List Loc), va_P D cls (wC cB cI cJ cZ cS cP ad x) H1 → va_D A (wC cB cI cJ cZ cS cP ad x) → va_S A s.heap H1 locs1 → W p l e R s m args below meth c H1 locs1 cells slots Q (F0 m (pc + 3) ls ((v.map (lvV ad)).toList ++ rest))) : W p l e R s m args below meth c H locs cells slots Q (F0 m pc ls st) := by
  have hp := x_pre (As := (.ref (ad i) :: As)) C0 hP hD hS
  obtain ⟨hx, hb, hr, hml, ht, hown, hK, hA, hlocks, hA0, hO, hbs⟩ := id C0
  subst hst0
  obtain ⟨f, hil, hif⟩ := isO_some hrc0
  have hrecv := va_recv hK hP K.1 (q0 := i) (fs := fl nF (fun j => lvV ad (f j))) (by rw [wC_at hil, hif]; show some (ad i, Sum.inr (ci, fl (clN ci) _)) = _; rw [clN_of K.1])
  have hG : GoodIn wd_tbl (wsV own idx C y (wd_ws y b n rt)) := fun w h => by
    rcases List.mem_append.mp h with h | h
    · have hm : w ∈ wd_tbl := by
        simp only [List.mem_cons, List.not_mem_nil, or_false] at h
        rcases h with rfl | rfl | rfl | rfl
        · exact hl
        · exact hi
        · exact hsel
        · exact hini
      exact ⟨hm, wd_gd hm⟩
    · exact wd_in (fun _ z => z) hk w h
  exact x_back0 C0 hD hS (va_runV (As := As) (rest := rest) ⟨hx, hb, hml, hown, ht⟩ hC (cwV nA ht hG rfl hrc hrs hd hR) ⟨hp.1, hrecv, hp.2⟩ rfl hAs hsz rfl (by simpa using hr8) hdg hf) kk
theorem xS0 (C0 : XCx p s s0 b0 m args meth c own cc nL ret D cB cI cJ cZ cS cP A) (hP : va_P D cls (wC cB cI cJ cZ cS cP ad u) H) (hD : va_D A (wC cB cI cJ cZ cS cP ad u)) (hS : va_S A s.heap H locs) 
    (hC : Met l y (wd_ws y b n rt) rm (xPc s0 b0 D cB cI cJ cZ cS cP ad u H.size As) (xQ0 D cB cI cJ cZ cS cP (xA cB cI cJ cZ cS cP ad u H.size) ad x v) 0 0 (xA cB cI cJ cZ cS cP ad u H.size))
    (hk : Cond.code y b n rt ∈ wd_tbl) (hl : Cond.methodLink own idx y ∈ wd_tbl) (hst : Cond.static y ∈ wd_tbl) (hini : Cond.initialized y.cls ∈ wd_tbl) (hrc : rm.cells = 0) (hrs : rm.slots = 0)
    (hd : y.cls = C ∧ y.cls ≠ "java/lang/invoke/MethodHandle" ∧ y.cls ≠ "java/lang/invoke/VarHandle" ∧ (parseMethodDescriptor y.desc).map (fun d => d.parameters.length) = some nA) (hAs : As.length = nA) (hR : rm.frames + 1 ≤ R.frames ∧ 8 + (n + 11) + rm.locals ≤ R.locals) (hsz : ls.size = nL) (hr8 : (rest.map fun v => v.category).sum ≤ 8) (hdg : decode cc pc = .ok (.invokestatic idx, 3)) (hst0 : st = As.reverse ++ rest) (hf : cells + 0 ≤ R.cells ∧ slots + 0 ≤ R.slots)
    (kk : ∀ (H1 : Heap) (locs1 : List Loc), va_P D cls (wC cB cI cJ cZ cS cP ad x) H1 → va_D A (wC cB cI cJ cZ cS cP ad x) → va_S A s.heap H1 locs1 → W p l e R s m args below meth c H1 locs1 cells slots Q (F0 m (pc + 3) ls ((v.map (lvV ad)).toList ++ rest))) : W p l e R s m args below meth c H locs cells slots Q (F0 m pc ls st) := by
  have hp := x_pre (As := As) C0 hP hD hS
  obtain ⟨hx, hb, hr, hml, ht, hown, hK, hA, hlocks, hA0, hO, hbs⟩ := id C0
  subst hst0
  have hG : GoodIn wd_tbl (wd_ws y b n rt) := wd_in (fun _ z => z) hk
  exact x_back0 C0 hD hS (va_runS (As := As) (rest := rest) ⟨hx, hb, hml, hown, ht⟩ hC ⟨callB_of nA ht hG rfl hrc hrs (ht _ hini) (ht _ hl) hd.2 hR, ht _ hst⟩ hp rfl hAs hsz rfl (by simpa using hr8) hdg hf) kk
end XCALLS0
