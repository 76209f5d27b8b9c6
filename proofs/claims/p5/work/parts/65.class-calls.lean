/-! a call of one of the class's methods by another: on an object, static, a constructor -/
def isO (u : CS) (i ci : Nat) : Bool := (oF u i ci).isSome
theorem isO_some {u : CS} {i ci : Nat} (h : isO u i ci = true) : ∃ f, i < u.1.1 ∧ u.2 i = .inl (ci, f) := by
  unfold isO at h
  cases hf : oF u i ci with
  | none => rw [hf] at h; cases h
  | some f => exact ⟨f, oF_some hf⟩
section XCALLS
variable {p : Program} {l : Launch} {e : Env} {R : Room} {s s0 : State} {m : MethodId} {args : Array Value} {below : List Frame} {meth : Method} {c : Code} {H : Heap} {locs : List Loc} {cells slots : Nat} {Q : State → Prop}
variable {cc : ByteArray} {pc nL n idx b0 i ci nF : Nat} {ls : Array Slot} {rest st : List Value} {ret rt : Option FieldType} {D : va_G} {cB cI cJ cZ cS cP : ClassId} {A : Nat → Prop} {ad : Nat → Nat} {u x : CS} {v : Option LV} {y : MethodName} {b : ByteArray} {rm : Room} {As : List Value} {nA mc ms : Nat} {own C : String} {F : u_T} {ty : Nat → FieldType}
theorem xV (C0 : XCx p s s0 b0 m args meth c own cc nL ret D cB cI cJ cZ cS cP A) (hP : va_P D cls (wC cB cI cJ cZ cS cP ad u) H) (hD : va_D A (wC cB cI cJ cZ cS cP ad u)) (hS : va_S A s.heap H locs) (K : CKl cls ci C F nF ty) (hrc0 : isO u i ci = true) 
    (hC : Met l y (wd_ws y b n rt) rm (xPc s0 b0 D cB cI cJ cZ cS cP ad u H.size (.ref (ad i) :: As)) (xQ D cB cI cJ cZ cS cP (xA cB cI cJ cZ cS cP ad u H.size) ad u.1.1 x v) mc ms (xA cB cI cJ cZ cS cP ad u H.size))
    (hk : Cond.code y b n rt ∈ wd_tbl) (hl : Cond.methodLink own idx y ∈ wd_tbl) (hi : Cond.instanceMethod y ∈ wd_tbl) (hsel : Cond.selects C y y ∈ wd_tbl) (hini : Cond.initialized C ∈ wd_tbl) (hrc : rm.cells = mc) (hrs : rm.slots = ms)
    (hd : y.cls = C ∧ y.cls ≠ "java/lang/invoke/MethodHandle" ∧ y.cls ≠ "java/lang/invoke/VarHandle" ∧ (parseMethodDescriptor y.desc).map (fun d => d.parameters.length) = some nA) (hAs : As.length = nA) (hR : rm.frames + 1 ≤ R.frames ∧ 8 + (n + 11) + rm.locals ≤ R.locals) (hsz : ls.size = nL) (hr8 : (rest.map fun v => v.category).sum ≤ 8) (hdg : decode cc pc = .ok (.invokevirtual idx, 3)) (hst0 : st = As.reverse ++ .ref (ad i) :: rest) (hf : cells + mc ≤ R.cells ∧ slots + ms ≤ R.slots)
    (kk : ∀ (ad2 : Nat → Nat) (H1 : Heap) (locs1 : List Loc), (∀ j, j < u.1.1 → ad2 j = ad j) → va_P D cls (wC cB cI cJ cZ cS cP ad2 x) H1 → va_D A (wC cB cI cJ cZ cS cP ad2 x) → va_S A s.heap H1 locs1 → W p l e R s m args below meth c H1 locs1 (cells + mc) (slots + ms) Q (F0 m (pc + 3) ls ((v.map (lvV ad2)).toList ++ rest))) : W p l e R s m args below meth c H locs cells slots Q (F0 m pc ls st) := by
  have hp := x_pre (As := (.ref (ad i) :: As)) C0 hP hD hS
  obtain ⟨hx, hb, hr, hml, ht, hown, hK, hA, hlocks, hA0, hO, hbs⟩ := id C0
  subst hst0
  obtain ⟨f, hil, hif⟩ := isO_some hrc0
  have hrecv := va_recv hK hP K.1 (q0 := i) (fs := fl nF (fun j => lvV ad (f j))) (by rw [wC_at hil, hif]; show some (ad i, Sum.inr (ci, fl (clN ci) _)) = _; rw [clN_of K.1])
  have hG : GoodIn wd_tbl (wsV own idx C y (wd_ws y b n rt)) := fun w h => by
    rcases List.mem_append.mp h with h | h
    · have hm : w ∈ wd_tbl := by
        simp only [List.mem_cons, List.not_mem_nil, or_false] at h
        rcases h with rfl | rfl | rfl | rfl
        · exact hl
        · exact hi
        · exact hsel
        · exact hini
      exact ⟨hm, wd_gd hm⟩
    · exact wd_in (fun _ z => z) hk w h
  exact x_back C0 hD hS (va_runV (As := As) (rest := rest) ⟨hx, hb, hml, hown, ht⟩ hC (cwV nA ht hG rfl hrc hrs hd hR) ⟨hp.1, hrecv, hp.2⟩ rfl hAs hsz rfl (by simpa using hr8) hdg hf) kk
theorem xS (C0 : XCx p s s0 b0 m args meth c own cc nL ret D cB cI cJ cZ cS cP A) (hP : va_P D cls (wC cB cI cJ cZ cS cP ad u) H) (hD : va_D A (wC cB cI cJ cZ cS cP ad u)) (hS : va_S A s.heap H locs) 
    (hC : Met l y (wd_ws y b n rt) rm (xPc s0 b0 D cB cI cJ cZ cS cP ad u H.size As) (xQ D cB cI cJ cZ cS cP (xA cB cI cJ cZ cS cP ad u H.size) ad u.1.1 x v) mc ms (xA cB cI cJ cZ cS cP ad u H.size))
    (hk : Cond.code y b n rt ∈ wd_tbl) (hl : Cond.methodLink own idx y ∈ wd_tbl) (hst : Cond.static y ∈ wd_tbl) (hini : Cond.initialized y.cls ∈ wd_tbl) (hrc : rm.cells = mc) (hrs : rm.slots = ms)
    (hd : y.cls = C ∧ y.cls ≠ "java/lang/invoke/MethodHandle" ∧ y.cls ≠ "java/lang/invoke/VarHandle" ∧ (parseMethodDescriptor y.desc).map (fun d => d.parameters.length) = some nA) (hAs : As.length = nA) (hR : rm.frames + 1 ≤ R.frames ∧ 8 + (n + 11) + rm.locals ≤ R.locals) (hsz : ls.size = nL) (hr8 : (rest.map fun v => v.category).sum ≤ 8) (hdg : decode cc pc = .ok (.invokestatic idx, 3)) (hst0 : st = As.reverse ++ rest) (hf : cells + mc ≤ R.cells ∧ slots + ms ≤ R.slots)
    (kk : ∀ (ad2 : Nat → Nat) (H1 : Heap) (locs1 : List Loc), (∀ j, j < u.1.1 → ad2 j = ad j) → va_P D cls (wC cB cI cJ cZ cS cP ad2 x) H1 → va_D A (wC cB cI cJ cZ cS cP ad2 x) → va_S A s.heap H1 locs1 → W p l e R s m args below meth c H1 locs1 (cells + mc) (slots + ms) Q (F0 m (pc + 3) ls ((v.map (lvV ad2)).toList ++ rest))) : W p l e R s m args below meth c H locs cells slots Q (F0 m pc ls st) := by
  have hp := x_pre (As := As) C0 hP hD hS
  obtain ⟨hx, hb, hr, hml, ht, hown, hK, hA, hlocks, hA0, hO, hbs⟩ := id C0
  subst hst0
  have hG : GoodIn wd_tbl (wd_ws y b n rt) := wd_in (fun _ z => z) hk
  exact x_back C0 hD hS (va_runS (As := As) (rest := rest) ⟨hx, hb, hml, hown, ht⟩ hC ⟨callB_of nA ht hG rfl hrc hrs (ht _ hini) (ht _ hl) hd.2 hR, ht _ hst⟩ hp rfl hAs hsz rfl (by simpa using hr8) hdg hf) kk
theorem xI (C0 : XCx p s s0 b0 m args meth c own cc nL ret D cB cI cJ cZ cS cP A) (hP : va_P D cls (wC cB cI cJ cZ cS cP ad u) H) (hD : va_D A (wC cB cI cJ cZ cS cP ad u)) (hS : va_S A s.heap H locs) 
    (hC : Met l y (wd_ws y b n none) rm (xPc s0 b0 D cB cI cJ cZ cS cP ad u H.size (.ref (ad i) :: As)) (xQ D cB cI cJ cZ cS cP (xA cB cI cJ cZ cS cP ad u H.size) ad u.1.1 x v) mc ms (xA cB cI cJ cZ cS cP ad u H.size))
    (hk : Cond.code y b n none ∈ wd_tbl) (hl : Cond.methodLink own idx y ∈ wd_tbl) (hi : Cond.instanceMethod y ∈ wd_tbl) (hini : Cond.initialized y.cls ∈ wd_tbl) (hnm : y.name = "<init>") (hrc : rm.cells = mc) (hrs : rm.slots = ms)
    (hd : y.cls ≠ "java/lang/invoke/MethodHandle" ∧ y.cls ≠ "java/lang/invoke/VarHandle" ∧ (parseMethodDescriptor y.desc).map (fun d => d.parameters.length) = some nA) (hAs : As.length = nA) (hR : rm.frames + 1 ≤ R.frames ∧ 8 + (n + 11) + rm.locals ≤ R.locals) (hsz : ls.size = nL) (hr8 : (rest.map fun v => v.category).sum ≤ 8) (hdg : decode cc pc = .ok (.invokespecial idx, 3)) (hst0 : st = As.reverse ++ .ref (ad i) :: rest) (hf : cells + mc ≤ R.cells ∧ slots + ms ≤ R.slots)
    (kk : ∀ (ad2 : Nat → Nat) (H1 : Heap) (locs1 : List Loc), (∀ j, j < u.1.1 → ad2 j = ad j) → va_P D cls (wC cB cI cJ cZ cS cP ad2 x) H1 → va_D A (wC cB cI cJ cZ cS cP ad2 x) → va_S A s.heap H1 locs1 → W p l e R s m args below meth c H1 locs1 (cells + mc) (slots + ms) Q (F0 m (pc + 3) ls ((v.map (lvV ad2)).toList ++ rest))) : W p l e R s m args below meth c H locs cells slots Q (F0 m pc ls st) := by
  have hp := x_pre (As := (.ref (ad i) :: As)) C0 hP hD hS
  obtain ⟨hx, hb, hr, hml, ht, hown, hK, hA, hlocks, hA0, hO, hbs⟩ := id C0
  subst hst0
  have hG : GoodIn wd_tbl (wd_ws y b n none) := wd_in (fun _ z => z) hk
  exact x_back C0 hD hS (va_runI (As := As) (rest := rest) ⟨hx, hb, hml, hown, ht⟩ hC (cwI nA ht hG rfl hrc hrs (ht _ hini) (ht _ hl) (ht _ hi) hnm hd hR) hp rfl hAs hsz rfl (by simpa using hr8) hdg hf) kk
end XCALLS
