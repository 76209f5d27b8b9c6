section LCALL
variable {p : Program} {l : Launch} {e : Env} {R : Room} {s s0 : State} {m : MethodId} {args : Array Value} {below : List Frame} {meth : Method} {c : Code} {H : Heap} {locs : List Loc} {cells slots : Nat} {Q : State → Prop}
variable {cc : ByteArray} {pc nL n idx b0 i ci nF h0 : Nat} {ls : Array Slot} {rest st : List Value} {ret rt : Option FieldType} {D : va_G} {cB cI cJ cZ cS cP : ClassId} {A : Nat → Prop} {ad adM : Nat → Nat} {u x : CS} {uM : MS} {v : Option LV} {y : MethodName} {b : ByteArray} {rm : Room} {As : List Value} {nA mc ms : Nat} {own C : String} {F : u_T} {ty : Nat → FieldType} {r : va_W}
theorem L_V0 (C0 : XCx p s s0 b0 m args meth c own cc nL ret D cB cI cJ cZ cS cP A) (hP : va_P D cls (wC cB cI cJ cZ cS cP ad u ++ r) H) (hD : va_D A (wC cB cI cJ cZ cS cP ad u ++ r)) (hS : va_S A s.heap H locs) (K : CKl cls ci C F nF ty) (hrc0 : isO u i ci = true)
    (hC : Met l y (wd_ws y b n rt) rm (xPc s0 b0 D cB cI cJ cZ cS cP ad u H.size (.ref (ad i) :: As)) (xQ0 D cB cI cJ cZ cS cP (xA cB cI cJ cZ cS cP ad u H.size) ad x v) mc ms (xA cB cI cJ cZ cS cP ad u H.size))
    (hk : Cond.code y b n rt ∈ wd_tbl) (hl : Cond.methodLink own idx y ∈ wd_tbl) (hi : Cond.instanceMethod y ∈ wd_tbl) (hsel : Cond.selects C y y ∈ wd_tbl) (hini : Cond.initialized C ∈ wd_tbl) (hrc : rm.cells = mc) (hrs : rm.slots = ms)
    (hd : y.cls = C ∧ y.cls ≠ "java/lang/invoke/MethodHandle" ∧ y.cls ≠ "java/lang/invoke/VarHandle" ∧ (parseMethodDescriptor y.desc).map (fun d => d.parameters.length) = some nA) (hAs : As.length = nA) (hR : rm.frames + 1 ≤ R.frames ∧ 8 + (n + 11) + rm.locals ≤ R.locals) (hsz : ls.size = nL) (hr8 : (rest.map fun v => v.category).sum ≤ 8) (hdg : decode cc pc = .ok (.invokevirtual idx, 3)) (hst0 : st = As.reverse ++ .ref (ad i) :: rest) (hf : cells + mc ≤ R.cells ∧ slots + ms ≤ R.slots)
    (kk : ∀ (H1 : Heap) (locs1 : List Loc), va_P D cls (wC cB cI cJ cZ cS cP ad x ++ r) H1 → va_D A (wC cB cI cJ cZ cS cP ad x ++ r) → va_S A s.heap H1 locs1 → W p l e R s m args below meth c H1 locs1 (cells + mc) (slots + ms) Q (F0 m (pc + 3) ls ((v.map (lvV ad)).toList ++ rest))) : W p l e R s m args below meth c H locs cells slots Q (F0 m pc ls st) := by
  have hp := x_pre (As := (.ref (ad i) :: As)) C0 (fr_l hP) (fd_l hD) hS
  obtain ⟨hx, hb, hr, hml, ht, hown, hK, hA, hlocks, hA0, hO, hbs⟩ := id C0
  subst hst0
  obtain ⟨f, hil, hif⟩ := isO_some hrc0
  have hrecv := va_recv hK (fr_l hP) K.1 (q0 := i) (fs := fl nF (fun j => lvV ad (f j))) (by rw [wC_at hil, hif]; show some (ad i, Sum.inr (ci, fl (clN ci) _)) = _; rw [clN_of K.1])
  have hG : GoodIn wd_tbl (wsV own idx C y (wd_ws y b n rt)) := fun w h => by
    rcases List.mem_append.mp h with h | h
    · have hm : w ∈ wd_tbl := by
        simp only [List.mem_cons, List.not_mem_nil, or_false] at h
        rcases h with rfl | rfl | rfl | rfl
        · exact hl
        · exact hi
        · exact hsel
        · exact hini
      exact ⟨hm, wd_gd hm⟩
    · exact wd_in (fun _ z => z) hk w h
  exact fr_call (ι := Unit) (w2 := (fun _ => wC cB cI cJ cZ cS cP ad x)) (val := (fun _ => v.map (lvV ad))) (Ex := (fun _ => True)) hA hP hD hS (va_runV (As := As) (rest := rest) ⟨hx, hb, hml, hown, ht⟩ hC (cwV nA ht hG rfl hrc hrs hd hR) ⟨hp.1, hrecv, hp.2⟩ rfl hAs hsz rfl (by simpa using hr8) hdg hf) (fun st9 t v1 h => by obtain ⟨⟨hv, hP2, hK2, hD2⟩, hF⟩ := h; cases hv; exact ⟨(), trivial, rfl, hP2, hD2, hF⟩) (fun _ H1 locs1 _ a1 a2 a3 => kk H1 locs1 a1 a2 a3)
theorem L_VA (C0 : XCx p s s0 b0 m args meth c own cc nL ret D cB cI cJ cZ cS cP A) (hP : va_P D cls (wC cB cI cJ cZ cS cP ad u ++ r) H) (hD : va_D A (wC cB cI cJ cZ cS cP ad u ++ r)) (hS : va_S A s.heap H locs) (K : CKl cls ci C F nF ty) (hrc0 : isO u i ci = true)
    (hC : Met l y (wd_ws y b n rt) rm (xPc s0 b0 D cB cI cJ cZ cS cP ad u H.size (.ref (ad i) :: As)) (xQ D cB cI cJ cZ cS cP (xA cB cI cJ cZ cS cP ad u H.size) ad u.1.1 x v) mc ms (xA cB cI cJ cZ cS cP ad u H.size))
    (hk : Cond.code y b n rt ∈ wd_tbl) (hl : Cond.methodLink own idx y ∈ wd_tbl) (hi : Cond.instanceMethod y ∈ wd_tbl) (hsel : Cond.selects C y y ∈ wd_tbl) (hini : Cond.initialized C ∈ wd_tbl) (hrc : rm.cells = mc) (hrs : rm.slots = ms)
    (hd : y.cls = C ∧ y.cls ≠ "java/lang/invoke/MethodHandle" ∧ y.cls ≠ "java/lang/invoke/VarHandle" ∧ (parseMethodDescriptor y.desc).map (fun d => d.parameters.length) = some nA) (hAs : As.length = nA) (hR : rm.frames + 1 ≤ R.frames ∧ 8 + (n + 11) + rm.locals ≤ R.locals) (hsz : ls.size = nL) (hr8 : (rest.map fun v => v.category).sum ≤ 8) (hdg : decode cc pc = .ok (.invokevirtual idx, 3)) (hst0 : st = As.reverse ++ .ref (ad i) :: rest) (hf : cells + mc ≤ R.cells ∧ slots + ms ≤ R.slots)
    (kk : ∀ (ad2 : Nat → Nat) (H1 : Heap) (locs1 : List Loc), (∀ j, j < u.1.1 → ad2 j = ad j) → va_P D cls (wC cB cI cJ cZ cS cP ad2 x ++ r) H1 → va_D A (wC cB cI cJ cZ cS cP ad2 x ++ r) → va_S A s.heap H1 locs1 → W p l e R s m args below meth c H1 locs1 (cells + mc) (slots + ms) Q (F0 m (pc + 3) ls ((v.map (lvV ad2)).toList ++ rest))) : W p l e R s m args below meth c H locs cells slots Q (F0 m pc ls st) := by
  have hp := x_pre (As := (.ref (ad i) :: As)) C0 (fr_l hP) (fd_l hD) hS
  obtain ⟨hx, hb, hr, hml, ht, hown, hK, hA, hlocks, hA0, hO, hbs⟩ := id C0
  subst hst0
  obtain ⟨f, hil, hif⟩ := isO_some hrc0
  have hrecv := va_recv hK (fr_l hP) K.1 (q0 := i) (fs := fl nF (fun j => lvV ad (f j))) (by rw [wC_at hil, hif]; show some (ad i, Sum.inr (ci, fl (clN ci) _)) = _; rw [clN_of K.1])
  have hG : GoodIn wd_tbl (wsV own idx C y (wd_ws y b n rt)) := fun w h => by
    rcases List.mem_append.mp h with h | h
    · have hm : w ∈ wd_tbl := by
        simp only [List.mem_cons, List.not_mem_nil, or_false] at h
        rcases h with rfl | rfl | rfl | rfl
        · exact hl
        · exact hi
        · exact hsel
        · exact hini
      exact ⟨hm, wd_gd hm⟩
    · exact wd_in (fun _ z => z) hk w h
  exact fr_call (ι := Nat → Nat) (w2 := (fun ad2 => wC cB cI cJ cZ cS cP ad2 x)) (val := (fun ad2 => v.map (lvV ad2))) (Ex := (fun ad2 => ∀ j, j < u.1.1 → ad2 j = ad j)) hA hP hD hS (va_runV (As := As) (rest := rest) ⟨hx, hb, hml, hown, ht⟩ hC (cwV nA ht hG rfl hrc hrs hd hR) ⟨hp.1, hrecv, hp.2⟩ rfl hAs hsz rfl (by simpa using hr8) hdg hf) (fun st9 t v1 h => by obtain ⟨⟨ad2, hv, hag, hP2, hK2, hD2⟩, hF⟩ := h; cases hv; exact ⟨ad2, hag, rfl, hP2, hD2, hF⟩) (fun ad2 H1 locs1 hag a1 a2 a3 => kk ad2 H1 locs1 hag a1 a2 a3)
theorem L_I (C0 : XCx p s s0 b0 m args meth c own cc nL ret D cB cI cJ cZ cS cP A) (hP : va_P D cls (wC cB cI cJ cZ cS cP ad u ++ r) H) (hD : va_D A (wC cB cI cJ cZ cS cP ad u ++ r)) (hS : va_S A s.heap H locs)
    (hC : Met l y (wd_ws y b n none) rm (xPc s0 b0 D cB cI cJ cZ cS cP ad u H.size (.ref (ad i) :: As)) (xQ D cB cI cJ cZ cS cP (xA cB cI cJ cZ cS cP ad u H.size) ad u.1.1 x v) mc ms (xA cB cI cJ cZ cS cP ad u H.size))
    (hk : Cond.code y b n none ∈ wd_tbl) (hl : Cond.methodLink own idx y ∈ wd_tbl) (hi : Cond.instanceMethod y ∈ wd_tbl) (hini : Cond.initialized y.cls ∈ wd_tbl) (hnm : y.name = "<init>") (hrc : rm.cells = mc) (hrs : rm.slots = ms)
    (hd : y.cls ≠ "java/lang/invoke/MethodHandle" ∧ y.cls ≠ "java/lang/invoke/VarHandle" ∧ (parseMethodDescriptor y.desc).map (fun d => d.parameters.length) = some nA) (hAs : As.length = nA) (hR : rm.frames + 1 ≤ R.frames ∧ 8 + (n + 11) + rm.locals ≤ R.locals) (hsz : ls.size = nL) (hr8 : (rest.map fun v => v.category).sum ≤ 8) (hdg : decode cc pc = .ok (.invokespecial idx, 3)) (hst0 : st = As.reverse ++ .ref (ad i) :: rest) (hf : cells + mc ≤ R.cells ∧ slots + ms ≤ R.slots)
    (kk : ∀ (ad2 : Nat → Nat) (H1 : Heap) (locs1 : List Loc), (∀ j, j < u.1.1 → ad2 j = ad j) → va_P D cls (wC cB cI cJ cZ cS cP ad2 x ++ r) H1 → va_D A (wC cB cI cJ cZ cS cP ad2 x ++ r) → va_S A s.heap H1 locs1 → W p l e R s m args below meth c H1 locs1 (cells + mc) (slots + ms) Q (F0 m (pc + 3) ls ((v.map (lvV ad2)).toList ++ rest))) : W p l e R s m args below meth c H locs cells slots Q (F0 m pc ls st) := by
  have hp := x_pre (As := (.ref (ad i) :: As)) C0 (fr_l hP) (fd_l hD) hS
  obtain ⟨hx, hb, hr, hml, ht, hown, hK, hA, hlocks, hA0, hO, hbs⟩ := id C0
  subst hst0
  have hG : GoodIn wd_tbl (wd_ws y b n none) := wd_in (fun _ z => z) hk
  exact fr_call (ι := Nat → Nat) (w2 := (fun ad2 => wC cB cI cJ cZ cS cP ad2 x)) (val := (fun ad2 => v.map (lvV ad2))) (Ex := (fun ad2 => ∀ j, j < u.1.1 → ad2 j = ad j)) hA hP hD hS (va_runI (As := As) (rest := rest) ⟨hx, hb, hml, hown, ht⟩ hC (cwI nA ht hG rfl hrc hrs (ht _ hini) (ht _ hl) (ht _ hi) hnm hd hR) hp rfl hAs hsz rfl (by simpa using hr8) hdg hf) (fun st9 t v1 h => by obtain ⟨⟨ad2, hv, hag, hP2, hK2, hD2⟩, hF⟩ := h; cases hv; exact ⟨ad2, hag, rfl, hP2, hD2, hF⟩) (fun ad2 H1 locs1 hag a1 a2 a3 => kk ad2 H1 locs1 hag a1 a2 a3)
theorem L_Mi {x : MS × Int32} (C0 : XCx p s s0 b0 m args meth c own cc nL ret D cB cI cJ cZ cS cP A) (hP : va_P D cls (wM cB cI cJ cZ cS 0 h0 adM uM ++ r) H) (hD : va_D A (wM cB cI cJ cZ cS 0 h0 adM uM ++ r)) (hS : va_S A s.heap H locs)
    (hC : Met l y (wd_ws y b n rt) rm (mPc D cls cB cI cJ cZ cS 0 h0 adM uM H.size (.ref h0 :: As)) (mQi D cls cB cI cJ cZ cS 0 h0 adM (mA cB cI cJ cZ cS 0 h0 adM uM H.size) x) 0 0 (mA cB cI cJ cZ cS 0 h0 adM uM H.size))
    (hk : Cond.code y b n rt ∈ wd_tbl) (hl : Cond.methodLink own idx y ∈ wd_tbl) (hi : Cond.instanceMethod y ∈ wd_tbl) (hsel : Cond.selects R_M y y ∈ wd_tbl) (hini : Cond.initialized R_M ∈ wd_tbl) (hrc : rm.cells = 0) (hrs : rm.slots = 0)
    (hd : y.cls = R_M ∧ y.cls ≠ "java/lang/invoke/MethodHandle" ∧ y.cls ≠ "java/lang/invoke/VarHandle" ∧ (parseMethodDescriptor y.desc).map (fun d => d.parameters.length) = some nA) (hAs : As.length = nA) (hR : rm.frames + 1 ≤ R.frames ∧ 8 + (n + 11) + rm.locals ≤ R.locals) (hsz : ls.size = nL) (hr8 : (rest.map fun v => v.category).sum ≤ 8) (hdg : decode cc pc = .ok (.invokevirtual idx, 3)) (hst0 : st = As.reverse ++ .ref h0 :: rest) (hf : cells + 0 ≤ R.cells ∧ slots + 0 ≤ R.slots)
    (kk : ∀ (H1 : Heap) (locs1 : List Loc), va_P D cls (wM cB cI cJ cZ cS 0 h0 adM x.1 ++ r) H1 → va_D A (wM cB cI cJ cZ cS 0 h0 adM x.1 ++ r) → va_S A s.heap H1 locs1 → W p l e R s m args below meth c H1 locs1 cells slots Q (F0 m (pc + 3) ls ((some (.int x.2) : Option Value).toList ++ rest))) : W p l e R s m args below meth c H locs cells slots Q (F0 m pc ls st) := by
  obtain ⟨hx, hb, hr, hml, ht, hown, hK, hA, hlocks, hA0, hO, hbs⟩ := id C0
  subst hst0
  have hG : GoodIn wd_tbl (wsV own idx R_M y (wd_ws y b n rt)) := fun w h => by
    rcases List.mem_append.mp h with h | h
    · have hm : w ∈ wd_tbl := by
        simp only [List.mem_cons, List.not_mem_nil, or_false] at h
        rcases h with rfl | rfl | rfl | rfl
        · exact hl
        · exact hi
        · exact hsel
        · exact hini
      exact ⟨hm, wd_gd hm⟩
    · exact wd_in (fun _ z => z) hk w h
  have hK5 : va_K D cls (ty5 cB cI cJ cZ cS) s := hK.sub [0, 1, 2, 3, 4] rfl
  exact fr_call (ι := Unit) (w2 := (fun _ => wM cB cI cJ cZ cS 0 h0 adM x.1)) (val := (fun _ => some (.int x.2))) (Ex := (fun _ => True)) hA hP hD hS (va_runV (As := As) (rest := rest) ⟨hx, hb, hml, hown, ht⟩ hC (cwV nA ht hG rfl hrc hrs hd hR) ⟨fun a U g mk q => by obtain ⟨q0, q1, qP, qK, qD⟩ := q; exact ⟨q0, q1, qP, va_K.moved (u := U) (U := U.calling g mk a) (Vm.Alike.refl U.vm) qK, qD⟩, va_recv hK5 (fr_l hP) (show cls[0]? = some (R_M, F_M, 171) from rfl) (q0 := 0) rfl, fun U hU hW => ⟨rfl, by rw [hU], by rw [hU]; exact fr_l hP, va_K.moved hW.alike hK5, (fd_l hD).weaken (fun _ _ _ _ => trivial)⟩⟩ rfl hAs hsz rfl (by simpa using hr8) hdg hf) (fun st9 t v1 h => by obtain ⟨⟨r9, v9, hv, ⟨hr9, hv9⟩, hP2, hK2, hD2⟩, hF⟩ := h; subst hr9; subst hv9; cases hv; exact ⟨(), trivial, rfl, hP2, hD2, hF⟩) (fun _ H1 locs1 _ a1 a2 a3 => kk H1 locs1 a1 a2 a3)
theorem L_Mv {x : MS × Unit} (C0 : XCx p s s0 b0 m args meth c own cc nL ret D cB cI cJ cZ cS cP A) (hP : va_P D cls (wM cB cI cJ cZ cS 0 h0 adM uM ++ r) H) (hD : va_D A (wM cB cI cJ cZ cS 0 h0 adM uM ++ r)) (hS : va_S A s.heap H locs)
    (hC : Met l y (wd_ws y b n rt) rm (mPc D cls cB cI cJ cZ cS 0 h0 adM uM H.size (.ref h0 :: As)) (mQv D cls cB cI cJ cZ cS 0 h0 adM (mA cB cI cJ cZ cS 0 h0 adM uM H.size) x) 0 0 (mA cB cI cJ cZ cS 0 h0 adM uM H.size))
    (hk : Cond.code y b n rt ∈ wd_tbl) (hl : Cond.methodLink own idx y ∈ wd_tbl) (hi : Cond.instanceMethod y ∈ wd_tbl) (hsel : Cond.selects R_M y y ∈ wd_tbl) (hini : Cond.initialized R_M ∈ wd_tbl) (hrc : rm.cells = 0) (hrs : rm.slots = 0)
    (hd : y.cls = R_M ∧ y.cls ≠ "java/lang/invoke/MethodHandle" ∧ y.cls ≠ "java/lang/invoke/VarHandle" ∧ (parseMethodDescriptor y.desc).map (fun d => d.parameters.length) = some nA) (hAs : As.length = nA) (hR : rm.frames + 1 ≤ R.frames ∧ 8 + (n + 11) + rm.locals ≤ R.locals) (hsz : ls.size = nL) (hr8 : (rest.map fun v => v.category).sum ≤ 8) (hdg : decode cc pc = .ok (.invokevirtual idx, 3)) (hst0 : st = As.reverse ++ .ref h0 :: rest) (hf : cells + 0 ≤ R.cells ∧ slots + 0 ≤ R.slots)
    (kk : ∀ (H1 : Heap) (locs1 : List Loc), va_P D cls (wM cB cI cJ cZ cS 0 h0 adM x.1 ++ r) H1 → va_D A (wM cB cI cJ cZ cS 0 h0 adM x.1 ++ r) → va_S A s.heap H1 locs1 → W p l e R s m args below meth c H1 locs1 cells slots Q (F0 m (pc + 3) ls ((none : Option Value).toList ++ rest))) : W p l e R s m args below meth c H locs cells slots Q (F0 m pc ls st) := by
  obtain ⟨hx, hb, hr, hml, ht, hown, hK, hA, hlocks, hA0, hO, hbs⟩ := id C0
  subst hst0
  have hG : GoodIn wd_tbl (wsV own idx R_M y (wd_ws y b n rt)) := fun w h => by
    rcases List.mem_append.mp h with h | h
    · have hm : w ∈ wd_tbl := by
        simp only [List.mem_cons, List.not_mem_nil, or_false] at h
        rcases h with rfl | rfl | rfl | rfl
        · exact hl
        · exact hi
        · exact hsel
        · exact hini
      exact ⟨hm, wd_gd hm⟩
    · exact wd_in (fun _ z => z) hk w h
  have hK5 : va_K D cls (ty5 cB cI cJ cZ cS) s := hK.sub [0, 1, 2, 3, 4] rfl
  exact fr_call (ι := Unit) (w2 := (fun _ => wM cB cI cJ cZ cS 0 h0 adM x.1)) (val := (fun _ => none)) (Ex := (fun _ => True)) hA hP hD hS (va_runV (As := As) (rest := rest) ⟨hx, hb, hml, hown, ht⟩ hC (cwV nA ht hG rfl hrc hrs hd hR) ⟨fun a U g mk q => by obtain ⟨q0, q1, qP, qK, qD⟩ := q; exact ⟨q0, q1, qP, va_K.moved (u := U) (U := U.calling g mk a) (Vm.Alike.refl U.vm) qK, qD⟩, va_recv hK5 (fr_l hP) (show cls[0]? = some (R_M, F_M, 171) from rfl) (q0 := 0) rfl, fun U hU hW => ⟨rfl, by rw [hU], by rw [hU]; exact fr_l hP, va_K.moved hW.alike hK5, (fd_l hD).weaken (fun _ _ _ _ => trivial)⟩⟩ rfl hAs hsz rfl (by simpa using hr8) hdg hf) (fun st9 t v1 h => by obtain ⟨⟨v9, hv, hv9, hP2, hK2, hD2⟩, hF⟩ := h; subst hv9; cases hv; exact ⟨(), trivial, rfl, hP2, hD2, hF⟩) (fun _ H1 locs1 _ a1 a2 a3 => kk H1 locs1 a1 a2 a3)
end LCALL
