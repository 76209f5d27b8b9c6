/-! a call of one of the reference's methods by another -/
section MCALL
variable {p : Program} {l : Launch} {e : Env} {R : Room} {s : State} {m : MethodId} {args : Array Value} {below : List Frame} {meth : Method} {c : Code} {H : Heap} {locs : List Loc} {cells slots : Nat} {Q : State → Prop}
variable {cc : ByteArray} {pc nL n idx : Nat} {ls : Array Slot} {rest : List Value} {ret rt : Option FieldType} {D : va_G} {cl : List vw_C} {cB cI cJ cZ cS : ClassId} {A : Nat → Prop} {iM h0 : Nat} {ad : Nat → Nat} {u : MS} {y : MethodName} {b : ByteArray} {rm : Room} {As : List Value} {nA : Nat}
theorem mV_i {x : MS × Int32} (C0 : MCx p s m args meth c cc nL ret D cl cB cI cJ cZ cS iM A) (hP : va_P D cl (wM cB cI cJ cZ cS iM h0 ad u) H) (hD : va_D A (wM cB cI cJ cZ cS iM h0 ad u)) (hS : va_S A s.heap H locs)
    (hC : Met l y (wd_ws y b n rt) rm (mPc D cl cB cI cJ cZ cS iM h0 ad u H.size (.ref h0 :: As)) (mQi D cl cB cI cJ cZ cS iM h0 ad (mA cB cI cJ cZ cS iM h0 ad u H.size) x) 0 0 (mA cB cI cJ cZ cS iM h0 ad u H.size))
    (hk : Cond.code y b n rt ∈ wd_tbl) (hl : Cond.methodLink R_M idx y ∈ wd_tbl) (hi : Cond.instanceMethod y ∈ wd_tbl) (hsel : Cond.selects R_M y y ∈ wd_tbl) (hini : Cond.initialized R_M ∈ wd_tbl) (hrc : rm.cells = 0) (hrs : rm.slots = 0)
    (hd : y.cls = R_M ∧ y.cls ≠ "java/lang/invoke/MethodHandle" ∧ y.cls ≠ "java/lang/invoke/VarHandle" ∧ (parseMethodDescriptor y.desc).map (fun d => d.parameters.length) = some nA) (hAs : As.length = nA) (hR : rm.frames + 1 ≤ R.frames ∧ 8 + (n + 11) + rm.locals ≤ R.locals) (hsz : ls.size = nL) (hr8 : (rest.map fun v => v.category).sum ≤ 8) (hdg : decode cc pc = .ok (.invokevirtual idx, 3))
    {st : List Value} (hst0 : st = As.reverse ++ .ref h0 :: rest) (hf : cells + 0 ≤ R.cells ∧ slots + 0 ≤ R.slots)
    (kk : ∀ (H1 : Heap) (locs1 : List Loc), va_P D cl (wM cB cI cJ cZ cS iM h0 ad x.1) H1 → va_D A (wM cB cI cJ cZ cS iM h0 ad x.1) → va_S A s.heap H1 locs1 → W p l e R s m args below meth c H1 locs1 cells slots Q (F0 m (pc + 3) ls (.int x.2 :: rest))) :
    W p l e R s m args below meth c H locs cells slots Q (F0 m pc ls st) := by
  obtain ⟨hx, hb, hr, hml, ht, hown, hM, hK, hA, hlocks⟩ := C0
  subst hst0
  have hFc : ∀ q, mA cB cI cJ cZ cS iM h0 ad u H.size q → A q := fun q h => by
    rcases h with ⟨k, e1, h⟩ | h
    · exact hD.2 k _ h
    · exact hA q (Nat.le_trans hS.1 h)
  have hG : GoodIn wd_tbl (wsV R_M idx R_M y (wd_ws y b n rt)) := fun w h => by
    rcases List.mem_append.mp h with h | h
    · have hm : w ∈ wd_tbl := by
        simp only [List.mem_cons, List.not_mem_nil, or_false] at h
        rcases h with rfl | rfl | rfl | rfl
        · exact hl
        · exact hi
        · exact hsel
        · exact hini
      exact ⟨hm, wd_gd hm⟩
    · exact wd_in (fun _ z => z) hk w h
  refine va_calli (va_runV (As := As) (rest := rest) ⟨hx, hb, hml, hown, ht⟩ hC (cwV nA ht hG rfl hrc hrs hd hR) ⟨fun a U g mk q => by obtain ⟨q0, q1, qP, qK, qD⟩ := q; exact ⟨q0, q1, qP, va_K.moved (u := U) (U := U.calling g mk a) (Vm.Alike.refl U.vm) qK, qD⟩, va_recv hK hP hM (q0 := 0) rfl, fun U hU hW => ⟨rfl, by rw [hU], by rw [hU]; exact hP, va_K.moved hW.alike hK, hD.weaken (fun _ _ _ _ => trivial)⟩⟩ rfl hAs hsz rfl (by simpa using hr8) hdg hf) hS (fun q _ h => hFc q h) hFc (fun r v t H1 locs1 h1 hvm hw hB hz hk hS1 => ?_)
  obtain ⟨hP1, hK1, hD1⟩ := hB
  rw [h1] at hP1
  obtain ⟨rfl, rfl⟩ := hw
  exact kk H1 locs1 hP1 (wM_D hD) hS1
theorem mS_i {x : MS × Int32} (C0 : MCx p s m args meth c cc nL ret D cl cB cI cJ cZ cS iM A) (hP : va_P D cl (wM cB cI cJ cZ cS iM h0 ad u) H) (hD : va_D A (wM cB cI cJ cZ cS iM h0 ad u)) (hS : va_S A s.heap H locs)
    (hC : Met l y (wd_ws y b n rt) rm (mPc D cl cB cI cJ cZ cS iM h0 ad u H.size As) (mQi D cl cB cI cJ cZ cS iM h0 ad (mA cB cI cJ cZ cS iM h0 ad u H.size) x) 0 0 (mA cB cI cJ cZ cS iM h0 ad u H.size))
    (hk : Cond.code y b n rt ∈ wd_tbl) (hl : Cond.methodLink R_M idx y ∈ wd_tbl) (hst : Cond.static y ∈ wd_tbl) (hini : Cond.initialized R_M ∈ wd_tbl) (hrc : rm.cells = 0) (hrs : rm.slots = 0)
    (hd : y.cls = R_M ∧ y.cls ≠ "java/lang/invoke/MethodHandle" ∧ y.cls ≠ "java/lang/invoke/VarHandle" ∧ (parseMethodDescriptor y.desc).map (fun d => d.parameters.length) = some nA) (hAs : As.length = nA) (hR : rm.frames + 1 ≤ R.frames ∧ 8 + (n + 11) + rm.locals ≤ R.locals) (hsz : ls.size = nL) (hr8 : (rest.map fun v => v.category).sum ≤ 8) (hdg : decode cc pc = .ok (.invokestatic idx, 3))
    {st : List Value} (hst0 : st = As.reverse ++ rest) (hf : cells + 0 ≤ R.cells ∧ slots + 0 ≤ R.slots)
    (kk : ∀ (H1 : Heap) (locs1 : List Loc), va_P D cl (wM cB cI cJ cZ cS iM h0 ad x.1) H1 → va_D A (wM cB cI cJ cZ cS iM h0 ad x.1) → va_S A s.heap H1 locs1 → W p l e R s m args below meth c H1 locs1 cells slots Q (F0 m (pc + 3) ls (.int x.2 :: rest))) :
    W p l e R s m args below meth c H locs cells slots Q (F0 m pc ls st) := by
  obtain ⟨hx, hb, hr, hml, ht, hown, hM, hK, hA, hlocks⟩ := C0
  subst hst0
  have hFc : ∀ q, mA cB cI cJ cZ cS iM h0 ad u H.size q → A q := fun q h => by
    rcases h with ⟨k, e1, h⟩ | h
    · exact hD.2 k _ h
    · exact hA q (Nat.le_trans hS.1 h)
  have hG : GoodIn wd_tbl (wsS R_M idx y (wd_ws y b n rt)) := fun w h => by
    rcases List.mem_append.mp h with h | h
    · have hm : w ∈ wd_tbl := by
        simp only [List.mem_cons, List.not_mem_nil, or_false] at h
        rcases h with rfl | rfl | rfl
        · exact hl
        · exact hst
        · exact hini
      exact ⟨hm, wd_gd hm⟩
    · exact wd_in (fun _ z => z) hk w h
  refine va_calli (va_runS (As := As) (rest := rest) ⟨hx, hb, hml, hown, ht⟩ hC (cwS nA ht hG rfl hrc hrs hd hR) ⟨fun a U g mk q => by obtain ⟨q0, q1, qP, qK, qD⟩ := q; exact ⟨q0, q1, qP, va_K.moved (u := U) (U := U.calling g mk a) (Vm.Alike.refl U.vm) qK, qD⟩, fun U hU hW => ⟨rfl, by rw [hU], by rw [hU]; exact hP, va_K.moved hW.alike hK, hD.weaken (fun _ _ _ _ => trivial)⟩⟩ rfl hAs hsz rfl (by simpa using hr8) hdg hf) hS (fun q _ h => hFc q h) hFc (fun r v t H1 locs1 h1 hvm hw hB hz hk hS1 => ?_)
  obtain ⟨hP1, hK1, hD1⟩ := hB
  rw [h1] at hP1
  obtain ⟨rfl, rfl⟩ := hw
  exact kk H1 locs1 hP1 (wM_D hD) hS1
theorem mV_l {x : MS × Int64} (C0 : MCx p s m args meth c cc nL ret D cl cB cI cJ cZ cS iM A) (hP : va_P D cl (wM cB cI cJ cZ cS iM h0 ad u) H) (hD : va_D A (wM cB cI cJ cZ cS iM h0 ad u)) (hS : va_S A s.heap H locs)
    (hC : Met l y (wd_ws y b n rt) rm (mPc D cl cB cI cJ cZ cS iM h0 ad u H.size (.ref h0 :: As)) (mQl D cl cB cI cJ cZ cS iM h0 ad (mA cB cI cJ cZ cS iM h0 ad u H.size) x) 0 0 (mA cB cI cJ cZ cS iM h0 ad u H.size))
    (hk : Cond.code y b n rt ∈ wd_tbl) (hl : Cond.methodLink R_M idx y ∈ wd_tbl) (hi : Cond.instanceMethod y ∈ wd_tbl) (hsel : Cond.selects R_M y y ∈ wd_tbl) (hini : Cond.initialized R_M ∈ wd_tbl) (hrc : rm.cells = 0) (hrs : rm.slots = 0)
    (hd : y.cls = R_M ∧ y.cls ≠ "java/lang/invoke/MethodHandle" ∧ y.cls ≠ "java/lang/invoke/VarHandle" ∧ (parseMethodDescriptor y.desc).map (fun d => d.parameters.length) = some nA) (hAs : As.length = nA) (hR : rm.frames + 1 ≤ R.frames ∧ 8 + (n + 11) + rm.locals ≤ R.locals) (hsz : ls.size = nL) (hr8 : (rest.map fun v => v.category).sum ≤ 8) (hdg : decode cc pc = .ok (.invokevirtual idx, 3))
    {st : List Value} (hst0 : st = As.reverse ++ .ref h0 :: rest) (hf : cells + 0 ≤ R.cells ∧ slots + 0 ≤ R.slots)
    (kk : ∀ (H1 : Heap) (locs1 : List Loc), va_P D cl (wM cB cI cJ cZ cS iM h0 ad x.1) H1 → va_D A (wM cB cI cJ cZ cS iM h0 ad x.1) → va_S A s.heap H1 locs1 → W p l e R s m args below meth c H1 locs1 cells slots Q (F0 m (pc + 3) ls (.long x.2 :: rest))) :
    W p l e R s m args below meth c H locs cells slots Q (F0 m pc ls st) := by
  obtain ⟨hx, hb, hr, hml, ht, hown, hM, hK, hA, hlocks⟩ := C0
  subst hst0
  have hFc : ∀ q, mA cB cI cJ cZ cS iM h0 ad u H.size q → A q := fun q h => by
    rcases h with ⟨k, e1, h⟩ | h
    · exact hD.2 k _ h
    · exact hA q (Nat.le_trans hS.1 h)
  have hG : GoodIn wd_tbl (wsV R_M idx R_M y (wd_ws y b n rt)) := fun w h => by
    rcases List.mem_append.mp h with h | h
    · have hm : w ∈ wd_tbl := by
        simp only [List.mem_cons, List.not_mem_nil, or_false] at h
        rcases h with rfl | rfl | rfl | rfl
        · exact hl
        · exact hi
        · exact hsel
        · exact hini
      exact ⟨hm, wd_gd hm⟩
    · exact wd_in (fun _ z => z) hk w h
  refine va_calll (va_runV (As := As) (rest := rest) ⟨hx, hb, hml, hown, ht⟩ hC (cwV nA ht hG rfl hrc hrs hd hR) ⟨fun a U g mk q => by obtain ⟨q0, q1, qP, qK, qD⟩ := q; exact ⟨q0, q1, qP, va_K.moved (u := U) (U := U.calling g mk a) (Vm.Alike.refl U.vm) qK, qD⟩, va_recv hK hP hM (q0 := 0) rfl, fun U hU hW => ⟨rfl, by rw [hU], by rw [hU]; exact hP, va_K.moved hW.alike hK, hD.weaken (fun _ _ _ _ => trivial)⟩⟩ rfl hAs hsz rfl (by simpa using hr8) hdg hf) hS (fun q _ h => hFc q h) hFc (fun r v t H1 locs1 h1 hvm hw hB hz hk hS1 => ?_)
  obtain ⟨hP1, hK1, hD1⟩ := hB
  rw [h1] at hP1
  obtain ⟨rfl, rfl⟩ := hw
  exact kk H1 locs1 hP1 (wM_D hD) hS1
theorem mS_l {x : MS × Int64} (C0 : MCx p s m args meth c cc nL ret D cl cB cI cJ cZ cS iM A) (hP : va_P D cl (wM cB cI cJ cZ cS iM h0 ad u) H) (hD : va_D A (wM cB cI cJ cZ cS iM h0 ad u)) (hS : va_S A s.heap H locs)
    (hC : Met l y (wd_ws y b n rt) rm (mPc D cl cB cI cJ cZ cS iM h0 ad u H.size As) (mQl D cl cB cI cJ cZ cS iM h0 ad (mA cB cI cJ cZ cS iM h0 ad u H.size) x) 0 0 (mA cB cI cJ cZ cS iM h0 ad u H.size))
    (hk : Cond.code y b n rt ∈ wd_tbl) (hl : Cond.methodLink R_M idx y ∈ wd_tbl) (hst : Cond.static y ∈ wd_tbl) (hini : Cond.initialized R_M ∈ wd_tbl) (hrc : rm.cells = 0) (hrs : rm.slots = 0)
    (hd : y.cls = R_M ∧ y.cls ≠ "java/lang/invoke/MethodHandle" ∧ y.cls ≠ "java/lang/invoke/VarHandle" ∧ (parseMethodDescriptor y.desc).map (fun d => d.parameters.length) = some nA) (hAs : As.length = nA) (hR : rm.frames + 1 ≤ R.frames ∧ 8 + (n + 11) + rm.locals ≤ R.locals) (hsz : ls.size = nL) (hr8 : (rest.map fun v => v.category).sum ≤ 8) (hdg : decode cc pc = .ok (.invokestatic idx, 3))
    {st : List Value} (hst0 : st = As.reverse ++ rest) (hf : cells + 0 ≤ R.cells ∧ slots + 0 ≤ R.slots)
    (kk : ∀ (H1 : Heap) (locs1 : List Loc), va_P D cl (wM cB cI cJ cZ cS iM h0 ad x.1) H1 → va_D A (wM cB cI cJ cZ cS iM h0 ad x.1) → va_S A s.heap H1 locs1 → W p l e R s m args below meth c H1 locs1 cells slots Q (F0 m (pc + 3) ls (.long x.2 :: rest))) :
    W p l e R s m args below meth c H locs cells slots Q (F0 m pc ls st) := by
  obtain ⟨hx, hb, hr, hml, ht, hown, hM, hK, hA, hlocks⟩ := C0
  subst hst0
  have hFc : ∀ q, mA cB cI cJ cZ cS iM h0 ad u H.size q → A q := fun q h => by
    rcases h with ⟨k, e1, h⟩ | h
    · exact hD.2 k _ h
    · exact hA q (Nat.le_trans hS.1 h)
  have hG : GoodIn wd_tbl (wsS R_M idx y (wd_ws y b n rt)) := fun w h => by
    rcases List.mem_append.mp h with h | h
    · have hm : w ∈ wd_tbl := by
        simp only [List.mem_cons, List.not_mem_nil, or_false] at h
        rcases h with rfl | rfl | rfl
        · exact hl
        · exact hst
        · exact hini
      exact ⟨hm, wd_gd hm⟩
    · exact wd_in (fun _ z => z) hk w h
  refine va_calll (va_runS (As := As) (rest := rest) ⟨hx, hb, hml, hown, ht⟩ hC (cwS nA ht hG rfl hrc hrs hd hR) ⟨fun a U g mk q => by obtain ⟨q0, q1, qP, qK, qD⟩ := q; exact ⟨q0, q1, qP, va_K.moved (u := U) (U := U.calling g mk a) (Vm.Alike.refl U.vm) qK, qD⟩, fun U hU hW => ⟨rfl, by rw [hU], by rw [hU]; exact hP, va_K.moved hW.alike hK, hD.weaken (fun _ _ _ _ => trivial)⟩⟩ rfl hAs hsz rfl (by simpa using hr8) hdg hf) hS (fun q _ h => hFc q h) hFc (fun r v t H1 locs1 h1 hvm hw hB hz hk hS1 => ?_)
  obtain ⟨hP1, hK1, hD1⟩ := hB
  rw [h1] at hP1
  obtain ⟨rfl, rfl⟩ := hw
  exact kk H1 locs1 hP1 (wM_D hD) hS1
theorem mV_v {x : MS × Unit} (C0 : MCx p s m args meth c cc nL ret D cl cB cI cJ cZ cS iM A) (hP : va_P D cl (wM cB cI cJ cZ cS iM h0 ad u) H) (hD : va_D A (wM cB cI cJ cZ cS iM h0 ad u)) (hS : va_S A s.heap H locs)
    (hC : Met l y (wd_ws y b n rt) rm (mPc D cl cB cI cJ cZ cS iM h0 ad u H.size (.ref h0 :: As)) (mQv D cl cB cI cJ cZ cS iM h0 ad (mA cB cI cJ cZ cS iM h0 ad u H.size) x) 0 0 (mA cB cI cJ cZ cS iM h0 ad u H.size))
    (hk : Cond.code y b n rt ∈ wd_tbl) (hl : Cond.methodLink R_M idx y ∈ wd_tbl) (hi : Cond.instanceMethod y ∈ wd_tbl) (hsel : Cond.selects R_M y y ∈ wd_tbl) (hini : Cond.initialized R_M ∈ wd_tbl) (hrc : rm.cells = 0) (hrs : rm.slots = 0)
    (hd : y.cls = R_M ∧ y.cls ≠ "java/lang/invoke/MethodHandle" ∧ y.cls ≠ "java/lang/invoke/VarHandle" ∧ (parseMethodDescriptor y.desc).map (fun d => d.parameters.length) = some nA) (hAs : As.length = nA) (hR : rm.frames + 1 ≤ R.frames ∧ 8 + (n + 11) + rm.locals ≤ R.locals) (hsz : ls.size = nL) (hr8 : (rest.map fun v => v.category).sum ≤ 8) (hdg : decode cc pc = .ok (.invokevirtual idx, 3))
    {st : List Value} (hst0 : st = As.reverse ++ .ref h0 :: rest) (hf : cells + 0 ≤ R.cells ∧ slots + 0 ≤ R.slots)
    (kk : ∀ (H1 : Heap) (locs1 : List Loc), va_P D cl (wM cB cI cJ cZ cS iM h0 ad x.1) H1 → va_D A (wM cB cI cJ cZ cS iM h0 ad x.1) → va_S A s.heap H1 locs1 → W p l e R s m args below meth c H1 locs1 cells slots Q (F0 m (pc + 3) ls (rest))) :
    W p l e R s m args below meth c H locs cells slots Q (F0 m pc ls st) := by
  obtain ⟨hx, hb, hr, hml, ht, hown, hM, hK, hA, hlocks⟩ := C0
  subst hst0
  have hFc : ∀ q, mA cB cI cJ cZ cS iM h0 ad u H.size q → A q := fun q h => by
    rcases h with ⟨k, e1, h⟩ | h
    · exact hD.2 k _ h
    · exact hA q (Nat.le_trans hS.1 h)
  have hG : GoodIn wd_tbl (wsV R_M idx R_M y (wd_ws y b n rt)) := fun w h => by
    rcases List.mem_append.mp h with h | h
    · have hm : w ∈ wd_tbl := by
        simp only [List.mem_cons, List.not_mem_nil, or_false] at h
        rcases h with rfl | rfl | rfl | rfl
        · exact hl
        · exact hi
        · exact hsel
        · exact hini
      exact ⟨hm, wd_gd hm⟩
    · exact wd_in (fun _ z => z) hk w h
  refine va_callv (va_runV (As := As) (rest := rest) ⟨hx, hb, hml, hown, ht⟩ hC (cwV nA ht hG rfl hrc hrs hd hR) ⟨fun a U g mk q => by obtain ⟨q0, q1, qP, qK, qD⟩ := q; exact ⟨q0, q1, qP, va_K.moved (u := U) (U := U.calling g mk a) (Vm.Alike.refl U.vm) qK, qD⟩, va_recv hK hP hM (q0 := 0) rfl, fun U hU hW => ⟨rfl, by rw [hU], by rw [hU]; exact hP, va_K.moved hW.alike hK, hD.weaken (fun _ _ _ _ => trivial)⟩⟩ rfl hAs hsz rfl (by simpa using hr8) hdg hf) hS (fun q _ h => hFc q h) hFc (fun v t H1 locs1 h1 hvm hw hB hz hk hS1 => ?_)
  obtain ⟨hP1, hK1, hD1⟩ := hB
  rw [h1] at hP1
  subst hw
  exact kk H1 locs1 hP1 (wM_D hD) hS1
theorem mS_v {x : MS × Unit} (C0 : MCx p s m args meth c cc nL ret D cl cB cI cJ cZ cS iM A) (hP : va_P D cl (wM cB cI cJ cZ cS iM h0 ad u) H) (hD : va_D A (wM cB cI cJ cZ cS iM h0 ad u)) (hS : va_S A s.heap H locs)
    (hC : Met l y (wd_ws y b n rt) rm (mPc D cl cB cI cJ cZ cS iM h0 ad u H.size As) (mQv D cl cB cI cJ cZ cS iM h0 ad (mA cB cI cJ cZ cS iM h0 ad u H.size) x) 0 0 (mA cB cI cJ cZ cS iM h0 ad u H.size))
    (hk : Cond.code y b n rt ∈ wd_tbl) (hl : Cond.methodLink R_M idx y ∈ wd_tbl) (hst : Cond.static y ∈ wd_tbl) (hini : Cond.initialized R_M ∈ wd_tbl) (hrc : rm.cells = 0) (hrs : rm.slots = 0)
    (hd : y.cls = R_M ∧ y.cls ≠ "java/lang/invoke/MethodHandle" ∧ y.cls ≠ "java/lang/invoke/VarHandle" ∧ (parseMethodDescriptor y.desc).map (fun d => d.parameters.length) = some nA) (hAs : As.length = nA) (hR : rm.frames + 1 ≤ R.frames ∧ 8 + (n + 11) + rm.locals ≤ R.locals) (hsz : ls.size = nL) (hr8 : (rest.map fun v => v.category).sum ≤ 8) (hdg : decode cc pc = .ok (.invokestatic idx, 3))
    {st : List Value} (hst0 : st = As.reverse ++ rest) (hf : cells + 0 ≤ R.cells ∧ slots + 0 ≤ R.slots)
    (kk : ∀ (H1 : Heap) (locs1 : List Loc), va_P D cl (wM cB cI cJ cZ cS iM h0 ad x.1) H1 → va_D A (wM cB cI cJ cZ cS iM h0 ad x.1) → va_S A s.heap H1 locs1 → W p l e R s m args below meth c H1 locs1 cells slots Q (F0 m (pc + 3) ls (rest))) :
    W p l e R s m args below meth c H locs cells slots Q (F0 m pc ls st) := by
  obtain ⟨hx, hb, hr, hml, ht, hown, hM, hK, hA, hlocks⟩ := C0
  subst hst0
  have hFc : ∀ q, mA cB cI cJ cZ cS iM h0 ad u H.size q → A q := fun q h => by
    rcases h with ⟨k, e1, h⟩ | h
    · exact hD.2 k _ h
    · exact hA q (Nat.le_trans hS.1 h)
  have hG : GoodIn wd_tbl (wsS R_M idx y (wd_ws y b n rt)) := fun w h => by
    rcases List.mem_append.mp h with h | h
    · have hm : w ∈ wd_tbl := by
        simp only [List.mem_cons, List.not_mem_nil, or_false] at h
        rcases h with rfl | rfl | rfl
        · exact hl
        · exact hst
        · exact hini
      exact ⟨hm, wd_gd hm⟩
    · exact wd_in (fun _ z => z) hk w h
  refine va_callv (va_runS (As := As) (rest := rest) ⟨hx, hb, hml, hown, ht⟩ hC (cwS nA ht hG rfl hrc hrs hd hR) ⟨fun a U g mk q => by obtain ⟨q0, q1, qP, qK, qD⟩ := q; exact ⟨q0, q1, qP, va_K.moved (u := U) (U := U.calling g mk a) (Vm.Alike.refl U.vm) qK, qD⟩, fun U hU hW => ⟨rfl, by rw [hU], by rw [hU]; exact hP, va_K.moved hW.alike hK, hD.weaken (fun _ _ _ _ => trivial)⟩⟩ rfl hAs hsz rfl (by simpa using hr8) hdg hf) hS (fun q _ h => hFc q h) hFc (fun v t H1 locs1 h1 hvm hw hB hz hk hS1 => ?_)
  obtain ⟨hP1, hK1, hD1⟩ := hB
  rw [h1] at hP1
  subst hw
  exact kk H1 locs1 hP1 (wM_D hD) hS1
end MCALL
