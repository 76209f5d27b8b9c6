/-! one instruction, over the reference's world as a value -/
theorem el_i {cB cI cJ cZ cS : ClassId} {u : MS} {k : Nat} (h : kd k ≠ 5) : el cB cI cJ cZ cS u k = .inl (cA5 cB cI cJ cZ cS k, ln k, .inl (u.2.2.1 k)) := if_neg h
theorem el_j {cB cI cJ cZ cS : ClassId} {u : MS} {k : Nat} (h : kd k = 5) : el cB cI cJ cZ cS u k = .inl (cA5 cB cI cJ cZ cS k, ln k, .inr (.inl (u.2.2.2 k))) := if_pos h
theorem cA_3 {cB cI cJ cZ cS : ClassId} {k : Nat} (h : kd k = 3) : cA5 cB cI cJ cZ cS k = cB := by simp [cA5, h]
theorem cA_4 {cB cI cJ cZ cS : ClassId} {k : Nat} (h : kd k = 4) : cA5 cB cI cJ cZ cS k = cI := by simp [cA5, h]
theorem cA_5 {cB cI cJ cZ cS : ClassId} {k : Nat} (h : kd k = 5) : cA5 cB cI cJ cZ cS k = cJ := by simp [cA5, h]
theorem cA_6 {cB cI cJ cZ cS : ClassId} {k : Nat} (h : kd k = 6) : cA5 cB cI cJ cZ cS k = cZ := by simp [cA5, h]
theorem cA_7 {cB cI cJ cZ cS : ClassId} {k : Nat} (h : kd k = 7) : cA5 cB cI cJ cZ cS k = cS := by simp [cA5, h]
def inb (i : Int32) (n : Nat) : Bool := decide (¬ (i < 0 ∨ n ≤ i.toNatClampNeg))
theorem inb_in {i : Int32} {n : Nat} (h : inb i n = true) : vp_in i n := by
  show ¬ (i < 0 ∨ n ≤ i.toNatClampNeg)
  exact of_decide_eq_true h
section MROW
variable {p : Program} {l : Launch} {e : Env} {R : Room} {s : State} {m : MethodId} {args : Array Value} {below : List Frame} {meth : Method} {c : Code} {H : Heap} {locs : List Loc} {cells slots : Nat} {Q : State → Prop}
variable {cc : ByteArray} {pc : Nat} {ls : Array Slot} {rest : List Value} {D : va_G} {cl : List vw_C} {cB cI cJ cZ cS : ClassId} {A : Nat → Prop} {H0 : Heap} {iM h0 : Nat} {ad : Nat → Nat} {u : MS} {index : Nat}
theorem ug_I (hx : p.tables.exec = Jvm.exec) (hb : c.code = cc) (ht : ∀ w ∈ wd_tbl, w.before args s = true) (hown : s.vm.findClass R_M = some m.cls) (hM : cl[iM]? = some (R_M, F_M, 171)) (hK : va_K D cl (ty5 cB cI cJ cZ cS) s) (hP : va_P D cl (wM cB cI cJ cZ cS iM h0 ad u) H) (k : Nat) (hk : k < 171) (hlink : Cond.fieldLink R_M index R_M (F_M k).2.1 (F_M k).2.2.1 ∈ wd_tbl) (hkd : kd k ≤ 1) (hdg : decode cc pc = .ok (.getfield index, 3))
    (kk : W p l e R s m args below meth c H locs cells slots Q (F0 m (pc + 3) ls (.int (u.1 k) :: rest))) : W p l e R s m args below meth c H locs cells slots Q (F0 m pc ls (.ref h0 :: rest)) :=
  mf_get hx hb ht hown hM hK hP 0 rfl k hk hlink (if_pos hkd) hdg kk
theorem ug_L (hx : p.tables.exec = Jvm.exec) (hb : c.code = cc) (ht : ∀ w ∈ wd_tbl, w.before args s = true) (hown : s.vm.findClass R_M = some m.cls) (hM : cl[iM]? = some (R_M, F_M, 171)) (hK : va_K D cl (ty5 cB cI cJ cZ cS) s) (hP : va_P D cl (wM cB cI cJ cZ cS iM h0 ad u) H) (k : Nat) (hk : k < 171) (hlink : Cond.fieldLink R_M index R_M (F_M k).2.1 (F_M k).2.2.1 ∈ wd_tbl) (hkd : kd k = 2) (hdg : decode cc pc = .ok (.getfield index, 3))
    (kk : W p l e R s m args below meth c H locs cells slots Q (F0 m (pc + 3) ls (.long (u.2.1 k) :: rest))) : W p l e R s m args below meth c H locs cells slots Q (F0 m pc ls (.ref h0 :: rest)) :=
  mf_get hx hb ht hown hM hK hP 0 rfl k hk hlink (by simp [VM, hkd]) hdg kk
theorem ug_R (hx : p.tables.exec = Jvm.exec) (hb : c.code = cc) (ht : ∀ w ∈ wd_tbl, w.before args s = true) (hown : s.vm.findClass R_M = some m.cls) (hM : cl[iM]? = some (R_M, F_M, 171)) (hK : va_K D cl (ty5 cB cI cJ cZ cS) s) (hP : va_P D cl (wM cB cI cJ cZ cS iM h0 ad u) H) (k : Nat) (hk : k < 171) (hlink : Cond.fieldLink R_M index R_M (F_M k).2.1 (F_M k).2.2.1 ∈ wd_tbl) (hkd : 3 ≤ kd k) (hdg : decode cc pc = .ok (.getfield index, 3))
    (kk : W p l e R s m args below meth c H locs cells slots Q (F0 m (pc + 3) ls (.ref (ad k) :: rest))) : W p l e R s m args below meth c H locs cells slots Q (F0 m pc ls (.ref h0 :: rest)) :=
  mf_get hx hb ht hown hM hK hP 0 rfl k hk hlink (by unfold VM; rw [if_neg (by omega), if_neg (by omega)]) hdg kk
theorem up_I (hx : p.tables.exec = Jvm.exec) (hb : c.code = cc) (ht : ∀ w ∈ wd_tbl, w.before args s = true) (hown : s.vm.findClass R_M = some m.cls) (hM : cl[iM]? = some (R_M, F_M, 171)) (hK : va_K D cl (ty5 cB cI cJ cZ cS) s) (hP : va_P D cl (wM cB cI cJ cZ cS iM h0 ad u) H) (hD : va_D A (wM cB cI cJ cZ cS iM h0 ad u)) (hS : va_S A H0 H locs) (k : Nat) (hk : k < 171) (hlink : Cond.fieldLink R_M index R_M (F_M k).2.1 (F_M k).2.2.1 ∈ wd_tbl) (hkd : kd k ≤ 1) (hfin : (F_M k).2.2.2 = false) {v : Int32} (hn : narrow (t_M k) (.int v) = .int v) (hfit : fits (t_M k) (.int v) = true) (hdg : decode cc pc = .ok (.putfield index, 3))
    (kk : ∀ (H1 : Heap) (locs1 : List Loc), va_P D cl (wM cB cI cJ cZ cS iM h0 ad (upI u k v)) H1 → va_D A (wM cB cI cJ cZ cS iM h0 ad (upI u k v)) → va_S A H0 H1 locs1 → W p l e R s m args below meth c H1 locs1 cells slots Q (F0 m (pc + 3) ls rest)) : W p l e R s m args below meth c H locs cells slots Q (F0 m pc ls (.int v :: .ref h0 :: rest)) := by
  refine mf_put hx hb ht hown hM hK hP hD hS 0 rfl k hk hlink hfin hn hfit hdg (fun H1 locs1 hP1 hD1 hS1 => ?_)
  rw [ms_setI hkd] at hP1 hD1
  exact kk H1 locs1 hP1 hD1 hS1
theorem up_L (hx : p.tables.exec = Jvm.exec) (hb : c.code = cc) (ht : ∀ w ∈ wd_tbl, w.before args s = true) (hown : s.vm.findClass R_M = some m.cls) (hM : cl[iM]? = some (R_M, F_M, 171)) (hK : va_K D cl (ty5 cB cI cJ cZ cS) s) (hP : va_P D cl (wM cB cI cJ cZ cS iM h0 ad u) H) (hD : va_D A (wM cB cI cJ cZ cS iM h0 ad u)) (hS : va_S A H0 H locs) (k : Nat) (hk : k < 171) (hlink : Cond.fieldLink R_M index R_M (F_M k).2.1 (F_M k).2.2.1 ∈ wd_tbl) (hkd : kd k = 2) (hfin : (F_M k).2.2.2 = false) {v : Int64} (hn : narrow (t_M k) (.long v) = .long v) (hfit : fits (t_M k) (.long v) = true) (hdg : decode cc pc = .ok (.putfield index, 3))
    (kk : ∀ (H1 : Heap) (locs1 : List Loc), va_P D cl (wM cB cI cJ cZ cS iM h0 ad (upL u k v)) H1 → va_D A (wM cB cI cJ cZ cS iM h0 ad (upL u k v)) → va_S A H0 H1 locs1 → W p l e R s m args below meth c H1 locs1 cells slots Q (F0 m (pc + 3) ls rest)) : W p l e R s m args below meth c H locs cells slots Q (F0 m pc ls (.long v :: .ref h0 :: rest)) := by
  refine mf_put hx hb ht hown hM hK hP hD hS 0 rfl k hk hlink hfin hn hfit hdg (fun H1 locs1 hP1 hD1 hS1 => ?_)
  rw [ms_setL hkd] at hP1 hD1
  exact kk H1 locs1 hP1 hD1 hS1
theorem ul_B (hx : p.tables.exec = Jvm.exec) (hb : c.code = cc) (hK : va_K D cl (ty5 cB cI cJ cZ cS) s) (hP : va_P D cl (wM cB cI cJ cZ cS iM h0 ad u) H) {k : Nat} (hk : k ∈ AK) (hkd : kd k = 3) {i : Int32} (hin : inb i (ln k) = true) (hdg : decode cc pc = .ok (.baload, 1))
    (kk : W p l e R s m args below meth c H locs cells slots Q (F0 m (pc + 1) ls (.int (u.2.2.1 k i.toNatClampNeg) :: rest))) : W p l e R s m args below meth c H locs cells slots Q (F0 m pc ls (.int i :: .ref (ad k) :: rest)) :=
  va_bald hx hb hK hP (plc k) 0 (by rw [ms_at hk, el_i (by omega), cA_3 hkd]) rfl (inb_in hin) hdg kk
theorem us_B (hx : p.tables.exec = Jvm.exec) (hb : c.code = cc) (hK : va_K D cl (ty5 cB cI cJ cZ cS) s) (hP : va_P D cl (wM cB cI cJ cZ cS iM h0 ad u) H) (hD : va_D A (wM cB cI cJ cZ cS iM h0 ad u)) (hS : va_S A H0 H locs) {k : Nat} (hk : k ∈ AK) (hkd : kd k = 3) {i x : Int32} (hin : inb i (ln k) = true) (hdg : decode cc pc = .ok (.bastore, 1))
    (kk : ∀ (H1 : Heap) (locs1 : List Loc), va_P D cl (wM cB cI cJ cZ cS iM h0 ad (upA u k (upd (u.2.2.1 k) i.toNatClampNeg (vp_nar .byte x)))) H1 → va_D A (wM cB cI cJ cZ cS iM h0 ad (upA u k (upd (u.2.2.1 k) i.toNatClampNeg (vp_nar .byte x)))) → va_S A H0 H1 locs1 → W p l e R s m args below meth c H1 locs1 cells slots Q (F0 m (pc + 1) ls rest)) : W p l e R s m args below meth c H locs cells slots Q (F0 m pc ls (.int x :: .int i :: .ref (ad k) :: rest)) := by
  refine va_bast hx hb hK hP hD hS (plc k) 0 (by rw [ms_at hk, el_i (by omega), cA_3 hkd]) rfl (inb_in hin) hdg (fun H1 locs1 hP1 hD1 hS1 => ?_)
  have e9 := ms_setA (cB := cB) (cI := cI) (cJ := cJ) (cZ := cZ) (cS := cS) (iM := iM) (h0 := h0) (ad := ad) (u := u) (f := upd (u.2.2.1 k) i.toNatClampNeg (vp_nar .byte x)) hk (by omega)
  rw [cA_3 hkd] at e9
  rw [e9] at hP1 hD1
  exact kk H1 locs1 hP1 hD1 hS1
theorem ul_I (hx : p.tables.exec = Jvm.exec) (hb : c.code = cc) (hK : va_K D cl (ty5 cB cI cJ cZ cS) s) (hP : va_P D cl (wM cB cI cJ cZ cS iM h0 ad u) H) {k : Nat} (hk : k ∈ AK) (hkd : kd k = 4) {i : Int32} (hin : inb i (ln k) = true) (hdg : decode cc pc = .ok (.iaload, 1))
    (kk : W p l e R s m args below meth c H locs cells slots Q (F0 m (pc + 1) ls (.int (u.2.2.1 k i.toNatClampNeg) :: rest))) : W p l e R s m args below meth c H locs cells slots Q (F0 m pc ls (.int i :: .ref (ad k) :: rest)) :=
  va_iald hx hb hK hP (plc k) 1 (by rw [ms_at hk, el_i (by omega), cA_4 hkd]) rfl (inb_in hin) hdg kk
theorem us_I (hx : p.tables.exec = Jvm.exec) (hb : c.code = cc) (hK : va_K D cl (ty5 cB cI cJ cZ cS) s) (hP : va_P D cl (wM cB cI cJ cZ cS iM h0 ad u) H) (hD : va_D A (wM cB cI cJ cZ cS iM h0 ad u)) (hS : va_S A H0 H locs) {k : Nat} (hk : k ∈ AK) (hkd : kd k = 4) {i x : Int32} (hin : inb i (ln k) = true) (hdg : decode cc pc = .ok (.iastore, 1))
    (kk : ∀ (H1 : Heap) (locs1 : List Loc), va_P D cl (wM cB cI cJ cZ cS iM h0 ad (upA u k (upd (u.2.2.1 k) i.toNatClampNeg x))) H1 → va_D A (wM cB cI cJ cZ cS iM h0 ad (upA u k (upd (u.2.2.1 k) i.toNatClampNeg x))) → va_S A H0 H1 locs1 → W p l e R s m args below meth c H1 locs1 cells slots Q (F0 m (pc + 1) ls rest)) : W p l e R s m args below meth c H locs cells slots Q (F0 m pc ls (.int x :: .int i :: .ref (ad k) :: rest)) := by
  refine va_iast hx hb hK hP hD hS (plc k) 1 (by rw [ms_at hk, el_i (by omega), cA_4 hkd]) rfl (inb_in hin) hdg (fun H1 locs1 hP1 hD1 hS1 => ?_)
  have e9 := ms_setA (cB := cB) (cI := cI) (cJ := cJ) (cZ := cZ) (cS := cS) (iM := iM) (h0 := h0) (ad := ad) (u := u) (f := upd (u.2.2.1 k) i.toNatClampNeg x) hk (by omega)
  rw [cA_4 hkd] at e9
  rw [e9] at hP1 hD1
  exact kk H1 locs1 hP1 hD1 hS1
theorem ul_Z (hx : p.tables.exec = Jvm.exec) (hb : c.code = cc) (hK : va_K D cl (ty5 cB cI cJ cZ cS) s) (hP : va_P D cl (wM cB cI cJ cZ cS iM h0 ad u) H) {k : Nat} (hk : k ∈ AK) (hkd : kd k = 6) {i : Int32} (hin : inb i (ln k) = true) (hdg : decode cc pc = .ok (.baload, 1))
    (kk : W p l e R s m args below meth c H locs cells slots Q (F0 m (pc + 1) ls (.int (u.2.2.1 k i.toNatClampNeg) :: rest))) : W p l e R s m args below meth c H locs cells slots Q (F0 m pc ls (.int i :: .ref (ad k) :: rest)) :=
  va_zald hx hb hK hP (plc k) 3 (by rw [ms_at hk, el_i (by omega), cA_6 hkd]) rfl (inb_in hin) hdg kk
theorem us_Z (hx : p.tables.exec = Jvm.exec) (hb : c.code = cc) (hK : va_K D cl (ty5 cB cI cJ cZ cS) s) (hP : va_P D cl (wM cB cI cJ cZ cS iM h0 ad u) H) (hD : va_D A (wM cB cI cJ cZ cS iM h0 ad u)) (hS : va_S A H0 H locs) {k : Nat} (hk : k ∈ AK) (hkd : kd k = 6) {i x : Int32} (hin : inb i (ln k) = true) (hdg : decode cc pc = .ok (.bastore, 1))
    (kk : ∀ (H1 : Heap) (locs1 : List Loc), va_P D cl (wM cB cI cJ cZ cS iM h0 ad (upA u k (upd (u.2.2.1 k) i.toNatClampNeg (vp_nar .boolean x)))) H1 → va_D A (wM cB cI cJ cZ cS iM h0 ad (upA u k (upd (u.2.2.1 k) i.toNatClampNeg (vp_nar .boolean x)))) → va_S A H0 H1 locs1 → W p l e R s m args below meth c H1 locs1 cells slots Q (F0 m (pc + 1) ls rest)) : W p l e R s m args below meth c H locs cells slots Q (F0 m pc ls (.int x :: .int i :: .ref (ad k) :: rest)) := by
  refine va_zast hx hb hK hP hD hS (plc k) 3 (by rw [ms_at hk, el_i (by omega), cA_6 hkd]) rfl (inb_in hin) hdg (fun H1 locs1 hP1 hD1 hS1 => ?_)
  have e9 := ms_setA (cB := cB) (cI := cI) (cJ := cJ) (cZ := cZ) (cS := cS) (iM := iM) (h0 := h0) (ad := ad) (u := u) (f := upd (u.2.2.1 k) i.toNatClampNeg (vp_nar .boolean x)) hk (by omega)
  rw [cA_6 hkd] at e9
  rw [e9] at hP1 hD1
  exact kk H1 locs1 hP1 hD1 hS1
theorem ul_S (hx : p.tables.exec = Jvm.exec) (hb : c.code = cc) (hK : va_K D cl (ty5 cB cI cJ cZ cS) s) (hP : va_P D cl (wM cB cI cJ cZ cS iM h0 ad u) H) {k : Nat} (hk : k ∈ AK) (hkd : kd k = 7) {i : Int32} (hin : inb i (ln k) = true) (hdg : decode cc pc = .ok (.saload, 1))
    (kk : W p l e R s m args below meth c H locs cells slots Q (F0 m (pc + 1) ls (.int (u.2.2.1 k i.toNatClampNeg) :: rest))) : W p l e R s m args below meth c H locs cells slots Q (F0 m pc ls (.int i :: .ref (ad k) :: rest)) :=
  va_sald hx hb hK hP (plc k) 4 (by rw [ms_at hk, el_i (by omega), cA_7 hkd]) rfl (inb_in hin) hdg kk
theorem us_S (hx : p.tables.exec = Jvm.exec) (hb : c.code = cc) (hK : va_K D cl (ty5 cB cI cJ cZ cS) s) (hP : va_P D cl (wM cB cI cJ cZ cS iM h0 ad u) H) (hD : va_D A (wM cB cI cJ cZ cS iM h0 ad u)) (hS : va_S A H0 H locs) {k : Nat} (hk : k ∈ AK) (hkd : kd k = 7) {i x : Int32} (hin : inb i (ln k) = true) (hdg : decode cc pc = .ok (.sastore, 1))
    (kk : ∀ (H1 : Heap) (locs1 : List Loc), va_P D cl (wM cB cI cJ cZ cS iM h0 ad (upA u k (upd (u.2.2.1 k) i.toNatClampNeg (vp_nar .short x)))) H1 → va_D A (wM cB cI cJ cZ cS iM h0 ad (upA u k (upd (u.2.2.1 k) i.toNatClampNeg (vp_nar .short x)))) → va_S A H0 H1 locs1 → W p l e R s m args below meth c H1 locs1 cells slots Q (F0 m (pc + 1) ls rest)) : W p l e R s m args below meth c H locs cells slots Q (F0 m pc ls (.int x :: .int i :: .ref (ad k) :: rest)) := by
  refine va_sast hx hb hK hP hD hS (plc k) 4 (by rw [ms_at hk, el_i (by omega), cA_7 hkd]) rfl (inb_in hin) hdg (fun H1 locs1 hP1 hD1 hS1 => ?_)
  have e9 := ms_setA (cB := cB) (cI := cI) (cJ := cJ) (cZ := cZ) (cS := cS) (iM := iM) (h0 := h0) (ad := ad) (u := u) (f := upd (u.2.2.1 k) i.toNatClampNeg (vp_nar .short x)) hk (by omega)
  rw [cA_7 hkd] at e9
  rw [e9] at hP1 hD1
  exact kk H1 locs1 hP1 hD1 hS1
theorem ul_J (hx : p.tables.exec = Jvm.exec) (hb : c.code = cc) (hK : va_K D cl (ty5 cB cI cJ cZ cS) s) (hP : va_P D cl (wM cB cI cJ cZ cS iM h0 ad u) H) {k : Nat} (hk : k ∈ AK) (hkd : kd k = 5) {i : Int32} (hin : inb i (ln k) = true) (hdg : decode cc pc = .ok (.laload, 1))
    (kk : W p l e R s m args below meth c H locs cells slots Q (F0 m (pc + 1) ls (.long (u.2.2.2 k i.toNatClampNeg) :: rest))) : W p l e R s m args below meth c H locs cells slots Q (F0 m pc ls (.int i :: .ref (ad k) :: rest)) :=
  va_lald hx hb hK hP (plc k) 2 (by rw [ms_at hk, el_j hkd, cA_5 hkd]) rfl (inb_in hin) hdg kk
theorem us_J (hx : p.tables.exec = Jvm.exec) (hb : c.code = cc) (hK : va_K D cl (ty5 cB cI cJ cZ cS) s) (hP : va_P D cl (wM cB cI cJ cZ cS iM h0 ad u) H) (hD : va_D A (wM cB cI cJ cZ cS iM h0 ad u)) (hS : va_S A H0 H locs) {k : Nat} (hk : k ∈ AK) (hkd : kd k = 5) {i : Int32} {x : Int64} (hin : inb i (ln k) = true) (hdg : decode cc pc = .ok (.lastore, 1))
    (kk : ∀ (H1 : Heap) (locs1 : List Loc), va_P D cl (wM cB cI cJ cZ cS iM h0 ad (upJ u k (vp_updL (u.2.2.2 k) i.toNatClampNeg x))) H1 → va_D A (wM cB cI cJ cZ cS iM h0 ad (upJ u k (vp_updL (u.2.2.2 k) i.toNatClampNeg x))) → va_S A H0 H1 locs1 → W p l e R s m args below meth c H1 locs1 cells slots Q (F0 m (pc + 1) ls rest)) : W p l e R s m args below meth c H locs cells slots Q (F0 m pc ls (.long x :: .int i :: .ref (ad k) :: rest)) := by
  refine va_last hx hb hK hP hD hS (plc k) 2 (by rw [ms_at hk, el_j hkd, cA_5 hkd]) rfl (inb_in hin) hdg (fun H1 locs1 hP1 hD1 hS1 => ?_)
  have e9 := ms_setJ (cB := cB) (cI := cI) (cJ := cJ) (cZ := cZ) (cS := cS) (iM := iM) (h0 := h0) (ad := ad) (u := u) (f := vp_updL (u.2.2.2 k) i.toNatClampNeg x) hk hkd
  rw [cA_5 hkd] at e9
  rw [e9] at hP1 hD1
  exact kk H1 locs1 hP1 hD1 hS1
theorem un_A (hx : p.tables.exec = Jvm.exec) (hb : c.code = cc) (hK : va_K D cl (ty5 cB cI cJ cZ cS) s) (hP : va_P D cl (wM cB cI cJ cZ cS iM h0 ad u) H) {k : Nat} (hk : k ∈ AK) (hkd : kd k = 3) (hdg : decode cc pc = .ok (.arraylength, 1))
    (kk : W p l e R s m args below meth c H locs cells slots Q (F0 m (pc + 1) ls (.int (Int32.ofNat (ln k)) :: rest))) : W p l e R s m args below meth c H locs cells slots Q (F0 m pc ls (.ref (ad k) :: rest)) :=
  va_alen hx hb hK hP (plc k) 0 (x := (ln k, .inl (u.2.2.1 k))) (by rw [ms_at hk, el_i (by omega), cA_3 hkd]) (ty := .byte) rfl rfl hdg kk
end MROW
