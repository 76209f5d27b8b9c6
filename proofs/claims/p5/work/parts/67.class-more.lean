/-! more rows over the class's heap: a bind, an array's length, null tests -/
def bo {α β : Type} (x : Option α) (f : α → Option β) : Option β := match x with
  | none => none
  | some q => f q
theorem bo_some {α β : Type} {x : Option α} {f : α → Option β} {r : β} (h : bo x f = some r) : ∃ v, x = some v ∧ f v = some r := by
  cases x with
  | none => cases h
  | some q => exact ⟨q, rfl, h⟩
def bx {α β : Type} (x : Option (CS × α)) (f : CS → α → Option β) : Option β := match x with
  | none => none
  | some q => f q.1 q.2
theorem bx_some {α β : Type} {x : Option (CS × α)} {f : CS → α → Option β} {r : β} (h : bx x f = some r) : ∃ u v, x = some (u, v) ∧ f u v = some r := by
  cases x with
  | none => cases h
  | some q => exact ⟨q.1, q.2, rfl, h⟩
def nA (u : CS) (i t : Nat) : Option Int32 := (oA u i t).map (fun q => Int32.ofNat q.1)
def nJ (u : CS) (i : Nat) : Option Int32 := (oL u i).map (fun q => Int32.ofNat q.1)
section CMORE
variable {p : Program} {l : Launch} {e : Env} {R : Room} {s : State} {m : MethodId} {args : Array Value} {below : List Frame} {meth : Method} {c : Code} {H : Heap} {locs : List Loc} {cells slots : Nat} {Q : State → Prop}
variable {cc : ByteArray} {pc : Nat} {ls : Array Slot} {rest : List Value} {D : va_G} {cB cI cJ cZ cS cP : ClassId} {ad : Nat → Nat} {u : CS} {i : Nat}
theorem xn_B (hx : p.tables.exec = Jvm.exec) (hb : c.code = cc) (hK : va_K D cls (ty6 cB cI cJ cZ cS cP) s) (hP : va_P D cls (wC cB cI cJ cZ cS cP ad u) H) {v : Int32} (hg : nA u i 3 = some v) (hdg : decode cc pc = .ok (.arraylength, 1))
    (kk : W p l e R s m args below meth c H locs cells slots Q (F0 m (pc + 1) ls (.int v :: rest))) : W p l e R s m args below meth c H locs cells slots Q (F0 m pc ls (.ref (ad i) :: rest)) := by
  obtain ⟨q, hq, rfl⟩ := Option.map_eq_some_iff.mp hg
  obtain ⟨h1, h2⟩ := oA_some hq
  exact va_alen hx hb hK hP i 0 (x := (q.1, .inl q.2)) (by rw [wC_at h1, h2]; rfl) (ty := .byte) rfl rfl hdg kk
theorem xn_I (hx : p.tables.exec = Jvm.exec) (hb : c.code = cc) (hK : va_K D cls (ty6 cB cI cJ cZ cS cP) s) (hP : va_P D cls (wC cB cI cJ cZ cS cP ad u) H) {v : Int32} (hg : nA u i 4 = some v) (hdg : decode cc pc = .ok (.arraylength, 1))
    (kk : W p l e R s m args below meth c H locs cells slots Q (F0 m (pc + 1) ls (.int v :: rest))) : W p l e R s m args below meth c H locs cells slots Q (F0 m pc ls (.ref (ad i) :: rest)) := by
  obtain ⟨q, hq, rfl⟩ := Option.map_eq_some_iff.mp hg
  obtain ⟨h1, h2⟩ := oA_some hq
  exact va_alen hx hb hK hP i 1 (x := (q.1, .inl q.2)) (by rw [wC_at h1, h2]; rfl) (ty := .int) rfl rfl hdg kk
theorem xn_J (hx : p.tables.exec = Jvm.exec) (hb : c.code = cc) (hK : va_K D cls (ty6 cB cI cJ cZ cS cP) s) (hP : va_P D cls (wC cB cI cJ cZ cS cP ad u) H) {v : Int32} (hg : nJ u i = some v) (hdg : decode cc pc = .ok (.arraylength, 1))
    (kk : W p l e R s m args below meth c H locs cells slots Q (F0 m (pc + 1) ls (.int v :: rest))) : W p l e R s m args below meth c H locs cells slots Q (F0 m pc ls (.ref (ad i) :: rest)) := by
  obtain ⟨q, hq, rfl⟩ := Option.map_eq_some_iff.mp hg
  obtain ⟨h1, h2⟩ := oL_some hq
  exact va_alen hx hb hK hP i 2 (x := (q.1, .inr (.inl q.2))) (by rw [wC_at h1, h2]; rfl) (ty := .long) rfl rfl hdg kk
theorem x_ifnull (hx : p.tables.exec = Jvm.exec) (hb : c.code = cc) {r : Option Nat} {off : Int} {tgt : Nat} (hdg : decode cc pc = .ok (.ifnull off, 3)) (htg : (pc : Int) + off = (tgt : Int)) (kt : r = none → W p l e R s m args below meth c H locs cells slots Q (F0 m tgt ls rest)) (kf : ¬ r = none → W p l e R s m args below meth c H locs cells slots Q (F0 m (pc + 3) ls rest)) : W p l e R s m args below meth c H locs cells slots Q (F0 m pc ls (va_rf (r.map ad) :: rest)) := by
  cases r with
  | none => exact lv_ifnullN hx hb hdg htg (kt rfl)
  | some k => exact lv_ifnull hx hb hdg (kf (fun h => by cases h))
theorem x_ifnonnull (hx : p.tables.exec = Jvm.exec) (hb : c.code = cc) {r : Option Nat} {off : Int} {tgt : Nat} (hdg : decode cc pc = .ok (.ifnonnull off, 3)) (htg : (pc : Int) + off = (tgt : Int)) (kt : ¬ r = none → W p l e R s m args below meth c H locs cells slots Q (F0 m tgt ls rest)) (kf : r = none → W p l e R s m args below meth c H locs cells slots Q (F0 m (pc + 3) ls rest)) : W p l e R s m args below meth c H locs cells slots Q (F0 m pc ls (va_rf (r.map ad) :: rest)) := by
  cases r with
  | none => exact lv_ifnonnullN hx hb hdg (kf rfl)
  | some k => exact lv_ifnonnull hx hb hdg htg (kt (fun h => by cases h))
/-- a reference out of a variable, null or not -/
theorem x_aload (hx : p.tables.exec = Jvm.exec) (hb : c.code = cc) {r : Option Nat} {j : Nat} (hdg : decode cc pc = .ok (.aload j, 2)) (hl : ls[j]? = some (.val (va_rf (r.map ad)))) (k : W p l e R s m args below meth c H locs cells slots Q (F0 m (pc + 2) ls (va_rf (r.map ad) :: rest))) : W p l e R s m args below meth c H locs cells slots Q (F0 m pc ls rest) := by
  cases r with
  | none => exact lv_aloadN hx hb hdg hl k
  | some z => exact lv_aload hx hb hdg hl k
theorem x_aload_n (hx : p.tables.exec = Jvm.exec) (hb : c.code = cc) {r : Option Nat} {t : Fin 4} {j : Nat} (hdg : decode cc pc = .ok (.aload_n t, 1)) (hj : (t : Nat) = j) (hl : ls[j]? = some (.val (va_rf (r.map ad)))) (k : W p l e R s m args below meth c H locs cells slots Q (F0 m (pc + 1) ls (va_rf (r.map ad) :: rest))) : W p l e R s m args below meth c H locs cells slots Q (F0 m pc ls rest) := by
  cases r with
  | none => exact lv_aload_nN hx hb hdg hj hl k
  | some z => exact lv_aload_n hx hb hdg hj hl k
theorem x_astore (hx : p.tables.exec = Jvm.exec) (hb : c.code = cc) {r : Option Nat} {j nL : Nat} {lv lv' : List (Nat × Value)} (hdg : decode cc pc = .ok (.astore j, 2)) (h : lv_has ls nL lv) (hn : j < nL) (hl : (j, va_rf (r.map ad)) :: lv.filter (fun q => !(q.1 == j) && !(q.1 + 1 == j && q.2.category == 2)) = lv')
    (kk : ∀ ls' : Array Slot, lv_has ls' nL lv' → W p l e R s m args below meth c H locs cells slots Q (F0 m (pc + 2) ls' rest)) : W p l e R s m args below meth c H locs cells slots Q (F0 m pc ls (va_rf (r.map ad) :: rest)) := by
  cases r with
  | none => exact lv_astoreN hx hb hdg h hn hl kk
  | some z => exact lv_astore hx hb hdg h hn hl kk
theorem x_astore_n (hx : p.tables.exec = Jvm.exec) (hb : c.code = cc) {r : Option Nat} {t : Fin 4} {j nL : Nat} {lv lv' : List (Nat × Value)} (hdg : decode cc pc = .ok (.astore_n t, 1)) (hj : (t : Nat) = j) (h : lv_has ls nL lv) (hn : j < nL) (hl : (j, va_rf (r.map ad)) :: lv.filter (fun q => !(q.1 == j) && !(q.1 + 1 == j && q.2.category == 2)) = lv')
    (kk : ∀ ls' : Array Slot, lv_has ls' nL lv' → W p l e R s m args below meth c H locs cells slots Q (F0 m (pc + 1) ls' rest)) : W p l e R s m args below meth c H locs cells slots Q (F0 m pc ls (va_rf (r.map ad) :: rest)) := by
  cases r with
  | none => exact lv_astore_nN hx hb hdg hj h hn hl kk
  | some z => exact lv_astore_n hx hb hdg hj h hn hl kk
end CMORE
