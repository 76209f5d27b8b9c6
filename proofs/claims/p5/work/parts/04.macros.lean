/-! an object's fields as a function; arrays that are made; a field read and written, in one row each -/
def fl (n : Nat) (V : Nat → Value) : List Value := (List.range n).map V
theorem fl_get {n k : Nat} {V : Nat → Value} (h : k < n) : (fl n V)[k]? = some (V k) := by simp [fl, h]
theorem fl_len {n : Nat} {V : Nat → Value} : (fl n V).length = n := by simp [fl]
theorem fl_set {n k : Nat} {V : Nat → Value} {v : Value} : (fl n V).set k v = fl n (va_up V k v) := by
  apply List.ext_getElem?
  intro j
  by_cases hj : j < n
  · rw [fl_get hj]
    by_cases hk : j = k
    · subst hk
      rw [List.getElem?_set_self (by rw [fl_len]; exact hj), va_up_self]
    · rw [List.getElem?_set_ne (fun z => hk z.symm), fl_get hj, va_up_ne _ _ hk]
  · rw [List.getElem?_eq_none (by rw [List.length_set, fl_len]; omega), List.getElem?_eq_none (by rw [fl_len]; omega)]
theorem ty_same {s : State} {cA cB : ClassId} {ty : FieldType} (hp : ∀ C, ty ≠ .object C) (h : va_RA s cA ty) (h' : va_RA s cB ty) : cA = cB := by
  cases ty with
  | object C => exact absurd rfl (hp C)
  | _ => exact Option.some.inj (Eq.trans (Eq.symm h) h')
section MCRO
variable {p : Program} {l : Launch} {e : Env} {R : Room} {s : State} {m : MethodId} {args : Array Value} {below : List Frame} {meth : Method} {c : Code} {H : Heap} {locs : List Loc} {cells slots : Nat} {Q : State → Prop}
variable {cc : ByteArray} {pc : Nat} {ls : Array Slot} {rest : List Value} {a : Nat} {D : va_G} {cl : List vw_C} {tys : List (ClassId × FieldType)} {ws : va_W} {A : Nat → Prop} {H0 : Heap}
/-- a new array, whose class is one of those known -/
theorem nw_any (hx : p.tables.exec = Jvm.exec) (hb : c.code = cc) {atype : ArrayType} (harr : (Cond.arrayClass (newarray.typeOf atype)).before args s = true) {ty : FieldType} (hty : newarray.typeOf atype = ty) (hno : ∀ C, ty ≠ .object C) (hK : va_K D cl tys s) (t0 : Nat) {cA : ClassId} (ht : tys[t0]? = some (cA, ty)) (hP : va_P D cl ws H) (hD : va_D A ws) (hS : va_S A H0 H locs) (hA : ∀ q, H0.size ≤ q → A q)
    {n : Int32} {N : Nat} {a0 : vp_A} (ha : ∀ cA : ClassId, vp_cell cA a0 = arrV cA N (fun _ => defaultValue ty)) (hn : ¬ n < 0) (hN : n.toNatClampNeg = N) (hbytes : N * componentBytes ty ≤ 536870912) (hcells : cells + 1 ≤ R.cells) (hslots : slots + N ≤ R.slots) (hdg : decode cc pc = .ok (.newarray atype, 2))
    (kk : ∀ (q : Nat) (H1 : Heap), va_P D cl (ws ++ [(q, .inl (cA, a0))]) H1 → va_D A (ws ++ [(q, .inl (cA, a0))]) → va_S A H0 H1 locs → W p l e R s m args below meth c H1 locs (cells + 1) (slots + N) Q (F0 m (pc + 2) ls (.ref q :: rest))) : W p l e R s m args below meth c H locs cells slots Q (F0 m pc ls (.int n :: rest)) := by
  refine va_newa hx hb harr hty hK hP hD hS hA ha hn hN hbytes hcells hslots hdg (fun q cB H1 hK1 hP1 hD1 hS1 => ?_)
  have e1 : cA = cB := by
    refine ty_same hno (hK.2 t0 _ ht).2 (hK1.2 tys.length (cB, ty) ?_).2
    rw [List.getElem?_append_right (Nat.le_refl _), Nat.sub_self]
    rfl
  subst e1
  exact kk q H1 hP1 hD1 hS1
end MCRO
