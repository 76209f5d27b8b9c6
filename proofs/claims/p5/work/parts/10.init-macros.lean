/-! the reference's constructor: an array made and put into its field; a byte array that is filled place by place -/
def tk (L : List Int32) (j : Nat) : Nat → Int32 := fun k => if k < j then L.getD k 0 else 0
theorem tk_0 (L : List Int32) : (fun _ => 0) = tk L 0 := by
  funext k
  simp [tk]
theorem tk_s {L : List Int32} {j : Nat} {x : Int32} (h : L.getD j 0 = x) : upd (tk L j) j x = tk L (j + 1) := by
  funext k
  unfold upd tk
  by_cases hk : k = j
  · subst hk
    rw [if_pos rfl, if_pos (Nat.lt_succ_self k), h]
  · rw [if_neg hk]
    by_cases h1 : k < j
    · rw [if_pos h1, if_pos (by omega)]
    · rw [if_neg h1, if_neg (by omega)]
section MKA
variable {p : Program} {l : Launch} {e : Env} {R : Room} {s : State} {m : MethodId} {args : Array Value} {below : List Frame} {meth : Method} {c : Code} {H : Heap} {locs : List Loc} {cells slots : Nat} {Q : State → Prop}
variable {cc : ByteArray} {pc pc1 pc2 : Nat} {ls : Array Slot} {D : va_G} {cl : List vw_C} {tys : List (ClassId × FieldType)} {rst : va_W} {A : Nat → Prop} {H0 : Heap} {iM h0 : Nat} {V : Nat → Value} {index : Nat}
/-- aload_0, a number, newarray -/
theorem mk_open (hx : p.tables.exec = Jvm.exec) (hb : c.code = cc) (hK : va_K D cl tys s) (hA : ∀ q, H0.size ≤ q → A q) (hl : ls[0]? = some (.val (.ref h0)))
    {ob : Nat × va_E} (hP : va_P D cl (ob :: rst) H) (hD : va_D A (ob :: rst)) (hS : va_S A H0 H locs)
    {atype : ArrayType} {ty : FieldType} {n : Int32} {N : Nat} {a0 : vp_A} {cA : ClassId} (d0 : decode cc pc = .ok (.aload_n 0, 1)) (hpush : ∀ st, W p l e R s m args below meth c H locs cells slots Q (F0 m pc1 ls (.int n :: st)) → W p l e R s m args below meth c H locs cells slots Q (F0 m (pc + 1) ls st)) (d1 : decode cc pc1 = .ok (.newarray atype, 2))
    (harr : (Cond.arrayClass (newarray.typeOf atype)).before args s = true) (hty : newarray.typeOf atype = ty) (hno : ∀ C, ty ≠ .object C) (t0 : Nat) (htt : tys[t0]? = some (cA, ty)) (ha : ∀ cA : ClassId, vp_cell cA a0 = arrV cA N (fun _ => defaultValue ty)) (hn : ¬ n < 0) (hN : n.toNatClampNeg = N) (hbytes : N * componentBytes ty ≤ 536870912) (hcells : cells + 1 ≤ R.cells) (hslots : slots + N ≤ R.slots)
    (kk : ∀ (q : Nat) (H1 : Heap), va_P D cl (ob :: (q, .inl (cA, a0)) :: rst) H1 → va_D A (ob :: (q, .inl (cA, a0)) :: rst) → va_S A H0 H1 locs → W p l e R s m args below meth c H1 locs (cells + 1) (slots + N) Q (F0 m (pc1 + 2) ls [.ref q, .ref h0])) :
    W p l e R s m args below meth c H locs cells slots Q (F0 m pc ls []) := by
  refine lv_aload_n hx hb d0 rfl hl ?_
  refine hpush _ ?_
  refine nw_any hx hb harr hty hno hK t0 htt hP hD hS hA ha hn hN hbytes hcells hslots d1 (fun q H1 hP1 hD1 hS1 => ?_)
  exact kk q H1 (wP_perm (w_front _ _ _) hP1) (wD_perm (w_front _ _ _) hD1) hS1
/-- ... and putfield -/
theorem mk_arr (hx : p.tables.exec = Jvm.exec) (hb : c.code = cc) (ht : ∀ w ∈ wd_tbl, w.before args s = true) (hown : s.vm.findClass R_M = some m.cls) (hM : cl[iM]? = some (R_M, F_M, 171)) (hin : meth.name = "<init>") (hK : va_K D cl tys s) (hA : ∀ q, H0.size ≤ q → A q) (hl : ls[0]? = some (.val (.ref h0)))
    (hP : va_P D cl ((h0, .inr (iM, fl 171 V)) :: rst) H) (hD : va_D A ((h0, .inr (iM, fl 171 V)) :: rst)) (hS : va_S A H0 H locs)
    {atype : ArrayType} {ty : FieldType} {n : Int32} {N : Nat} {a0 : vp_A} {cA : ClassId} (d0 : decode cc pc = .ok (.aload_n 0, 1)) (hpush : ∀ st, W p l e R s m args below meth c H locs cells slots Q (F0 m pc1 ls (.int n :: st)) → W p l e R s m args below meth c H locs cells slots Q (F0 m (pc + 1) ls st)) (d1 : decode cc pc1 = .ok (.newarray atype, 2)) (d2 : decode cc (pc1 + 2) = .ok (.putfield index, 3))
    (harr : Cond.arrayClass (newarray.typeOf atype) ∈ wd_tbl) (hty : newarray.typeOf atype = ty) (hno : ∀ C, ty ≠ .object C) (t0 : Nat) (htt : tys[t0]? = some (cA, ty)) (ha : ∀ cA : ClassId, vp_cell cA a0 = arrV cA N (fun _ => defaultValue ty)) (hn : ¬ n < 0) (hN : n.toNatClampNeg = N) (hbytes : N * componentBytes ty ≤ 536870912) (hcells : cells + 1 ≤ R.cells) (hslots : slots + N ≤ R.slots)
    (k : Nat) (hk : k < 171) (hlink : Cond.fieldLink R_M index R_M (F_M k).2.1 (F_M k).2.2.1 ∈ wd_tbl) (hfin : (F_M k).2.2.2 = true) (hnw : ∀ q : Nat, narrow (t_M k) (.ref q) = .ref q) (hfit : ∀ q : Nat, fits (t_M k) (.ref q) = true)
    (kk : ∀ (q : Nat) (H1 : Heap) (locs1 : List Loc), va_P D cl ((h0, .inr (iM, fl 171 (va_up V k (.ref q)))) :: (q, .inl (cA, a0)) :: rst) H1 → va_D A ((h0, .inr (iM, fl 171 (va_up V k (.ref q)))) :: (q, .inl (cA, a0)) :: rst) → va_S A H0 H1 locs1 → W p l e R s m args below meth c H1 locs1 (cells + 1) (slots + N) Q (F0 m (pc1 + 5) ls [])) :
    W p l e R s m args below meth c H locs cells slots Q (F0 m pc ls []) := by
  refine mk_open hx hb hK hA hl hP hD hS d0 hpush d1 (ht _ harr) hty hno t0 htt ha hn hN hbytes hcells hslots (fun q H1 hP1 hD1 hS1 => ?_)
  refine mf_putF hx hb ht hown hM hK hP1 hD1 hS1 0 rfl k hk hlink hfin hin (hnw q) (hfit q) d2 (fun H2 locs2 hP2 hD2 hS2 => ?_)
  exact kk q H2 locs2 hP2 hD2 hS2
/-- dup, a place, a number, bastore -/
theorem ba_step (hx : p.tables.exec = Jvm.exec) (hb : c.code = cc) (hK : va_K D cl tys s) {ob : Nat × va_E} {q N j : Nat} {cA : ClassId} {L : List Int32} {i x : Int32} {st : List Value}
    (hP : va_P D cl (ob :: (q, .inl (cA, N, .inl (tk L j))) :: rst) H) (hD : va_D A (ob :: (q, .inl (cA, N, .inl (tk L j))) :: rst)) (hS : va_S A H0 H locs) (t0 : Nat) (htt : tys[t0]? = some (cA, .byte))
    (d0 : decode cc pc = .ok (.dup, 1)) (h1 : ∀ st, W p l e R s m args below meth c H locs cells slots Q (F0 m pc1 ls (.int i :: st)) → W p l e R s m args below meth c H locs cells slots Q (F0 m (pc + 1) ls st)) (h2 : ∀ st, W p l e R s m args below meth c H locs cells slots Q (F0 m pc2 ls (.int x :: st)) → W p l e R s m args below meth c H locs cells slots Q (F0 m pc1 ls st)) (d3 : decode cc pc2 = .ok (.bastore, 1))
    (hi : i.toNatClampNeg = j) (hin : vp_in i N) (hx2 : L.getD j 0 = vp_nar .byte x)
    (kk : ∀ (H1 : Heap) (locs1 : List Loc), va_P D cl (ob :: (q, .inl (cA, N, .inl (tk L (j + 1)))) :: rst) H1 → va_D A (ob :: (q, .inl (cA, N, .inl (tk L (j + 1)))) :: rst) → va_S A H0 H1 locs1 → W p l e R s m args below meth c H1 locs1 cells slots Q (F0 m (pc2 + 1) ls (.ref q :: st))) :
    W p l e R s m args below meth c H locs cells slots Q (F0 m pc ls (.ref q :: st)) := by
  refine lv_dup hx hb d0 rfl ?_
  refine h1 _ ?_
  refine h2 _ ?_
  refine va_bast hx hb hK hP hD hS 1 t0 rfl htt hin d3 (fun H1 locs1 hP1 hD1 hS1 => ?_)
  rw [hi, tk_s hx2] at hP1 hD1
  exact kk H1 locs1 hP1 hD1 hS1
end MKA
