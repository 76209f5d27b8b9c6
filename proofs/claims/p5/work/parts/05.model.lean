/-! worlds in another order; the reference's object: a field read, a field written, an array made and put into a field -/
theorem wP_perm {D : va_G} {cl : List vw_C} {ws ws' : va_W} {H : Heap} (hp : ws.Perm ws') (h : va_P D cl ws H) : va_P D cl ws' H := by
  intro k q hk
  obtain ⟨i, hi⟩ := List.getElem?_of_mem (hp.mem_iff.mpr (List.mem_of_getElem? hk))
  exact h i q hi
theorem wD_nd {A : Nat → Prop} {ws : va_W} : va_D A ws ↔ (ws.map Prod.fst).Nodup ∧ ∀ q ∈ ws, A q.1 := by
  constructor
  · intro h
    refine ⟨?_, fun q hq => ?_⟩
    · refine List.pairwise_iff_getElem.mpr (fun i j hi hj hij he => ?_)
      rw [List.getElem_map, List.getElem_map] at he
      rw [List.length_map] at hi hj
      have e1 := h.1 i j _ _ (List.getElem?_eq_getElem hi) (List.getElem?_eq_getElem hj) he
      omega
    · obtain ⟨i, hi⟩ := List.getElem?_of_mem hq
      exact h.2 i q hi
  · intro h
    refine ⟨fun i j x y hi hj hxy => ?_, fun k q hk => h.2 q (List.mem_of_getElem? hk)⟩
    obtain ⟨hli, ei⟩ := List.getElem?_eq_some_iff.mp hi
    obtain ⟨hlj, ej⟩ := List.getElem?_eq_some_iff.mp hj
    have hn := List.pairwise_iff_getElem.mp h.1
    rcases Nat.lt_trichotomy i j with q | q | q
    · exact absurd (by rw [List.getElem_map, List.getElem_map, ei, ej]; exact hxy) (hn i j (by rw [List.length_map]; exact hli) (by rw [List.length_map]; exact hlj) q)
    · exact q
    · exact absurd (by rw [List.getElem_map, List.getElem_map, ei, ej]; exact hxy.symm) (hn j i (by rw [List.length_map]; exact hlj) (by rw [List.length_map]; exact hli) q)
theorem wD_perm {A : Nat → Prop} {ws ws' : va_W} (hp : ws.Perm ws') (h : va_D A ws) : va_D A ws' := by
  have h1 := wD_nd.mp h
  exact wD_nd.mpr ⟨(hp.map Prod.fst).nodup_iff.mp h1.1, fun q hq => h1.2 q (hp.mem_iff.mpr hq)⟩
theorem w_front (x y : Nat × va_E) (rst : va_W) : (x :: rst ++ [y]).Perm (x :: y :: rst) := List.Perm.cons x (List.perm_append_singleton y rst)
theorem f1_M : ∀ k, k < 171 → (F_M k).1 = R_M := by decide +kernel
section MODM
variable {p : Program} {l : Launch} {e : Env} {R : Room} {s : State} {m : MethodId} {args : Array Value} {below : List Frame} {meth : Method} {c : Code} {H : Heap} {locs : List Loc} {cells slots : Nat} {Q : State → Prop}
variable {cc : ByteArray} {pc : Nat} {ls : Array Slot} {rest : List Value} {a : Nat} {D : va_G} {cl : List vw_C} {tys : List (ClassId × FieldType)} {ws : va_W} {A : Nat → Prop} {H0 : Heap} {iM : Nat} {V : Nat → Value} {index : Nat} {v : Value}
theorem mf_get (hx : p.tables.exec = Jvm.exec) (hb : c.code = cc) (ht : ∀ w ∈ wd_tbl, w.before args s = true) (hown : s.vm.findClass R_M = some m.cls) (hM : cl[iM]? = some (R_M, F_M, 171)) (hK : va_K D cl tys s) (hP : va_P D cl ws H) (q0 : Nat) (he : ws[q0]? = some (a, .inr (iM, fl 171 V))) (k : Nat) (hk : k < 171) (hlink : Cond.fieldLink R_M index R_M (F_M k).2.1 (F_M k).2.2.1 ∈ wd_tbl) (hv : V k = v) (hdg : decode cc pc = .ok (.getfield index, 3))
    (kk : W p l e R s m args below meth c H locs cells slots Q (F0 m (pc + 3) ls (v :: rest))) : W p l e R s m args below meth c H locs cells slots Q (F0 m pc ls (.ref a :: rest)) :=
  va_get hx hb ht i_M hown hK hP q0 he hM k hk (ht _ hlink) (fun x h => by rw [f1_M k hk] at h; exact h) (by rw [fl_get hk, hv]) hdg kk
theorem mf_put (hx : p.tables.exec = Jvm.exec) (hb : c.code = cc) (ht : ∀ w ∈ wd_tbl, w.before args s = true) (hown : s.vm.findClass R_M = some m.cls) (hM : cl[iM]? = some (R_M, F_M, 171)) (hK : va_K D cl tys s) (hP : va_P D cl ws H) (hD : va_D A ws) (hS : va_S A H0 H locs) (q0 : Nat) (he : ws[q0]? = some (a, .inr (iM, fl 171 V))) (k : Nat) (hk : k < 171) (hlink : Cond.fieldLink R_M index R_M (F_M k).2.1 (F_M k).2.2.1 ∈ wd_tbl) (hfin : (F_M k).2.2.2 = false) (hn : narrow (t_M k) v = v) (hfit : fits (t_M k) v = true) (hdg : decode cc pc = .ok (.putfield index, 3))
    (kk : ∀ (H1 : Heap) (locs1 : List Loc), va_P D cl (ws.set q0 (a, .inr (iM, fl 171 (va_up V k v)))) H1 → va_D A (ws.set q0 (a, .inr (iM, fl 171 (va_up V k v)))) → va_S A H0 H1 locs1 → W p l e R s m args below meth c H1 locs1 cells slots Q (F0 m (pc + 3) ls rest)) : W p l e R s m args below meth c H locs cells slots Q (F0 m pc ls (v :: .ref a :: rest)) := by
  refine va_put hx hb ht i_M t_M t_M_ok n_M hown hK hP hD hS q0 he hM k hk (ht _ hlink) (fun x h => by rw [f1_M k hk] at h; exact h) hfin (t_M_ok k hk) hn hfit (by rw [fl_len]; exact hk) hdg (fun H1 locs1 hP1 hD1 hS1 => ?_)
  rw [fl_set] at hP1 hD1
  exact kk H1 locs1 hP1 hD1 hS1
theorem mf_putF (hx : p.tables.exec = Jvm.exec) (hb : c.code = cc) (ht : ∀ w ∈ wd_tbl, w.before args s = true) (hown : s.vm.findClass R_M = some m.cls) (hM : cl[iM]? = some (R_M, F_M, 171)) (hK : va_K D cl tys s) (hP : va_P D cl ws H) (hD : va_D A ws) (hS : va_S A H0 H locs) (q0 : Nat) (he : ws[q0]? = some (a, .inr (iM, fl 171 V))) (k : Nat) (hk : k < 171) (hlink : Cond.fieldLink R_M index R_M (F_M k).2.1 (F_M k).2.2.1 ∈ wd_tbl) (hfin : (F_M k).2.2.2 = true) (hin : meth.name = "<init>") (hn : narrow (t_M k) v = v) (hfit : fits (t_M k) v = true) (hdg : decode cc pc = .ok (.putfield index, 3))
    (kk : ∀ (H1 : Heap) (locs1 : List Loc), va_P D cl (ws.set q0 (a, .inr (iM, fl 171 (va_up V k v)))) H1 → va_D A (ws.set q0 (a, .inr (iM, fl 171 (va_up V k v)))) → va_S A H0 H1 locs1 → W p l e R s m args below meth c H1 locs1 cells slots Q (F0 m (pc + 3) ls rest)) : W p l e R s m args below meth c H locs cells slots Q (F0 m pc ls (v :: .ref a :: rest)) := by
  refine va_putF hx hb ht i_M t_M t_M_ok n_M hown hK hP hD hS q0 he hM k hk (ht _ hlink) (fun x h => by rw [f1_M k hk] at h; exact h) hfin hin (f1_M k hk) (t_M_ok k hk) hn hfit (by rw [fl_len]; exact hk) hdg (fun H1 locs1 hP1 hD1 hS1 => ?_)
  rw [fl_set] at hP1 hD1
  exact kk H1 locs1 hP1 hD1 hS1
end MODM
