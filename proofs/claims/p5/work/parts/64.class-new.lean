/-! cells that are made: the address map grows; no cell names a number that isn't there yet (looked at, not assumed) -/
def okV (n : Nat) (v : LV) : Bool := match v with
  | .inr (.inr (some k)) => decide (k < n)
  | _ => true
def okR (n : Nat) (r : Option Nat) : Bool := match r with
  | some k => decide (k < n)
  | none => true
def okC (n : Nat) (c : LC) : Bool := match c with
  | .inl q => (List.range (clN q.1)).all (fun k => okV n (q.2 k))
  | .inr (.inr (.inr q)) => (List.range q.1).all (fun i => okR n (q.2 i))
  | _ => true
def wfB (u : CS) : Bool := (List.range u.1.1).all (fun i => okC u.1.1 (u.2 i))
theorem lvV_ag {ad ad2 : Nat → Nat} {n : Nat} {v : LV} (h : ∀ i, i < n → ad2 i = ad i) (hv : okV n v = true) : lvV ad2 v = lvV ad v := by
  cases v with
  | inl i => rfl
  | inr w =>
    cases w with
    | inl j => rfl
    | inr r =>
      cases r with
      | none => rfl
      | some k =>
        show va_rf (some (ad2 k)) = va_rf (some (ad k))
        rw [h k (of_decide_eq_true hv)]
theorem lcE_ag {cB cI cJ cZ cS cP : ClassId} {ad ad2 : Nat → Nat} {n : Nat} {c : LC} (h : ∀ i, i < n → ad2 i = ad i) (hc : okC n c = true) : lcE cB cI cJ cZ cS cP ad2 c = lcE cB cI cJ cZ cS cP ad c := by
  cases c with
  | inl q =>
    have h1 := List.all_eq_true.mp hc
    show Sum.inr (q.1, fl (clN q.1) _) = Sum.inr (q.1, fl (clN q.1) _)
    congr 2
    unfold fl
    exact List.map_congr_left (fun k hk => lvV_ag h (h1 k hk))
  | inr c =>
    cases c with
    | inl q => rfl
    | inr c =>
      cases c with
      | inl q => rfl
      | inr q =>
        have h1 := List.all_eq_true.mp hc
        show Sum.inl (cP, q.1, _) = Sum.inl (cP, q.1, _)
        congr 7
        funext i
        by_cases hi : i < q.1
        · rw [if_pos hi, if_pos hi]
          have h2 := h1 i (List.mem_range.mpr hi)
          cases hq : q.2 i with
          | none => rfl
          | some k =>
            rw [hq] at h2
            show some (ad2 k) = some (ad k)
            rw [h k (of_decide_eq_true h2)]
        · rw [if_neg hi, if_neg hi]
def cnew (u : CS) (sl : Nat) (c : LC) : CS := ((u.1.1 + 1, u.1.2 + sl), fun j => if j = u.1.1 then c else u.2 j)
theorem wC_new {cB cI cJ cZ cS cP : ClassId} {ad : Nat → Nat} {u : CS} {q sl : Nat} {c : LC} (hw : wfB u = true) : wC cB cI cJ cZ cS cP (va_up ad u.1.1 q) (cnew u sl c) = wC cB cI cJ cZ cS cP ad u ++ [(q, lcE cB cI cJ cZ cS cP (va_up ad u.1.1 q) c)] := by
  have h1 := List.all_eq_true.mp hw
  unfold wC
  show (List.range (u.1.1 + 1)).map _ = _
  rw [List.range_succ, List.map_append]
  congr 1
  · refine List.map_congr_left (fun i hi => ?_)
    have hlt := List.mem_range.mp hi
    have hne : i ≠ u.1.1 := Nat.ne_of_lt hlt
    have ha : ∀ j, j < u.1.1 → va_up ad u.1.1 q j = ad j := fun j hj => va_up_ne _ _ (Nat.ne_of_lt hj)
    rw [ha i hlt]
    show (ad i, lcE cB cI cJ cZ cS cP _ (if i = u.1.1 then c else u.2 i)) = _
    rw [if_neg hne, lcE_ag ha (h1 i hi)]
  · show [(va_up ad u.1.1 q u.1.1, lcE cB cI cJ cZ cS cP _ (if u.1.1 = u.1.1 then c else _))] = _
    rw [va_up_self, if_pos rfl]
theorem up_ag {ad : Nat → Nat} {n q : Nat} : ∀ i, i < n → va_up ad n q i = ad i := fun i h => va_up_ne _ _ (Nat.ne_of_lt h)
section XNEW
variable {p : Program} {l : Launch} {e : Env} {R : Room} {s : State} {m : MethodId} {args : Array Value} {below : List Frame} {meth : Method} {c : Code} {H : Heap} {locs : List Loc} {cells slots : Nat} {Q : State → Prop}
variable {cc : ByteArray} {pc : Nat} {ls : Array Slot} {rest : List Value} {D : va_G} {cB cI cJ cZ cS cP : ClassId} {A : Nat → Prop} {H0 : Heap} {ad : Nat → Nat} {u : CS} {index : Nat} {own C : String} {F : u_T} {n ci : Nat} {ty : Nat → FieldType}
theorem x_new (hx : p.tables.exec = Jvm.exec) (hb : c.code = cc) (ht : ∀ w ∈ wd_tbl, w.before args s = true) (hown : s.vm.findClass own = some m.cls) (K : CKl cls ci C F n ty) (hK : va_K D cls (ty6 cB cI cJ cZ cS cP) s) (hP : va_P D cls (wC cB cI cJ cZ cS cP ad u) H) (hD : va_D A (wC cB cI cJ cZ cS cP ad u)) (hS : va_S A H0 H locs) (hA : ∀ q, H0.size ≤ q → A q) (hcl : Cond.classLink own index C ∈ wd_tbl) (hinst : Cond.instantiable C n ∈ wd_tbl) (hini : Cond.initialized C ∈ wd_tbl)
    (hw : wfB u = true) {f : Nat → LV} (hdf : ∀ (a : Nat → Nat) j, j < n → defaultValue (ty j) = lvV a (f j)) (hcells : cells + 1 ≤ R.cells) (hslots : slots + n ≤ R.slots) (hdg : decode cc pc = .ok (.new index, 3))
    (kk : ∀ (q : Nat) (H1 : Heap), va_P D cls (wC cB cI cJ cZ cS cP (va_up ad u.1.1 q) (cnew u n (.inl (ci, f)))) H1 → va_D A (wC cB cI cJ cZ cS cP (va_up ad u.1.1 q) (cnew u n (.inl (ci, f)))) → va_S A H0 H1 locs → W p l e R s m args below meth c H1 locs (cells + 1) (slots + n) Q (F0 m (pc + 3) ls (.ref (va_up ad u.1.1 q u.1.1) :: rest))) : W p l e R s m args below meth c H locs cells slots Q (F0 m pc ls rest) := by
  refine va_new (fs := fl n (fun j => lvV ad (f j))) hx hb ht K.2.1 ty K.2.2.1 hown (ht _ hcl) (ht _ hinst) (ht _ hini) hK hP hD hS hA K.1 (fun j hj => ?_) hcells hslots hdg (fun q H1 hP1 hD1 hS1 => ?_)
  · show _ = (fl n (fun j => lvV ad (f j))).getD j .null
    rw [List.getD_eq_getElem?_getD, fl_get hj, hdf ad j hj]
    rfl
  · have e9 : lcE cB cI cJ cZ cS cP (va_up ad u.1.1 q) (.inl (ci, f)) = .inr (ci, fl n (fun j => lvV ad (f j))) := by
      show Sum.inr (ci, fl (clN ci) _) = _
      rw [clN_of K.1]
      congr 2
      unfold fl
      exact List.map_congr_left (fun j hj => (hdf (va_up ad u.1.1 q) j (List.mem_range.mp hj)).symm.trans (hdf ad j (List.mem_range.mp hj)))
    have e8 := wC_new (cB := cB) (cI := cI) (cJ := cJ) (cZ := cZ) (cS := cS) (cP := cP) (ad := ad) (u := u) (q := q) (sl := n) (c := .inl (ci, f)) hw
    rw [e9] at e8
    have kk2 := kk q H1 (by rw [e8]; exact hP1) (by rw [e8]; exact hD1) hS1
    rw [va_up_self] at kk2
    exact kk2
theorem x_naB (hx : p.tables.exec = Jvm.exec) (hb : c.code = cc) (ht : ∀ w ∈ wd_tbl, w.before args s = true) (hK : va_K D cls (ty6 cB cI cJ cZ cS cP) s) (hP : va_P D cls (wC cB cI cJ cZ cS cP ad u) H) (hD : va_D A (wC cB cI cJ cZ cS cP ad u)) (hS : va_S A H0 H locs) (hA : ∀ q, H0.size ≤ q → A q) (hw : wfB u = true) {j : Int32} (hj : ¬ j < 0) (hbytes : j.toNatClampNeg * componentBytes .byte ≤ 536870912) (hcells : cells + 1 ≤ R.cells) (hslots : slots + j.toNatClampNeg ≤ R.slots) (hdg : decode cc pc = .ok (.newarray .byte, 2))
    (kk : ∀ (q : Nat) (H1 : Heap), va_P D cls (wC cB cI cJ cZ cS cP (va_up ad u.1.1 q) (cnew u j.toNatClampNeg (.inr (.inl (3, j.toNatClampNeg, fun _ => 0))))) H1 → va_D A (wC cB cI cJ cZ cS cP (va_up ad u.1.1 q) (cnew u j.toNatClampNeg (.inr (.inl (3, j.toNatClampNeg, fun _ => 0))))) → va_S A H0 H1 locs → W p l e R s m args below meth c H1 locs (cells + 1) (slots + j.toNatClampNeg) Q (F0 m (pc + 2) ls (.ref (va_up ad u.1.1 q u.1.1) :: rest))) : W p l e R s m args below meth c H locs cells slots Q (F0 m pc ls (.int j :: rest)) := by
  refine nw_any (a0 := (j.toNatClampNeg, .inl (fun _ => 0))) (ty := .byte) hx hb (ht _ ac_byte) rfl (fun _ h => by cases h) hK 0 rfl hP hD hS hA (fun _ => rfl) hj rfl hbytes hcells hslots hdg (fun q H1 hP1 hD1 hS1 => ?_)
  have e8 := wC_new (cB := cB) (cI := cI) (cJ := cJ) (cZ := cZ) (cS := cS) (cP := cP) (ad := ad) (u := u) (q := q) (sl := j.toNatClampNeg) (c := .inr (.inl (3, j.toNatClampNeg, fun _ => 0))) hw
  have kk2 := kk q H1 (by rw [e8]; exact hP1) (by rw [e8]; exact hD1) hS1
  rw [va_up_self] at kk2
  exact kk2
theorem x_naI (hx : p.tables.exec = Jvm.exec) (hb : c.code = cc) (ht : ∀ w ∈ wd_tbl, w.before args s = true) (hK : va_K D cls (ty6 cB cI cJ cZ cS cP) s) (hP : va_P D cls (wC cB cI cJ cZ cS cP ad u) H) (hD : va_D A (wC cB cI cJ cZ cS cP ad u)) (hS : va_S A H0 H locs) (hA : ∀ q, H0.size ≤ q → A q) (hw : wfB u = true) {j : Int32} (hj : ¬ j < 0) (hbytes : j.toNatClampNeg * componentBytes .int ≤ 536870912) (hcells : cells + 1 ≤ R.cells) (hslots : slots + j.toNatClampNeg ≤ R.slots) (hdg : decode cc pc = .ok (.newarray .int, 2))
    (kk : ∀ (q : Nat) (H1 : Heap), va_P D cls (wC cB cI cJ cZ cS cP (va_up ad u.1.1 q) (cnew u j.toNatClampNeg (.inr (.inl (4, j.toNatClampNeg, fun _ => 0))))) H1 → va_D A (wC cB cI cJ cZ cS cP (va_up ad u.1.1 q) (cnew u j.toNatClampNeg (.inr (.inl (4, j.toNatClampNeg, fun _ => 0))))) → va_S A H0 H1 locs → W p l e R s m args below meth c H1 locs (cells + 1) (slots + j.toNatClampNeg) Q (F0 m (pc + 2) ls (.ref (va_up ad u.1.1 q u.1.1) :: rest))) : W p l e R s m args below meth c H locs cells slots Q (F0 m pc ls (.int j :: rest)) := by
  refine nw_any (a0 := (j.toNatClampNeg, .inl (fun _ => 0))) (ty := .int) hx hb (ht _ ac_int) rfl (fun _ h => by cases h) hK 1 rfl hP hD hS hA (fun _ => rfl) hj rfl hbytes hcells hslots hdg (fun q H1 hP1 hD1 hS1 => ?_)
  have e8 := wC_new (cB := cB) (cI := cI) (cJ := cJ) (cZ := cZ) (cS := cS) (cP := cP) (ad := ad) (u := u) (q := q) (sl := j.toNatClampNeg) (c := .inr (.inl (4, j.toNatClampNeg, fun _ => 0))) hw
  have kk2 := kk q H1 (by rw [e8]; exact hP1) (by rw [e8]; exact hD1) hS1
  rw [va_up_self] at kk2
  exact kk2
theorem x_naZ (hx : p.tables.exec = Jvm.exec) (hb : c.code = cc) (ht : ∀ w ∈ wd_tbl, w.before args s = true) (hK : va_K D cls (ty6 cB cI cJ cZ cS cP) s) (hP : va_P D cls (wC cB cI cJ cZ cS cP ad u) H) (hD : va_D A (wC cB cI cJ cZ cS cP ad u)) (hS : va_S A H0 H locs) (hA : ∀ q, H0.size ≤ q → A q) (hw : wfB u = true) {j : Int32} (hj : ¬ j < 0) (hbytes : j.toNatClampNeg * componentBytes .boolean ≤ 536870912) (hcells : cells + 1 ≤ R.cells) (hslots : slots + j.toNatClampNeg ≤ R.slots) (hdg : decode cc pc = .ok (.newarray .boolean, 2))
    (kk : ∀ (q : Nat) (H1 : Heap), va_P D cls (wC cB cI cJ cZ cS cP (va_up ad u.1.1 q) (cnew u j.toNatClampNeg (.inr (.inl (6, j.toNatClampNeg, fun _ => 0))))) H1 → va_D A (wC cB cI cJ cZ cS cP (va_up ad u.1.1 q) (cnew u j.toNatClampNeg (.inr (.inl (6, j.toNatClampNeg, fun _ => 0))))) → va_S A H0 H1 locs → W p l e R s m args below meth c H1 locs (cells + 1) (slots + j.toNatClampNeg) Q (F0 m (pc + 2) ls (.ref (va_up ad u.1.1 q u.1.1) :: rest))) : W p l e R s m args below meth c H locs cells slots Q (F0 m pc ls (.int j :: rest)) := by
  refine nw_any (a0 := (j.toNatClampNeg, .inl (fun _ => 0))) (ty := .boolean) hx hb (ht _ ac_boolean) rfl (fun _ h => by cases h) hK 3 rfl hP hD hS hA (fun _ => rfl) hj rfl hbytes hcells hslots hdg (fun q H1 hP1 hD1 hS1 => ?_)
  have e8 := wC_new (cB := cB) (cI := cI) (cJ := cJ) (cZ := cZ) (cS := cS) (cP := cP) (ad := ad) (u := u) (q := q) (sl := j.toNatClampNeg) (c := .inr (.inl (6, j.toNatClampNeg, fun _ => 0))) hw
  have kk2 := kk q H1 (by rw [e8]; exact hP1) (by rw [e8]; exact hD1) hS1
  rw [va_up_self] at kk2
  exact kk2
theorem x_naJ (hx : p.tables.exec = Jvm.exec) (hb : c.code = cc) (ht : ∀ w ∈ wd_tbl, w.before args s = true) (hK : va_K D cls (ty6 cB cI cJ cZ cS cP) s) (hP : va_P D cls (wC cB cI cJ cZ cS cP ad u) H) (hD : va_D A (wC cB cI cJ cZ cS cP ad u)) (hS : va_S A H0 H locs) (hA : ∀ q, H0.size ≤ q → A q) (hw : wfB u = true) {j : Int32} (hj : ¬ j < 0) (hbytes : j.toNatClampNeg * componentBytes .long ≤ 536870912) (hcells : cells + 1 ≤ R.cells) (hslots : slots + j.toNatClampNeg ≤ R.slots) (hdg : decode cc pc = .ok (.newarray .long, 2))
    (kk : ∀ (q : Nat) (H1 : Heap), va_P D cls (wC cB cI cJ cZ cS cP (va_up ad u.1.1 q) (cnew u j.toNatClampNeg (.inr (.inr (.inl (j.toNatClampNeg, fun _ => 0)))))) H1 → va_D A (wC cB cI cJ cZ cS cP (va_up ad u.1.1 q) (cnew u j.toNatClampNeg (.inr (.inr (.inl (j.toNatClampNeg, fun _ => 0)))))) → va_S A H0 H1 locs → W p l e R s m args below meth c H1 locs (cells + 1) (slots + j.toNatClampNeg) Q (F0 m (pc + 2) ls (.ref (va_up ad u.1.1 q u.1.1) :: rest))) : W p l e R s m args below meth c H locs cells slots Q (F0 m pc ls (.int j :: rest)) := by
  refine nw_any (a0 := (j.toNatClampNeg, .inr (.inl (fun _ => 0)))) (ty := .long) hx hb (ht _ ac_long) rfl (fun _ h => by cases h) hK 2 rfl hP hD hS hA (fun _ => rfl) hj rfl hbytes hcells hslots hdg (fun q H1 hP1 hD1 hS1 => ?_)
  have e8 := wC_new (cB := cB) (cI := cI) (cJ := cJ) (cZ := cZ) (cS := cS) (cP := cP) (ad := ad) (u := u) (q := q) (sl := j.toNatClampNeg) (c := .inr (.inr (.inl (j.toNatClampNeg, fun _ => 0)))) hw
  have kk2 := kk q H1 (by rw [e8]; exact hP1) (by rw [e8]; exact hD1) hS1
  rw [va_up_self] at kk2
  exact kk2
end XNEW
