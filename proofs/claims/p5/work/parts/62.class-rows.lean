/-! one instruction, over the class's heap as a value -/
theorem clN_of {ci : Nat} {q : vw_C} (h : cls[ci]? = some q) : clN ci = q.2.2 := by
  unfold clN
  rw [List.getD_eq_getElem?_getD, h]
  rfl
theorem nr_obj (C : String) (r : Option Nat) : narrow (.object C) (va_rf r) = va_rf r := by cases r <;> rfl
theorem ft_obj (C : String) (r : Option Nat) : fits (.object C) (va_rf r) = true := by cases r <;> rfl
theorem nr_arr (t : FieldType) (r : Option Nat) : narrow (.array t) (va_rf r) = va_rf r := by cases r <;> rfl
theorem ft_arr (t : FieldType) (r : Option Nat) : fits (.array t) (va_rf r) = true := by cases r <;> rfl
def oA (u : CS) (i t : Nat) : Option (Nat × (Nat → Int32)) := if i < u.1.1 then match u.2 i with
  | .inr (.inl q) => if q.1 = t then some q.2 else none
  | _ => none else none
theorem oA_some {u : CS} {i t : Nat} {q : Nat × (Nat → Int32)} (h : oA u i t = some q) : i < u.1.1 ∧ u.2 i = .inr (.inl (t, q)) := by
  unfold oA at h
  by_cases hi : i < u.1.1
  · rw [if_pos hi] at h
    cases hc : u.2 i with
    | inl z => rw [hc] at h; cases h
    | inr z =>
      cases z with
      | inr y => rw [hc] at h; cases h
      | inl y =>
        rw [hc] at h
        by_cases hq : y.1 = t
        · simp only [hq, if_true] at h
          cases h
          exact ⟨hi, by rw [← hq]⟩
        · simp only [hq, if_false] at h
          cases h
  · rw [if_neg hi] at h
    cases h
def oL (u : CS) (i : Nat) : Option (Nat × (Nat → Int64)) := if i < u.1.1 then match u.2 i with
  | .inr (.inr (.inl q)) => some q
  | _ => none else none
theorem oL_some {u : CS} {i : Nat} {q : Nat × (Nat → Int64)} (h : oL u i = some q) : i < u.1.1 ∧ u.2 i = .inr (.inr (.inl q)) := by
  unfold oL at h
  by_cases hi : i < u.1.1
  · rw [if_pos hi] at h
    cases hc : u.2 i with
    | inl z => rw [hc] at h; cases h
    | inr z =>
      cases z with
      | inl y => rw [hc] at h; cases h
      | inr y =>
        cases y with
        | inr x => rw [hc] at h; cases h
        | inl x => rw [hc] at h; cases h; exact ⟨hi, rfl⟩
  · rw [if_neg hi] at h
    cases h
def aI (u : CS) (i t : Nat) (j : Int32) : Option Int32 := match oA u i t with
  | some q => if inb j q.1 = true then some (q.2 j.toNatClampNeg) else none
  | none => none
def sI (u : CS) (i t : Nat) (j v : Int32) : Option CS := match oA u i t with
  | some q => if inb j q.1 = true then some (cup u i (.inr (.inl (t, q.1, upd q.2 j.toNatClampNeg v)))) else none
  | none => none
def aJ (u : CS) (i : Nat) (j : Int32) : Option Int64 := match oL u i with
  | some q => if inb j q.1 = true then some (q.2 j.toNatClampNeg) else none
  | none => none
def sJ (u : CS) (i : Nat) (j : Int32) (v : Int64) : Option CS := match oL u i with
  | some q => if inb j q.1 = true then some (cup u i (.inr (.inr (.inl (q.1, vp_updL q.2 j.toNatClampNeg v))))) else none
  | none => none
theorem aI_some {u : CS} {i t : Nat} {j v : Int32} (h : aI u i t j = some v) : ∃ q, i < u.1.1 ∧ u.2 i = .inr (.inl (t, q)) ∧ inb j q.1 = true ∧ v = q.2 j.toNatClampNeg := by
  unfold aI at h
  cases hq : oA u i t with
  | none => rw [hq] at h; cases h
  | some q =>
    rw [hq] at h
    obtain ⟨h1, h2⟩ := oA_some hq
    by_cases hb : inb j q.1 = true
    · simp only [hb, if_true] at h; cases h; exact ⟨q, h1, h2, hb, rfl⟩
    · simp only [hb, if_false] at h; cases h
theorem sI_some {u u2 : CS} {i t : Nat} {j v : Int32} (h : sI u i t j v = some u2) : ∃ q, i < u.1.1 ∧ u.2 i = .inr (.inl (t, q)) ∧ inb j q.1 = true ∧ u2 = cup u i (.inr (.inl (t, q.1, upd q.2 j.toNatClampNeg v))) := by
  unfold sI at h
  cases hq : oA u i t with
  | none => rw [hq] at h; cases h
  | some q =>
    rw [hq] at h
    obtain ⟨h1, h2⟩ := oA_some hq
    by_cases hb : inb j q.1 = true
    · simp only [hb, if_true] at h; cases h; exact ⟨q, h1, h2, hb, rfl⟩
    · simp only [hb, if_false] at h; cases h
theorem aJ_some {u : CS} {i : Nat} {j : Int32} {v : Int64} (h : aJ u i j = some v) : ∃ q, i < u.1.1 ∧ u.2 i = .inr (.inr (.inl q)) ∧ inb j q.1 = true ∧ v = q.2 j.toNatClampNeg := by
  unfold aJ at h
  cases hq : oL u i with
  | none => rw [hq] at h; cases h
  | some q =>
    rw [hq] at h
    obtain ⟨h1, h2⟩ := oL_some hq
    by_cases hb : inb j q.1 = true
    · simp only [hb, if_true] at h; cases h; exact ⟨q, h1, h2, hb, rfl⟩
    · simp only [hb, if_false] at h; cases h
theorem sJ_some {u u2 : CS} {i : Nat} {j : Int32} {v : Int64} (h : sJ u i j v = some u2) : ∃ q, i < u.1.1 ∧ u.2 i = .inr (.inr (.inl q)) ∧ inb j q.1 = true ∧ u2 = cup u i (.inr (.inr (.inl (q.1, vp_updL q.2 j.toNatClampNeg v)))) := by
  unfold sJ at h
  cases hq : oL u i with
  | none => rw [hq] at h; cases h
  | some q =>
    rw [hq] at h
    obtain ⟨h1, h2⟩ := oL_some hq
    by_cases hb : inb j q.1 = true
    · simp only [hb, if_true] at h; cases h; exact ⟨q, h1, h2, hb, rfl⟩
    · simp only [hb, if_false] at h; cases h
section CROW
variable {p : Program} {l : Launch} {e : Env} {R : Room} {s : State} {m : MethodId} {args : Array Value} {below : List Frame} {meth : Method} {c : Code} {H : Heap} {locs : List Loc} {cells slots : Nat} {Q : State → Prop}
variable {cc : ByteArray} {pc : Nat} {ls : Array Slot} {rest : List Value} {D : va_G} {cB cI cJ cZ cS cP : ClassId} {A : Nat → Prop} {H0 : Heap} {ad : Nat → Nat} {u u2 : CS} {index : Nat} {own C : String} {F : u_T} {n ci : Nat} {ty : Nat → FieldType} {i k : Nat}
theorem xg_I (hx : p.tables.exec = Jvm.exec) (hb : c.code = cc) (ht : ∀ w ∈ wd_tbl, w.before args s = true) (hown : s.vm.findClass own = some m.cls) (K : CKl cls ci C F n ty) (hK : va_K D cls (ty6 cB cI cJ cZ cS cP) s) (hP : va_P D cls (wC cB cI cJ cZ cS cP ad u) H) (hk : k < n) (hlink : Cond.fieldLink own index C (F k).2.1 (F k).2.2.1 ∈ wd_tbl) {v : Int32} (hg : gI u i ci k = some v) (hdg : decode cc pc = .ok (.getfield index, 3))
    (kk : W p l e R s m args below meth c H locs cells slots Q (F0 m (pc + 3) ls (.int v :: rest))) : W p l e R s m args below meth c H locs cells slots Q (F0 m pc ls (.ref (ad i) :: rest)) := by
  obtain ⟨f, hi, hu, hf⟩ := gI_some hg
  refine va_get hx hb ht K.2.1 hown hK hP i (fs := fl n (fun j => lvV ad (f j))) (by rw [wC_at hi, hu]; show some (ad i, Sum.inr (ci, fl (clN ci) _)) = _; rw [clN_of K.1]) K.1 k hk (ht _ hlink) (fun x h => by rw [K.2.2.2.2 k hk] at h; exact h) (v := .int v) (by rw [fl_get hk, hf]; rfl) hdg kk
theorem xg_J (hx : p.tables.exec = Jvm.exec) (hb : c.code = cc) (ht : ∀ w ∈ wd_tbl, w.before args s = true) (hown : s.vm.findClass own = some m.cls) (K : CKl cls ci C F n ty) (hK : va_K D cls (ty6 cB cI cJ cZ cS cP) s) (hP : va_P D cls (wC cB cI cJ cZ cS cP ad u) H) (hk : k < n) (hlink : Cond.fieldLink own index C (F k).2.1 (F k).2.2.1 ∈ wd_tbl) {v : Int64} (hg : gJ u i ci k = some v) (hdg : decode cc pc = .ok (.getfield index, 3))
    (kk : W p l e R s m args below meth c H locs cells slots Q (F0 m (pc + 3) ls (.long v :: rest))) : W p l e R s m args below meth c H locs cells slots Q (F0 m pc ls (.ref (ad i) :: rest)) := by
  obtain ⟨f, hi, hu, hf⟩ := gJ_some hg
  refine va_get hx hb ht K.2.1 hown hK hP i (fs := fl n (fun j => lvV ad (f j))) (by rw [wC_at hi, hu]; show some (ad i, Sum.inr (ci, fl (clN ci) _)) = _; rw [clN_of K.1]) K.1 k hk (ht _ hlink) (fun x h => by rw [K.2.2.2.2 k hk] at h; exact h) (v := .long v) (by rw [fl_get hk, hf]; rfl) hdg kk
theorem xg_R (hx : p.tables.exec = Jvm.exec) (hb : c.code = cc) (ht : ∀ w ∈ wd_tbl, w.before args s = true) (hown : s.vm.findClass own = some m.cls) (K : CKl cls ci C F n ty) (hK : va_K D cls (ty6 cB cI cJ cZ cS cP) s) (hP : va_P D cls (wC cB cI cJ cZ cS cP ad u) H) (hk : k < n) (hlink : Cond.fieldLink own index C (F k).2.1 (F k).2.2.1 ∈ wd_tbl) {v : Option Nat} (hg : gR u i ci k = some v) (hdg : decode cc pc = .ok (.getfield index, 3))
    (kk : W p l e R s m args below meth c H locs cells slots Q (F0 m (pc + 3) ls (va_rf (v.map ad) :: rest))) : W p l e R s m args below meth c H locs cells slots Q (F0 m pc ls (.ref (ad i) :: rest)) := by
  obtain ⟨f, hi, hu, hf⟩ := gR_some hg
  refine va_get hx hb ht K.2.1 hown hK hP i (fs := fl n (fun j => lvV ad (f j))) (by rw [wC_at hi, hu]; show some (ad i, Sum.inr (ci, fl (clN ci) _)) = _; rw [clN_of K.1]) K.1 k hk (ht _ hlink) (fun x h => by rw [K.2.2.2.2 k hk] at h; exact h) (v := va_rf (v.map ad)) (by rw [fl_get hk, hf]; rfl) hdg kk
theorem xp (hx : p.tables.exec = Jvm.exec) (hb : c.code = cc) (ht : ∀ w ∈ wd_tbl, w.before args s = true) (hown : s.vm.findClass own = some m.cls) (K : CKl cls ci C F n ty) (hK : va_K D cls (ty6 cB cI cJ cZ cS cP) s) (hP : va_P D cls (wC cB cI cJ cZ cS cP ad u) H) (hD : va_D A (wC cB cI cJ cZ cS cP ad u)) (hS : va_S A H0 H locs) (hk : k < n) (hlink : Cond.fieldLink own index C (F k).2.1 (F k).2.2.1 ∈ wd_tbl) (hfin : (F k).2.2.2 = false) {v : LV} (hg : pF u i ci k v = some u2) (hn : narrow (ty k) (lvV ad v) = lvV ad v) (hfit : fits (ty k) (lvV ad v) = true) (hdg : decode cc pc = .ok (.putfield index, 3))
    (kk : ∀ (H1 : Heap) (locs1 : List Loc), va_P D cls (wC cB cI cJ cZ cS cP ad u2) H1 → va_D A (wC cB cI cJ cZ cS cP ad u2) → va_S A H0 H1 locs1 → W p l e R s m args below meth c H1 locs1 cells slots Q (F0 m (pc + 3) ls rest)) : W p l e R s m args below meth c H locs cells slots Q (F0 m pc ls (lvV ad v :: .ref (ad i) :: rest)) := by
  obtain ⟨f, hi, hu, rfl⟩ := pF_some hg
  refine va_put hx hb ht K.2.1 ty K.2.2.1 K.2.2.2.1 hown hK hP hD hS i (fs := fl n (fun j => lvV ad (f j))) (by rw [wC_at hi, hu]; show some (ad i, Sum.inr (ci, fl (clN ci) _)) = _; rw [clN_of K.1]) K.1 k hk (ht _ hlink) (fun x h => by rw [K.2.2.2.2 k hk] at h; exact h) hfin (K.2.2.1 k hk) hn hfit (by rw [fl_len]; exact hk) hdg (fun H1 locs1 hP1 hD1 hS1 => ?_)
  have e9 : (fl n (fun j => lvV ad (f j))).set k (lvV ad v) = fl (clN ci) (fun j => lvV ad (if j = k then v else f j)) := by
    rw [fl_set, clN_of K.1]
    refine congrArg (fl n) (funext fun j => ?_)
    unfold va_up
    by_cases hj : j = k
    · simp [hj]
    · simp [hj]
  rw [e9] at hP1 hD1
  have e8 := wC_set (cB := cB) (cI := cI) (cJ := cJ) (cZ := cZ) (cS := cS) (cP := cP) (ad := ad) (u := u) (c := .inl (ci, fun j => if j = k then v else f j)) hi
  rw [← e8]  at kk
  exact kk H1 locs1 hP1 hD1 hS1
theorem xpF (hx : p.tables.exec = Jvm.exec) (hb : c.code = cc) (ht : ∀ w ∈ wd_tbl, w.before args s = true) (hown : s.vm.findClass own = some m.cls) (K : CKl cls ci C F n ty) (hK : va_K D cls (ty6 cB cI cJ cZ cS cP) s) (hP : va_P D cls (wC cB cI cJ cZ cS cP ad u) H) (hD : va_D A (wC cB cI cJ cZ cS cP ad u)) (hS : va_S A H0 H locs) (hk : k < n) (hlink : Cond.fieldLink own index C (F k).2.1 (F k).2.2.1 ∈ wd_tbl) (hfin : (F k).2.2.2 = true) (hin : meth.name = "<init>") (hC : C = own) {v : LV} (hg : pF u i ci k v = some u2) (hn : narrow (ty k) (lvV ad v) = lvV ad v) (hfit : fits (ty k) (lvV ad v) = true) (hdg : decode cc pc = .ok (.putfield index, 3))
    (kk : ∀ (H1 : Heap) (locs1 : List Loc), va_P D cls (wC cB cI cJ cZ cS cP ad u2) H1 → va_D A (wC cB cI cJ cZ cS cP ad u2) → va_S A H0 H1 locs1 → W p l e R s m args below meth c H1 locs1 cells slots Q (F0 m (pc + 3) ls rest)) : W p l e R s m args below meth c H locs cells slots Q (F0 m pc ls (lvV ad v :: .ref (ad i) :: rest)) := by
  obtain ⟨f, hi, hu, rfl⟩ := pF_some hg
  refine va_putF hx hb ht K.2.1 ty K.2.2.1 K.2.2.2.1 hown hK hP hD hS i (fs := fl n (fun j => lvV ad (f j))) (by rw [wC_at hi, hu]; show some (ad i, Sum.inr (ci, fl (clN ci) _)) = _; rw [clN_of K.1]) K.1 k hk (ht _ hlink) (fun x h => by rw [K.2.2.2.2 k hk] at h; exact h) hfin hin ((K.2.2.2.2 k hk).trans hC) (K.2.2.1 k hk) hn hfit (by rw [fl_len]; exact hk) hdg (fun H1 locs1 hP1 hD1 hS1 => ?_)
  have e9 : (fl n (fun j => lvV ad (f j))).set k (lvV ad v) = fl (clN ci) (fun j => lvV ad (if j = k then v else f j)) := by
    rw [fl_set, clN_of K.1]
    refine congrArg (fl n) (funext fun j => ?_)
    unfold va_up
    by_cases hj : j = k
    · simp [hj]
    · simp [hj]
  rw [e9] at hP1 hD1
  have e8 := wC_set (cB := cB) (cI := cI) (cJ := cJ) (cZ := cZ) (cS := cS) (cP := cP) (ad := ad) (u := u) (c := .inl (ci, fun j => if j = k then v else f j)) hi
  rw [← e8]  at kk
  exact kk H1 locs1 hP1 hD1 hS1
theorem xl_B (hx : p.tables.exec = Jvm.exec) (hb : c.code = cc) (hK : va_K D cls (ty6 cB cI cJ cZ cS cP) s) (hP : va_P D cls (wC cB cI cJ cZ cS cP ad u) H) {j v : Int32} (hg : aI u i 3 j = some v) (hdg : decode cc pc = .ok (.baload, 1))
    (kk : W p l e R s m args below meth c H locs cells slots Q (F0 m (pc + 1) ls (.int v :: rest))) : W p l e R s m args below meth c H locs cells slots Q (F0 m pc ls (.int j :: .ref (ad i) :: rest)) := by
  obtain ⟨q, hi, hu, hin, rfl⟩ := aI_some hg
  exact va_bald hx hb hK hP i 0 (by rw [wC_at hi, hu]; rfl) rfl (inb_in hin) hdg kk
theorem xs_B (hx : p.tables.exec = Jvm.exec) (hb : c.code = cc) (hK : va_K D cls (ty6 cB cI cJ cZ cS cP) s) (hP : va_P D cls (wC cB cI cJ cZ cS cP ad u) H) (hD : va_D A (wC cB cI cJ cZ cS cP ad u)) (hS : va_S A H0 H locs) {j x : Int32} (hg : sI u i 3 j (vp_nar .byte x) = some u2) (hdg : decode cc pc = .ok (.bastore, 1))
    (kk : ∀ (H1 : Heap) (locs1 : List Loc), va_P D cls (wC cB cI cJ cZ cS cP ad u2) H1 → va_D A (wC cB cI cJ cZ cS cP ad u2) → va_S A H0 H1 locs1 → W p l e R s m args below meth c H1 locs1 cells slots Q (F0 m (pc + 1) ls rest)) : W p l e R s m args below meth c H locs cells slots Q (F0 m pc ls (.int x :: .int j :: .ref (ad i) :: rest)) := by
  obtain ⟨q, hi, hu, hin, rfl⟩ := sI_some hg
  refine va_bast hx hb hK hP hD hS i 0 (by rw [wC_at hi, hu]; rfl) rfl (inb_in hin) hdg (fun H1 locs1 hP1 hD1 hS1 => ?_)
  have e8 := wC_set (cB := cB) (cI := cI) (cJ := cJ) (cZ := cZ) (cS := cS) (cP := cP) (ad := ad) (u := u) (c := .inr (.inl (3, q.1, upd q.2 j.toNatClampNeg (vp_nar .byte x)))) hi
  rw [← e8] at kk
  exact kk H1 locs1 hP1 hD1 hS1
theorem xl_I (hx : p.tables.exec = Jvm.exec) (hb : c.code = cc) (hK : va_K D cls (ty6 cB cI cJ cZ cS cP) s) (hP : va_P D cls (wC cB cI cJ cZ cS cP ad u) H) {j v : Int32} (hg : aI u i 4 j = some v) (hdg : decode cc pc = .ok (.iaload, 1))
    (kk : W p l e R s m args below meth c H locs cells slots Q (F0 m (pc + 1) ls (.int v :: rest))) : W p l e R s m args below meth c H locs cells slots Q (F0 m pc ls (.int j :: .ref (ad i) :: rest)) := by
  obtain ⟨q, hi, hu, hin, rfl⟩ := aI_some hg
  exact va_iald hx hb hK hP i 1 (by rw [wC_at hi, hu]; rfl) rfl (inb_in hin) hdg kk
theorem xs_I (hx : p.tables.exec = Jvm.exec) (hb : c.code = cc) (hK : va_K D cls (ty6 cB cI cJ cZ cS cP) s) (hP : va_P D cls (wC cB cI cJ cZ cS cP ad u) H) (hD : va_D A (wC cB cI cJ cZ cS cP ad u)) (hS : va_S A H0 H locs) {j x : Int32} (hg : sI u i 4 j x = some u2) (hdg : decode cc pc = .ok (.iastore, 1))
    (kk : ∀ (H1 : Heap) (locs1 : List Loc), va_P D cls (wC cB cI cJ cZ cS cP ad u2) H1 → va_D A (wC cB cI cJ cZ cS cP ad u2) → va_S A H0 H1 locs1 → W p l e R s m args below meth c H1 locs1 cells slots Q (F0 m (pc + 1) ls rest)) : W p l e R s m args below meth c H locs cells slots Q (F0 m pc ls (.int x :: .int j :: .ref (ad i) :: rest)) := by
  obtain ⟨q, hi, hu, hin, rfl⟩ := sI_some hg
  refine va_iast hx hb hK hP hD hS i 1 (by rw [wC_at hi, hu]; rfl) rfl (inb_in hin) hdg (fun H1 locs1 hP1 hD1 hS1 => ?_)
  have e8 := wC_set (cB := cB) (cI := cI) (cJ := cJ) (cZ := cZ) (cS := cS) (cP := cP) (ad := ad) (u := u) (c := .inr (.inl (4, q.1, upd q.2 j.toNatClampNeg x))) hi
  rw [← e8] at kk
  exact kk H1 locs1 hP1 hD1 hS1
theorem xl_Z (hx : p.tables.exec = Jvm.exec) (hb : c.code = cc) (hK : va_K D cls (ty6 cB cI cJ cZ cS cP) s) (hP : va_P D cls (wC cB cI cJ cZ cS cP ad u) H) {j v : Int32} (hg : aI u i 6 j = some v) (hdg : decode cc pc = .ok (.baload, 1))
    (kk : W p l e R s m args below meth c H locs cells slots Q (F0 m (pc + 1) ls (.int v :: rest))) : W p l e R s m args below meth c H locs cells slots Q (F0 m pc ls (.int j :: .ref (ad i) :: rest)) := by
  obtain ⟨q, hi, hu, hin, rfl⟩ := aI_some hg
  exact va_zald hx hb hK hP i 3 (by rw [wC_at hi, hu]; rfl) rfl (inb_in hin) hdg kk
theorem xs_Z (hx : p.tables.exec = Jvm.exec) (hb : c.code = cc) (hK : va_K D cls (ty6 cB cI cJ cZ cS cP) s) (hP : va_P D cls (wC cB cI cJ cZ cS cP ad u) H) (hD : va_D A (wC cB cI cJ cZ cS cP ad u)) (hS : va_S A H0 H locs) {j x : Int32} (hg : sI u i 6 j (vp_nar .boolean x) = some u2) (hdg : decode cc pc = .ok (.bastore, 1))
    (kk : ∀ (H1 : Heap) (locs1 : List Loc), va_P D cls (wC cB cI cJ cZ cS cP ad u2) H1 → va_D A (wC cB cI cJ cZ cS cP ad u2) → va_S A H0 H1 locs1 → W p l e R s m args below meth c H1 locs1 cells slots Q (F0 m (pc + 1) ls rest)) : W p l e R s m args below meth c H locs cells slots Q (F0 m pc ls (.int x :: .int j :: .ref (ad i) :: rest)) := by
  obtain ⟨q, hi, hu, hin, rfl⟩ := sI_some hg
  refine va_zast hx hb hK hP hD hS i 3 (by rw [wC_at hi, hu]; rfl) rfl (inb_in hin) hdg (fun H1 locs1 hP1 hD1 hS1 => ?_)
  have e8 := wC_set (cB := cB) (cI := cI) (cJ := cJ) (cZ := cZ) (cS := cS) (cP := cP) (ad := ad) (u := u) (c := .inr (.inl (6, q.1, upd q.2 j.toNatClampNeg (vp_nar .boolean x)))) hi
  rw [← e8] at kk
  exact kk H1 locs1 hP1 hD1 hS1
theorem xl_J (hx : p.tables.exec = Jvm.exec) (hb : c.code = cc) (hK : va_K D cls (ty6 cB cI cJ cZ cS cP) s) (hP : va_P D cls (wC cB cI cJ cZ cS cP ad u) H) {j : Int32} {v : Int64} (hg : aJ u i j = some v) (hdg : decode cc pc = .ok (.laload, 1))
    (kk : W p l e R s m args below meth c H locs cells slots Q (F0 m (pc + 1) ls (.long v :: rest))) : W p l e R s m args below meth c H locs cells slots Q (F0 m pc ls (.int j :: .ref (ad i) :: rest)) := by
  obtain ⟨q, hi, hu, hin, rfl⟩ := aJ_some hg
  exact va_lald hx hb hK hP i 2 (by rw [wC_at hi, hu]; rfl) rfl (inb_in hin) hdg kk
theorem xs_J (hx : p.tables.exec = Jvm.exec) (hb : c.code = cc) (hK : va_K D cls (ty6 cB cI cJ cZ cS cP) s) (hP : va_P D cls (wC cB cI cJ cZ cS cP ad u) H) (hD : va_D A (wC cB cI cJ cZ cS cP ad u)) (hS : va_S A H0 H locs) {j : Int32} {x : Int64} (hg : sJ u i j x = some u2) (hdg : decode cc pc = .ok (.lastore, 1))
    (kk : ∀ (H1 : Heap) (locs1 : List Loc), va_P D cls (wC cB cI cJ cZ cS cP ad u2) H1 → va_D A (wC cB cI cJ cZ cS cP ad u2) → va_S A H0 H1 locs1 → W p l e R s m args below meth c H1 locs1 cells slots Q (F0 m (pc + 1) ls rest)) : W p l e R s m args below meth c H locs cells slots Q (F0 m pc ls (.long x :: .int j :: .ref (ad i) :: rest)) := by
  obtain ⟨q, hi, hu, hin, rfl⟩ := sJ_some hg
  refine va_last hx hb hK hP hD hS i 2 (by rw [wC_at hi, hu]; rfl) rfl (inb_in hin) hdg (fun H1 locs1 hP1 hD1 hS1 => ?_)
  have e8 := wC_set (cB := cB) (cI := cI) (cJ := cJ) (cZ := cZ) (cS := cS) (cP := cP) (ad := ad) (u := u) (c := .inr (.inr (.inl (q.1, vp_updL q.2 j.toNatClampNeg x)))) hi
  rw [← e8] at kk
  exact kk H1 locs1 hP1 hD1 hS1
end CROW
