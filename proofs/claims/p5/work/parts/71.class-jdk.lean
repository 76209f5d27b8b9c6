/-! arrays of processes; System.arraycopy over the class's heap as a value; two references compared -/
def oP (u : CS) (i : Nat) : Option (Nat × (Nat → Option Nat)) := if i < u.1.1 then match u.2 i with
  | .inr (.inr (.inr q)) => some q
  | _ => none else none
theorem oP_some {u : CS} {i : Nat} {q : Nat × (Nat → Option Nat)} (h : oP u i = some q) : i < u.1.1 ∧ u.2 i = .inr (.inr (.inr q)) := by
  unfold oP at h
  by_cases hi : i < u.1.1
  · rw [if_pos hi] at h
    cases hc : u.2 i with
    | inl z => rw [hc] at h; cases h
    | inr z =>
      cases z with
      | inl y => rw [hc] at h; cases h
      | inr y =>
        cases y with
        | inl x => rw [hc] at h; cases h
        | inr x => rw [hc] at h; cases h; exact ⟨hi, rfl⟩
  · rw [if_neg hi] at h
    cases h
def aP (u : CS) (i : Nat) (j : Int32) : Option (Option Nat) := match oP u i with
  | some q => if inb j q.1 = true then some (q.2 j.toNatClampNeg) else none
  | none => none
theorem aP_some {u : CS} {i : Nat} {j : Int32} {v : Option Nat} (h : aP u i j = some v) : ∃ q, i < u.1.1 ∧ u.2 i = .inr (.inr (.inr q)) ∧ inb j q.1 = true ∧ v = q.2 j.toNatClampNeg := by
  unfold aP at h
  cases hq : oP u i with
  | none => rw [hq] at h; cases h
  | some q =>
    rw [hq] at h
    obtain ⟨h1, h2⟩ := oP_some hq
    by_cases hb : inb j q.1 = true
    · simp only [hb, if_true] at h; cases h; exact ⟨q, h1, h2, hb, rfl⟩
    · simp only [hb, if_false] at h; cases h
def sP (u : CS) (i : Nat) (j : Int32) (k : Nat) : Option CS := match oP u i with
  | some q => if inb j q.1 = true ∧ isO u k 7 = true then some (cup u i (.inr (.inr (.inr (q.1, va_up q.2 j.toNatClampNeg (some k)))))) else none
  | none => none
theorem sP_some {u u2 : CS} {i k : Nat} {j : Int32} (h : sP u i j k = some u2) : ∃ q, i < u.1.1 ∧ u.2 i = .inr (.inr (.inr q)) ∧ inb j q.1 = true ∧ isO u k 7 = true ∧ u2 = cup u i (.inr (.inr (.inr (q.1, va_up q.2 j.toNatClampNeg (some k))))) := by
  unfold sP at h
  cases hq : oP u i with
  | none => rw [hq] at h; cases h
  | some q =>
    rw [hq] at h
    obtain ⟨h1, h2⟩ := oP_some hq
    by_cases hb : inb j q.1 = true ∧ isO u k 7 = true
    · simp only [hb, and_self, if_true] at h; cases h; exact ⟨q, h1, h2, hb.1, hb.2, rfl⟩
    · simp only [hb, if_false] at h; cases h
theorem sP_c {u w : CS} {i k : Nat} {j : Int32} (h : sP u i j k = some w) : w.1 = u.1 := by
  obtain ⟨q, -, -, -, -, rfl⟩ := sP_some h
  rfl
def cpOk (sp dp n : Int32) (n0 n1 : Nat) : Bool := decide (¬ sp < 0 ∧ ¬ dp < 0 ∧ ¬ n < 0 ∧ sp.toNatClampNeg + n.toNatClampNeg ≤ n0 ∧ dp.toNatClampNeg + n.toNatClampNeg ≤ n1)
theorem cpOk_1 {sp dp n : Int32} {n0 n1 : Nat} (h : cpOk sp dp n n0 n1 = true) : ¬ sp < 0 ∧ ¬ dp < 0 ∧ ¬ n < 0 ∧ sp.toNatClampNeg + n.toNatClampNeg ≤ n0 ∧ dp.toNatClampNeg + n.toNatClampNeg ≤ n1 := of_decide_eq_true h
def ftB (t : Nat) (f : Nat → Int32) (sp n : Nat) : Bool := if t = 3 then (List.range n).all (fun i => fits .byte (.int (f (sp + i)))) else true
def cpI (u : CS) (t a0 : Nat) (sp : Int32) (a1 : Nat) (dp n : Int32) : Option CS := bo (oA u a0 t) (fun q0 => bo (oA u a1 t) (fun q1 => ck (cpOk sp dp n q0.1 q1.1) (ck (ftB t q0.2 sp.toNatClampNeg n.toNatClampNeg) (some (cup u a1 (.inr (.inl (t, q1.1, va_cpy q0.2 q1.2 sp.toNatClampNeg dp.toNatClampNeg n.toNatClampNeg))))))))
def cpJ (u : CS) (a0 : Nat) (sp : Int32) (a1 : Nat) (dp n : Int32) : Option CS := bo (oL u a0) (fun q0 => bo (oL u a1) (fun q1 => ck (cpOk sp dp n q0.1 q1.1) (some (cup u a1 (.inr (.inr (.inl (q1.1, va_cpy q0.2 q1.2 sp.toNatClampNeg dp.toNatClampNeg n.toNatClampNeg))))))))
theorem cpI_c {u w : CS} {t a0 a1 : Nat} {sp dp n : Int32} (h : cpI u t a0 sp a1 dp n = some w) : w.1 = u.1 := by
  obtain ⟨q0, -, h⟩ := bo_some h
  obtain ⟨q1, -, h⟩ := bo_some h
  obtain ⟨-, h⟩ := ck_some h
  obtain ⟨-, h⟩ := ck_some h
  cases h
  rfl
theorem cpJ_c {u w : CS} {a0 a1 : Nat} {sp dp n : Int32} (h : cpJ u a0 sp a1 dp n = some w) : w.1 = u.1 := by
  obtain ⟨q0, -, h⟩ := bo_some h
  obtain ⟨q1, -, h⟩ := bo_some h
  obtain ⟨-, h⟩ := ck_some h
  cases h
  rfl
section JROW
variable {p : Program} {l : Launch} {e : Env} {R : Room} {s : State} {m : MethodId} {args : Array Value} {below : List Frame} {meth : Method} {c : Code} {H : Heap} {locs : List Loc} {cells slots : Nat} {Q : State → Prop}
variable {cc : ByteArray} {pc : Nat} {ls : Array Slot} {rest : List Value} {D : va_G} {cB cI cJ cZ cS cP : ClassId} {A : Nat → Prop} {H0 : Heap} {ad : Nat → Nat} {u u2 : CS} {i k a0 a1 index : Nat} {own : String}
theorem xl_P (hx : p.tables.exec = Jvm.exec) (hb : c.code = cc) (hK : va_K D cls (ty6 cB cI cJ cZ cS cP) s) (hP : va_P D cls (wC cB cI cJ cZ cS cP ad u) H) {j : Int32} {v : Option Nat} (hg : aP u i j = some v) (hdg : decode cc pc = .ok (.aaload, 1))
    (kk : W p l e R s m args below meth c H locs cells slots Q (F0 m (pc + 1) ls (va_rf (v.map ad) :: rest))) : W p l e R s m args below meth c H locs cells slots Q (F0 m pc ls (.int j :: .ref (ad i) :: rest)) := by
  obtain ⟨q, hi, hu, hin, rfl⟩ := aP_some hg
  have hlt : j.toNatClampNeg < q.1 := Nat.not_le.mp fun z => (inb_in hin) (Or.inr z)
  refine va_aldq hx hb hK hP i 5 (f := fun i => if i < q.1 then (q.2 i).map ad else none) (by rw [wC_at hi, hu]; rfl) rfl (inb_in hin) hdg ?_
  rw [if_pos hlt]
  exact kk
theorem xs_P (hx : p.tables.exec = Jvm.exec) (hb : c.code = cc) (hK : va_K D cls (ty6 cB cI cJ cZ cS cP) s) (hP : va_P D cls (wC cB cI cJ cZ cS cP ad u) H) (hD : va_D A (wC cB cI cJ cZ cS cP ad u)) (hS : va_S A H0 H locs) {j : Int32} (hg : sP u i j k = some u2) (hdg : decode cc pc = .ok (.aastore, 1))
    (kk : ∀ (H1 : Heap) (locs1 : List Loc), va_P D cls (wC cB cI cJ cZ cS cP ad u2) H1 → va_D A (wC cB cI cJ cZ cS cP ad u2) → va_S A H0 H1 locs1 → W p l e R s m args below meth c H1 locs1 cells slots Q (F0 m (pc + 1) ls rest)) : W p l e R s m args below meth c H locs cells slots Q (F0 m pc ls (.ref (ad k) :: .int j :: .ref (ad i) :: rest)) := by
  obtain ⟨q, hi, hu, hin, hO, rfl⟩ := sP_some hg
  obtain ⟨f, hil, hif⟩ := isO_some hO
  have hlt : j.toNatClampNeg < q.1 := Nat.not_le.mp fun z => (inb_in hin) (Or.inr z)
  refine va_astq (r := (R_Pr, F_Pr, 18)) hx hb hK hP hD hS i 5 k 7 (f := fun i => if i < q.1 then (q.2 i).map ad else none) (vs := fl 18 (fun j => lvV ad (f j))) (by rw [wC_at hi, hu]; rfl) rfl (by rw [wC_at hil, hif]; show some (ad k, Sum.inr (7, fl (clN 7) _)) = _; rw [clN_of ck_Pr.1]) ck_Pr.1 (inb_in hin) hdg (fun H1 locs1 hP1 hD1 hS1 => ?_)
  have e8 := wC_set (cB := cB) (cI := cI) (cJ := cJ) (cZ := cZ) (cS := cS) (cP := cP) (ad := ad) (u := u) (c := .inr (.inr (.inr (q.1, va_up q.2 j.toNatClampNeg (some k))))) hi
  rw [← e8] at kk
  have e9 : va_up (fun i => if i < q.1 then (q.2 i).map ad else none) j.toNatClampNeg (some (ad k)) = fun i => if i < q.1 then (va_up q.2 j.toNatClampNeg (some k) i).map ad else none := by
    funext z
    by_cases hz : z = j.toNatClampNeg
    · subst hz
      rw [va_up_self, if_pos hlt, va_up_self]
      rfl
    · rw [va_up_ne _ _ hz, va_up_ne _ _ hz]
  rw [e9] at hP1 hD1
  exact kk H1 locs1 hP1 hD1 hS1
theorem x_cpI (hx : p.tables.exec = Jvm.exec) (hb : c.code = cc) (hml : c.maxLocals = ls.size) (ht : ∀ w ∈ wd_tbl, w.before args s = true) (hown : s.vm.findClass own = some m.cls) (hl : Cond.methodLink own index arraycopyName ∈ wd_tbl) (hnat : Cond.native arraycopyName ∈ wd_tbl) (hst : Cond.static arraycopyName ∈ wd_tbl) (hini : Cond.initialized "java/lang/System" ∈ wd_tbl) (hK : va_K D cls (ty6 cB cI cJ cZ cS cP) s) (hP : va_P D cls (wC cB cI cJ cZ cS cP ad u) H) (hD : va_D A (wC cB cI cJ cZ cS cP ad u)) (hS : va_S A H0 H locs) {sp dp n : Int32} {t : Nat} (htt : t = 3 ∨ t = 4) (hg : cpI u t a0 sp a1 dp n = some u2) (hframes : 1 ≤ R.frames) (hlocals : (rest.map fun v => v.category).sum + (nativeFrameWords "java/lang/System" "arraycopy" 5 + 11) ≤ R.locals) (hdg : decode cc pc = .ok (.invokestatic index, 3))
    (kk : ∀ (H1 : Heap) (locs1 : List Loc), va_P D cls (wC cB cI cJ cZ cS cP ad u2) H1 → va_D A (wC cB cI cJ cZ cS cP ad u2) → va_S A H0 H1 locs1 → W p l e R s m args below meth c H1 locs1 cells slots Q (F0 m (pc + 3) ls rest)) : W p l e R s m args below meth c H locs cells slots Q (F0 m pc ls (.int n :: .int dp :: .ref (ad a1) :: .int sp :: .ref (ad a0) :: rest)) := by
  obtain ⟨q0, hq0, hg⟩ := bo_some hg
  obtain ⟨q1, hq1, hg⟩ := bo_some hg
  obtain ⟨hc, hg⟩ := ck_some hg
  obtain ⟨hft, hg⟩ := ck_some hg
  cases hg
  obtain ⟨h1, h2, h3, h4, h5⟩ := cpOk_1 hc
  obtain ⟨i0, u0⟩ := oA_some hq0
  obtain ⟨i1, u1⟩ := oA_some hq1
  have e8 := wC_set (cB := cB) (cI := cI) (cJ := cJ) (cZ := cZ) (cS := cS) (cP := cP) (ad := ad) (u := u) (c := .inr (.inl (t, q1.1, va_cpy q0.2 q1.2 sp.toNatClampNeg dp.toNatClampNeg n.toNatClampNeg))) i1
  rw [← e8] at kk
  rcases htt with rfl | rfl
  · refine va_copyi hx hb hml hown (ht _ hl) (ht _ hnat) (ht _ hst) (ht _ hini) hK hP hD hS a0 a1 0 0 (f := q0.2) (g := q1.2) (by rw [wC_at i0, u0]; rfl) (by rw [wC_at i1, u1]; rfl) rfl rfl rfl h1 h2 h3 h4 h5 (fun i hi => ?_) hframes hlocals hdg kk
    exact List.all_eq_true.mp hft i (List.mem_range.mpr hi)
  · exact va_copyi hx hb hml hown (ht _ hl) (ht _ hnat) (ht _ hst) (ht _ hini) hK hP hD hS a0 a1 1 1 (f := q0.2) (g := q1.2) (by rw [wC_at i0, u0]; rfl) (by rw [wC_at i1, u1]; rfl) rfl rfl rfl h1 h2 h3 h4 h5 (fun i hi => rfl) hframes hlocals hdg kk
theorem x_cpJ (hx : p.tables.exec = Jvm.exec) (hb : c.code = cc) (hml : c.maxLocals = ls.size) (ht : ∀ w ∈ wd_tbl, w.before args s = true) (hown : s.vm.findClass own = some m.cls) (hl : Cond.methodLink own index arraycopyName ∈ wd_tbl) (hnat : Cond.native arraycopyName ∈ wd_tbl) (hst : Cond.static arraycopyName ∈ wd_tbl) (hini : Cond.initialized "java/lang/System" ∈ wd_tbl) (hK : va_K D cls (ty6 cB cI cJ cZ cS cP) s) (hP : va_P D cls (wC cB cI cJ cZ cS cP ad u) H) (hD : va_D A (wC cB cI cJ cZ cS cP ad u)) (hS : va_S A H0 H locs) {sp dp n : Int32} (hg : cpJ u a0 sp a1 dp n = some u2) (hframes : 1 ≤ R.frames) (hlocals : (rest.map fun v => v.category).sum + (nativeFrameWords "java/lang/System" "arraycopy" 5 + 11) ≤ R.locals) (hdg : decode cc pc = .ok (.invokestatic index, 3))
    (kk : ∀ (H1 : Heap) (locs1 : List Loc), va_P D cls (wC cB cI cJ cZ cS cP ad u2) H1 → va_D A (wC cB cI cJ cZ cS cP ad u2) → va_S A H0 H1 locs1 → W p l e R s m args below meth c H1 locs1 cells slots Q (F0 m (pc + 3) ls rest)) : W p l e R s m args below meth c H locs cells slots Q (F0 m pc ls (.int n :: .int dp :: .ref (ad a1) :: .int sp :: .ref (ad a0) :: rest)) := by
  obtain ⟨q0, hq0, hg⟩ := bo_some hg
  obtain ⟨q1, hq1, hg⟩ := bo_some hg
  obtain ⟨hc, hg⟩ := ck_some hg
  cases hg
  obtain ⟨h1, h2, h3, h4, h5⟩ := cpOk_1 hc
  obtain ⟨i0, u0⟩ := oL_some hq0
  obtain ⟨i1, u1⟩ := oL_some hq1
  have e8 := wC_set (cB := cB) (cI := cI) (cJ := cJ) (cZ := cZ) (cS := cS) (cP := cP) (ad := ad) (u := u) (c := .inr (.inr (.inl (q1.1, va_cpy q0.2 q1.2 sp.toNatClampNeg dp.toNatClampNeg n.toNatClampNeg)))) i1
  rw [← e8] at kk
  exact va_copyl hx hb hml hown (ht _ hl) (ht _ hnat) (ht _ hst) (ht _ hini) hK hP hD hS a0 a1 2 2 (f := q0.2) (g := q1.2) (by rw [wC_at i0, u0]; rfl) (by rw [wC_at i1, u1]; rfl) rfl rfl rfl h1 h2 h3 h4 h5 (fun i hi => rfl) hframes hlocals hdg kk
end JROW
theorem ad_inj {cB cI cJ cZ cS cP : ClassId} {ad : Nat → Nat} {u : CS} {A : Nat → Prop} (hD : va_D A (wC cB cI cJ cZ cS cP ad u)) {r1 r2 : Option Nat} (h1 : okR u.1.1 r1 = true) (h2 : okR u.1.1 r2 = true) (h : Option.map ad r1 = Option.map ad r2) : r1 = r2 := by
  cases r1 with
  | none =>
    cases r2 with
    | none => rfl
    | some j => cases h
  | some i =>
    cases r2 with
    | none => cases h
    | some j =>
      have hi : i < u.1.1 := of_decide_eq_true h1
      have hj : j < u.1.1 := of_decide_eq_true h2
      have e1 : ad i = ad j := Option.some.inj h
      rw [hD.1 i j _ _ (wC_at hi) (wC_at hj) e1]
section JACMP
variable {p : Program} {l : Launch} {e : Env} {R : Room} {s : State} {m : MethodId} {args : Array Value} {below : List Frame} {meth : Method} {c : Code} {H : Heap} {locs : List Loc} {cells slots : Nat} {Q : State → Prop}
variable {cc : ByteArray} {pc : Nat} {ls : Array Slot} {rest : List Value} {cB cI cJ cZ cS cP : ClassId} {A : Nat → Prop} {ad : Nat → Nat} {u : CS}
theorem x_acmp_ne (hx : p.tables.exec = Jvm.exec) (hb : c.code = cc) (hD : va_D A (wC cB cI cJ cZ cS cP ad u)) {rx ry : Option Nat} (h1 : okR u.1.1 rx = true) (h2 : okR u.1.1 ry = true) {off : Int} {tgt : Nat} (hdg : decode cc pc = .ok (.if_acmp .ne off, 3)) (htg : (pc : Int) + off = (tgt : Int)) (kt : ¬ rx = ry → W p l e R s m args below meth c H locs cells slots Q (F0 m tgt ls rest)) (kf : rx = ry → W p l e R s m args below meth c H locs cells slots Q (F0 m (pc + 3) ls rest)) : W p l e R s m args below meth c H locs cells slots Q (F0 m pc ls (va_rf (ry.map ad) :: va_rf (rx.map ad) :: rest)) :=
  lv_acmp_ne hx hb hdg htg (fun h => kt (fun z => h (by rw [z]))) (fun h => kf (ad_inj hD h1 h2 h))
theorem x_acmp_eq (hx : p.tables.exec = Jvm.exec) (hb : c.code = cc) (hD : va_D A (wC cB cI cJ cZ cS cP ad u)) {rx ry : Option Nat} (h1 : okR u.1.1 rx = true) (h2 : okR u.1.1 ry = true) {off : Int} {tgt : Nat} (hdg : decode cc pc = .ok (.if_acmp .eq off, 3)) (htg : (pc : Int) + off = (tgt : Int)) (kt : rx = ry → W p l e R s m args below meth c H locs cells slots Q (F0 m tgt ls rest)) (kf : ¬ rx = ry → W p l e R s m args below meth c H locs cells slots Q (F0 m (pc + 3) ls rest)) : W p l e R s m args below meth c H locs cells slots Q (F0 m pc ls (va_rf (ry.map ad) :: va_rf (rx.map ad) :: rest)) :=
  lv_acmp_eq hx hb hdg htg (fun h => kt (ad_inj hD h1 h2 h)) (fun h => kf (fun z => h (by rw [z])))
end JACMP
