/-! methods that make cells: what is made is counted, and looked at, not assumed -/
def dfV (t : FieldType) : LV := match t with
  | .long => .inr (.inl 0)
  | .object _ => .inr (.inr none)
  | .array _ => .inr (.inr none)
  | _ => .inl 0
def dfT (t : FieldType) : Bool := match t with
  | .float => false
  | .double => false
  | _ => true
theorem df_ok {t : FieldType} (h : dfT t = true) (a : Nat → Nat) : defaultValue t = lvV a (dfV t) := by
  cases t <;> first | rfl | cases h
def nO (u : CS) (ci n : Nat) (t : Nat → FieldType) : Option CS := if wfB u = true then some (cnew u n (.inl (ci, fun j => dfV (t j)))) else none
theorem nO_some {u u2 : CS} {ci n : Nat} {t : Nat → FieldType} (h : nO u ci n t = some u2) : wfB u = true ∧ u2 = cnew u n (.inl (ci, fun j => dfV (t j))) := by
  unfold nO at h
  by_cases hw : wfB u = true
  · rw [if_pos hw] at h
    cases h
    exact ⟨hw, rfl⟩
  · rw [if_neg hw] at h
    cases h
def nwC (u : CS) (j : Int32) (c : LC) : Option CS := if wfB u = true ∧ ¬ j < 0 ∧ j.toNatClampNeg ≤ 67108864 then some (cnew u j.toNatClampNeg c) else none
theorem nwC_some {u u2 : CS} {j : Int32} {c : LC} (h : nwC u j c = some u2) : (wfB u = true ∧ ¬ j < 0 ∧ j.toNatClampNeg ≤ 67108864) ∧ u2 = cnew u j.toNatClampNeg c := by
  unfold nwC at h
  by_cases hw : wfB u = true ∧ ¬ j < 0 ∧ j.toNatClampNeg ≤ 67108864
  · rw [if_pos hw] at h
    cases h
    exact ⟨hw, rfl⟩
  · rw [if_neg hw] at h
    cases h
def nwI (u : CS) (t : Nat) (j : Int32) : Option CS := nwC u j (.inr (.inl (t, j.toNatClampNeg, fun _ => 0)))
def nwJ (u : CS) (j : Int32) : Option CS := nwC u j (.inr (.inr (.inl (j.toNatClampNeg, fun _ => 0))))
def nwP (u : CS) (j : Int32) : Option CS := nwC u j (.inr (.inr (.inr (j.toNatClampNeg, fun _ => none))))
def gw {α : Type} (u : CS) (r : Option (CS × α)) : Option (CS × α) := match r with
  | none => none
  | some x => if u.1.1 ≤ x.1.1.1 ∧ u.1.2 ≤ x.1.1.2 then some x else none
theorem gw_some {α : Type} {u : CS} {r : Option (CS × α)} {x : CS × α} (h : gw u r = some x) : r = some x ∧ (u.1.1 ≤ x.1.1.1 ∧ u.1.2 ≤ x.1.1.2) := by
  cases r with
  | none => cases h
  | some q =>
    have h2 : (if u.1.1 ≤ q.1.1.1 ∧ u.1.2 ≤ q.1.1.2 then some q else none) = some x := h
    by_cases hq : u.1.1 ≤ q.1.1.1 ∧ u.1.2 ≤ q.1.1.2
    · rw [if_pos hq] at h2
      cases h2
      exact ⟨rfl, hq⟩
    · rw [if_neg hq] at h2
      cases h2
def gz {α : Type} (u : CS) (r : Option (CS × α)) : Option (CS × α) := match r with
  | none => none
  | some x => if x.1.1.1 = u.1.1 ∧ x.1.1.2 = u.1.2 then some x else none
theorem gz_some {α : Type} {u : CS} {r : Option (CS × α)} {x : CS × α} (h : gz u r = some x) : r = some x ∧ (x.1.1.1 = u.1.1 ∧ x.1.1.2 = u.1.2) := by
  cases r with
  | none => cases h
  | some q =>
    have h2 : (if q.1.1.1 = u.1.1 ∧ q.1.1.2 = u.1.2 then some q else none) = some x := h
    by_cases hq : q.1.1.1 = u.1.1 ∧ q.1.1.2 = u.1.2
    · rw [if_pos hq] at h2
      cases h2
      exact ⟨rfl, hq⟩
    · rw [if_neg hq] at h2
      cases h2
theorem gm {a b c d : Nat} (h : a ≤ b ∧ c ≤ d) : a + (b - a) = b ∧ c + (d - c) = d := by omega
theorem ko_at {n : Nat} {L : List (Option Nat)} (h : L.all (okR n) = true) {k : Nat} {r : Option Nat} (hk : L[k]? = some r) : okR n r = true := List.all_eq_true.mp h r (List.mem_of_getElem? hk)
theorem ko_O {n k j : Nat} {L : List (Option Nat)} (h : L.all (okR n) = true) (hk : L[k]? = some (some j)) {a b : Nat → Nat} (hg : ∀ i, i < n → a i = b i) : a j = b j := hg j (of_decide_eq_true (ko_at h hk))
theorem ko_N {n k : Nat} {r : Option Nat} {L : List (Option Nat)} (h : L.all (okR n) = true) (hk : L[k]? = some r) {a b : Nat → Nat} (hg : ∀ i, i < n → a i = b i) : Option.map a r = Option.map b r := by
  cases r with
  | none => rfl
  | some j =>
    show some (a j) = some (b j)
    rw [ko_O h hk hg]
/-- the book: what was made since the entry, and the map's old part -/
def AB (uN uS : Nat) (ad0 : Nat → Nat) (u : CS) (ad : Nat → Nat) (ce sl : Nat) : Prop := uN + ce = u.1.1 ∧ uS + sl = u.1.2 ∧ ∀ i, i < uN → ad i = ad0 i
theorem AB.same {uN uS : Nat} {ad0 ad : Nat → Nat} {u w : CS} {ce sl : Nat} (h : AB uN uS ad0 u ad ce sl) (e : w.1 = u.1) : AB uN uS ad0 w ad ce sl := by
  unfold AB at h ⊢
  rw [e]
  exact h
theorem AB.same2 {uN uS : Nat} {ad0 ad : Nat → Nat} {u w : CS} {ce sl : Nat} (h : AB uN uS ad0 u ad ce sl) (e : w.1.1 = u.1.1 ∧ w.1.2 = u.1.2) : AB uN uS ad0 w ad ce sl := by
  unfold AB at h ⊢
  rw [e.1, e.2]
  exact h
theorem AB.fit {uN uS xc xs rc rs : Nat} {ad0 ad : Nat → Nat} {u w : CS} {ce sl : Nat} (h : AB uN uS ad0 u ad ce sl) (hX : uN + rc = xc ∧ uS + rs = xs) (e : w.1.1 = u.1.1 ∧ w.1.2 = u.1.2) (hg : w.1.1 ≤ xc ∧ w.1.2 ≤ xs) : ce + 0 ≤ rc ∧ sl + 0 ≤ rs := by
  have h1 := h.1
  have h2 := h.2.1
  omega
theorem pF_c {u w : CS} {i ci k : Nat} {v : LV} (h : pF u i ci k v = some w) : w.1 = u.1 := by
  obtain ⟨f, -, -, rfl⟩ := pF_some h
  rfl
theorem sI_c {u w : CS} {i t : Nat} {j v : Int32} (h : sI u i t j v = some w) : w.1 = u.1 := by
  obtain ⟨f, -, -, -, rfl⟩ := sI_some h
  rfl
theorem sJ_c {u w : CS} {i : Nat} {j : Int32} {v : Int64} (h : sJ u i j v = some w) : w.1 = u.1 := by
  obtain ⟨f, -, -, -, rfl⟩ := sJ_some h
  rfl
section YROW
variable {p : Program} {l : Launch} {e : Env} {R : Room} {s s0 : State} {m : MethodId} {args : Array Value} {below : List Frame} {meth : Method} {c : Code} {H : Heap} {locs : List Loc} {Q : State → Prop}
variable {cc : ByteArray} {pc nL n idx b0 i ci nF index ce sl uN uS xc xs : Nat} {ls : Array Slot} {rest st : List Value} {ret rt : Option FieldType} {D : va_G} {cB cI cJ cZ cS cP : ClassId} {A : Nat → Prop} {ad ad0 : Nat → Nat} {u u2 x : CS} {v : Option LV} {y : MethodName} {b : ByteArray} {rm : Room} {As : List Value} {nA mc ms : Nat} {own C : String} {F : u_T} {ty : Nat → FieldType}
theorem y_new (C0 : XCx p s s0 b0 m args meth c own cc nL ret D cB cI cJ cZ cS cP A) (hP : va_P D cls (wC cB cI cJ cZ cS cP ad u) H) (hD : va_D A (wC cB cI cJ cZ cS cP ad u)) (hS : va_S A s.heap H locs) (K : CKl cls ci C F n ty) (hcl : Cond.classLink own index C ∈ wd_tbl) (hinst : Cond.instantiable C n ∈ wd_tbl) (hini : Cond.initialized C ∈ wd_tbl) (hdf : ∀ j, j < n → dfT (ty j) = true) (hn : nO u ci n ty = some u2) (hB : AB uN uS ad0 u ad ce sl) (hX : uN + R.cells = xc ∧ uS + R.slots = xs) (hg : u2.1.1 ≤ xc ∧ u2.1.2 ≤ xs) (hdg : decode cc pc = .ok (.new index, 3))
    (kk : ∀ (ad2 : Nat → Nat) (H1 : Heap) (ce2 sl2 : Nat), (∀ i, i < u.1.1 → ad2 i = ad i) → AB uN uS ad0 u2 ad2 ce2 sl2 → va_P D cls (wC cB cI cJ cZ cS cP ad2 u2) H1 → va_D A (wC cB cI cJ cZ cS cP ad2 u2) → va_S A s.heap H1 locs → W p l e R s m args below meth c H1 locs ce2 sl2 Q (F0 m (pc + 3) ls (.ref (ad2 u.1.1) :: rest))) : W p l e R s m args below meth c H locs ce sl Q (F0 m pc ls rest) := by
  obtain ⟨hx, hb, hr, hml, ht, hown, hK, hA, hlocks, hA0, hO, hbs⟩ := C0
  obtain ⟨hw, rfl⟩ := nO_some hn
  obtain ⟨b1, b2, b3⟩ := hB
  have hg1 : u.1.1 + 1 ≤ xc := hg.1
  have hg2 : u.1.2 + n ≤ xs := hg.2
  refine x_new (f := fun j => dfV (ty j)) hx hb ht hown K hK hP hD hS hA hcl hinst hini hw (fun a j hj => df_ok (hdf j hj) a) (by omega) (by omega) hdg (fun q H1 hP1 hD1 hS1 => ?_)
  exact kk _ H1 _ _ up_ag ⟨(by show uN + (ce + 1) = u.1.1 + 1; omega), (by show uS + (sl + n) = u.1.2 + n; omega), fun i h => (up_ag i (by omega)).trans (b3 i h)⟩ hP1 hD1 hS1
theorem y_naB (C0 : XCx p s s0 b0 m args meth c own cc nL ret D cB cI cJ cZ cS cP A) (hP : va_P D cls (wC cB cI cJ cZ cS cP ad u) H) (hD : va_D A (wC cB cI cJ cZ cS cP ad u)) (hS : va_S A s.heap H locs) {j : Int32} (hn : nwI u 3 j = some u2) (hB : AB uN uS ad0 u ad ce sl) (hX : uN + R.cells = xc ∧ uS + R.slots = xs) (hg : u2.1.1 ≤ xc ∧ u2.1.2 ≤ xs) (hdg : decode cc pc = .ok (.newarray .byte, 2))
    (kk : ∀ (ad2 : Nat → Nat) (H1 : Heap) (ce2 sl2 : Nat), (∀ i, i < u.1.1 → ad2 i = ad i) → AB uN uS ad0 u2 ad2 ce2 sl2 → va_P D cls (wC cB cI cJ cZ cS cP ad2 u2) H1 → va_D A (wC cB cI cJ cZ cS cP ad2 u2) → va_S A s.heap H1 locs → W p l e R s m args below meth c H1 locs ce2 sl2 Q (F0 m (pc + 2) ls (.ref (ad2 u.1.1) :: rest))) : W p l e R s m args below meth c H locs ce sl Q (F0 m pc ls (.int j :: rest)) := by
  obtain ⟨hx, hb, hr, hml, ht, hown, hK, hA, hlocks, hA0, hO, hbs⟩ := C0
  obtain ⟨⟨hw, hj, hz⟩, rfl⟩ := nwC_some hn
  obtain ⟨b1, b2, b3⟩ := hB
  have hg1 : u.1.1 + 1 ≤ xc := hg.1
  have hg2 : u.1.2 + j.toNatClampNeg ≤ xs := hg.2
  have hby : j.toNatClampNeg * componentBytes .byte ≤ 536870912 := by
    show j.toNatClampNeg * 1 ≤ 536870912
    omega
  refine x_naB hx hb ht hK hP hD hS hA hw hj hby (by omega) (by omega) hdg (fun q H1 hP1 hD1 hS1 => ?_)
  exact kk _ H1 _ _ up_ag ⟨(by show uN + (ce + 1) = u.1.1 + 1; omega), (by show uS + (sl + j.toNatClampNeg) = u.1.2 + j.toNatClampNeg; omega), fun i h => (up_ag i (by omega)).trans (b3 i h)⟩ hP1 hD1 hS1
theorem y_naI (C0 : XCx p s s0 b0 m args meth c own cc nL ret D cB cI cJ cZ cS cP A) (hP : va_P D cls (wC cB cI cJ cZ cS cP ad u) H) (hD : va_D A (wC cB cI cJ cZ cS cP ad u)) (hS : va_S A s.heap H locs) {j : Int32} (hn : nwI u 4 j = some u2) (hB : AB uN uS ad0 u ad ce sl) (hX : uN + R.cells = xc ∧ uS + R.slots = xs) (hg : u2.1.1 ≤ xc ∧ u2.1.2 ≤ xs) (hdg : decode cc pc = .ok (.newarray .int, 2))
    (kk : ∀ (ad2 : Nat → Nat) (H1 : Heap) (ce2 sl2 : Nat), (∀ i, i < u.1.1 → ad2 i = ad i) → AB uN uS ad0 u2 ad2 ce2 sl2 → va_P D cls (wC cB cI cJ cZ cS cP ad2 u2) H1 → va_D A (wC cB cI cJ cZ cS cP ad2 u2) → va_S A s.heap H1 locs → W p l e R s m args below meth c H1 locs ce2 sl2 Q (F0 m (pc + 2) ls (.ref (ad2 u.1.1) :: rest))) : W p l e R s m args below meth c H locs ce sl Q (F0 m pc ls (.int j :: rest)) := by
  obtain ⟨hx, hb, hr, hml, ht, hown, hK, hA, hlocks, hA0, hO, hbs⟩ := C0
  obtain ⟨⟨hw, hj, hz⟩, rfl⟩ := nwC_some hn
  obtain ⟨b1, b2, b3⟩ := hB
  have hg1 : u.1.1 + 1 ≤ xc := hg.1
  have hg2 : u.1.2 + j.toNatClampNeg ≤ xs := hg.2
  have hby : j.toNatClampNeg * componentBytes .int ≤ 536870912 := by
    show j.toNatClampNeg * 4 ≤ 536870912
    omega
  refine x_naI hx hb ht hK hP hD hS hA hw hj hby (by omega) (by omega) hdg (fun q H1 hP1 hD1 hS1 => ?_)
  exact kk _ H1 _ _ up_ag ⟨(by show uN + (ce + 1) = u.1.1 + 1; omega), (by show uS + (sl + j.toNatClampNeg) = u.1.2 + j.toNatClampNeg; omega), fun i h => (up_ag i (by omega)).trans (b3 i h)⟩ hP1 hD1 hS1
theorem y_naZ (C0 : XCx p s s0 b0 m args meth c own cc nL ret D cB cI cJ cZ cS cP A) (hP : va_P D cls (wC cB cI cJ cZ cS cP ad u) H) (hD : va_D A (wC cB cI cJ cZ cS cP ad u)) (hS : va_S A s.heap H locs) {j : Int32} (hn : nwI u 6 j = some u2) (hB : AB uN uS ad0 u ad ce sl) (hX : uN + R.cells = xc ∧ uS + R.slots = xs) (hg : u2.1.1 ≤ xc ∧ u2.1.2 ≤ xs) (hdg : decode cc pc = .ok (.newarray .boolean, 2))
    (kk : ∀ (ad2 : Nat → Nat) (H1 : Heap) (ce2 sl2 : Nat), (∀ i, i < u.1.1 → ad2 i = ad i) → AB uN uS ad0 u2 ad2 ce2 sl2 → va_P D cls (wC cB cI cJ cZ cS cP ad2 u2) H1 → va_D A (wC cB cI cJ cZ cS cP ad2 u2) → va_S A s.heap H1 locs → W p l e R s m args below meth c H1 locs ce2 sl2 Q (F0 m (pc + 2) ls (.ref (ad2 u.1.1) :: rest))) : W p l e R s m args below meth c H locs ce sl Q (F0 m pc ls (.int j :: rest)) := by
  obtain ⟨hx, hb, hr, hml, ht, hown, hK, hA, hlocks, hA0, hO, hbs⟩ := C0
  obtain ⟨⟨hw, hj, hz⟩, rfl⟩ := nwC_some hn
  obtain ⟨b1, b2, b3⟩ := hB
  have hg1 : u.1.1 + 1 ≤ xc := hg.1
  have hg2 : u.1.2 + j.toNatClampNeg ≤ xs := hg.2
  have hby : j.toNatClampNeg * componentBytes .boolean ≤ 536870912 := by
    show j.toNatClampNeg * 1 ≤ 536870912
    omega
  refine x_naZ hx hb ht hK hP hD hS hA hw hj hby (by omega) (by omega) hdg (fun q H1 hP1 hD1 hS1 => ?_)
  exact kk _ H1 _ _ up_ag ⟨(by show uN + (ce + 1) = u.1.1 + 1; omega), (by show uS + (sl + j.toNatClampNeg) = u.1.2 + j.toNatClampNeg; omega), fun i h => (up_ag i (by omega)).trans (b3 i h)⟩ hP1 hD1 hS1
theorem y_naJ (C0 : XCx p s s0 b0 m args meth c own cc nL ret D cB cI cJ cZ cS cP A) (hP : va_P D cls (wC cB cI cJ cZ cS cP ad u) H) (hD : va_D A (wC cB cI cJ cZ cS cP ad u)) (hS : va_S A s.heap H locs) {j : Int32} (hn : nwJ u j = some u2) (hB : AB uN uS ad0 u ad ce sl) (hX : uN + R.cells = xc ∧ uS + R.slots = xs) (hg : u2.1.1 ≤ xc ∧ u2.1.2 ≤ xs) (hdg : decode cc pc = .ok (.newarray .long, 2))
    (kk : ∀ (ad2 : Nat → Nat) (H1 : Heap) (ce2 sl2 : Nat), (∀ i, i < u.1.1 → ad2 i = ad i) → AB uN uS ad0 u2 ad2 ce2 sl2 → va_P D cls (wC cB cI cJ cZ cS cP ad2 u2) H1 → va_D A (wC cB cI cJ cZ cS cP ad2 u2) → va_S A s.heap H1 locs → W p l e R s m args below meth c H1 locs ce2 sl2 Q (F0 m (pc + 2) ls (.ref (ad2 u.1.1) :: rest))) : W p l e R s m args below meth c H locs ce sl Q (F0 m pc ls (.int j :: rest)) := by
  obtain ⟨hx, hb, hr, hml, ht, hown, hK, hA, hlocks, hA0, hO, hbs⟩ := C0
  obtain ⟨⟨hw, hj, hz⟩, rfl⟩ := nwC_some hn
  obtain ⟨b1, b2, b3⟩ := hB
  have hg1 : u.1.1 + 1 ≤ xc := hg.1
  have hg2 : u.1.2 + j.toNatClampNeg ≤ xs := hg.2
  have hby : j.toNatClampNeg * componentBytes .long ≤ 536870912 := by
    show j.toNatClampNeg * 8 ≤ 536870912
    omega
  refine x_naJ hx hb ht hK hP hD hS hA hw hj hby (by omega) (by omega) hdg (fun q H1 hP1 hD1 hS1 => ?_)
  exact kk _ H1 _ _ up_ag ⟨(by show uN + (ce + 1) = u.1.1 + 1; omega), (by show uS + (sl + j.toNatClampNeg) = u.1.2 + j.toNatClampNeg; omega), fun i h => (up_ag i (by omega)).trans (b3 i h)⟩ hP1 hD1 hS1
theorem y_naP (C0 : XCx p s s0 b0 m args meth c own cc nL ret D cB cI cJ cZ cS cP A) (hP : va_P D cls (wC cB cI cJ cZ cS cP ad u) H) (hD : va_D A (wC cB cI cJ cZ cS cP ad u)) (hS : va_S A s.heap H locs) {j : Int32} (hcl : Cond.classLink own index "MailHouse$Process" ∈ wd_tbl) (hover : va_AO "MailHouse$Process" s) (hn : nwP u j = some u2) (hB : AB uN uS ad0 u ad ce sl) (hX : uN + R.cells = xc ∧ uS + R.slots = xs) (hg : u2.1.1 ≤ xc ∧ u2.1.2 ≤ xs) (hdg : decode cc pc = .ok (.anewarray index, 3))
    (kk : ∀ (ad2 : Nat → Nat) (H1 : Heap) (ce2 sl2 : Nat), (∀ i, i < u.1.1 → ad2 i = ad i) → AB uN uS ad0 u2 ad2 ce2 sl2 → va_P D cls (wC cB cI cJ cZ cS cP ad2 u2) H1 → va_D A (wC cB cI cJ cZ cS cP ad2 u2) → va_S A s.heap H1 locs → W p l e R s m args below meth c H1 locs ce2 sl2 Q (F0 m (pc + 3) ls (.ref (ad2 u.1.1) :: rest))) : W p l e R s m args below meth c H locs ce sl Q (F0 m pc ls (.int j :: rest)) := by
  obtain ⟨hx, hb, hr, hml, ht, hown, hK, hA, hlocks, hA0, hO, hbs⟩ := C0
  obtain ⟨⟨hw, hj, hz⟩, rfl⟩ := nwC_some hn
  obtain ⟨b1, b2, b3⟩ := hB
  have hg1 : u.1.1 + 1 ≤ xc := hg.1
  have hg2 : u.1.2 + j.toNatClampNeg ≤ xs := hg.2
  refine va_newq hx hb hown (ht _ hcl) hover hK hP hD hS hA hj rfl (by omega) (by omega) (by omega) hdg (fun q cA H1 hK1 hP1 hD1 hS1 => ?_)
  have e1 : cP = cA := by
    obtain ⟨k1, c1, -, -, -, h4⟩ := (hK.2 5 _ rfl).2
    obtain ⟨k2, c2, -, -, -, h5⟩ := (hK1.2 6 (cA, .object "MailHouse$Process") rfl).2
    exact Option.some.inj (h4.symm.trans h5)
  subst e1
  have e8 := wC_new (cB := cB) (cI := cI) (cJ := cJ) (cZ := cZ) (cS := cS) (cP := cP) (ad := ad) (u := u) (q := q) (sl := j.toNatClampNeg) (c := .inr (.inr (.inr (j.toNatClampNeg, fun _ => none)))) hw
  have e9 : lcE cB cI cJ cZ cS cP (va_up ad u.1.1 q) (.inr (.inr (.inr (j.toNatClampNeg, fun _ => none)))) = .inl (cP, j.toNatClampNeg, .inr (.inr (.inr (.inr (fun _ => none))))) := by
    show Sum.inl (cP, j.toNatClampNeg, _) = Sum.inl (cP, j.toNatClampNeg, _)
    congr 7
    funext i
    by_cases hi : i < j.toNatClampNeg
    · rw [if_pos hi]; rfl
    · rw [if_neg hi]
  rw [e9] at e8
  have kk2 := kk (va_up ad u.1.1 q) H1 _ _ up_ag ⟨(by show uN + (ce + 1) = u.1.1 + 1; omega), (by show uS + (sl + j.toNatClampNeg) = u.1.2 + j.toNatClampNeg; omega), fun i h => (up_ag i (by omega)).trans (b3 i h)⟩ (by rw [e8]; exact hP1) (by rw [e8]; exact hD1) hS1
  rw [va_up_self] at kk2
  exact kk2
theorem yV (C0 : XCx p s s0 b0 m args meth c own cc nL ret D cB cI cJ cZ cS cP A) (hP : va_P D cls (wC cB cI cJ cZ cS cP ad u) H) (hD : va_D A (wC cB cI cJ cZ cS cP ad u)) (hS : va_S A s.heap H locs) (K : CKl cls ci C F nF ty) (hrc0 : isO u i ci = true) (hC : Met l y (wd_ws y b n rt) rm (xPc s0 b0 D cB cI cJ cZ cS cP ad u H.size (.ref (ad i) :: As)) (xQ D cB cI cJ cZ cS cP (xA cB cI cJ cZ cS cP ad u H.size) ad u.1.1 x v) mc ms (xA cB cI cJ cZ cS cP ad u H.size)) (hk : Cond.code y b n rt ∈ wd_tbl) (hl : Cond.methodLink own idx y ∈ wd_tbl) (hi : Cond.instanceMethod y ∈ wd_tbl) (hsel : Cond.selects C y y ∈ wd_tbl) (hini : Cond.initialized C ∈ wd_tbl) (hrc : rm.cells = mc) (hrs : rm.slots = ms) (hd : y.cls = C ∧ y.cls ≠ "java/lang/invoke/MethodHandle" ∧ y.cls ≠ "java/lang/invoke/VarHandle" ∧ (parseMethodDescriptor y.desc).map (fun d => d.parameters.length) = some nA) (hAs : As.length = nA) (hR : rm.frames + 1 ≤ R.frames ∧ 8 + (n + 11) + rm.locals ≤ R.locals) (hsz : ls.size = nL) (hr8 : (rest.map fun v => v.category).sum ≤ 8) (hdg : decode cc pc = .ok (.invokevirtual idx, 3)) (hst0 : st = As.reverse ++ .ref (ad i) :: rest) (hmc : u.1.1 + mc = x.1.1 ∧ u.1.2 + ms = x.1.2) (hB : AB uN uS ad0 u ad ce sl) (hX : uN + R.cells = xc ∧ uS + R.slots = xs) (hg : x.1.1 ≤ xc ∧ x.1.2 ≤ xs)
    (kk : ∀ (ad2 : Nat → Nat) (H1 : Heap) (locs1 : List Loc) (ce2 sl2 : Nat), (∀ j, j < u.1.1 → ad2 j = ad j) → AB uN uS ad0 x ad2 ce2 sl2 → va_P D cls (wC cB cI cJ cZ cS cP ad2 x) H1 → va_D A (wC cB cI cJ cZ cS cP ad2 x) → va_S A s.heap H1 locs1 → W p l e R s m args below meth c H1 locs1 ce2 sl2 Q (F0 m (pc + 3) ls ((v.map (lvV ad2)).toList ++ rest))) : W p l e R s m args below meth c H locs ce sl Q (F0 m pc ls st) := by
  obtain ⟨b1, b2, b3⟩ := hB
  refine xV C0 hP hD hS K hrc0 hC hk hl hi hsel hini hrc hrs hd hAs hR hsz hr8 hdg hst0 ⟨by omega, by omega⟩ (fun ad2 H1 locs1 hag hP1 hD1 hS1 => ?_)
  exact kk ad2 H1 locs1 _ _ hag ⟨by omega, by omega, fun i h => (hag i (by omega)).trans (b3 i h)⟩ hP1 hD1 hS1
theorem yS (C0 : XCx p s s0 b0 m args meth c own cc nL ret D cB cI cJ cZ cS cP A) (hP : va_P D cls (wC cB cI cJ cZ cS cP ad u) H) (hD : va_D A (wC cB cI cJ cZ cS cP ad u)) (hS : va_S A s.heap H locs) (hC : Met l y (wd_ws y b n rt) rm (xPc s0 b0 D cB cI cJ cZ cS cP ad u H.size As) (xQ D cB cI cJ cZ cS cP (xA cB cI cJ cZ cS cP ad u H.size) ad u.1.1 x v) mc ms (xA cB cI cJ cZ cS cP ad u H.size)) (hk : Cond.code y b n rt ∈ wd_tbl) (hl : Cond.methodLink own idx y ∈ wd_tbl) (hst : Cond.static y ∈ wd_tbl) (hini : Cond.initialized y.cls ∈ wd_tbl) (hrc : rm.cells = mc) (hrs : rm.slots = ms) (hd : y.cls = C ∧ y.cls ≠ "java/lang/invoke/MethodHandle" ∧ y.cls ≠ "java/lang/invoke/VarHandle" ∧ (parseMethodDescriptor y.desc).map (fun d => d.parameters.length) = some nA) (hAs : As.length = nA) (hR : rm.frames + 1 ≤ R.frames ∧ 8 + (n + 11) + rm.locals ≤ R.locals) (hsz : ls.size = nL) (hr8 : (rest.map fun v => v.category).sum ≤ 8) (hdg : decode cc pc = .ok (.invokestatic idx, 3)) (hst0 : st = As.reverse ++ rest) (hmc : u.1.1 + mc = x.1.1 ∧ u.1.2 + ms = x.1.2) (hB : AB uN uS ad0 u ad ce sl) (hX : uN + R.cells = xc ∧ uS + R.slots = xs) (hg : x.1.1 ≤ xc ∧ x.1.2 ≤ xs)
    (kk : ∀ (ad2 : Nat → Nat) (H1 : Heap) (locs1 : List Loc) (ce2 sl2 : Nat), (∀ j, j < u.1.1 → ad2 j = ad j) → AB uN uS ad0 x ad2 ce2 sl2 → va_P D cls (wC cB cI cJ cZ cS cP ad2 x) H1 → va_D A (wC cB cI cJ cZ cS cP ad2 x) → va_S A s.heap H1 locs1 → W p l e R s m args below meth c H1 locs1 ce2 sl2 Q (F0 m (pc + 3) ls ((v.map (lvV ad2)).toList ++ rest))) : W p l e R s m args below meth c H locs ce sl Q (F0 m pc ls st) := by
  obtain ⟨b1, b2, b3⟩ := hB
  refine xS C0 hP hD hS hC hk hl hst hini hrc hrs hd hAs hR hsz hr8 hdg hst0 ⟨by omega, by omega⟩ (fun ad2 H1 locs1 hag hP1 hD1 hS1 => ?_)
  exact kk ad2 H1 locs1 _ _ hag ⟨by omega, by omega, fun i h => (hag i (by omega)).trans (b3 i h)⟩ hP1 hD1 hS1
theorem yI (C0 : XCx p s s0 b0 m args meth c own cc nL ret D cB cI cJ cZ cS cP A) (hP : va_P D cls (wC cB cI cJ cZ cS cP ad u) H) (hD : va_D A (wC cB cI cJ cZ cS cP ad u)) (hS : va_S A s.heap H locs) (hC : Met l y (wd_ws y b n none) rm (xPc s0 b0 D cB cI cJ cZ cS cP ad u H.size (.ref (ad i) :: As)) (xQ D cB cI cJ cZ cS cP (xA cB cI cJ cZ cS cP ad u H.size) ad u.1.1 x v) mc ms (xA cB cI cJ cZ cS cP ad u H.size)) (hk : Cond.code y b n none ∈ wd_tbl) (hl : Cond.methodLink own idx y ∈ wd_tbl) (hi : Cond.instanceMethod y ∈ wd_tbl) (hini : Cond.initialized y.cls ∈ wd_tbl) (hnm : y.name = "<init>") (hrc : rm.cells = mc) (hrs : rm.slots = ms) (hd : y.cls ≠ "java/lang/invoke/MethodHandle" ∧ y.cls ≠ "java/lang/invoke/VarHandle" ∧ (parseMethodDescriptor y.desc).map (fun d => d.parameters.length) = some nA) (hAs : As.length = nA) (hR : rm.frames + 1 ≤ R.frames ∧ 8 + (n + 11) + rm.locals ≤ R.locals) (hsz : ls.size = nL) (hr8 : (rest.map fun v => v.category).sum ≤ 8) (hdg : decode cc pc = .ok (.invokespecial idx, 3)) (hst0 : st = As.reverse ++ .ref (ad i) :: rest) (hmc : u.1.1 + mc = x.1.1 ∧ u.1.2 + ms = x.1.2) (hB : AB uN uS ad0 u ad ce sl) (hX : uN + R.cells = xc ∧ uS + R.slots = xs) (hg : x.1.1 ≤ xc ∧ x.1.2 ≤ xs)
    (kk : ∀ (ad2 : Nat → Nat) (H1 : Heap) (locs1 : List Loc) (ce2 sl2 : Nat), (∀ j, j < u.1.1 → ad2 j = ad j) → AB uN uS ad0 x ad2 ce2 sl2 → va_P D cls (wC cB cI cJ cZ cS cP ad2 x) H1 → va_D A (wC cB cI cJ cZ cS cP ad2 x) → va_S A s.heap H1 locs1 → W p l e R s m args below meth c H1 locs1 ce2 sl2 Q (F0 m (pc + 3) ls ((v.map (lvV ad2)).toList ++ rest))) : W p l e R s m args below meth c H locs ce sl Q (F0 m pc ls st) := by
  obtain ⟨b1, b2, b3⟩ := hB
  refine xI C0 hP hD hS hC hk hl hi hini hnm hrc hrs hd hAs hR hsz hr8 hdg hst0 ⟨by omega, by omega⟩ (fun ad2 H1 locs1 hag hP1 hD1 hS1 => ?_)
  exact kk ad2 H1 locs1 _ _ hag ⟨by omega, by omega, fun i h => (hag i (by omega)).trans (b3 i h)⟩ hP1 hD1 hS1
theorem yr_i {v : Int32} {x : CS × Int32} (C0 : XCx p s s0 b0 m args meth c own cc nL (some .int) D cB cI cJ cZ cS cP A) (hP : va_P D cls (wC cB cI cJ cZ cS cP ad u) H) (hD : va_D A (wC cB cI cJ cZ cS cP ad u)) (hS : va_S A s.heap H locs) (hB : AB uN uS ad0 u ad ce sl) (hm : uN + mc = x.1.1.1 ∧ uS + ms = x.1.1.2) (hf : some (u, v) = some x) (hdg : decode cc pc = .ok (.ireturn, 1)) : W p l e R s m args below meth c H locs ce sl (MQ below (xQ D cB cI cJ cZ cS cP A ad0 uN x.1 (some (.inl x.2))) args s mc ms A) (F0 m pc ls [.int v]) := by
  have e1 : u = x.1 := by cases hf; rfl
  have h1 := hB.1
  have h2 := hB.2.1
  rw [e1] at h1 h2
  exact xr_i C0 hP hD hS hB.2.2 (by omega) (by omega) hf hdg
theorem yr_z {v : Int32} {x : CS × Int32} (C0 : XCx p s s0 b0 m args meth c own cc nL (some .boolean) D cB cI cJ cZ cS cP A) (hP : va_P D cls (wC cB cI cJ cZ cS cP ad u) H) (hD : va_D A (wC cB cI cJ cZ cS cP ad u)) (hS : va_S A s.heap H locs) (hB : AB uN uS ad0 u ad ce sl) (hm : uN + mc = x.1.1.1 ∧ uS + ms = x.1.1.2) (hz : isb v = true) (hf : some (u, v) = some x) (hdg : decode cc pc = .ok (.ireturn, 1)) : W p l e R s m args below meth c H locs ce sl (MQ below (xQ D cB cI cJ cZ cS cP A ad0 uN x.1 (some (.inl x.2))) args s mc ms A) (F0 m pc ls [.int v]) := by
  have e1 : u = x.1 := by cases hf; rfl
  have h1 := hB.1
  have h2 := hB.2.1
  rw [e1] at h1 h2
  exact xr_z C0 hP hD hS hB.2.2 (by omega) (by omega) hz hf hdg
theorem yr_l {v : Int64} {x : CS × Int64} (C0 : XCx p s s0 b0 m args meth c own cc nL (some .long) D cB cI cJ cZ cS cP A) (hP : va_P D cls (wC cB cI cJ cZ cS cP ad u) H) (hD : va_D A (wC cB cI cJ cZ cS cP ad u)) (hS : va_S A s.heap H locs) (hB : AB uN uS ad0 u ad ce sl) (hm : uN + mc = x.1.1.1 ∧ uS + ms = x.1.1.2) (hf : some (u, v) = some x) (hdg : decode cc pc = .ok (.lreturn, 1)) : W p l e R s m args below meth c H locs ce sl (MQ below (xQ D cB cI cJ cZ cS cP A ad0 uN x.1 (some (.inr (.inl x.2)))) args s mc ms A) (F0 m pc ls [.long v]) := by
  have e1 : u = x.1 := by cases hf; rfl
  have h1 := hB.1
  have h2 := hB.2.1
  rw [e1] at h1 h2
  exact xr_l C0 hP hD hS hB.2.2 (by omega) (by omega) hf hdg
theorem yr_v {x : CS × Unit} (C0 : XCx p s s0 b0 m args meth c own cc nL none D cB cI cJ cZ cS cP A) (hP : va_P D cls (wC cB cI cJ cZ cS cP ad u) H) (hD : va_D A (wC cB cI cJ cZ cS cP ad u)) (hS : va_S A s.heap H locs) (hB : AB uN uS ad0 u ad ce sl) (hm : uN + mc = x.1.1.1 ∧ uS + ms = x.1.1.2) (hf : some (u, ()) = some x) (hdg : decode cc pc = .ok (.return_, 1)) : W p l e R s m args below meth c H locs ce sl (MQ below (xQ D cB cI cJ cZ cS cP A ad0 uN x.1 none) args s mc ms A) (F0 m pc ls []) := by
  have e1 : u = x.1 := by cases hf; rfl
  have h1 := hB.1
  have h2 := hB.2.1
  rw [e1] at h1 h2
  exact xr_v C0 hP hD hS hB.2.2 (by omega) (by omega) hf hdg
theorem yr_r {v : Option Nat} {C : String} {x : CS × Option Nat} (C0 : XCx p s s0 b0 m args meth c own cc nL (some (.object C)) D cB cI cJ cZ cS cP A) (hP : va_P D cls (wC cB cI cJ cZ cS cP ad u) H) (hD : va_D A (wC cB cI cJ cZ cS cP ad u)) (hS : va_S A s.heap H locs) (hB : AB uN uS ad0 u ad ce sl) (hm : uN + mc = x.1.1.1 ∧ uS + ms = x.1.1.2) (hf : some (u, v) = some x) (hdg : decode cc pc = .ok (.areturn, 1)) : W p l e R s m args below meth c H locs ce sl (MQ below (xQ D cB cI cJ cZ cS cP A ad0 uN x.1 (some (.inr (.inr x.2)))) args s mc ms A) (F0 m pc ls [va_rf (v.map ad)]) := by
  have e1 : u = x.1 := by cases hf; rfl
  have h1 := hB.1
  have h2 := hB.2.1
  rw [e1] at h1 h2
  exact xr_r C0 hP hD hS hB.2.2 (by omega) (by omega) hf hdg
theorem yr_a {v : Option Nat} {t9 : FieldType} {x : CS × Option Nat} (C0 : XCx p s s0 b0 m args meth c own cc nL (some (.array t9)) D cB cI cJ cZ cS cP A) (hP : va_P D cls (wC cB cI cJ cZ cS cP ad u) H) (hD : va_D A (wC cB cI cJ cZ cS cP ad u)) (hS : va_S A s.heap H locs) (hB : AB uN uS ad0 u ad ce sl) (hm : uN + mc = x.1.1.1 ∧ uS + ms = x.1.1.2) (hf : some (u, v) = some x) (hdg : decode cc pc = .ok (.areturn, 1)) : W p l e R s m args below meth c H locs ce sl (MQ below (xQ D cB cI cJ cZ cS cP A ad0 uN x.1 (some (.inr (.inr x.2)))) args s mc ms A) (F0 m pc ls [va_rf (v.map ad)]) := by
  obtain ⟨hx, hb, hr, hml, ht, hown, hK, hA, hlocks, hA0, hO, hbs⟩ := C0
  have h1 := hB.1
  have h2 := hB.2.1
  cases hf
  have e1 : ce = mc := by have h3 : uN + mc = u.1.1 := hm.1; omega
  have e2 : sl = ms := by have h3 : uS + ms = u.1.2 := hm.2; omega
  subst e1
  subst e2
  exact W.aret hx hb hr (Or.inr ⟨t9, rfl⟩) (by cases v with | none => exact Or.inl rfl | some k => exact Or.inr ⟨ad k, rfl⟩) (fun t h hW => ⟨⟨ad, rfl, hB.2.2, by rw [h]; exact hP, va_K.moved hW.alike hK, hD⟩, hS.F h⟩) hS.2.2 hdg
theorem y_obj (C0 : XCx p s s0 b0 m args meth c own cc nL ret D cB cI cJ cZ cS cP A) {a : Nat} (hl : Cond.methodLink own idx Lib.objectInit ∈ wd_tbl) (hi : Cond.instanceMethod Lib.objectInit ∈ wd_tbl) (hk : Cond.code Lib.objectInit ⟨#[0xb1]⟩ 1 none ∈ wd_tbl) (hsz : ls.size = nL) (hfr : 1 ≤ R.frames) (hlo : (rest.map fun v => v.category).sum + 12 ≤ R.locals) (hdg : decode cc pc = .ok (.invokespecial idx, 3))
    (kk : W p l e R s m args below meth c H locs ce sl Q (F0 m (pc + 3) ls rest)) : W p l e R s m args below meth c H locs ce sl Q (F0 m pc ls (.ref a :: rest)) := by
  obtain ⟨hx, hb, hr, hml, ht, hown, hK, hA, hlocks, hA0, hO, hbs⟩ := C0
  exact W.objInit hx hb hown (ht _ hl) (ht _ hi) (ht _ hk) rfl (hsz.trans hml.symm) rfl hdg hfr (by show 2 * 0 + _ + 12 ≤ _; omega) kk
end YROW
