/-! names of FUNCTIONS and of what is PREDEFINED: what both find -/
set_option maxRecDepth 100000
/-- the first place, or -1 -/
def fixI (a b : Nat → Int32) (x y : Int32) : Nat → Nat → Int
  | 0, _ => -1
  | d + 1, j => if a j = x ∧ b j = y then ((j : Nat) : Int) else fixI a b x y d (j + 1)
/-- which PREDEFINED one, there -/
def id36 (o : Option Nat) (y : Int32) : Int := match o with
  | none => -1
  | some i => if i = 7 ∧ y = 2 then 29 else if takL.getD i 0 = y then ((i : Nat) : Int) else -1
/-- and here -/
def p36 (d : Int) : Int := if d ≤ 7 then d else if d = 29 then 8 else d + 1
def ixI (m : MS) (fa : Nat → Nat) (na : Nat) (x : Int32) : Option Nat := if 0 ≤ x.toInt ∧ x.toInt < ((na : Nat) : Int) then ix36 m fa x.toInt.toNat else none
def fofX (m : MS) (g : Nat) (α k : Int) : Int := fixI (m.2.2.1 24) (m.2.2.1 25) (I α) (I k) g 0
def idX (m : MS) (fa : Nat → Nat) (na : Nat) (α k : Int) : Int := id36 (ixI m fa na (I α)) (I k)
def cvX (m : MS) (fa : Nat → Nat) (na g : Nat) (α k : Int) : Int := if idX m fa na α k = -1 then fofX m g α k else 2000 + p36 (idX m fa na α k)
section
variable {m0 w0 m w v u m2 : MS} {K : Nat → Nat} {N T g n j k M na a : Nat} {x y r : Int32} {p q p' q' : Nat → Int32} {fa : Nat → Nat}
theorem fix_n : ∀ {d j : Nat}, (∀ i, j ≤ i → i < j + d → ¬ (p i = x ∧ q i = y)) → fixI p q x y d j = -1
  | 0, _, _ => rfl
  | d + 1, j, h => by
    show (if p j = x ∧ q j = y then ((j : Nat) : Int) else fixI p q x y d (j + 1)) = -1
    rw [if_neg (h j (Nat.le_refl _) (by omega))]
    exact fix_n (fun i h1 h2 => h i (by omega) (by omega))
theorem fix_s {i : Nat} : ∀ {d j : Nat}, j ≤ i → i < j + d → (p i = x ∧ q i = y) → (∀ k, j ≤ k → k < i → ¬ (p k = x ∧ q k = y)) → fixI p q x y d j = ((i : Nat) : Int)
  | 0, _, h1, h2, _, _ => by omega
  | d + 1, j, h1, h2, h3, h4 => by
    show (if p j = x ∧ q j = y then ((j : Nat) : Int) else fixI p q x y d (j + 1)) = _
    by_cases z : j = i
    · subst z; rw [if_pos h3]
    · rw [if_neg (h4 j (Nat.le_refl _) (by omega))]
      exact fix_s (by omega) (by omega) h3 (fun k h5 h6 => h4 k (by omega) h6)
theorem fix_r : ∀ {d j : Nat}, fixI p q x y d j = -1 ∨ ∃ i : Nat, fixI p q x y d j = ((i : Nat) : Int) ∧ j ≤ i ∧ i < j + d
  | 0, _ => Or.inl rfl
  | d + 1, j => by
    have e : fixI p q x y (d + 1) j = (if p j = x ∧ q j = y then ((j : Nat) : Int) else fixI p q x y d (j + 1)) := rfl
    rw [e]
    by_cases z : p j = x ∧ q j = y
    · rw [if_pos z]; exact Or.inr ⟨j, rfl, Nat.le_refl _, by omega⟩
    · rw [if_neg z]
      have hr : fixI p q x y d (j + 1) = -1 ∨ ∃ i : Nat, fixI p q x y d (j + 1) = ((i : Nat) : Int) ∧ j + 1 ≤ i ∧ i < j + 1 + d := fix_r
      rcases hr with h | ⟨i, h1, h2, h3⟩
      · exact Or.inl h
      · exact Or.inr ⟨i, h1, by omega, by omega⟩
theorem fix_cg : ∀ {d j : Nat}, (∀ i, j ≤ i → i < j + d → p i = p' i ∧ q i = q' i) → fixI p q x y d j = fixI p' q' x y d j
  | 0, _, _ => rfl
  | d + 1, j, h => by
    show (if p j = x ∧ q j = y then ((j : Nat) : Int) else fixI p q x y d (j + 1)) = (if p' j = x ∧ q' j = y then ((j : Nat) : Int) else fixI p' q' x y d (j + 1))
    have h0 := h j (Nat.le_refl _) (by omega)
    rw [h0.1, h0.2, fix_cg (fun i h1 h2 => h i (by omega) (by omega))]
/-- seek() -/
theorem fof_c (h : m.1 442 = I (g : Nat)) (hg : g ≤ 700) : PK (fun v r => v = m ∧ r = I (fixI (m.2.2.1 24) (m.2.2.1 25) x y g 0)) (hm_Co_seek N m x y) := by
  have hs : PK _ (hm_Co_seek N m x y) := seek_p (N := N) (x := x) (y := y) h hg N 0 (Nat.zero_le _) (fun i hi => absurd hi (by omega))
  refine pk_mo hs (fun v r hv => ⟨hv.1, ?_⟩)
  rcases hv.2 with ⟨r1, r2⟩ | ⟨i, i1, i2, i3, i4⟩
  · rw [r1, fix_n (fun i _ hi => r2 i (by omega))]; rfl
  · rw [i2, fix_s (Nat.zero_le _) (by omega) i3 (fun k _ hk => i4 k hk)]
/-- functionOf() -/
theorem fofx_lp (h : w.1 52 = I (g : Nat)) (hg : g ≤ 1000) : ∀ (M d j : Nat), j + d = g → PK (fun v r => v = w ∧ r = I (fixI (w.2.2.1 47) (w.2.2.1 48) x y d j)) (gg_M_functionOf N M w x y (I (j : Nat)))
  | 0, _, _, _ => pk_none
  | M + 1, d, j, hj => by
    show PK _ (fb_M_functionOf_2 N (gg_M_functionOf N M) w x y (I (j : Nat)))
    unfold fb_M_functionOf_2 fb_M_functionOf_32
    rw [h, decide_eq_decide.mpr (I_le (x := (g : Nat)) (y := (j : Nat)) (by omega) (by omega) (by omega) (by omega)), tnI (n := j) rfl (by omega), i_suc]
    cases d with
    | zero =>
      rw [decide_eq_true (by omega), br_t]
      exact pk_some ⟨rfl, rfl⟩
    | succ d =>
      rw [decide_eq_false (by omega), br_f]
      have e : fixI (w.2.2.1 47) (w.2.2.1 48) x y (d + 1) j = (if w.2.2.1 47 j = x ∧ w.2.2.1 48 j = y then ((j : Nat) : Int) else fixI (w.2.2.1 47) (w.2.2.1 48) x y d (j + 1)) := rfl
      have nx : ¬ (w.2.2.1 47 j = x ∧ w.2.2.1 48 j = y) → PK (fun v r => v = w ∧ r = I (fixI (w.2.2.1 47) (w.2.2.1 48) x y (d + 1) j)) (gg_M_functionOf N M w x y (I ((j + 1 : Nat) : Int))) := fun hz => by
        rw [e, if_neg hz]
        exact fofx_lp h hg M d (j + 1) (by omega)
      refine pk_ck (fun _ => pk_br (fun z1 => pk_ck (fun _ => pk_br (fun z2 => ?_) (fun z2 => nx (fun q => of_decide_eq_false z2 q.2)))) (fun z1 => nx (fun q => of_decide_eq_false z1 q.1)))
      rw [e, if_pos ⟨of_decide_eq_true z1, of_decide_eq_true z2⟩]
      exact pk_some ⟨rfl, rfl⟩
theorem fofx_p (h : w.1 52 = I (g : Nat)) (hg : g ≤ 1000) : PK (fun v r => v = w ∧ r = I (fixI (w.2.2.1 47) (w.2.2.1 48) x y g 0)) (fm_M_functionOf N w x y) := fofx_lp h hg N g 0 (by omega)
theorem ix_lt {i : Nat} (h : ix36 m fa a = some i) : i < 29 ∧ MC36 m fa a i := ⟨List.mem_range.mp (List.mem_of_find?_eq_some h), mc36_e.mp (List.find?_some h)⟩
theorem ixI_lt {i : Nat} (h : ixI m fa na x = some i) : i < 29 := by
  unfold ixI at h
  split at h
  · exact (ix_lt h).1
  · cases h
theorem id36_r {o : Option Nat} (ho : ∀ i, o = some i → i < 29) : id36 o y = -1 ∨ (0 ≤ id36 o y ∧ id36 o y < 30) := by
  cases o with
  | none => exact Or.inl rfl
  | some i =>
    have := ho i rfl
    show (if i = 7 ∧ y = 2 then (29 : Int) else if takL.getD i 0 = y then ((i : Nat) : Int) else -1) = -1 ∨ (0 ≤ (if i = 7 ∧ y = 2 then (29 : Int) else if takL.getD i 0 = y then ((i : Nat) : Int) else -1) ∧ (if i = 7 ∧ y = 2 then (29 : Int) else if takL.getD i 0 = y then ((i : Nat) : Int) else -1) < 30)
    split
    · exact Or.inr ⟨by decide, by decide⟩
    · split
      · exact Or.inr ⟨by omega, by omega⟩
      · exact Or.inl rfl
theorem p36_r {d : Int} (h : 0 ≤ d ∧ d < 30) : 0 ≤ p36 d ∧ p36 d < 30 ∧ d = (if p36 d ≤ 7 then p36 d else if p36 d = 8 then 29 else p36 d - 1) := by
  unfold p36
  by_cases z : d ≤ 7
  · rw [if_pos z, if_pos z]; exact ⟨by omega, by omega, rfl⟩
  · rw [if_neg z]
    by_cases z2 : d = 29
    · rw [if_pos z2, if_neg (by omega), if_pos rfl]; exact ⟨by omega, by omega, z2⟩
    · rw [if_neg z2, if_neg (by omega), if_neg (by omega)]; exact ⟨by omega, by omega, by omega⟩
/-- predefinedOf(), there -/
theorem pre_x (c : CW36 m) (h : ATf m w fa na) : PK (fun v r => v = m ∧ r = I (id36 (ixI m fa na x) y)) (hm_Cm_predefinedOf N m x y) := by
  have na5 := h.1.2.2.2.2
  have sk : PK (fun v r => v = m ∧ ((r = -1 ∧ ixI m fa na x = none) ∨ ∃ k : Nat, k < 29 ∧ r = I (k : Nat) ∧ ixI m fa na x = some k)) (hm_Wo_seekIn N m 1 36 x) := by
    by_cases z : 0 ≤ x.toInt ∧ x.toInt < ((na : Nat) : Int)
    · have ex : x = I ((x.toInt.toNat : Nat) : Int) := by rw [Int.toNat_of_nonneg z.1]; exact I_of x
      have e : ixI m fa na x = ix36 m fa x.toInt.toNat := if_pos z
      rw [e]
      have := skin_p (N := N) (a := x.toInt.toNat) c h (by omega)
      rw [← ex] at this
      exact this
    · have e : ixI m fa na x = none := if_neg z
      show PK _ (hb_Wo_seekIn_0 N () m 1 36 x)
      unfold hb_Wo_seekIn_0 hb_Wo_seekIn_12 hb_Wo_seekIn_45
      refine pk_br (fun _ => pk_some ⟨rfl, Or.inl ⟨rfl, e⟩⟩) (fun z1 => pk_br (fun z2 => absurd ?_ z) (fun _ => pk_some ⟨rfl, Or.inl ⟨rfl, e⟩⟩))
      have z1 := of_decide_eq_false z1
      have z2 := of_decide_eq_true z2
      rw [show m.1 (20 * 1 + 2) = I (na : Nat) from h.1.1, Int32.lt_iff_toInt_lt, I_ti (by omega) (by omega)] at z2
      rw [Int32.lt_iff_toInt_lt, show (0 : Int32).toInt = 0 from rfl] at z1
      exact ⟨by omega, z2⟩
  unfold hm_Cm_predefinedOf hb_Cm_predefinedOf_0
  refine pk_bnd (pk_mo sk (fun v r hv => ?_))
  obtain ⟨rfl, hv⟩ := hv
  have e27 : PK (fun v2 r2 => v2 = v ∧ ((r = -1 → r2 = -1) ∧ ∀ k : Nat, k < 29 → r = I (k : Nat) → r2 = if takL.getD k 0 = y then I (k : Nat) else -1)) (hb_Cm_predefinedOf_27 N () v y r) := by
    unfold hb_Cm_predefinedOf_27 hb_Cm_predefinedOf_53 hb_Cm_predefinedOf_54
    have ne : ∀ k : Nat, k < 29 → I (k : Nat) ≠ (-1 : Int32) := fun k hk z => absurd ((I_eq (x := (k : Nat)) (y := (-1 : Int)) (by omega) (by omega) (by omega) (by omega)).mp (z.trans (show (-1 : Int32) = I (-1) from rfl))) (by omega)
    refine pk_br (fun z => pk_some ⟨rfl, fun _ => rfl, fun k hk e => absurd (e.symm.trans (of_decide_eq_true z)) (ne k hk)⟩) (fun z => pk_br (fun z2 => pk_some ⟨rfl, fun _ => rfl, fun k hk e => ?_⟩) (fun z2 => pk_ck (fun _ => pk_br (fun z3 => pk_some ⟨rfl, fun e => absurd e (of_decide_eq_false z), fun k hk e => ?_⟩) (fun z3 => pk_some ⟨rfl, fun _ => rfl, fun k hk e => ?_⟩))))
    · exfalso
      have z2 := of_decide_eq_true z2
      rw [e] at z2
      have := (I_le (x := (29 : Int)) (y := (k : Nat)) (by omega) (by omega) (by omega) (by omega)).mp z2
      omega
    · have z3 := of_decide_eq_true z3
      rw [e, tnI (n := k) rfl (by omega)] at z3
      rw [if_pos z3]; exact e
    · have z3 := of_decide_eq_false z3
      rw [e, tnI (n := k) rfl (by omega)] at z3
      rw [if_neg z3]
  have d7 : ∀ k : Nat, k < 29 → (I (k : Nat) = (7 : Int32) ↔ k = 7) := fun k hk => (I_eq (x := (k : Nat)) (y := (7 : Int)) (by omega) (by omega) (by omega) (by omega)).trans (by omega)
  rcases hv with ⟨r1, r2⟩ | ⟨k, k1, k2, k3⟩
  · have e1 : id36 (ixI v fa na x) y = -1 := by rw [r2]; rfl
    rw [e1]
    refine pk_br (fun z => absurd ((r1.symm.trans (of_decide_eq_true z))) (by decide)) (fun _ => pk_mo e27 (fun v2 r2 hv => ⟨hv.1, hv.2.1 r1⟩))
  · have e1 : id36 (ixI v fa na x) y = if k = 7 ∧ y = 2 then 29 else if takL.getD k 0 = y then ((k : Nat) : Int) else -1 := by rw [k3]; rfl
    rw [e1]
    have go : ¬ (k = 7 ∧ y = 2) → PK (fun v2 r2 => v2 = v ∧ r2 = I (if k = 7 ∧ y = 2 then 29 else if takL.getD k 0 = y then ((k : Nat) : Int) else -1)) (hb_Cm_predefinedOf_27 N () v y r) := fun hn => pk_mo e27 (fun v2 r2 hv => ⟨hv.1, by
      rw [hv.2.2 k k1 k2, if_neg hn]
      split <;> rfl⟩)
    refine pk_br (fun z => pk_br (fun z2 => pk_some ⟨rfl, ?_⟩) (fun z2 => go (fun q => of_decide_eq_false z2 q.2))) (fun z => go (fun q => of_decide_eq_false z (k2.trans ((d7 k k1).mpr q.1))))
    rw [if_pos ⟨(d7 k k1).mp (k2.symm.trans (of_decide_eq_true z)), of_decide_eq_true z2⟩]; rfl
theorem ixI_cg (h2 : m.2.2.1 2 = m0.2.2.1 2) : ixI m fa na x = ixI m0 fa na x := by
  unfold ixI ix36 mc36
  rw [h2]
/-- what the compiler finds -/
theorem CVX_mk (h442 : m0.1 442 = I (g : Nat)) (hg : g ≤ 666) (c : CW36 m0) (h : ATf m0 w fa na) : CVX N m0 w0 K T (idX m0 fa na) (fofX m0 g) (cvX m0 fa na g) := by
  refine ⟨fun m α k fr => ?_, fun m α k fr => ?_, fun α k _ => ?_⟩
  · have c' : CW36 m := CW36_k c (fr.1 722 (by omega)) (fr.2 37 (by omega)) (fr.2 38 (by omega))
    have h' : ATf m w fa na := ATf_k h (fr.1 22 (by omega)) (fr.2 2 (by omega)) (fr.2 3 (by omega)) rfl rfl rfl
    have := pre_x (N := N) (x := I α) (y := I k) c' h'
    rw [ixI_cg (fr.2 2 (by omega))] at this
    exact this
  · have := fof_c (N := N) (m := m) (g := g) (x := I α) (y := I k) (by rw [fr.1 442 (by omega)]; exact h442) (by omega)
    rw [fr.2 24 (by omega), fr.2 25 (by omega)] at this
    exact this
  · have f1 := fix_r (p := m0.2.2.1 24) (q := m0.2.2.1 25) (x := I α) (y := I k) (d := g) (j := 0)
    have i1 := id36_r (y := I k) (o := ixI m0 fa na (I α)) (fun i e => ixI_lt e)
    refine ⟨?_, fun _ _ => ⟨i1, fun ne => ?_, fun e _ => if_pos e⟩⟩
    · show -1 ≤ fixI (m0.2.2.1 24) (m0.2.2.1 25) (I α) (I k) g 0 ∧ fixI (m0.2.2.1 24) (m0.2.2.1 25) (I α) (I k) g 0 < 2000
      rcases f1 with e | ⟨i, e, _, hi⟩
      · rw [e]; omega
      · rw [e]; omega
    · have e : cvX m0 fa na g α k = 2000 + p36 (idX m0 fa na α k) := if_neg ne
      have i2 : 0 ≤ idX m0 fa na α k ∧ idX m0 fa na α k < 30 := by
        rcases i1 with i1 | i1
        · exact absurd i1 ne
        · exact i1
      obtain ⟨q1, q2, q3⟩ := p36_r i2
      rw [e]
      refine ⟨by omega, ?_⟩
      unfold PDs
      rw [show 2000 + p36 (idX m0 fa na α k) - 2000 = p36 (idX m0 fa na α k) by omega]
      exact ⟨⟨q1, q2⟩, q3, rfl⟩
end
