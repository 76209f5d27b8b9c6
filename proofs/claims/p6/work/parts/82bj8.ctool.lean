set_option maxRecDepth 100000
def BADc (N : Nat) (m : MS) (x : Int32 × Int32 × Int32) : Prop := if x.2.2 = 2 then hm_Co_seek N m x.1 x.2.1 = some (m, -1) else (hm_Cm_predefinedOf N m x.1 x.2.1 = some (m, -1) ∧ hm_Co_seek N m x.1 x.2.1 = some (m, -1)) ∨ (x.2.2 = 1 ∧ ∃ id, hm_Cm_predefinedOf N m x.1 x.2.1 = some (m, id) ∧ (id < 17 ∨ ¬ id ≤ 28))
def BCo (N : Nat) (CL : Int32 × Int32 × Int32 → Prop) (m : MS) : Prop := ∃ x, CL x ∧ BADc N m x
def STB (B : MS → Prop) : Prop := ∀ m v, FRC m v → (B v ↔ B m)
section
variable {m v u m1 m2 m3 : MS} {K nm W : Nat → Nat} {sc sc1 sc2 t : SCT} {s x y N i f tok cm cm2 p p2 q q2 n1 n2 ν μ lo X X1 X2 : Nat} {gd Zf Rf R1 R2 Z1 Z2 : Bool} {g : Nat → Int32} {B1 B2 BC : MS → Prop} {a b : Int32}
theorem FRC_sy (h : FRC m v) : FRC v m := ⟨fun k hk => (h.1 k hk).symm, fun k hk => (h.2 k hk).symm⟩
theorem seek_c (f : FRC m v) : PK (fun u r => u = v ∧ hm_Co_seek N m a b = some (m, r)) (hm_Co_seek N v a b) := by
  have lp : ∀ (M : Nat) (k : Int32), PK (fun u r => u = v ∧ hg_Co_seek N M m a b k = some (m, r)) (hg_Co_seek N M v a b k) := by
    intro M
    induction M with
    | zero => intro k; exact pk_none
    | succ M ih =>
      intro k
      show PK (fun u r => u = v ∧ hb_Co_seek_2 N (hg_Co_seek N M) m a b k = some (m, r)) (hb_Co_seek_2 N (hg_Co_seek N M) v a b k)
      unfold hb_Co_seek_2 hb_Co_seek_32
      rw [f.1 442 (by omega), f.2 24 (by omega), f.2 25 (by omega)]
      generalize decide (m.1 442 ≤ k) = c1
      generalize inb k 666 = c2
      generalize decide (m.2.2.1 24 k.toNatClampNeg = a) = c3
      generalize decide (m.2.2.1 25 k.toNatClampNeg = b) = c4
      cases c1 <;> cases c2 <;> cases c3 <;> cases c4 <;> first | exact pk_none | exact pk_some ⟨rfl, rfl⟩ | exact ih (k + 1)
  exact lp N 0
theorem same_c (f : FRC m v) : PK (fun u r => u = v ∧ hm_Wo_isSame N m 36 a 2 b = some (m, r)) (hm_Wo_isSame N v 36 a 2 b) := by
  have lp : ∀ (M : Nat) (j k : Int32), PK (fun u r => u = v ∧ hg_Wo_isSame N M m 36 a 2 b j k = some (m, r)) (hg_Wo_isSame N M v 36 a 2 b j k) := by
    intro M
    induction M with
    | zero => intro j k; exact pk_none
    | succ M ih =>
      intro j k
      show PK (fun u r => u = v ∧ hb_Wo_isSame_12 N (hg_Wo_isSame N M) m 36 a 2 b j k = some (m, r)) (hb_Wo_isSame_12 N (hg_Wo_isSame N M) v 36 a 2 b j k)
      unfold hb_Wo_isSame_12
      rw [f.2 (36 + 2) (by omega), f.2 (36 + 1) (by omega), f.2 2 (by omega)]
      generalize inb (a + 1) (il (36 + 2)) = c1
      generalize decide (m.2.2.1 (36 + 2) (a + 1).toNatClampNeg ≤ k) = c2
      generalize inb k (bl (36 + 1)) = c3
      generalize inb (b + k - j) (bl 2) = c4
      generalize decide (m.2.2.1 (36 + 1) k.toNatClampNeg = m.2.2.1 2 (b + k - j).toNatClampNeg) = c5
      cases c1 <;> cases c2 <;> cases c3 <;> cases c4 <;> cases c5 <;> first | exact pk_none | exact pk_some ⟨rfl, rfl⟩ | exact ih j (k + 1)
  unfold hm_Wo_isSame hb_Wo_isSame_0
  rw [f.2 (36 + 2) (by omega)]
  generalize inb a (il (36 + 2)) = c1
  cases c1
  · exact pk_none
  · exact lp N _ _
theorem wsk_c (f : FRC m v) : PK (fun u r => u = v ∧ hm_Wo_seek N m 36 2 a b = some (m, r)) (hm_Wo_seek N v 36 2 a b) := by
  have lp : ∀ (M : Nat) (k : Int32), PK (fun u r => u = v ∧ hg_Wo_seek N M m 36 2 a b k = some (m, r)) (hg_Wo_seek N M v 36 2 a b k) := by
    intro M
    induction M with
    | zero => intro k; exact pk_none
    | succ M ih =>
      intro k
      show PK (fun u r => u = v ∧ hb_Wo_seek_3 N (hg_Wo_seek N M) m 36 2 a b k = some (m, r)) (hb_Wo_seek_3 N (hg_Wo_seek N M) v 36 2 a b k)
      unfold hb_Wo_seek_3 hb_Wo_seek_47
      rw [f.1 (20 * 36 + 2) (by omega), f.2 (36 + 2) (by omega)]
      generalize decide (m.1 (20 * 36 + 2) ≤ k) = c1
      generalize inb (k + 1) (il (36 + 2)) = c2
      generalize inb k (il (36 + 2)) = c3
      generalize decide (m.2.2.1 (36 + 2) (k + 1).toNatClampNeg - m.2.2.1 (36 + 2) k.toNatClampNeg = b) = c4
      cases c1
      · cases c2
        · exact pk_none
        · cases c3
          · exact pk_none
          · cases c4
            · exact ih (k + 1)
            · show PK (fun u r => u = v ∧ bnd (hm_Wo_isSame N m 36 k 2 a) (fun u8 r8 => br (decide (r8 = 0)) (hg_Wo_seek N M u8 36 2 a b (k + 1)) (some (u8, k))) = some (m, r)) (bnd (hm_Wo_isSame N v 36 k 2 a) (fun u8 r8 => br (decide (r8 = 0)) (hg_Wo_seek N M u8 36 2 a b (k + 1)) (some (u8, k))))
              refine pk_bnd (pk_mo (same_c (N := N) f) (fun u8 r8 h8 => ?_))
              rw [h8.1, h8.2, bnd_s]
              generalize decide (r8 = 0) = c5
              cases c5
              · exact pk_some ⟨rfl, rfl⟩
              · exact ih (k + 1)
      · exact pk_some ⟨rfl, rfl⟩
  exact lp N 0
theorem pre_c (f : FRC m v) : PK (fun u r => u = v ∧ hm_Cm_predefinedOf N m a b = some (m, r)) (hm_Cm_predefinedOf N v a b) := by
  have sk : PK (fun u r => u = v ∧ hm_Wo_seekIn N m 1 36 a = some (m, r)) (hm_Wo_seekIn N v 1 36 a) := by
    unfold hm_Wo_seekIn hb_Wo_seekIn_0 hb_Wo_seekIn_12 hb_Wo_seekIn_45
    rw [f.1 (20 * 1 + 2) (by omega), f.2 (1 + 2) (by omega)]
    generalize decide (a < 0) = c1
    generalize decide (a < m.1 (20 * 1 + 2)) = c2
    generalize inb a (il (1 + 2)) = c3
    generalize inb (a + 1) (il (1 + 2)) = c4
    generalize m.2.2.1 (1 + 2) (a + 1).toNatClampNeg - m.2.2.1 (1 + 2) a.toNatClampNeg = B
    generalize m.2.2.1 (1 + 2) a.toNatClampNeg = A
    cases c1 <;> cases c2 <;> cases c3 <;> cases c4 <;> first | exact pk_none | exact pk_some ⟨rfl, rfl⟩ | skip
    show PK (fun u r => u = v ∧ bnd (hm_Wo_seek N m 36 2 A B) (fun u12 r12 => some (u12, r12)) = some (m, r)) (bnd (hm_Wo_seek N v 36 2 A B) (fun u12 r12 => some (u12, r12)))
    refine pk_bnd (pk_mo (wsk_c (N := N) f) (fun u8 r8 h8 => ?_))
    rw [h8.2]
    exact pk_some ⟨h8.1, rfl⟩
  have r27 : ∀ (c : Int32), PK (fun u r => u = v ∧ hb_Cm_predefinedOf_27 N () m b c = some (m, r)) (hb_Cm_predefinedOf_27 N () v b c) := fun c => by
    unfold hb_Cm_predefinedOf_27 hb_Cm_predefinedOf_53 hb_Cm_predefinedOf_54
    generalize decide (c = -1) = c1
    generalize decide (29 ≤ c) = c2
    generalize inb c 29 = c3
    generalize decide (takL.getD c.toNatClampNeg 0 = b) = c4
    cases c1 <;> cases c2 <;> cases c3 <;> cases c4 <;> first | exact pk_none | exact pk_some ⟨rfl, rfl⟩
  unfold hm_Cm_predefinedOf hb_Cm_predefinedOf_0
  refine pk_bnd (pk_mo sk (fun u8 r8 h8 => ?_))
  rw [h8.1, h8.2]
  show PK (fun u r => u = v ∧ br (decide (r8 = 7)) (br (decide (b = 2)) (some (m, 29)) (hb_Cm_predefinedOf_27 N () m b r8)) (hb_Cm_predefinedOf_27 N () m b r8) = some (m, r)) _
  generalize decide (r8 = 7) = c1
  generalize decide (b = 2) = c2
  cases c1
  · exact r27 r8
  · cases c2
    · exact r27 r8
    · exact pk_some ⟨rfl, rfl⟩
theorem seek_f (f : FRC m v) {r : Int32} : hm_Co_seek N v a b = some (v, r) ↔ hm_Co_seek N m a b = some (m, r) := ⟨fun h => (seek_c f v r h).2, fun h => (seek_c (FRC_sy f) m r h).2⟩
theorem pre_f (f : FRC m v) {r : Int32} : hm_Cm_predefinedOf N v a b = some (v, r) ↔ hm_Cm_predefinedOf N m a b = some (m, r) := ⟨fun h => (pre_c f v r h).2, fun h => (pre_c (FRC_sy f) m r h).2⟩
theorem BCo_st {CL : Int32 × Int32 × Int32 → Prop} : STB (BCo N CL) := fun m v f => by
  unfold BCo BADc
  have e : ∀ x : Int32 × Int32 × Int32, ((∃ id, hm_Cm_predefinedOf N v x.1 x.2.1 = some (v, id) ∧ (id < 17 ∨ ¬ id ≤ 28)) ↔ ∃ id, hm_Cm_predefinedOf N m x.1 x.2.1 = some (m, id) ∧ (id < 17 ∨ ¬ id ≤ 28)) := fun x => ⟨fun ⟨id, h1, h2⟩ => ⟨id, (pre_f f).mp h1, h2⟩, fun ⟨id, h1, h2⟩ => ⟨id, (pre_f f).mpr h1, h2⟩⟩
  constructor
  · rintro ⟨x, h1, h2⟩
    refine ⟨x, h1, ?_⟩
    rw [← seek_f f, ← pre_f f, ← e x]
    exact h2
  · rintro ⟨x, h1, h2⟩
    refine ⟨x, h1, ?_⟩
    rw [seek_f f, pre_f f, e x]
    exact h2
theorem BCo_or {CL CM : Int32 × Int32 × Int32 → Prop} : BCo N (fun x => CL x ∨ CM x) m ↔ BCo N CL m ∨ BCo N CM m := by
  unfold BCo
  constructor
  · rintro ⟨x, h | h, k⟩
    · exact Or.inl ⟨x, h, k⟩
    · exact Or.inr ⟨x, h, k⟩
  · rintro (⟨x, h, k⟩ | ⟨x, h, k⟩)
    · exact ⟨x, Or.inl h, k⟩
    · exact ⟨x, Or.inr h, k⟩
theorem BCo_no : ¬ BCo N (fun _ => False) m := fun ⟨_, h, _⟩ => h
theorem BCo_e {CL CM : Int32 × Int32 × Int32 → Prop} (h : ∀ x, CL x ↔ CM x) : BCo N CL = BCo N CM := by
  rw [show CL = CM from funext (fun x => propext (h x))]
theorem CPO_u (h : CPO K nm p p2 sc sc2 X W Rf Zf BC cm m v) (k : Kuc v u) : CPO K nm p p2 sc sc2 X W Rf Zf BC cm m u := by
  rcases h with ⟨h1, h2, h3⟩ | ⟨h1, h2⟩
  · exact Or.inl ⟨h1, Ku_s h2 k, FRC_tr h3 (FRC_u k)⟩
  · exact Or.inr ⟨h1, NPE_u h2 k⟩
theorem CPR_u (c : CPR nm gd p p2 sc cm m) (k : Kuc m v) : CPR nm gd p p2 sc cm v := by
  have := NPE_u (CPR_0 c) k
  exact ⟨by rw [k.1 _ (by decide)]; exact c.1, this.1, this.2.1, c.2.2.2.1, by rw [k.1 _ (by decide)]; exact c.2.2.2.2.1, by rw [k.1 _ (by decide)]; exact c.2.2.2.2.2.1, c.2.2.2.2.2.2⟩
theorem CPR_in (c : CPR nm gd p p2 sc cm m) (h : q2 - q ≤ p2 - p) : CPR nm gd q q2 sc cm m := ⟨c.1, c.2.1, c.2.2.1, c.2.2.2.1, c.2.2.2.2.1, c.2.2.2.2.2.1, by have := c.2.2.2.2.2.2; omega⟩
theorem CPO_v (k : Kuc m v) (hb : STB BC) (h : CPO K nm p p2 sc sc2 X W Rf Zf BC cm v u) : CPO K nm p p2 sc sc2 X W Rf Zf BC cm m u := by
  have e := hb m v (FRC_u k)
  rcases h with ⟨h1, h2, h3⟩ | ⟨h1, h2⟩
  · exact Or.inl ⟨h1.elim Or.inl (fun z => Or.inr (e.mp z)), h2, FRC_tr (FRC_u k) h3⟩
  · obtain ⟨a1, a2, a3, a4, a5, a6, a7, a8, a9⟩ := h2
    exact Or.inr ⟨⟨h1.1, fun z => h1.2 (e.mpr z)⟩, a1, a2, fun j hj => by rw [a3 j hj, k.2.1 41 (by decide)], by rw [a4, k.2.1 42 (by decide)], C11_b a5 k.2.2 (k.1 711 (by decide)), by rw [a6, k.1 714 (by decide)], by rw [a7, k.1 712 (by decide)], by rw [a8, k.1 713 (by decide)], FRC_tr (FRC_u k) a9⟩
theorem wup_ext {g : Nat → Int32} (hq : p ≤ q ∧ q ≤ q2 ∧ q2 ≤ p2) (g1 : ∀ j, p ≤ j → j < q → K j ≠ 3) (g2 : ∀ j, q2 ≤ j → j < p2 → K j ≠ 3) : wup g K W p p2 = wup g K W q q2 := by
  rw [← wup_tr (q := q) hq.1 (by omega), wup_0 (p := p) (p2 := q) g1, ← wup_tr (p := q) (q := q2) hq.2.1 hq.2.2, wup_0 (p := q2) (p2 := p2) g2]
theorem CPO_ext (hq : p ≤ q ∧ q ≤ q2 ∧ q2 ≤ p2) (g1 : ∀ j, p ≤ j → j < q → K j ≠ 3) (g2 : ∀ j, q2 ≤ j → j < p2 → K j ≠ 3) (h : CPO K nm q q2 sc sc2 X W Rf Zf BC cm m v) : CPO K nm p p2 sc sc2 X W Rf Zf BC cm m v := by
  unfold CPO at h ⊢
  rw [wup_ext hq g1 g2]
  exact h
theorem CPO_bc {B2 : MS → Prop} (hb : B2 m ↔ BC m) (h : CPO K nm p p2 sc sc2 X W Rf Zf BC cm m v) : CPO K nm p p2 sc sc2 X W Rf Zf B2 cm m v := by
  unfold CPO at h ⊢
  rw [hb]
  exact h
theorem CPO_z (h : (Rf = true ∨ BC m) ∧ v.1 714 < 1000000000 ∧ FRC m v) (k : Kzc v u) : CPO K nm p p2 sc sc2 X W Rf Zf BC cm m u := Or.inl ⟨h.1, k.1, FRC_tr h.2.2 k.2⟩
theorem cpo_bnd {α β : Type} {o : Option (MS × α)} {f : MS → α → Option (MS × β)} (h1 : PK (fun v _ => CPO K nm p q sc sc1 X1 W R1 Z1 B1 cm m v) o) (hpq : p ≤ q ∧ q ≤ p2) (s2 : STB B2) (hl : sc1.length = sc.length) (hz : ∀ v r, Kzc v v → KzE v (f v r)) (h2 : ∀ v r, o = some (v, r) → NPE nm (sc.length - 1) sc1 (max cm X1) (wup (m.2.2.1 42) K W p q) Z1 m v → PK (fun u _ => CPO K nm q p2 sc1 sc2 X2 W R2 Z2 B2 (max cm X1) v u) (f v r)) : PK (fun u _ => CPO K nm p p2 sc sc2 (max X1 X2) W (R1 || R2) (Z1 || Z2) (fun m => B1 m ∨ B2 m) cm m u) (bnd o f) := by
  refine pk_bnd (fun v r e => ?_)
  rcases h1 v r e with ⟨hf, hs, hr⟩ | ⟨⟨hf, hb⟩, hn⟩
  · refine pk_mo (fun u r2 e2 => hz v r ⟨hs, FRC_rf⟩ u r2 e2) (fun u _ z => ?_)
    refine CPO_z (v := v) ⟨?_, hs, hr⟩ z
    rcases hf with hf | hf
    · exact Or.inl (by rw [hf]; rfl)
    · exact Or.inr (Or.inl hf)
  · have fr := hn.2.2.2.2.2.2.2.2
    refine pk_mo (h2 v r e hn) (fun u _ qu => ?_)
    rcases qu with ⟨qf2, qs2, qr2⟩ | ⟨⟨qf2, qb2⟩, qn2⟩
    · refine Or.inl ⟨?_, qs2, FRC_tr fr qr2⟩
      rcases qf2 with z | z
      · exact Or.inl (by rw [z]; simp)
      · exact Or.inr (Or.inr ((s2 m v fr).mp z))
    · refine CPO_ok ⟨by rw [hf, qf2]; rfl, fun z => ?_⟩ ?_
      · rcases z with z | z
        · exact hb z
        · exact qb2 ((s2 m v fr).mpr z)
      · rw [hl, hn.2.2.2.1, wup_tr hpq.1 hpq.2] at qn2
        rw [show max cm (max X1 X2) = max (max cm X1) X2 by omega]
        exact NPE_tr hn qn2
theorem chi_k (h1 : KPO n1 m1 m2) (hk : Kcc m1 m2) (hn1 : n1 < ν) (hν : ν ≤ n2) (kx : KPX lo n2 ν m2 m3) : (∀ j, lo < j → j ≤ n1 → nod m3 j = nod m1 j ∧ m3.2.2.1 21 j = m1.2.2.1 21 j) ∧ Kcc m1 m3 := by
  refine ⟨fun j h0 hj => ?_, Kc_tr hk kx.2⟩
  have a := h1 j hj
  have b := kx.1 j h0 (by omega)
  exact ⟨b.1.trans a.1, (b.2 (by omega)).trans a.2⟩
end
