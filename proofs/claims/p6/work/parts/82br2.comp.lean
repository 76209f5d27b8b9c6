set_option maxRecDepth 100000
def C1P (P : Prop) (m v : MS) : Prop := m.1 441 ≤ v.1 441 ∧ (v.1 441 < 24000 → (v.1 711 = 0 ↔ P ∧ m.1 711 = 0)) ∧ (P → m.1 711 = 0 → v.1 711 = 0)
def ONQ (B P : Prop) (m v : MS) : Prop := (B ∧ v.1 714 < 1000000000 ∧ FRC m v) ∨ (¬ B ∧ v.1 714 = 1000000000 ∧ (v.1 712 = m.1 712 ∧ v.1 713 = m.1 713) ∧ FRC m v ∧ C1P P m v)
section
variable {α : Type} {m0 w0 m w v u m2 m3 mF : MS} {K nm Nk W : Nat → Nat} {T p n N g n2 f k M lo hi cm p0 ar tok : Nat} {P P1 P2 B : Prop} {x y r : Int32} {a a' : CLT} {L : List CLT} {pd : Int32 → Int32 → Nat}
theorem C1P_tr (h : C1P P1 m v) (k : C1P P2 v u) : C1P (P1 ∧ P2) m u := by
  obtain ⟨a1, a2, a3⟩ := h
  obtain ⟨b1, b2, b3⟩ := k
  refine ⟨Int32.le_trans a1 b1, fun z => ?_, fun z z0 => b3 z.2 (a3 z.1 z0)⟩
  have z1 : v.1 441 < 24000 := Int32.lt_of_le_of_lt b1 z
  rw [b2 z, a2 z1]
  exact ⟨fun y => ⟨⟨y.2.1, y.1⟩, y.2.2⟩, fun y => ⟨y.1.2, y.1.1, y.2⟩⟩
theorem C1P_q (h : C1P P1 m v) (k : P1 ↔ P2) : C1P P2 m v := ⟨h.1, fun z => (h.2.1 z).trans ⟨fun y => ⟨k.mp y.1, y.2⟩, fun y => ⟨k.mpr y.1, y.2⟩⟩, fun z => h.2.2 (k.mpr z)⟩
theorem C1P_l (h : C1P P m v) (e1 : m.1 441 = u.1 441) (e2 : m.1 711 = u.1 711) : C1P P u v := by
  unfold C1P at h ⊢
  rw [← e1, ← e2]
  exact h
theorem seek_p (h : m.1 442 = I (g : Nat)) (hg : g ≤ 700) : ∀ (M j : Nat), j ≤ g → (∀ i, i < j → ¬ (m.2.2.1 24 i = x ∧ m.2.2.1 25 i = y)) → PK (fun v r => v = m ∧ ((r = -1 ∧ ∀ i, i < g → ¬ (m.2.2.1 24 i = x ∧ m.2.2.1 25 i = y)) ∨ ∃ i : Nat, i < g ∧ r = I (i : Nat) ∧ (m.2.2.1 24 i = x ∧ m.2.2.1 25 i = y) ∧ ∀ k, k < i → ¬ (m.2.2.1 24 k = x ∧ m.2.2.1 25 k = y))) (hg_Co_seek N M m x y (I (j : Nat)))
  | 0, _, _, _ => pk_none
  | M + 1, j, hj, hn => by
    show PK _ (hb_Co_seek_2 N (hg_Co_seek N M) m x y (I (j : Nat)))
    unfold hb_Co_seek_2 hb_Co_seek_32
    rw [h, decide_eq_decide.mpr (I_le (x := (g : Nat)) (y := (j : Nat)) (by omega) (by omega) (by omega) (by omega)), tnI (n := j) rfl (by omega), i_suc]
    by_cases z : g ≤ j
    · rw [decide_eq_true (by omega), br_tq]
      exact pk_some ⟨rfl, Or.inl ⟨rfl, fun i hi => hn i (by omega)⟩⟩
    · rw [decide_eq_false (by omega), br_fq]
      have nx : ¬ (m.2.2.1 24 j = x ∧ m.2.2.1 25 j = y) → PK (fun v r => v = m ∧ ((r = -1 ∧ ∀ i, i < g → ¬ (m.2.2.1 24 i = x ∧ m.2.2.1 25 i = y)) ∨ ∃ i : Nat, i < g ∧ r = I (i : Nat) ∧ (m.2.2.1 24 i = x ∧ m.2.2.1 25 i = y) ∧ ∀ k, k < i → ¬ (m.2.2.1 24 k = x ∧ m.2.2.1 25 k = y))) (hg_Co_seek N M m x y (I ((j + 1 : Nat) : Int))) := fun hz => seek_p h hg M (j + 1) (by omega) (fun i hi => by
        by_cases e : i = j
        · rw [e]; exact hz
        · exact hn i (by omega))
      refine pk_ck (fun _ => pk_br (fun z1 => pk_ck (fun _ => pk_br (fun z2 => ?_) (fun z2 => nx (fun q => of_decide_eq_false z2 q.2)))) (fun z1 => nx (fun q => of_decide_eq_false z1 q.1)))
      exact pk_some ⟨rfl, Or.inr ⟨j, by omega, rfl, ⟨of_decide_eq_true z1, of_decide_eq_true z2⟩, hn⟩⟩
theorem flt_4 (ht : tok ≤ 4000) (h : FRC u m) : KzE u (hm_Cm_fault N m (I (tok : Nat)) 4) := fun v r e => ⟨fault_s (u0 := m) (by
    rw [show (16 : Int32) = I 16 from rfl, I_mul, show (4 : Int32) = I 4 from rfl, I_add, show (1000000000 : Int32) = I 1000000000 from rfl]
    exact (I_lt (by omega) (by omega) (by omega) (by omega)).mpr (by omega)) v r e, yq_hm_Cm_fault (u0 := u) h v r e⟩
def CBD (N : Nat) (m0 : MS) (p0 ar : Nat) (m : MS) (b : CLT) : Prop := b.2.2.2.2.1 = true ∨ BCo N b.2.2.2.2.2.2 m ∨ ¬ NMt m0 p0 ar b
theorem CBD_st {b : CLT} (f : FRC m v) : CBD N m0 p0 ar v b ↔ CBD N m0 p0 ar m b := by
  unfold CBD
  rw [BCo_st m v f]
theorem CLOb_c {line : Int32} {d : Nat} (h : CLOb N K nm mF lo hi a) (hk : ∀ j, lo < j → j ≤ hi → nod m3 j = nod mF j ∧ m3.2.2.1 21 j = mF.2.2.1 21 j) (kc : Kcc mF m3) (cp : CPR nm false 0 4000 [([], [], 0)] cm m3) : PK (fun u (_ : Unit) => ((a.2.2.2.2.1 = true ∨ BCo N a.2.2.2.2.2.2 m3) ∧ u.1 714 < 1000000000 ∧ FRC m3 u) ∨ ((a.2.2.2.2.1 = false ∧ ¬ BCo N a.2.2.2.2.2.2 m3) ∧ CPR nm false 0 4000 [([], [], 0)] (max cm a.2.2.2.1) u ∧ (u.1 712 = m3.1 712 ∧ u.1 713 = m3.1 713) ∧ FRC m3 u ∧ C1P (a.2.2.2.2.2.1 = false) m3 u)) ((hrc_Cm_fun N d).2.2.2.2.2.2.2.2.2.2.2.2 m3 (I (a.1 : Nat)) (I (a.2.2.1 : Nat)) line) := by
  obtain ⟨mi, li, ni, q0, q1, q4, sc1, e5, X1, X2, W, R1, R2, Z1, Z2, C1, C2, lp, a1, a2, a3, a4, a5, a6, a7, a8, a9, a10⟩ := h
  obtain ⟨c1, c2, c3, c4, c5, c6, c7⟩ := cp
  have kx : KPX li ni a.1 mi m3 := ⟨fun j j1 j2 => by
    obtain ⟨g1, g2⟩ := a2.1 j j1 j2
    obtain ⟨g3, g4⟩ := hk j (by omega) (by omega)
    exact ⟨g3.trans g1, fun z => g4.trans (g2 z)⟩, Kc_tr a2.2 kc⟩
  have cn : decide (I (a.2.2.1 : Nat) < (0 : Int32)) = false := decide_eq_false (fun z => absurd ((I_lt (x := (a.2.2.1 : Nat)) (y := (0 : Int)) (by omega) (by omega) (by omega) (by omega)).mp z) (by omega))
  refine pk_mo (cla_p (b := 0) a4 a5 ⟨a3.1, a3.2.1⟩ (by omega) kx cn ⟨by show tot sc1 ≤ 0 + (q1 - q0); omega, a6.2.1, a6.2.2.1⟩ BCo_st ⟨Nat.zero_le _, rfl⟩ ⟨c1, c2, c3, c4, c5, c6, by show 0 + (q4 - q0) ≤ 4000; omega⟩) (fun u _ q => ?_)
  have bc : BCo N a.2.2.2.2.2.2 m3 ↔ BCo N C1 m3 ∨ BCo N C2 m3 := by
    rw [← BCo_or]
    unfold BCo
    exact ⟨fun ⟨x, h1, h2⟩ => ⟨x, (a10 x).mp h1, h2⟩, fun ⟨x, h1, h2⟩ => ⟨x, (a10 x).mpr h1, h2⟩⟩
  rw [a9.1, a9.2.1, a9.2.2, bc]
  rcases q with ⟨q1, q2, q3⟩ | ⟨⟨q1, q2⟩, q3⟩
  · exact Or.inl ⟨q1, q2, q3⟩
  · obtain ⟨n1, n2, n3, n4, n5, n6, n7, n8, n9⟩ := q3
    refine Or.inr ⟨⟨q1, q2⟩, ⟨n6.trans c1, CNs_nm (sc := cutS 0 [e5]) ?_ n1, n2, by omega, n8.trans c5, by rw [n7]; exact c6, by decide⟩, ⟨n7, n8⟩, n9, n5⟩
    show [e5.1.take 0] = [[]]
    rw [List.take_zero]
theorem cf_lp (hf : f ≤ 665) (h24 : mF.2.2.1 24 f = m0.2.2.1 7 p0) (h25 : mF.2.2.1 25 f = I (ar : Nat)) (har : ar ≤ 6) (k7 : mF.2.2.1 7 = m0.2.2.1 7) : ∀ (L : List CLT) (M : Nat) (m3 : MS) (cm : Nat), (∀ b, b ∈ L → CLOb N K nm mF lo hi b) → NXT mF (L.map (fun b => b.1)) → (∀ k, k < 22 → m3.2.2.1 k = mF.2.2.1 k) → (∀ k, k < 440 → m3.1 k = mF.1 k) → m3.2.2.1 24 = mF.2.2.1 24 → m3.2.2.1 25 = mF.2.2.1 25 → CPR nm false 0 4000 [([], [], 0)] cm m3 → PK (fun m4 (_ : Unit) => ONQ (∃ b, b ∈ L ∧ CBD N m0 p0 ar m3 b) (cm ≤ 40 ∧ ∀ b, b ∈ L → b.2.2.2.1 ≤ 40 ∧ b.2.2.2.2.2.1 = false) m3 m4) (hg_Cm_oneFunction N M m3 (I (f : Nat)) (I (((L.map (fun b => b.1)).headD 0 : Nat) : Int)))
  | _, 0, _, _, _, _, _, _, _, _, _ => pk_none
  | [], M + 1, m3, cm, _, _, k1, k2, e24, e25, cp => by
    show PK _ (hb_Cm_oneFunction_129 N (hg_Cm_oneFunction N M) m3 (I (f : Nat)) (I ((0 : Nat) : Int)))
    unfold hb_Cm_oneFunction_129
    rw [show decide (I ((0 : Nat) : Int) = 0) = true from rfl, br_tq]
    obtain ⟨c1, c2, c3, c4, c5, c6, c7⟩ := cp
    refine pk_bnd (pk_mo (yu_hm_Co_put (u0 := m3) (N := N) Ku_rf) (fun u15 _ hu => ?_))
    obtain ⟨u1, u2, u3⟩ := hu
    have fr : FRC m3 u15 := ⟨fun k hk => u1 k (by omega), fun k hk => u2 k (by omega)⟩
    have u41 : u15.2.2.1 41 (0 : Int32).toNatClampNeg = I (cm : Nat) := by rw [u2 41 (by decide)]; exact c3
    have st : ∀ t : Int32, (t = 0 ∨ t = 1) → (t = 0 ↔ cm ≤ 40 ∧ m3.1 711 = 0) → PK (fun m4 (_ : Unit) => ONQ (∃ b, b ∈ ([] : List CLT) ∧ CBD N m0 p0 ar m3 b) (cm ≤ 40 ∧ ∀ b, b ∈ ([] : List CLT) → b.2.2.2.1 ≤ 40 ∧ b.2.2.2.2.2.1 = false) m3 m4) (hb_Cm_oneFunction_268 N (hg_Cm_oneFunction N M) u15 t) := fun t _ ht => by
      unfold hb_Cm_oneFunction_268
      refine pk_ck (fun _ => pk_lt (pk_some (Or.inr ⟨fun ⟨b, hb, _⟩ => (by cases hb), ?_, ⟨?_, ?_⟩, FRC_tr fr (upI_FRC (by decide)), ?_, ?_, ?_⟩)))
      · rw [upI_ne (by decide), u1 714 (by decide)]; exact c1
      · rw [upI_ne (by decide)]; exact u1 712 (by decide)
      · rw [upI_ne (by decide)]; exact u1 713 (by decide)
      · rw [upI_ne (by decide)]; exact u3
      · rw [upI_at, ht]
        exact fun _ => ⟨fun z => ⟨⟨z.1, fun b hb => by cases hb⟩, z.2⟩, fun z => ⟨z.1.1, z.2⟩⟩
      · rw [upI_at]
        exact fun z z0 => ht.mpr ⟨z.1, z0⟩
    have u711 : u15.1 711 = m3.1 711 := u1 711 (by decide)
    unfold hb_Cm_oneFunction_263
    rw [u41, show (40 : Int32) = I ((40 : Nat) : Int) from rfl, decide_eq_decide.mpr (I_le (x := (cm : Nat)) (y := ((40 : Nat) : Int)) (by omega) (by omega) (by omega) (by omega))]
    refine pk_br (fun z => pk_ck (fun _ => pk_br (fun z2 => ?_) (fun z2 => ?_))) (fun z => ?_)
    · exact st 0 (Or.inl rfl) ⟨fun _ => ⟨by have := of_decide_eq_true z2; omega, u711 ▸ of_decide_eq_true z⟩, fun _ => rfl⟩
    · exact st 1 (Or.inr rfl) ⟨fun y => absurd y (by decide), fun y => absurd y.1 (by have := of_decide_eq_false z2; omega)⟩
    · exact st 1 (Or.inr rfl) ⟨fun y => absurd y (by decide), fun y => absurd (u711.trans y.2) (of_decide_eq_false z)⟩
  | a :: L, M + 1, m3, cm, hL, hx, k1, k2, e24, e25, cp => by
    have ha := hL a List.mem_cons_self
    have ba := CLOb_b ha
    have nk : ∀ j, nod m3 j = nod mF j ∧ m3.2.2.1 21 j = mF.2.2.1 21 j := fun j => by
      unfold nod
      rw [k1 16 (by decide), k1 17 (by decide), k1 18 (by decide), k1 19 (by decide), k1 20 (by decide), k1 21 (by decide)]
      exact ⟨rfl, rfl⟩
    have kc : Kcc mF m3 := ⟨fun k hk => k2 k (by omega), fun k hk => k1 k (by omega)⟩
    have ha3 : CLOb N K nm m3 lo hi a := CLOb_k ha (fun j _ _ => ⟨(nk j).1, fun _ => (nk j).2⟩) kc (Nat.le_refl _) (Nat.le_refl _)
    have t17 : m3.2.2.1 17 a.1 = I (a.2.1 : Nat) ∧ a.2.1 ≤ 4000 ∧ a.2.2.1 ≤ 6 := by
      obtain ⟨mi, li, ni, q0, q1, q4, sc1, e5, X1, X2, W, R1, R2, Z1, Z2, C1, C2, lp, a1, a2, a3, a4, a5, a6, a7, a8, a9⟩ := ha3
      exact ⟨a8.1, a8.2, a7.2.2.2.2⟩
    show PK _ (hb_Cm_oneFunction_129 N (hg_Cm_oneFunction N M) m3 (I (f : Nat)) (I (a.1 : Nat)))
    unfold hb_Cm_oneFunction_129
    rw [show decide (I (a.1 : Nat) = (0 : Int32)) = false from decide_eq_false (fun z => absurd ((I_eq (x := (a.1 : Nat)) (y := (0 : Int)) (by omega) (by omega) (by omega) (by omega)).mp z) (by omega)), br_fq, tnI (n := a.1) rfl (by omega), t17.1]
    refine pk_ck (fun _ => pk_ck (fun _ => pk_bnd (pk_mo (CLOb_len ha3) (fun v r hv => ?_))))
    rw [hv.1, hv.2]
    clear hv
    rw [tnI (n := a.2.1) rfl (by omega), tnI (n := f) rfl (by omega), e24, e25, h24, h25, k1 7 (by decide), k7]
    have zf : ∀ {u : MS}, Kzc m3 u → (∃ b, b ∈ a :: L ∧ CBD N m0 p0 ar m3 b) → ∀ x, PK (fun m4 (_ : Unit) => ONQ (∃ b, b ∈ a :: L ∧ CBD N m0 p0 ar m3 b) (cm ≤ 40 ∧ ∀ b, b ∈ a :: L → b.2.2.2.1 ≤ 40 ∧ b.2.2.2.2.2.1 = false) m3 m4) (hg_Cm_oneFunction N M u (I (f : Nat)) x) := fun {u} hz hb x v r e => Or.inl ⟨hb, yz_hg_Cm_oneFunction (u0 := m3) (N := N) M u _ x hz v r e⟩
    have n205 : NMt m0 p0 ar a → PK (fun m4 (_ : Unit) => ONQ (∃ b, b ∈ a :: L ∧ CBD N m0 p0 ar m3 b) (cm ≤ 40 ∧ ∀ b, b ∈ a :: L → b.2.2.2.1 ≤ 40 ∧ b.2.2.2.2.2.1 = false) m3 m4) (hb_Cm_oneFunction_205 N (hg_Cm_oneFunction N M) m3 (I (f : Nat)) (I (a.1 : Nat)) (I (a.2.1 : Nat)) (I (a.2.2.1 : Nat))) := fun hnm => by
      unfold hb_Cm_oneFunction_205
      refine pk_ck (fun _ => pk_bnd (pk_mo (CLOb_c (d := 300) ha (fun j _ _ => nk j) kc cp) (fun u _ hu => pk_ck (fun _ => ?_))))
      rw [tnI (n := a.1) rfl (by omega)]
      rcases hu with ⟨h1, h2, h3⟩ | ⟨⟨h1, h2⟩, h3, h4, h5, h6⟩
      · exact zf ⟨h2, h3⟩ ⟨a, List.mem_cons_self, h1.elim Or.inl (fun z => Or.inr (Or.inl z))⟩ _
      · have e21 : u.2.2.1 21 a.1 = I (((L.map (fun b => b.1)).headD 0 : Nat) : Int) := by
          rw [h5.2 21 (by omega), (nk a.1).2]
          exact hx.1
        rw [e21]
        refine pk_mo (cf_lp hf h24 h25 har k7 L M u (max cm a.2.2.2.1) (fun b hb => hL b (List.mem_cons_of_mem _ hb)) hx.2.2 (fun k hk => (h5.2 k (by omega)).trans (k1 k hk)) (fun k hk => (h5.1 k (by omega)).trans (k2 k hk)) ((h5.2 24 (by omega)).trans e24) ((h5.2 25 (by omega)).trans e25) h3) (fun m4 _ q => ?_)
        have be : (∃ b, b ∈ a :: L ∧ CBD N m0 p0 ar m3 b) ↔ ∃ b, b ∈ L ∧ CBD N m0 p0 ar u b := by
          constructor
          · rintro ⟨b, hb, hc⟩
            rcases List.mem_cons.mp hb with rfl | hb
            · exfalso
              rcases hc with hc | hc | hc
              · rw [h1] at hc; exact absurd hc (by decide)
              · exact h2 hc
              · exact hc hnm
            · exact ⟨b, hb, (CBD_st h5).mpr hc⟩
          · rintro ⟨b, hb, hc⟩
            exact ⟨b, List.mem_cons_of_mem _ hb, (CBD_st h5).mp hc⟩
        unfold ONQ
        rw [be]
        rcases q with ⟨g1, g2, g3⟩ | ⟨g1, g2, g3, g4, g5⟩
        · exact Or.inl ⟨g1, g2, FRC_tr h5 g3⟩
        · refine Or.inr ⟨g1, g2, ⟨g3.1.trans h4.1, g3.2.trans h4.2⟩, FRC_tr h5 g4, C1P_q (C1P_tr h6 g5) ?_⟩
          constructor
          · rintro ⟨z1, z2, z3⟩
            refine ⟨by omega, fun b hb => ?_⟩
            rcases List.mem_cons.mp hb with rfl | hb
            · exact ⟨by omega, z1⟩
            · exact z3 b hb
          · rintro ⟨z1, z2⟩
            have := z2 a List.mem_cons_self
            exact ⟨this.2, by omega, fun b hb => z2 b (List.mem_cons_of_mem _ hb)⟩
    have n198 : ¬ NMt m0 p0 ar a → PK (fun m4 (_ : Unit) => ONQ (∃ b, b ∈ a :: L ∧ CBD N m0 p0 ar m3 b) (cm ≤ 40 ∧ ∀ b, b ∈ a :: L → b.2.2.2.1 ≤ 40 ∧ b.2.2.2.2.2.1 = false) m3 m4) (hb_Cm_oneFunction_198 N (hg_Cm_oneFunction N M) m3 (I (f : Nat)) (I (a.1 : Nat)) (I (a.2.1 : Nat)) (I (a.2.2.1 : Nat))) := fun hnm => by
      unfold hb_Cm_oneFunction_198
      intro v r e
      refine Or.inl ⟨⟨a, List.mem_cons_self, Or.inr (Or.inr hnm)⟩, ?_⟩
      exact Kz_bnd (flt_4 t17.2.1 FRC_rf) (fun w r hw => yz_hb_Cm_oneFunction_205 hw (yz_hg_Cm_oneFunction (u0 := m3) (N := N) M)) v r e
    have nme : NMt m0 p0 ar a ↔ m0.2.2.1 7 a.2.1 = m0.2.2.1 7 p0 ∧ I (a.2.2.1 : Nat) = I (ar : Nat) := by
      unfold NMt
      rw [I_eq (by omega) (by omega) (by omega) (by omega)]
      exact ⟨fun z => ⟨z.1, by rw [z.2]⟩, fun z => ⟨z.1, by have := z.2; omega⟩⟩
    refine pk_ck (fun _ => pk_ck (fun _ => pk_br (fun z1 => pk_ck (fun _ => pk_br (fun z2 => ?_) (fun z2 => ?_))) (fun z1 => ?_)))
    · exact n205 (nme.mpr ⟨of_decide_eq_true z1, of_decide_eq_true z2⟩)
    · exact n198 (fun z => of_decide_eq_false z2 (nme.mp z).2)
    · exact n198 (fun z => of_decide_eq_false z1 (nme.mp z).1)
end
