set_option maxRecDepth 100000
def PRW (N : Nat) (K nm : Nat → Nat) (m2 : MS) (lo n2 : Nat) (own : Bool) (W : Nat → Nat) : List Nat → Nat → Nat → SCT → SCT → Nat → Prop
  | [], p, p2, sc, sc2, X => p = p2 ∧ sc2 = sc ∧ X = 0
  | ν :: l, p, p2, sc, sc2, X => ∃ q q2 sc1 X1 X2, (p ≤ q ∧ q ≤ q2 ∧ q2 ≤ p2) ∧ (∀ j, p ≤ j → j < q → K j ≠ 3) ∧ (∃ mi li ni, PTN N K nm mi li ni ν own q q2 sc sc1 X1 W ∧ KPX li ni ν mi m2 ∧ (lo ≤ li ∧ ni ≤ n2) ∧ (li < ν ∧ ν ≤ ni) ∧ (l ≠ [] → ni < l.headD 0)) ∧ (1 ≤ ν ∧ ν ≤ n2) ∧ m2.2.2.1 21 ν = I ((l.headD 0 : Nat) : Int) ∧ (tot sc1 ≤ tot sc + (q2 - q) ∧ sc1.length = sc.length) ∧ PRW N K nm m2 lo n2 own W l q2 p2 sc1 sc2 X2 ∧ X = max X1 X2
section
variable {m v u m2 m3 : MS} {K nm W : Nat → Nat} {sc sc2 t : SCT} {e : List Nat × List Nat × Nat} {s x y N i f tok cm p p2 n2 ν μ X lo : Nat} {own : Bool}
theorem ptn_und {c g : Int32} (hn : nod m2 ν = (I ((3 : Nat) : Int), I (p : Nat), 0, c, g)) (hlo : lo < ν) (hν : ν ≤ n2) (hl : n2 ≤ 8015) (hp : p ≤ 4000) (hK : K p = 3) (hW : W p = 32) : PTN N K nm m2 lo n2 ν own p (p + 1) sc sc 0 W := by
  intro d m3 cm kx cn hm hc ho ht
  cases d with
  | zero => exact pk_none
  | succ d =>
    have e0 := KPX_nod kx hlo hν
    rw [hn] at e0
    have e1 : m3.2.2.1 16 ν = I ((3 : Nat) : Int) := (Prod.mk.inj e0).1
    have e2 : m3.2.2.1 17 ν = I (p : Nat) := (Prod.mk.inj (Prod.mk.inj e0).2).1
    have e3 : m3.2.2.1 18 ν = 0 := (Prod.mk.inj (Prod.mk.inj (Prod.mk.inj e0).2).2).1
    show PK _ (hm_Cm_pattern N (hrc_Cm_listPattern N d) m3 (I (ν : Nat)))
    unfold hm_Cm_pattern hb_Cm_pattern_0 hb_Cm_pattern_298
    rw [tnI (n := ν) rfl (by omega), e1, e2, e3, wup_1 hK, hW, Nat.max_eq_left (Nat.zero_le cm)]
    refine pk_ck (fun _ => ?_)
    rw [show decide (I ((3 : Nat) : Int) = 1) = false from rfl, br_fq, show decide (I ((3 : Nat) : Int) = 2) = false from rfl, br_fq, show decide (I ((3 : Nat) : Int) = 3) = true from rfl, br_tq]
    refine pk_ck (fun _ => pk_ck (fun _ => pk_bnd ?_))
    unfold hm_Cm_nameInPattern hb_Cm_nameInPattern_0 hb_Cm_nameInPattern_92
    refine pk_ck (fun _ => pk_lt ?_)
    rw [tnI (n := p) rfl (by omega), show decide ((0 : Int32) = 0) = true from rfl, br_tq]
    refine pk_bnd (fun w1 r1 e1 => pk_some (pk_some ?_))
    have q0 : NPQ nm (sc.length - 1) sc cm (upd (m3.2.2.1 42) p (I (32 : Nat))) m3 (upA m3 42 (upd (m3.2.2.1 42) p 32)) := ⟨CNs_42 cn, by rw [upA_no (by decide), upd_id hm], upA_at, ⟨fun _ _ _ => rfl, fun k _ _ _ h => upA_no h⟩⟩
    exact NPQ_kn q0 (yn_hm_Co_put Kn_rf w1 r1 e1)
theorem KPX_tr {n3 l3 : Nat} {m4 : MS} (h : KPX lo n2 ν m2 m3) (h2 : KPX l3 n3 ν m3 m4) (hn : n2 ≤ n3) (hl : l3 ≤ lo) : KPX lo n2 ν m2 m4 := by
  refine ⟨fun j h0 hj => ⟨(h2.1 j (by omega) (by omega)).1.trans (h.1 j h0 hj).1, fun z => ((h2.1 j (by omega) (by omega)).2 z).trans ((h.1 j h0 hj).2 z)⟩, ⟨fun k hk => (h2.2.1 k hk).trans (h.2.1 k hk), fun k hk => (h2.2.2 k hk).trans (h.2.2 k hk)⟩⟩
theorem PTN_up {n3 l3 : Nat} (h : KPX lo n2 ν m2 m3) (hn : n2 ≤ n3) (hl : l3 ≤ lo) (q : PTN N K nm m2 lo n2 ν own p p2 sc sc2 X W) : PTN N K nm m3 l3 n3 ν own p p2 sc sc2 X W := fun d m4 cm kx => q d m4 cm (KPX_tr h kx hn hl)
theorem KPX_o (h : KPO n2 m2 m3) (k : Kcc m2 m3) : KPX lo n2 ν m2 m3 := ⟨fun j _ hj => ⟨(h j hj).1, fun _ => (h j hj).2⟩, k⟩
theorem KPX_d {n3 l3 : Nat} {m4 : MS} (h : KPO n2 m2 m3) (kc : Kcc m2 m3) (h2 : KPX l3 n3 μ m3 m4) (hn : n2 ≤ n3) (hμ : n2 < μ) (hl : l3 ≤ lo) : KPX lo n2 ν m2 m4 := by
  refine ⟨fun j h0 hj => ⟨(h2.1 j (by omega) (by omega)).1.trans (h j hj).1, fun z => ((h2.1 j (by omega) (by omega)).2 (by omega)).trans (h j hj).2⟩, ⟨fun k hk => (h2.2.1 k hk).trans (kc.1 k hk), fun k hk => (h2.2.2 k hk).trans (kc.2 k hk)⟩⟩
theorem ptn_neg {a b c g : Int32} (hn : nod m2 ν = (I ((17 : Nat) : Int), a, b, c, g)) (hlo : lo < ν) (hν : ν ≤ n2) (hl : n2 ≤ 8015) (h3 : ∀ j, p ≤ j → j < p2 → K j ≠ 3) : PTN N K nm m2 lo n2 ν own p p2 sc sc 0 W := by
  intro d m3 cm kx cn hm hc ho ht
  cases d with
  | zero => exact pk_none
  | succ d =>
    have e0 := KPX_nod kx hlo hν
    rw [hn] at e0
    have e1 : m3.2.2.1 16 ν = I ((17 : Nat) : Int) := (Prod.mk.inj e0).1
    show PK _ (hm_Cm_pattern N (hrc_Cm_listPattern N d) m3 (I (ν : Nat)))
    unfold hm_Cm_pattern hb_Cm_pattern_0 hb_Cm_pattern_298
    rw [tnI (n := ν) rfl (by omega), e1, wup_0 h3, Nat.max_eq_left (Nat.zero_le cm)]
    refine pk_ck (fun _ => ?_)
    have q0 := NPQ_rf cn hm
    have dd : ∀ b : Nat, b < 100 → b ≠ 17 → ∀ s : Int32, s = I (b : Nat) → decide (I ((17 : Nat) : Int) = s) = false := fun b hb h17 s hs => by rw [I_dn (by decide) hb hs]; exact decide_eq_false (fun z => h17 z.symm)
    rw [dd 1 (by decide) (by decide) 1 rfl, br_fq, dd 2 (by decide) (by decide) 2 rfl, br_fq, dd 3 (by decide) (by decide) 3 rfl, br_fq, dd 4 (by decide) (by decide) 4 rfl, br_fq, dd 5 (by decide) (by decide) 5 rfl, br_fq, dd 6 (by decide) (by decide) 6 rfl, br_fq, dd 7 (by decide) (by decide) 7 rfl, br_fq, dd 8 (by decide) (by decide) 8 rfl, br_fq, dd 9 (by decide) (by decide) 9 rfl, br_fq, dd 10 (by decide) (by decide) 10 rfl, br_fq, dd 11 (by decide) (by decide) 11 rfl, br_fq, dd 12 (by decide) (by decide) 12 rfl, br_fq, dd 13 (by decide) (by decide) 13 rfl, br_fq, dd 14 (by decide) (by decide) 14 rfl, br_fq, dd 15 (by decide) (by decide) 15 rfl, br_fq, dd 16 (by decide) (by decide) 16 rfl, br_fq, show decide (I ((17 : Nat) : Int) = 17) = true from rfl, br_tq]
    refine pk_bnd (fun w1 r1 e1 => pk_ck (fun _ => pk_ck (fun _ => pk_bnd (fun w2 r2 e2 => pk_some ?_))))
    exact NPQ_kn (NPQ_kn q0 (yn_hm_Co_put (u0 := m3) Kn_rf w1 r1 e1)) (yn_hm_Cm_term (u0 := w1) Kn_rf w2 r2 e2)
theorem ptn_grp {q q2 : Nat} {a c g : Int32} (hn : nod m2 ν = (I ((5 : Nat) : Int), a, I (μ : Nat), c, g)) (hlo : lo < ν) (hν : ν ≤ n2) (hμ : μ < ν) (hl : n2 ≤ 8015) (hq : p ≤ q ∧ q ≤ q2 ∧ q2 ≤ p2) (g1 : ∀ j, p ≤ j → j < q → K j ≠ 3) (g2 : ∀ j, q2 ≤ j → j < p2 → K j ≠ 3) (h : ∀ {m3 : MS}, KPX lo n2 ν m2 m3 → ∀ d cm, CNs m3 nm sc → m3.2.2.1 41 (sc.length - 1) = I (cm : Nat) → cm ≤ 4000 → decide (m3.1 713 = 0) = !own → tot sc + (q2 - q) ≤ 4000 → PK (fun m4 _ => NPQ nm (sc.length - 1) sc2 (max cm X) (wup (m3.2.2.1 42) K W q q2) m3 m4) ((hrc_Cm_listPattern N d).2 m3 (I (μ : Nat)))) : PTN N K nm m2 lo n2 ν own p p2 sc sc2 X W := by
  intro d m3 cm kx cn hm hc ho ht
  cases d with
  | zero => exact pk_none
  | succ d =>
    have e0 := KPX_nod kx hlo hν
    rw [hn] at e0
    have e1 : m3.2.2.1 16 ν = I ((5 : Nat) : Int) := (Prod.mk.inj e0).1
    have e3 : m3.2.2.1 18 ν = I (μ : Nat) := (Prod.mk.inj (Prod.mk.inj (Prod.mk.inj e0).2).2).1
    show PK _ (hm_Cm_pattern N (hrc_Cm_listPattern N d) m3 (I (ν : Nat)))
    unfold hm_Cm_pattern hb_Cm_pattern_0 hb_Cm_pattern_298
    rw [tnI (n := ν) rfl (by omega), e1, e3]
    refine pk_ck (fun _ => ?_)
    have dd : ∀ b : Nat, b < 100 → b ≠ 5 → ∀ s : Int32, s = I (b : Nat) → decide (I ((5 : Nat) : Int) = s) = false := fun b hb h17 s hs => by rw [I_dn (by decide) hb hs]; exact decide_eq_false (fun z => h17 z.symm)
    rw [dd 1 (by decide) (by decide) 1 rfl, br_fq, dd 2 (by decide) (by decide) 2 rfl, br_fq, dd 3 (by decide) (by decide) 3 rfl, br_fq, dd 4 (by decide) (by decide) 4 rfl, br_fq, show decide (I ((5 : Nat) : Int) = 5) = true from rfl, br_tq]
    refine pk_ck (fun _ => pk_bnd (pk_mo (h kx d cm cn hm hc ho (by omega)) (fun v _ qv => pk_some ?_)))
    rw [← wup_tr (g := m3.2.2.1 42) (K := K) (W := W) (q := q) hq.1 (by omega), wup_0 (p := p) (p2 := q) g1, ← wup_tr (g := m3.2.2.1 42) (K := K) (W := W) (p := q) (q := q2) hq.2.1 hq.2.2, wup_0 (p := q2) (p2 := p2) g2]
    exact qv
theorem PRW_len : ∀ {l : List Nat} {p p2 : Nat} {sc sc2 : SCT} {X : Nat}, PRW N K nm m2 lo n2 own W l p p2 sc sc2 X → p ≤ p2 ∧ tot sc2 ≤ tot sc + (p2 - p) ∧ sc2.length = sc.length
  | [], _, _, _, _, _, ⟨h1, h2, _⟩ => by
    subst h1
    subst h2
    exact ⟨Nat.le_refl _, by omega, rfl⟩
  | ν :: l, p, p2, sc, sc2, X, ⟨q, q2, sc1, X1, X2, h1, _, _, _, _, h2, h3, _⟩ => by
    obtain ⟨a, b, c⟩ := PRW_len h3
    exact ⟨by omega, by omega, by rw [c, h2.2]⟩
theorem prw_tup (hl : n2 ≤ 8015) : ∀ {l : List Nat} {p p2 : Nat} {sc sc2 : SCT} {X : Nat}, PRW N K nm m2 lo n2 own W l p p2 sc sc2 X → ∀ (d M : Nat) (m3 : MS) (cm : Nat), (∀ j, lo < j → j ≤ n2 → nod m3 j = nod m2 j ∧ m3.2.2.1 21 j = m2.2.2.1 21 j) → Kcc m2 m3 → CNs m3 nm sc → m3.2.2.1 41 (sc.length - 1) = I (cm : Nat) → cm ≤ 4000 → (cm ≤ 4000 → max cm X ≤ 4000) → decide (m3.1 713 = 0) = !own → tot sc + (p2 - p) ≤ 4000 → PK (fun m4 _ => NPQ nm (sc.length - 1) sc2 (max cm X) (wup (m3.2.2.1 42) K W p p2) m3 m4) (hg_Cm_pattern N (hrc_Cm_listPattern N d) M m3 (I ((l.headD 0 : Nat) : Int)))
  | _, _, _, _, _, _, _, _, 0, _, _, _, _, _, _, _, _, _, _ => pk_none
  | [], p, p2, sc, sc2, X, ⟨h1, h2, h3⟩, d, M + 1, m3, cm, _, _, cn, hm, hc, _, ho, ht => by
    subst h1
    subst h2
    subst h3
    show PK _ (hb_Cm_pattern_268 N (hrc_Cm_listPattern N d) (hg_Cm_pattern N (hrc_Cm_listPattern N d) M) m3 0)
    unfold hb_Cm_pattern_268 hb_Cm_pattern_298
    rw [show decide ((0 : Int32) = 0) = true from rfl, br_tq, Nat.max_eq_left (Nat.zero_le cm), wup_0 (fun j h1 h2 => absurd h2 (by omega))]
    exact pk_some (NPQ_rf cn hm)
  | ν :: l, p, p2, sc, sc2, X, ⟨q, q2, sc1, X1, X2, h1, g1, h2, h3, h4, h5, h6, h7⟩, d, M + 1, m3, cm, k1, k2, cn, hm, hc, hX, ho, ht => by
    subst h7
    obtain ⟨a1, a2, a3⟩ := PRW_len h6
    show PK _ (hb_Cm_pattern_268 N (hrc_Cm_listPattern N d) (hg_Cm_pattern N (hrc_Cm_listPattern N d) M) m3 (I (ν : Nat)))
    unfold hb_Cm_pattern_268 hb_Cm_pattern_298
    have hX := hX hc
    rw [decide_eq_false (p := I (ν : Nat) = 0) (fun z => by have := (I_eq (x := (ν : Nat)) (y := 0) (by omega) (by omega) (by omega) (by omega)).mp z; omega), br_fq]
    have kx : KPX lo n2 ν m2 m3 := ⟨fun j h0 hj => ⟨(k1 j h0 hj).1, fun _ => (k1 j h0 hj).2⟩, k2⟩
    obtain ⟨mi, li, ni, h2, hx2, hni, hli, -⟩ := h2
    refine pk_bnd (pk_mo (h2 d m3 cm (KPX_tr hx2 kx hni.2 hni.1) cn hm hc ho (by omega)) (fun v _ qv => pk_ck (fun _ => ?_)))
    have e21 : v.2.2.1 21 ν = I ((l.headD 0 : Nat) : Int) := by
      rw [qv.2.2.2.2 21 (by decide) (by decide) (by decide) (by decide), (k1 ν (by omega) h3.2).2]
      exact h4
    rw [tnI (n := ν) rfl (by omega), e21]
    have k1v : ∀ j, lo < j → j ≤ n2 → nod v j = nod m2 j ∧ v.2.2.1 21 j = m2.2.2.1 21 j := fun j h0 hj => by
      have r : ∀ k, 16 ≤ k → k ≤ 21 → v.2.2.1 k = m3.2.2.1 k := fun k h1 h2 => qv.2.2.2.2 k (by omega) (by omega) (by omega) (by omega)
      have a := k1 j h0 hj
      unfold nod at a ⊢
      rw [r 16 (by decide) (by decide), r 17 (by decide) (by decide), r 18 (by decide) (by decide), r 19 (by decide) (by decide), r 20 (by decide) (by decide), r 21 (by decide) (by decide)]
      exact a
    have k2v : Kcc m2 v := (KPX_n kx qv.2.2.2).2
    have o13 : v.1 713 = m3.1 713 := qv.2.2.2.1 713 (by decide) (by decide)
    have := prw_tup hl h6 d M v (max cm X1) k1v k2v qv.1 (by rw [h5.2, qv.2.1, upd_at]) (by omega) (fun _ => by omega) (by rw [o13]; exact ho) (by omega)
    refine pk_mo this (fun u _ qu => ?_)
    rw [h5.2] at qu
    rw [← wup_tr (g := m3.2.2.1 42) (K := K) (W := W) (q := q) h1.1 (by omega), wup_0 (p := p) (p2 := q) g1, ← wup_tr (g := m3.2.2.1 42) (K := K) (W := W) (p := q) (q := q2) h1.2.1 h1.2.2, ← qv.2.2.1, show max cm (max X1 X2) = max (max cm X1) X2 by omega]
    exact NPQ_tr qv qu
end
