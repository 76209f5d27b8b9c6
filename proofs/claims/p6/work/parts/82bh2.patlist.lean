set_option maxRecDepth 100000
section
variable {m v u m2 m3 : MS} {K nm W : Nat → Nat} {sc sc2 sc3 t : SCT} {e : List Nat × List Nat × Nat} {s x y N i f tok cm p p2 p3 n2 ν μ X Y lo : Nat} {own : Bool} {l : List Nat}
theorem ptn_tup {q q2 : Nat} {a c g : Int32} (hn : nod m2 ν = (I ((6 : Nat) : Int), a, I ((l.headD 0 : Nat) : Int), c, g)) (hlo : lo < ν) (hν : ν ≤ n2) (hl : n2 ≤ 8015) (hq : p ≤ q ∧ q ≤ q2 ∧ q2 ≤ p2) (g1 : ∀ j, p ≤ j → j < q → K j ≠ 3) (g2 : ∀ j, q2 ≤ j → j < p2 → K j ≠ 3) (hX : X ≤ 4000) {n1 : Nat} {m1 : MS} (h : PRW N K nm m1 lo n1 own W l q q2 sc sc2 X) (h1 : KPO n1 m1 m2) (hk : Kcc m1 m2) (hn1 : n1 < ν) : PTN N K nm m2 lo n2 ν own p p2 sc sc2 X W := by
  intro d m3 cm kx cn hm hc ho ht
  cases d with
  | zero => exact pk_none
  | succ d =>
    have e0 := KPX_nod kx hlo hν
    rw [hn] at e0
    have e1 : m3.2.2.1 16 ν = I ((6 : Nat) : Int) := (Prod.mk.inj e0).1
    have e3 : m3.2.2.1 18 ν = I ((l.headD 0 : Nat) : Int) := (Prod.mk.inj (Prod.mk.inj (Prod.mk.inj e0).2).2).1
    show PK _ (hm_Cm_pattern N (hrc_Cm_listPattern N d) m3 (I (ν : Nat)))
    unfold hm_Cm_pattern hb_Cm_pattern_0 hb_Cm_pattern_298
    rw [tnI (n := ν) rfl (by omega), e1]
    refine pk_ck (fun _ => ?_)
    have dd : ∀ b : Nat, b < 100 → b ≠ 6 → ∀ s : Int32, s = I (b : Nat) → decide (I ((6 : Nat) : Int) = s) = false := fun b hb h17 s hs => by rw [I_dn (by decide) hb hs]; exact decide_eq_false (fun z => h17 z.symm)
    rw [dd 1 (by decide) (by decide) 1 rfl, br_fq, dd 2 (by decide) (by decide) 2 rfl, br_fq, dd 3 (by decide) (by decide) 3 rfl, br_fq, dd 4 (by decide) (by decide) 4 rfl, br_fq, dd 5 (by decide) (by decide) 5 rfl, br_fq, show decide (I ((6 : Nat) : Int) = 6) = true from rfl, br_tq]
    refine pk_bnd (fun w1 r1 x1 => pk_ck (fun _ => pk_bnd (fun w2 r2 x2 => pk_ck (fun _ => ?_))))
    have f1 := yn_hm_Co_put (u0 := m3) Kn_rf w1 r1 x1
    have f2 := yn_hm_Co_put (u0 := w1) Kn_rf w2 r2 x2
    have q0 := NPQ_kn (NPQ_kn (NPQ_rf cn hm) f1) f2
    have r18 : w2.2.2.1 18 ν = I ((l.headD 0 : Nat) : Int) := by rw [q0.2.2.2.2 18 (by decide) (by decide) (by decide) (by decide)]; exact e3
    have kx2 := KPX_n kx q0.2.2.2
    have k1 : ∀ j, lo < j → j ≤ n1 → nod w2 j = nod m1 j ∧ w2.2.2.1 21 j = m1.2.2.1 21 j := fun j h0 hj => ⟨(kx2.1 j h0 (by omega)).1.trans (h1 j hj).1, ((kx2.1 j h0 (by omega)).2 (by omega)).trans (h1 j hj).2⟩
    have k2 : Kcc m1 w2 := ⟨fun k hk2 => (kx2.2.1 k hk2).trans (hk.1 k hk2), fun k hk2 => (kx2.2.2 k hk2).trans (hk.2 k hk2)⟩
    rw [r18]
    have o13 : w2.1 713 = m3.1 713 := q0.2.2.2.1 713 (by decide) (by decide)
    refine pk_mo (prw_tup (N := N) (by omega) h d N w2 cm k1 k2 q0.1 (by rw [q0.2.1, upd_at]) hc (fun _ => by omega) (by rw [o13]; exact ho) (by omega)) (fun u _ qu => ?_)
    rw [q0.2.2.1] at qu
    rw [← wup_tr (g := m3.2.2.1 42) (K := K) (W := W) (q := q) hq.1 (by omega), wup_0 (p := p) (p2 := q) g1, ← wup_tr (g := m3.2.2.1 42) (K := K) (W := W) (p := q) (q := q2) hq.2.1 hq.2.2, wup_0 (p := q2) (p2 := p2) g2]
    exact NPQ_tr q0 qu
theorem prw_lst {c0 q3 : Nat} {sc3 : SCT} {X3 : Nat} (hl : n2 ≤ 8015) (hν : ν ≤ 8015) (hX3 : X3 ≤ 4000) (tl : ∀ (d : Nat) (m3 : MS) (cm : Nat), (∀ j, lo < j → j ≤ n2 → nod m3 j = nod m2 j ∧ m3.2.2.1 21 j = m2.2.2.1 21 j) → Kcc m2 m3 → m3.2.2.1 20 ν = I (c0 : Nat) → CNs m3 nm sc2 → m3.2.2.1 41 (sc2.length - 1) = I (cm : Nat) → cm ≤ 4000 → decide (m3.1 713 = 0) = !own → tot sc2 + (q3 - p2) ≤ 4000 → ∀ f : MS → Unit → Option (MS × Unit), (∀ v, f v () = some (v, ())) → PK (fun m4 _ => NPQ nm (sc2.length - 1) sc3 (max cm X3) (wup (m3.2.2.1 42) K W p2 q3) m3 m4) (br (decide (I (c0 : Nat) = 0)) (bnd (hm_Co_put N m3 1) (fun u7 r7 => bnd (hm_Cm_term N u7 6 0) (fun u9 r9 => f u9 ()))) (ck (inb (I (ν : Nat)) 8016) (bnd ((hrc_Cm_listPattern N d).2 m3 (I (c0 : Nat))) (fun u15 r15 => f u15 ()))))) (hq3 : p2 ≤ q3) : ∀ {l : List Nat} {p : Nat} {sc : SCT} {X : Nat}, PRW N K nm m2 lo n2 own W l p p2 sc sc2 X → ∀ (d M : Nat) (m3 : MS) (cm : Nat), (∀ j, lo < j → j ≤ n2 → nod m3 j = nod m2 j ∧ m3.2.2.1 21 j = m2.2.2.1 21 j) → Kcc m2 m3 → m3.2.2.1 20 ν = I (c0 : Nat) → CNs m3 nm sc → m3.2.2.1 41 (sc.length - 1) = I (cm : Nat) → cm ≤ 4000 → max cm X ≤ 4000 → decide (m3.1 713 = 0) = !own → tot sc + (q3 - p) ≤ 4000 → PK (fun m4 _ => NPQ nm (sc.length - 1) sc3 (max cm (max X X3)) (wup (m3.2.2.1 42) K W p q3) m3 m4) (hg_Cm_listPattern N (hrc_Cm_listPattern N d) M m3 (I (ν : Nat)) (I ((l.headD 0 : Nat) : Int)))
  | _, _, _, _, _, _, 0, _, _, _, _, _, _, _, _, _, _, _ => pk_none
  | [], p, sc, X, ⟨h1, h2, h3⟩, d, M + 1, m3, cm, k1, k2, k20, cn, hm, hc, _, ho, ht => by
    subst h1
    subst h2
    subst h3
    show PK _ (hb_Cm_listPattern_10 N (hrc_Cm_listPattern N d) (hg_Cm_listPattern N (hrc_Cm_listPattern N d) M) m3 (I (ν : Nat)) 0)
    unfold hb_Cm_listPattern_10 hb_Cm_listPattern_84
    rw [show decide ((0 : Int32) = 0) = true from rfl, br_tq, tnI (n := ν) rfl (by omega), k20, show max 0 X3 = X3 by omega]
    exact pk_ck (fun _ => tl d m3 cm k1 k2 k20 cn hm hc ho ht (fun v _ => some (v, ())) (fun _ => rfl))
  | ν1 :: l, p, sc, X, ⟨q, q2, sc1, X1, X2, h1, g1, h2, h3, h4, h5, h6, h7⟩, d, M + 1, m3, cm, k1, k2, k20, cn, hm, hc, hX, ho, ht => by
    subst h7
    obtain ⟨a1, a2, a3⟩ := PRW_len h6
    show PK _ (hb_Cm_listPattern_10 N (hrc_Cm_listPattern N d) (hg_Cm_listPattern N (hrc_Cm_listPattern N d) M) m3 (I (ν : Nat)) (I (ν1 : Nat)))
    unfold hb_Cm_listPattern_10 hb_Cm_listPattern_84
    rw [decide_eq_false (p := I (ν1 : Nat) = 0) (fun z => by have := (I_eq (x := (ν1 : Nat)) (y := 0) (by omega) (by omega) (by omega) (by omega)).mp z; omega), br_fq]
    refine pk_bnd (fun w1 r1 x1 => ?_)
    have q0 := NPQ_kn (NPQ_rf cn hm) (yn_hm_Co_put (u0 := m3) Kn_rf w1 r1 x1)
    have tr : ∀ {a b : MS}, NFR a b → (∀ j, lo < j → j ≤ n2 → nod a j = nod m2 j ∧ a.2.2.1 21 j = m2.2.2.1 21 j) ∧ Kcc m2 a ∧ a.2.2.1 20 ν = I (c0 : Nat) ∧ decide (a.1 713 = 0) = !own → (∀ j, lo < j → j ≤ n2 → nod b j = nod m2 j ∧ b.2.2.1 21 j = m2.2.2.1 21 j) ∧ Kcc m2 b ∧ b.2.2.1 20 ν = I (c0 : Nat) ∧ decide (b.1 713 = 0) = !own := fun {a b} f z => by
      have r : ∀ k, 16 ≤ k → k ≤ 21 → b.2.2.1 k = a.2.2.1 k := fun k h1 h2 => f.2 k (by omega) (by omega) (by omega) (by omega)
      refine ⟨fun j h0 hj => ?_, ⟨fun k hk => ?_, fun k hk => ?_⟩, ?_, ?_⟩
      · have y := z.1 j h0 hj
        unfold nod at y ⊢
        rw [r 16 (by decide) (by decide), r 17 (by decide) (by decide), r 18 (by decide) (by decide), r 19 (by decide) (by decide), r 20 (by decide) (by decide), r 21 (by decide) (by decide)]
        exact y
      · rw [f.1 k (by omega) (by omega)]; exact z.2.1.1 k hk
      · rw [f.2 k (by omega) (by omega) (by omega) (by omega)]; exact z.2.1.2 k hk
      · rw [r 20 (by decide) (by decide)]; exact z.2.2.1
      · rw [f.1 713 (by decide) (by decide)]; exact z.2.2.2
    obtain ⟨b1, b2, b3, b4⟩ := tr q0.2.2.2 ⟨k1, k2, k20, ho⟩
    have kx : KPX lo n2 ν1 m2 w1 := ⟨fun j h0 hj => ⟨(b1 j h0 hj).1, fun _ => (b1 j h0 hj).2⟩, b2⟩
    obtain ⟨mi, li, ni, h2, hx2, hni, hli, -⟩ := h2
    refine pk_bnd (pk_mo (h2 d w1 cm (KPX_tr hx2 kx hni.2 hni.1) q0.1 (by rw [q0.2.1, upd_at]) hc b4 (by omega)) (fun v _ qv => pk_ck (fun _ => ?_)))
    obtain ⟨d1, d2, d3, d4⟩ := tr qv.2.2.2 ⟨b1, b2, b3, b4⟩
    have e21 : v.2.2.1 21 ν1 = I ((l.headD 0 : Nat) : Int) := by
      rw [(d1 ν1 (by omega) h3.2).2]
      exact h4
    rw [tnI (n := ν1) rfl (by omega), e21]
    have := prw_lst hl hν hX3 tl hq3 h6 d M v (max cm X1) d1 d2 d3 qv.1 (by rw [h5.2, qv.2.1, upd_at]) (by omega) (by omega) d4 (by omega)
    refine pk_mo this (fun u _ qu => ?_)
    rw [h5.2, qv.2.2.1, q0.2.2.1] at qu
    rw [← wup_tr (g := m3.2.2.1 42) (K := K) (W := W) (q := q) h1.1 (by omega), wup_0 (p := p) (p2 := q) g1, ← wup_tr (g := m3.2.2.1 42) (K := K) (W := W) (p := q) (q := q2) h1.2.1 (by omega), show max cm (max (max X1 X2) X3) = max (max cm X1) (max X2 X3) by omega]
    exact NPQ_tr q0 (NPQ_tr qv qu)
theorem ptn_lst {q q2 q3 c0 X3 : Nat} {a c : Int32} (hn : nod m2 ν = (I ((7 : Nat) : Int), a, I ((l.headD 0 : Nat) : Int), c, I (c0 : Nat))) (hlo : lo < ν) (hν : ν ≤ n2) (hl : n2 ≤ 8015) (hq : p ≤ q ∧ q ≤ q2 ∧ q2 ≤ q3 ∧ q3 ≤ p2) (g1 : ∀ j, p ≤ j → j < q → K j ≠ 3) (g2 : ∀ j, q3 ≤ j → j < p2 → K j ≠ 3) (hX : X ≤ 4000 ∧ X3 ≤ 4000) {n1 : Nat} {m1 : MS} (h : PRW N K nm m1 lo n1 own W l q q2 sc sc2 X) (h1 : KPO n1 m1 m2) (hk : Kcc m1 m2) (hn1 : n1 < ν) (tl : (c0 = 0 ∧ sc3 = sc2 ∧ X3 = 0 ∧ ∀ j, q2 ≤ j → j < q3 → K j ≠ 3) ∨ (0 < c0 ∧ c0 ≤ n1 ∧ ∃ p4 l4, lo ≤ l4 ∧ (q2 ≤ p4 ∧ p4 ≤ q3) ∧ (∀ j, q2 ≤ j → j < p4 → K j ≠ 3) ∧ PTN N K nm m1 l4 n1 c0 own p4 q3 sc2 sc3 X3 W)) : PTN N K nm m2 lo n2 ν own p p2 sc sc3 (max X X3) W := by
  intro d m3 cm kx cn hm hc ho ht
  cases d with
  | zero => exact pk_none
  | succ d =>
    cases d with
    | zero =>
      have e0 := KPX_nod kx hlo hν
      rw [hn] at e0
      have e1 : m3.2.2.1 16 ν = I ((7 : Nat) : Int) := (Prod.mk.inj e0).1
      show PK _ (hm_Cm_pattern N (hrc_Cm_listPattern N 0) m3 (I (ν : Nat)))
      unfold hm_Cm_pattern hb_Cm_pattern_0
      rw [tnI (n := ν) rfl (by omega), e1]
      refine pk_ck (fun _ => ?_)
      have dd : ∀ b : Nat, b < 100 → b ≠ 7 → ∀ s : Int32, s = I (b : Nat) → decide (I ((7 : Nat) : Int) = s) = false := fun b hb h17 s hs => by rw [I_dn (by decide) hb hs]; exact decide_eq_false (fun z => h17 z.symm)
      rw [dd 1 (by decide) (by decide) 1 rfl, br_fq, dd 2 (by decide) (by decide) 2 rfl, br_fq, dd 3 (by decide) (by decide) 3 rfl, br_fq, dd 4 (by decide) (by decide) 4 rfl, br_fq, dd 5 (by decide) (by decide) 5 rfl, br_fq, dd 6 (by decide) (by decide) 6 rfl, br_fq, show decide (I ((7 : Nat) : Int) = 7) = true from rfl, br_tq]
      exact pk_bnd (pk_none (Q := fun w r => PK _ _))
    | succ d =>
      obtain ⟨a1, a2, a3⟩ := PRW_len h
      have e0 := KPX_nod kx hlo hν
      rw [hn] at e0
      have e1 : m3.2.2.1 16 ν = I ((7 : Nat) : Int) := (Prod.mk.inj e0).1
      have e3 : m3.2.2.1 18 ν = I ((l.headD 0 : Nat) : Int) := (Prod.mk.inj (Prod.mk.inj (Prod.mk.inj e0).2).2).1
      have e5 : m3.2.2.1 20 ν = I (c0 : Nat) := (Prod.mk.inj (Prod.mk.inj (Prod.mk.inj (Prod.mk.inj e0).2).2).2).2
      show PK _ (hm_Cm_pattern N (hrc_Cm_listPattern N (d + 1)) m3 (I (ν : Nat)))
      unfold hm_Cm_pattern hb_Cm_pattern_0 hb_Cm_pattern_298
      rw [tnI (n := ν) rfl (by omega), e1]
      refine pk_ck (fun _ => ?_)
      have dd : ∀ b : Nat, b < 100 → b ≠ 7 → ∀ s : Int32, s = I (b : Nat) → decide (I ((7 : Nat) : Int) = s) = false := fun b hb h17 s hs => by rw [I_dn (by decide) hb hs]; exact decide_eq_false (fun z => h17 z.symm)
      rw [dd 1 (by decide) (by decide) 1 rfl, br_fq, dd 2 (by decide) (by decide) 2 rfl, br_fq, dd 3 (by decide) (by decide) 3 rfl, br_fq, dd 4 (by decide) (by decide) 4 rfl, br_fq, dd 5 (by decide) (by decide) 5 rfl, br_fq, dd 6 (by decide) (by decide) 6 rfl, br_fq, show decide (I ((7 : Nat) : Int) = 7) = true from rfl, br_tq]
      refine pk_bnd ?_
      show PK _ (hm_Cm_listPattern N (hrc_Cm_listPattern N d) m3 (I (ν : Nat)))
      unfold hm_Cm_listPattern hb_Cm_listPattern_0
      rw [tnI (n := ν) rfl (by omega), e3]
      refine pk_ck (fun _ => ?_)
      have k1 : ∀ j, lo < j → j ≤ n1 → nod m3 j = nod m1 j ∧ m3.2.2.1 21 j = m1.2.2.1 21 j := fun j h0 hj => ⟨(kx.1 j h0 (by omega)).1.trans (h1 j hj).1, ((kx.1 j h0 (by omega)).2 (by omega)).trans (h1 j hj).2⟩
      have k2 : Kcc m1 m3 := ⟨fun k hk2 => (kx.2.1 k hk2).trans (hk.1 k hk2), fun k hk2 => (kx.2.2 k hk2).trans (hk.2 k hk2)⟩
      refine pk_mo (prw_lst (N := N) (own := own) (K := K) (W := W) (q3 := q3) (sc3 := sc3) (X3 := X3) (by omega) (by omega) hX.2 (fun d m3 cm kk1 kk2 k20 cn hm hc ho ht f hf => ?_) hq.2.2.1 h d N m3 cm k1 k2 e5 cn hm hc (by omega) ho (by omega)) (fun u _ qu => pk_some ?_)
      · rcases tl with ⟨t1, t2, t3, t4⟩ | ⟨t1, t2, p4, l4, t0, t3, t4, t5⟩
        · subst t1
          subst t2
          subst t3
          rw [show decide (I ((0 : Nat) : Int) = 0) = true from rfl, br_tq, Nat.max_eq_left (Nat.zero_le cm), wup_0 t4]
          refine pk_bnd (fun w1 r1 x1 => pk_bnd (fun w2 r2 x2 => ?_))
          show PK _ (f w2 ())
          rw [hf]
          exact pk_some (NPQ_kn (NPQ_kn (NPQ_rf cn hm) (yn_hm_Co_put (u0 := m3) Kn_rf w1 r1 x1)) (yn_hm_Cm_term (u0 := w1) Kn_rf w2 r2 x2))
        · rw [decide_eq_false (p := I (c0 : Nat) = 0) (fun z => by have := (I_eq (x := (c0 : Nat)) (y := 0) (by omega) (by omega) (by omega) (by omega)).mp z; omega), br_fq]
          refine pk_ck (fun _ => pk_bnd (pk_mo (t5 d m3 cm ⟨fun j h0 hj => ⟨(kk1 j (by omega) hj).1, fun _ => (kk1 j (by omega) hj).2⟩, kk2⟩ cn hm hc ho (by omega)) (fun v _ qv => ?_)))
          show PK _ (f v ())
          rw [hf]
          refine pk_some ?_
          rw [← wup_tr (g := m3.2.2.1 42) (K := K) (W := W) (q := p4) t3.1 t3.2, wup_0 (p := q2) (p2 := p4) t4]
          exact qv
      · rw [← wup_tr (g := m3.2.2.1 42) (K := K) (W := W) (q := q) hq.1 (by omega), wup_0 (p := p) (p2 := q) g1, ← wup_tr (g := m3.2.2.1 42) (K := K) (W := W) (p := q) (q := q3) (by omega) hq.2.2.2, wup_0 (p := q3) (p2 := p2) g2]
        exact qu
end
