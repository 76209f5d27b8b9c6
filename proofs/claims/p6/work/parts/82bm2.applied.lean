set_option maxRecDepth 100000
def APL (N : Nat) (m0 w0 : MS) (K : Nat → Nat) (T : Nat) (nm Nk : Nat → Nat) (gd : Bool) (mB wB : MS) (p n0 : Nat) (sc : SCT) (o ν : Nat) (m w : MS) (q n : Nat) (sc2 : SCT) (la : List (Nat × List Nat)) : Prop := ∃ (n1 μ tok q2 q3 : Nat) (m1 : MS) (sc1 : SCT) (X1 X2 : Nat) (W : Nat → Nat) (R1 R2 Rf Z1 Z2 : Bool) (CL1 CL2 : Int32 × Int32 × Int32 → Prop), STQ m0 w0 K T Nk gd mB wB p n0 sc (if la = [] then 0 else 1) m w q n sc2 (max X1 X2) W Rf (Z1 || Z2) (fun x => CL1 x ∨ CL2 x) ∧ ((la = [] → Rf = (R1 || R2)) ∧ (la ≠ [] → Rf = (gd || (R1 || R2)))) ∧ (p < q2 ∧ q2 + 2 * la.length ≤ q ∧ K q2 = 20 ∧ q3 ≤ q ∧ ∀ j, q3 ≤ j → j < q → K j ≠ 3) ∧ EXN N K nm gd m1 n0 n1 μ p q2 sc sc1 X1 W R1 Z1 (BCo N CL1) ∧ KPX n0 n1 μ m1 m ∧ (n0 < μ ∧ μ ≤ n1 ∧ n1 < ν ∧ ν ≤ n) ∧ nod m ν = (I ((15 : Nat) : Int), I (tok : Nat), I (μ : Nat), I (((la.headD (0, [])).1 : Nat) : Int), 0) ∧ tok ≤ 4000 ∧ m.2.2.1 21 ν = 0 ∧ AR2 N K nm gd m ν n W la q2 q3 sc1 sc2 X2 R2 Z2 (BCo N CL2) ∧ (tot sc1 ≤ tot sc + (q2 - p) ∧ sc1.length = sc.length ∧ X1 ≤ 1400) ∧ PTX N w0 K T nm Nk m1 n0 n1 μ p q2 o NC0 X1 ∧ (K p = 1 → NC0 (K (p + 1)))
section
variable {m0 w0 m w v u mB wB m2 w2 m3 w3 mi : MS} {K nm Nk W W2 : Nat → Nat} {T p n N q X Y n2 p0 n0 n3 p2 ν μ κ o s L d D k q1 q2 lo li ni : Nat} {sc sc1 sc2 sc3 t : SCT} {gd Rf Zf Rg Zg : Bool} {l : List Nat} {la : List (Nat × List Nat)} {r v1 v2 v3 v4 v5 : Int32} {CL CM : Int32 × Int32 × Int32 → Prop} {NC : Nat → Prop} {B1 B2 BC : MS → Prop}
theorem NXT_len (h : NXT m l) : PK (fun v r => v = m ∧ r = I ((l.length : Nat) : Int)) (hm_Tr_length N m (I ((l.headD 0 : Nat) : Int))) := length_p h
theorem AR2_bc (hb : ∀ m, B2 m ↔ B1 m) (h : AR2 N K nm gd m2 n0 n2 W la p p2 sc sc2 X Rf Zf B1) : AR2 N K nm gd m2 n0 n2 W la p p2 sc sc2 X Rf Zf B2 := by
  cases la with
  | nil => exact ⟨h.1, h.2.1, h.2.2.1, h.2.2.2.1, h.2.2.2.2.1, fun m z => h.2.2.2.2.2 m ((hb m).mp z)⟩
  | cons a la =>
    obtain ⟨ν, l⟩ := a
    obtain ⟨q, q2, sc1, X1, X2, R1, R2, Z1, Z2, b1, b2, h1, g1, h2, h3, h4, h5, h6, h7, h8, h9, h10, h11, h12⟩ := h
    exact ⟨q, q2, sc1, X1, X2, R1, R2, Z1, Z2, b1, b2, h1, g1, h2, h3, h4, h5, h6, h7, h8, h9, h10, fun m => (hb m).trans (h11 m), h12⟩
theorem APL_end (hn0 : n0 ≤ 2 * p) (hT : T ≤ 4000) (h : APL N m0 w0 K T nm Nk gd mB wB p n0 sc o ν m w q n sc2 la) (hla : la ≠ []) {r : Int32} : EXZ N m0 w0 K T nm Nk p n0 gd sc o NC0 mB wB m (.inl (I (ν : Nat))) w r := by
  obtain ⟨n1, μ, tok, q2, q3, m1, sc1, X1, X2, W, R1, R2, Rf, Z1, Z2, CL1, CL2, a1, a2, a3, a4, a5, a6, a7, a8, a9, a10, a12, a13, a14⟩ := h
  rw [if_neg hla] at a1
  have nb := a1.2.1
  have qT := a1.1.2.2.2.2.1
  have al := (AR2_len a10).1
  have e := exn_app (p2 := q) (q := p) (q2 := q2) (q3 := q3) (li := n0) (lo := n0) a7 a8 (by omega) a6.2.2.2 (by omega) ⟨Nat.le_refl _, by omega, by omega, a3.2.2.2.1⟩ (fun j h1 h2 => absurd h2 (by omega)) a3.2.2.2.2 a4 (Nat.le_refl _) a5 a6.2.2.1 (AR2_1 a10) BCo_st a12
  refine ⟨q, n, ν, sc2, max X1 X2, W, Rf, Z1 || Z2, fun x => CL1 x ∨ CL2 x, rfl, ⟨by omega, a6.2.2.2⟩, by omega, a1, a9, ?_, PTX_der a13 a7 (by omega) a6.2.2.2 (by omega) (by decide) (by decide) (by decide) (fun _ z => z) (Or.inr a3.2.2.1), 15, nod_16 a7, by decide, fun z => absurd z (by decide), fun _ z => a14 z, tok, a8, nod_17 a7⟩
  rw [a2.2 hla]
  exact EXN_bc (fun m => BCo_or) e
theorem getLastD_sn {a : List (Nat × List Nat)} {b x : Nat × List Nat} : (a ++ [b]).getLastD x = b := by
  rw [List.getLastD_eq_getLast?, List.getLast?_append]
  rfl
theorem headD_sn {a : List (Nat × List Nat)} {b x : Nat × List Nat} (h : a ≠ []) : (a ++ [b]).headD x = a.headD x := by
  cases a with
  | nil => exact absurd rfl h
  | cons y z => rfl
theorem STQ_A {k : Nat} {y : Int32} (h : STQ m0 w0 K T Nk gd mB wB p0 n0 sc s m w p n sc2 X W Rf Zf CL) (hL : n0 < L) (hk : 16 ≤ k ∧ k ≤ 21) : STQ m0 w0 K T Nk gd mB wB p0 n0 sc s (upA m k (upd (m.2.2.1 k) L y)) w p n sc2 X W Rf Zf CL := by
  obtain ⟨a1, a2, a3, a4, a5⟩ := h
  obtain ⟨h1, h2⟩ := a1
  refine ⟨⟨Kc_tr h1 ⟨fun _ _ => rfl, fun i hi => upA_no (by omega)⟩, h2⟩, a2, fun j hj => ?_, PCG_A a4 hk, a5⟩
  have e : ∀ i, (upA m k (upd (m.2.2.1 k) L y)).2.2.1 i j = m.2.2.1 i j := fun i => by
    by_cases z : i = k
    · subst z; rw [upA_at, upd_no (by omega)]
    · rw [upA_no z]
  unfold KPO nod at a3
  unfold nod
  rw [e 16, e 17, e 18, e 19, e 20, e 21]
  exact a3 j hj
theorem APL_next (c : CTZ m0 w0 K T nm Nk) (h : APL N m0 w0 K T nm Nk gd mB wB p n0 sc o ν m w q n sc2 la) (hn0 : n0 ≤ 2 * p) (hk : K q = 20) (hs : (gd = false ∧ w3 = w) ∨ (gd = true ∧ w3.1 72 ≠ 0 ∧ (∀ k, k ≠ 71 → k ≠ 72 → w3.1 k = w.1 k) ∧ w3.2.2.1 = w.2.2.1)) (hz : RWZ N m0 w0 K T nm Nk q n gd sc2 (o + 1) 4 6 21 m w3 m2 w2 q1 l) (s4 : SMS w2 u) (h69 : u.1 69 = w2.1 69) : ∃ n2 sc3, m2.1 306 = I (n2 : Nat) ∧ n2 + 1 < 8016 ∧ n ≤ n2 ∧ NXT m2 l ∧ ∀ tk r8 : Int32, (la = [] → APL N m0 w0 K T nm Nk gd mB wB p n0 sc o ν (upA (adN m2 n2 16 tk (I ((l.headD 0 : Nat) : Int)) r8 0) 19 (upd ((adN m2 n2 16 tk (I ((l.headD 0 : Nat) : Int)) r8 0).2.2.1 19) ν (I ((n2 + 1 : Nat) : Int)))) u q1 (n2 + 1) sc3 (la ++ [(n2 + 1, l)])) ∧ (la ≠ [] → APL N m0 w0 K T nm Nk gd mB wB p n0 sc o ν (upA (adN m2 n2 16 tk (I ((l.headD 0 : Nat) : Int)) r8 0) 21 (upd ((adN m2 n2 16 tk (I ((l.headD 0 : Nat) : Int)) r8 0).2.2.1 21) (la.getLastD (0, [])).1 (I ((n2 + 1 : Nat) : Int)))) u q1 (n2 + 1) sc3 (la ++ [(n2 + 1, l)])) := by
  obtain ⟨n1, μ, tok, q2, q3, m1, sc1, X1, X2, W, R1, R2, Rf, Z1, Z2, CL1, CL2, a1, a2, a3, a4, a5, a6, a7, a8, a9, a10, a12, a13, a14⟩ := h
  obtain ⟨n2, q4, sc3, X3, W3, R3, Z3, CL3, b1, b2, b3, b4, b5⟩ := hz
  have t4 := c.1.1.1
  have q1T := b1.1.2.2.2.2.1
  have nb := b1.2.1
  have na := a1.2.1
  have al := (AR2_len a10).1
  have st1 : STQ m0 w0 K T Nk gd mB wB p n0 sc 0 m w3 q n sc2 (max X1 X2) W (gd || Rf) (Z1 || Z2) (fun x => CL1 x ∨ CL2 x) := by
    rcases hs with ⟨rfl, rfl⟩ | ⟨rfl, r1, r2, r3⟩
    · exact STQ_s2 a1 (Nat.zero_le _)
    · exact STQ_s2 (STQ_rule a1 r1 r2 r3) (Nat.zero_le _)
  have st2 := STQ_s (STQ_tr st1 b1) s4 h69
  refine ⟨n2, sc3, nb.2.1, by omega, nb.2.2.1, ERW_nxt (by omega) b2, fun tk r8 => ?_⟩
  generalize hκ : n2 + 1 = κ
  have st3 := STQ_add (s := 3) (a := 16) (b := tk) (c := I ((l.headD 0 : Nat) : Int)) (d := r8) (f := 0) st2
  rw [hκ] at st3
  have Ao := adN_o (m := m2) (n := n2) (a := 16) (b := tk) (c := I ((l.headD 0 : Nat) : Int)) (d := r8) (f := 0)
  have An := adN_nod (m := m2) (n := n2) (a := 16) (b := tk) (c := I ((l.headD 0 : Nat) : Int)) (d := r8) (f := 0)
  have Ai : ∀ k, k ≠ 306 → (adN m2 n2 16 tk (I ((l.headD 0 : Nat) : Int)) r8 0).1 k = m2.1 k := fun k hk => adN_i hk
  have Ar : ∀ k, k < 16 ∨ 21 < k → (adN m2 n2 16 tk (I ((l.headD 0 : Nat) : Int)) r8 0).2.2.1 k = m2.2.2.1 k := fun k hk => adN_r hk
  generalize hA : adN m2 n2 16 tk (I ((l.headD 0 : Nat) : Int)) r8 0 = A at st3 Ao An Ai Ar
  rw [hκ] at An
  have mo := b1.2.2.1
  have kcm : Kcc m A := Kc_tr (PCG_k b1.2.2.2.1) ⟨fun k hk => Ai k (by omega), fun k hk => Ar k (by omega)⟩
  have kc2 : Kcc m2 A := ⟨fun k hk => Ai k (by omega), fun k hk => Ar k (by omega)⟩
  have A18 : A.2.2.1 18 κ = I ((l.headD 0 : Nat) : Int) := congrArg (fun z => z.2.2.1) An.1
  have all : ∀ (m3 : MS) (L i : Nat), (i = 19 ∨ i = 21) → n1 < L → L ≤ n → (∀ j, j ≠ L → ∀ k, m3.2.2.1 k j = A.2.2.1 k j) → (∀ k, k ≠ i → m3.2.2.1 k = A.2.2.1 k) → (∀ k, m3.1 k = A.1 k) → STQ m0 w0 K T Nk gd mB wB p n0 sc 3 m3 u q1 κ sc3 (max (max X1 X2) X3) (mrg q W W3) ((gd || Rf) || R3) ((Z1 || Z2) || Z3) (fun x => (CL1 x ∨ CL2 x) ∨ CL3 x) → nod m3 ν = (I ((15 : Nat) : Int), I (tok : Nat), I (μ : Nat), I ((((la ++ [(κ, l)]).headD (0, [])).1 : Nat) : Int), 0) → m3.2.2.1 21 ν = 0 → (la = [] → L = ν) → (∀ j, ν < j → nod m3 j = nod A j) → (la ≠ [] → L = (la.getLastD (0, [])).1 ∧ m3.2.2.1 21 L = I (κ : Nat)) → APL N m0 w0 K T nm Nk gd mB wB p n0 sc o ν m3 u q1 κ sc3 (la ++ [(κ, l)]) := fun m3 L i hi hL1 hL2 h3 h4 h5 hst hnod h21 hla1 hnd hla2 => by
    have nd3 : ∀ j, j ≠ L → nod m3 j = nod A j ∧ m3.2.2.1 21 j = A.2.2.1 21 j := fun j hj => ⟨by unfold nod; rw [h3 j hj, h3 j hj, h3 j hj, h3 j hj, h3 j hj], h3 j hj 21⟩
    have kc3 : Kcc A m3 := ⟨fun k _ => h5 k, fun k hk => h4 k (by omega)⟩
    have bl := ERW_len b2
    have sx := b1.2.2.2.2.1
    have ih := AR2_snoc (N := N) (K := K) (nm := nm) (gd := gd) (W := mrg q W W3) (lo := ν) (n2 := n) (n3 := κ) (m2 := m) (m3 := m3) (κ := κ) (mi := m2) (li := n) (ni := n2) (l := l) (q := q + 1) (q2 := q4) (q1 := q4) (p2 := q3) (by omega) (Kc_tr kcm kc3) ⟨by omega, Nat.le_refl _⟩ (ERW_w (fun j h _ => mrg_r (by omega)) b2) ⟨fun j j1 j2 => ⟨(nd3 j (by omega)).1.trans (Ao j j2).1, (nd3 j (by omega)).2.trans (Ao j j2).2⟩, Kc_tr kc2 kc3⟩ ⟨a6.2.2.2, by omega⟩ (by rw [h3 κ (by omega)]; exact A18) (by rw [h3 κ (by omega)]; exact An.2) ⟨by omega, by omega, Nat.le_refl _⟩ (fun j j1 j2 => by
      by_cases z : j = q
      · rw [z]; omega
      · exact a3.2.2.2.2 j j1 (by omega)) (fun j j1 j2 => absurd j2 (by omega)) ⟨bl.2.1, bl.2.2, sx.2.2.2.1.2⟩ BCo_st (la := la) (p := q2) (sc := sc1) (fun j j1 j2 => ?_) (fun z => (hla2 z).1 ▸ (hla2 z).2) a6.2.2.2 (AR2_w (fun j _ h => mrg_l (by omega)) a10)
    · refine ⟨n1, μ, tok, q2, q4, m1, sc1, X1, max X2 X3, mrg q W W3, R1, (R2 || R3), ((gd || Rf) || R3), Z1, (Z2 || Z3), CL1, (fun x => CL2 x ∨ CL3 x), ?_, ⟨fun z => by simp at z, fun _ => ?_⟩, ⟨a3.1, ?_, a3.2.2.1, by omega, b3.2.2⟩, EXN_w (fun j _ h => mrg_l (by omega)) a4, ⟨fun j j1 j2 => ?_, Kc_tr a5.2 (Kc_tr kcm kc3)⟩, ⟨a6.1, a6.2.1, a6.2.2.1, by omega⟩, hnod, a8, h21, ?_, a12, a13, a14⟩
      · rw [if_neg (by simp)]
        rw [show max X1 (max X2 X3) = max (max X1 X2) X3 by omega, show (Z1 || (Z2 || Z3)) = ((Z1 || Z2) || Z3) from (Bool.or_assoc _ _ _).symm]
        exact STQ_s2 (STQ_cl (fun x => or_assoc) hst) (by omega)
      · by_cases z : la = []
        · rw [a2.1 z]; cases gd <;> cases R1 <;> cases R2 <;> cases R3 <;> rfl
        · rw [a2.2 z]; cases gd <;> cases R1 <;> cases R2 <;> cases R3 <;> rfl
      · rw [List.length_append, List.length_singleton]; omega
      · have e1 := nd3 j (by omega)
        have e2 := Ao j (by omega)
        have e3 := mo j (by omega)
        have e4 := a5.1 j j1 j2
        exact ⟨e1.1.trans (e2.1.trans (e3.1.trans e4.1)), fun z => e1.2.trans (e2.2.trans (e3.2.trans (e4.2 z)))⟩
      · have := AR2_bc (fun m => BCo_or) ih
        exact this
    · refine ⟨(hnd j j1).trans ((Ao j (by omega)).1.trans (mo j j2).1), fun z => ?_⟩
      have jL : j ≠ L := by
        by_cases y : la = []
        · rw [hla1 y]; omega
        · rw [(hla2 y).1]; exact z
      exact (nd3 j jL).2.trans ((Ao j (by omega)).2.trans (mo j j2).2)
  have nν : nod A ν = nod m ν ∧ A.2.2.1 21 ν = m.2.2.1 21 ν := ⟨(Ao ν (by omega)).1.trans (mo ν a6.2.2.2).1, (Ao ν (by omega)).2.trans (mo ν a6.2.2.2).2⟩
  refine ⟨fun z => ?_, fun z => ?_⟩
  · refine all _ ν 19 (Or.inl rfl) a6.2.2.1 a6.2.2.2 (fun j hj k => ?_) (fun k hk => upA_no hk) (fun _ => rfl) (STQ_A st3 (by omega) (by decide)) ?_ ?_ (fun _ => rfl) (fun j hj => ?_) (fun y => absurd z y)
    · by_cases e : k = 19
      · subst e; rw [upA_at, upd_no hj]
      · rw [upA_no e]
    · have e := nν.1.trans a7
      subst z
      unfold nod at e ⊢
      rw [upA_no (j := 16) (by decide), upA_no (j := 17) (by decide), upA_no (j := 18) (by decide), upA_no (j := 20) (by decide), upA_at, upd_at]
      injection e with e1 e
      injection e with e2 e
      injection e with e3 e
      injection e with e4 e5
      rw [e1, e2, e3, e5]
      rfl
    · rw [upA_no (by decide)]; exact nν.2.trans a9
    · unfold nod
      rw [upA_no (j := 16) (by decide), upA_no (j := 17) (by decide), upA_no (j := 18) (by decide), upA_no (j := 20) (by decide), upA_at, upd_no (by omega)]
  · obtain ⟨d1, d2, d3⟩ := AR2_hd a10 z
    refine all _ (la.getLastD (0, [])).1 21 (Or.inr rfl) (by omega) d3 (fun j hj k => ?_) (fun k hk => upA_no hk) (fun _ => rfl) (STQ_A st3 (by omega) (by decide)) ?_ ?_ (fun y => absurd y z) (fun j _ => ?_) (fun _ => ⟨rfl, ?_⟩)
    · by_cases e : k = 21
      · subst e; rw [upA_at, upd_no hj]
      · rw [upA_no e]
    · rw [headD_sn z]
      have e := nν.1.trans a7
      unfold nod at e ⊢
      rw [upA_no (by decide), upA_no (by decide), upA_no (by decide), upA_no (by decide), upA_no (by decide)]
      exact e
    · rw [upA_at, upd_no (by omega)]; exact nν.2.trans a9
    · unfold nod
      rw [upA_no (by decide), upA_no (by decide), upA_no (by decide), upA_no (by decide), upA_no (by decide)]
    · rw [upA_at, upd_at]
end
