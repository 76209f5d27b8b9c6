set_option maxRecDepth 100000
def SGE (N : Nat) (K nm : Nat → Nat) (gd : Bool) (m2 : MS) (lo n2 : Nat) (W : Nat → Nat) : List Nat → Int32 → Int32 → Nat → Nat → SCT → SCT → Nat → Bool → Bool → (MS → Prop) → Int32 → Int32 → Prop
  | [], am, om, p, p2, sc, sc2, X, Rf, Zf, BC, am2, om2 => (p = p2 ∧ sc2 = sc ∧ X = 0 ∧ Rf = false ∧ Zf = false ∧ ∀ m, ¬ BC m) ∧ am2 = am ∧ om2 = om
  | ν :: l, am, om, p, p2, sc, sc2, X, Rf, Zf, BC, am2, om2 => (lo < ν ∧ ν ≤ n2) ∧ m2.2.2.1 21 ν = I ((l.headD 0 : Nat) : Int) ∧ ((∃ q q2 sc1 X1 X2 R1 R2 Z1 Z2 B1 B2, (p ≤ q ∧ q ≤ q2 ∧ q2 ≤ p2) ∧ (∀ j, p ≤ j → j < q → K j ≠ 3) ∧ (∃ mi li ni k, EXN N K nm gd mi li ni ν q q2 sc sc1 X1 W R1 Z1 B1 ∧ KPX li ni ν mi m2 ∧ (lo ≤ li ∧ ni ≤ n2) ∧ (m2.2.2.1 16 ν = I (k : Nat) ∧ k < 23) ∧ (li < ν ∧ ν ≤ ni) ∧ (l ≠ [] → ni < l.headD 0)) ∧ (tot sc1 ≤ tot sc + (q2 - q) ∧ sc1.length = sc.length ∧ X1 ≤ 1400) ∧ SGE N K nm gd m2 lo n2 W l am om q2 p2 sc1 sc2 X2 R2 Z2 B2 am2 om2 ∧ X = max X1 X2 ∧ Rf = (R1 || R2) ∧ Zf = (Z1 || Z2) ∧ (∀ m, BC m ↔ B1 m ∨ B2 m) ∧ STB B2) ∨ (m2.2.2.1 16 ν = I ((24 : Nat) : Int) ∧ (l ≠ [] → ν < l.headD 0) ∧ ((m2.2.2.1 18 ν = I ((6 : Nat) : Int) ∧ SGE N K nm gd m2 lo n2 W l (I (tot sc : Nat)) om p p2 sc sc2 X Rf Zf BC am2 om2) ∨ (m2.2.2.1 18 ν = I ((16 : Nat) : Int) ∧ SGE N K nm gd m2 lo n2 W l am (I (tot sc : Nat)) p p2 sc sc2 X Rf Zf BC am2 om2))) ∨ (m2.2.2.1 16 ν = I ((23 : Nat) : Int) ∧ (l ≠ [] → ν < l.headD 0) ∧ ∃ k : Nat, m2.2.2.1 18 ν = I (k : Nat) ∧ k < 46 ∧ (((k = 6 ∨ k = 16) ∧ ∃ b e1 t1, sc = e1 :: t1 ∧ b ≤ e1.1.length ∧ (if k = 6 then am else om) = I ((tot t1 + b : Nat) : Int) ∧ SGE N K nm gd m2 lo n2 W l am om p p2 (cutS b sc) sc2 X Rf Zf BC am2 om2) ∨ ((k ≠ 6 ∧ k ≠ 16) ∧ ∃ tk R2, m2.2.2.1 17 ν = I (tk : Nat) ∧ tk ≤ 4000 ∧ SGE N K nm gd m2 lo n2 W l am om p p2 sc sc2 X R2 Zf BC am2 om2 ∧ Rf = ((gd && decide (k = 43 ∨ k = 44)) || R2)))))
section
variable {m0 w0 m w v u mB wB m2 w2 m3 w3 mi w' : MS} {K nm Nk W W2 : Nat → Nat} {T p n N q X Y n2 p0 n0 n3 p2 ν μ κ o s L d D k q1 q2 lo li ni t0 b : Nat} {sc sc1 sc2 sc3 t t2 : SCT} {e e2 : List Nat × List Nat × Nat} {gd Rf Zf Rg Zg : Bool} {l : List Nat} {r v1 v2 v3 v4 v5 x y am om am2 om2 : Int32} {CL CM : Int32 × Int32 × Int32 → Prop} {NC : Nat → Prop} {B1 B2 BC : MS → Prop}
theorem SGE_W : ∀ {l : List Nat} {am om : Int32} {p p2 : Nat} {sc sc2 : SCT} {X : Nat} {Rf Zf : Bool} {BC : MS → Prop}, SGE N K nm gd m2 lo n2 W l am om p p2 sc sc2 X Rf Zf BC am2 om2 → SGW N K nm gd m2 lo n2 W l am om p p2 sc sc2 X Rf Zf BC
  | [], _, _, _, _, _, _, _, _, _, _, h => h.1
  | ν :: l, am, om, p, p2, sc, sc2, X, Rf, Zf, BC, ⟨h1, h2, h3⟩ => by
    refine ⟨h1, h2, ?_⟩
    rcases h3 with ⟨q, q2, sc1, X1, X2, R1, R2, Z1, Z2, B1, B2, a1, a2, ⟨mi, li, ni, k, b1, b2, b3, b4, -⟩, a4, a5, a6⟩ | ⟨a1, -, a2⟩ | ⟨a1, -, k, a2, a3, a4⟩
    · exact Or.inl ⟨q, q2, sc1, X1, X2, R1, R2, Z1, Z2, B1, B2, a1, a2, ⟨mi, li, ni, k, b1, b2, b3, b4⟩, a4, SGE_W a5, a6⟩
    · refine Or.inr (Or.inl ⟨a1, ?_⟩)
      rcases a2 with ⟨x, y⟩ | ⟨x, y⟩
      · exact Or.inl ⟨x, SGE_W y⟩
      · exact Or.inr ⟨x, SGE_W y⟩
    · refine Or.inr (Or.inr ⟨a1, k, a2, a3, ?_⟩)
      rcases a4 with ⟨x, b, e1, t1, y1, y2, y3, y4⟩ | ⟨x, tk, R2, y1, y2, y3, y4⟩
      · exact Or.inl ⟨x, b, e1, t1, y1, y2, y3, SGE_W y4⟩
      · exact Or.inr ⟨x, tk, R2, y1, y2, SGE_W y3, y4⟩
theorem SGE_len (h : SGE N K nm gd m2 lo n2 W l am om p p2 sc sc2 X Rf Zf BC am2 om2) : p ≤ p2 ∧ tot sc2 ≤ tot sc + (p2 - p) ∧ sc2.length = sc.length := SGW_len (SGE_W h)
theorem SGE_bc (hb : ∀ m, B2 m ↔ B1 m) : ∀ {l : List Nat} {am om : Int32} {p p2 : Nat} {sc sc2 : SCT} {X : Nat} {Rf Zf : Bool}, SGE N K nm gd m2 lo n2 W l am om p p2 sc sc2 X Rf Zf B1 am2 om2 → SGE N K nm gd m2 lo n2 W l am om p p2 sc sc2 X Rf Zf B2 am2 om2
  | [], _, _, _, _, _, _, _, _, _, h => ⟨⟨h.1.1, h.1.2.1, h.1.2.2.1, h.1.2.2.2.1, h.1.2.2.2.2.1, fun m z => h.1.2.2.2.2.2 m ((hb m).mp z)⟩, h.2⟩
  | ν :: l, am, om, p, p2, sc, sc2, X, Rf, Zf, ⟨h1, h2, h3⟩ => by
    refine ⟨h1, h2, ?_⟩
    rcases h3 with ⟨q, q2, sc1, X1, X2, R1, R2, Z1, Z2, D1, D2, a1, a2, a3, a4, a5, a6, a7, a8, a9, a10⟩ | ⟨a1, a0, a2⟩ | ⟨a1, a0, k, a2, a3, a4⟩
    · exact Or.inl ⟨q, q2, sc1, X1, X2, R1, R2, Z1, Z2, D1, D2, a1, a2, a3, a4, a5, a6, a7, a8, fun m => (hb m).trans (a9 m), a10⟩
    · refine Or.inr (Or.inl ⟨a1, a0, ?_⟩)
      rcases a2 with ⟨x, y⟩ | ⟨x, y⟩
      · exact Or.inl ⟨x, SGE_bc hb y⟩
      · exact Or.inr ⟨x, SGE_bc hb y⟩
    · refine Or.inr (Or.inr ⟨a1, a0, k, a2, a3, ?_⟩)
      rcases a4 with ⟨x, b, e1, t1, y1, y2, y3, y4⟩ | ⟨x, tk, R2, y1, y2, y3, y4⟩
      · exact Or.inl ⟨x, b, e1, t1, y1, y2, y3, SGE_bc hb y4⟩
      · exact Or.inr ⟨x, tk, R2, y1, y2, SGE_bc hb y3, y4⟩
theorem SGE_w : ∀ {l : List Nat} {am om : Int32} {p p2 : Nat} {sc sc2 : SCT} {X : Nat} {Rf Zf : Bool} {BC : MS → Prop}, (∀ j, p ≤ j → j < p2 → W2 j = W j) → SGE N K nm gd m2 lo n2 W l am om p p2 sc sc2 X Rf Zf BC am2 om2 → SGE N K nm gd m2 lo n2 W2 l am om p p2 sc sc2 X Rf Zf BC am2 om2
  | [], _, _, _, _, _, _, _, _, _, _, _, h => h
  | ν :: l, am, om, p, p2, sc, sc2, X, Rf, Zf, BC, hw, ⟨h1, h2, h3⟩ => by
    refine ⟨h1, h2, ?_⟩
    rcases h3 with ⟨q, q2, sc1, X1, X2, R1, R2, Z1, Z2, D1, D2, a1, a2, ⟨mi, li, ni, k, b1, b2⟩, a4, a5, a6⟩ | ⟨a1, a0, a2⟩ | ⟨a1, a0, k, a2, a3, a4⟩
    · have := (SGE_len a5).1
      exact Or.inl ⟨q, q2, sc1, X1, X2, R1, R2, Z1, Z2, D1, D2, a1, a2, ⟨mi, li, ni, k, EXN_w (fun j x y => hw j (by omega) (by omega)) b1, b2⟩, a4, SGE_w (fun j x y => hw j (by omega) y) a5, a6⟩
    · refine Or.inr (Or.inl ⟨a1, a0, ?_⟩)
      rcases a2 with ⟨x, y⟩ | ⟨x, y⟩
      · exact Or.inl ⟨x, SGE_w hw y⟩
      · exact Or.inr ⟨x, SGE_w hw y⟩
    · refine Or.inr (Or.inr ⟨a1, a0, k, a2, a3, ?_⟩)
      rcases a4 with ⟨x, b, e1, t1, y1, y2, y3, y4⟩ | ⟨x, tk, R2, y1, y2, y3, y4⟩
      · exact Or.inl ⟨x, b, e1, t1, y1, y2, y3, SGE_w hw y4⟩
      · exact Or.inr ⟨x, tk, R2, y1, y2, SGE_w hw y3, y4⟩
theorem SGE_hd : ∀ {l : List Nat} {am om : Int32} {p p2 : Nat} {sc sc2 : SCT} {X : Nat} {Rf Zf : Bool} {BC : MS → Prop}, SGE N K nm gd m2 lo n2 W l am om p p2 sc sc2 X Rf Zf BC am2 om2 → l ≠ [] → l.headD 0 ≤ l.getLastD 0 ∧ lo < l.headD 0 ∧ l.getLastD 0 ≤ n2
  | [], _, _, _, _, _, _, _, _, _, _, _, h => absurd rfl h
  | [ν], _, _, _, _, _, _, _, _, _, _, ⟨h1, _⟩, _ => ⟨Nat.le_refl _, h1.1, h1.2⟩
  | ν :: μ :: l, am, om, p, p2, sc, sc2, X, Rf, Zf, BC, ⟨h1, h2, h3⟩, _ => by
    have key : ∀ {am om : Int32} {p p2 : Nat} {sc sc2 : SCT} {X : Nat} {Rf Zf : Bool} {BC : MS → Prop}, SGE N K nm gd m2 lo n2 W (μ :: l) am om p p2 sc sc2 X Rf Zf BC am2 om2 → ν < μ → (ν :: μ :: l).headD 0 ≤ (ν :: μ :: l).getLastD 0 ∧ lo < (ν :: μ :: l).headD 0 ∧ (ν :: μ :: l).getLastD 0 ≤ n2 := fun hh c => by
      obtain ⟨r1, r2, r3⟩ := SGE_hd hh (fun z => by cases z)
      have r1 : μ ≤ (μ :: l).getLastD 0 := r1
      refine ⟨?_, h1.1, r3⟩
      show ν ≤ (μ :: l).getLastD 0
      omega
    rcases h3 with ⟨q, q2, sc1, X1, X2, R1, R2, Z1, Z2, D1, D2, a1, a2, ⟨mi, li, ni, k, b1, b2, b3, b4, b5, b6⟩, a4, a5, a6⟩ | ⟨a1, a0, a2⟩ | ⟨a1, a0, k, a2, a3, a4⟩
    · have : ni < μ := b6 (fun z => by cases z)
      exact key a5 (by omega)
    · have c : ν < μ := a0 (fun z => by cases z)
      rcases a2 with ⟨x, y⟩ | ⟨x, y⟩
      · exact key y c
      · exact key y c
    · have c : ν < μ := a0 (fun z => by cases z)
      rcases a4 with ⟨x, b, e1, t1, y1, y2, y3, y4⟩ | ⟨x, tk, R2, y1, y2, y3, y4⟩
      · exact key y4 c
      · exact key y3 c
theorem SGE_app {l2 : List Nat} {sc3 : SCT} {Rg Zg : Bool} {BD : MS → Prop} {am3 om3 : Int32} (hn : n2 ≤ n3) (hk : Kcc m2 m3) (hl2 : l2 ≠ [] → n2 < l2.headD 0) (hst : STB BD) (hlo : lo ≤ n2) : ∀ {l : List Nat} {am om : Int32} {p p2 : Nat} {sc sc2 : SCT} {X : Nat} {Rf Zf : Bool} {BC : MS → Prop}, (l ≠ [] → ∀ j, lo < j → j ≤ n2 → nod m3 j = nod m2 j ∧ (j ≠ l.getLastD 0 → m3.2.2.1 21 j = m2.2.2.1 21 j)) → (l ≠ [] → m3.2.2.1 21 (l.getLastD 0) = I ((l2.headD 0 : Nat) : Int)) → SGE N K nm gd m2 lo n2 W l am om p p2 sc sc2 X Rf Zf BC am2 om2 → SGE N K nm gd m3 lo n3 W l2 am2 om2 p2 q sc2 sc3 Y Rg Zg BD am3 om3 → SGE N K nm gd m3 lo n3 W (l ++ l2) am om p q sc sc3 (max X Y) (Rf || Rg) (Zf || Zg) (fun m => BC m ∨ BD m) am3 om3
  | [], am, om, p, p2, sc, sc2, X, Rf, Zf, BC, hs, hy, ⟨⟨z1, z2, z3, z4, z5, z6⟩, z7, z8⟩, hr => by
    subst z1
    subst z2
    subst z3
    subst z4
    subst z5
    subst z7
    subst z8
    rw [show max 0 Y = Y by omega, Bool.false_or, Bool.false_or]
    exact SGE_bc (fun m => ⟨fun z => z.elim (fun y => absurd y (z6 m)) id, Or.inr⟩) hr
  | ν :: l, am, om, p, p2, sc, sc2, X, Rf, Zf, BC, hs, hy, ⟨h1, h2, h3⟩, hr => by
    have hs := hs (fun z => by cases z)
    have hy := hy (fun z => by cases z)
    have rl := SGE_len hr
    have lastc : l ≠ [] → (ν :: l).getLastD 0 = l.getLastD 0 := fun z => by
      cases l with
      | nil => exact absurd rfl z
      | cons a b => rfl
    have last1 : l = [] → (ν :: l).getLastD 0 = ν := fun z => by rw [z]; rfl
    have rest : ∀ {am om : Int32} {p : Nat} {sc : SCT} {X : Nat} {Rf Zf : Bool} {BC : MS → Prop}, SGE N K nm gd m2 lo n2 W l am om p p2 sc sc2 X Rf Zf BC am2 om2 → SGE N K nm gd m3 lo n3 W (l ++ l2) am om p q sc sc3 (max X Y) (Rf || Rg) (Zf || Zg) (fun m => BC m ∨ BD m) am3 om3 := fun {am om p sc X Rf Zf BC} hh => SGE_app hn hk hl2 hst hlo (fun z j j1 j2 => by
        have := hs j j1 j2
        rw [lastc z] at this
        exact this) (fun z => by
        have := hy
        rw [lastc z] at this
        exact this) hh hr
    have ord : ∀ x, x ≤ n2 → (l ≠ [] → x < l.headD 0) → (l ++ l2 ≠ [] → x < (l ++ l2).headD 0) := fun x hx hl z => by
      cases l with
      | nil =>
        have := hl2 z
        show x < l2.headD 0
        omega
      | cons a b => exact hl (fun y => by cases y)
    have nν := (hs ν h1.1 h1.2).1
    have e21 : ∀ x, ν ≤ x → (l ≠ [] → x < l.headD 0 ∧ l.headD 0 ≤ l.getLastD 0) → m3.2.2.1 21 ν = I (((l ++ l2).headD 0 : Nat) : Int) := fun x hx hl => by
      cases l with
      | nil => exact hy
      | cons a b =>
        obtain ⟨q1, q2⟩ := hl (fun y => by cases y)
        have q1 : x < a := q1
        have q2 : a ≤ (a :: b).getLastD 0 := q2
        have l9 : (ν :: a :: b).getLastD 0 = (a :: b).getLastD 0 := rfl
        rw [(hs ν h1.1 h1.2).2 (by rw [l9]; omega)]
        exact h2
    have e16 : m3.2.2.1 16 ν = m2.2.2.1 16 ν := congrArg (fun z => z.1) nν
    have e17 : m3.2.2.1 17 ν = m2.2.2.1 17 ν := congrArg (fun z => z.2.1) nν
    have e18 : m3.2.2.1 18 ν = m2.2.2.1 18 ν := congrArg (fun z => z.2.2.1) nν
    rcases h3 with ⟨q', q2, sc1, X1, X2, R1, R2, Z1, Z2, D1, D2, a1, a2, ⟨mi, li, ni, k, b1, b2, b3, b4, b5, b6⟩, a4, a5, a6, a7, a8, a9, a10⟩ | ⟨a1, a0, a2⟩ | ⟨a1, a0, k, a2, a3, a4⟩
    · have hh := fun z => SGE_hd a5 z
      refine ⟨⟨h1.1, by omega⟩, e21 ni b5.2 (fun z => ⟨b6 z, (hh z).1⟩), Or.inl ⟨q', q2, sc1, X1, max X2 Y, R1, (R2 || Rg), Z1, (Z2 || Zg), D1, (fun m => D2 m ∨ BD m), ⟨a1.1, a1.2.1, by omega⟩, a2, ⟨mi, li, ni, k, b1, ⟨fun j j1 j2 => ?_, Kc_tr b2.2 hk⟩, ⟨b3.1, by omega⟩, ⟨e16.trans b4.1, b4.2⟩, b5, ord ni b3.2 b6⟩, a4, rest a5, by rw [a6]; omega, by rw [a7, Bool.or_assoc], by rw [a8, Bool.or_assoc], fun m => ?_, STB_or a10 hst⟩⟩
      · have hj := hs j (by omega) (by omega)
        refine ⟨hj.1.trans (b2.1 j j1 j2).1, fun z => (hj.2 ?_).trans ((b2.1 j j1 j2).2 z)⟩
        by_cases y : l = []
        · rw [last1 y]; exact z
        · rw [lastc y]
          have := b6 y
          have := (hh y).1
          omega
      · show (BC m ∨ BD m) ↔ D1 m ∨ (D2 m ∨ BD m)
        rw [a9, or_assoc]
    · rcases a2 with ⟨x, y⟩ | ⟨x, y⟩
      · exact ⟨⟨h1.1, by omega⟩, e21 ν (Nat.le_refl _) (fun z => ⟨a0 z, (SGE_hd y z).1⟩), Or.inr (Or.inl ⟨e16.trans a1, ord ν h1.2 a0, Or.inl ⟨e18.trans x, rest y⟩⟩)⟩
      · exact ⟨⟨h1.1, by omega⟩, e21 ν (Nat.le_refl _) (fun z => ⟨a0 z, (SGE_hd y z).1⟩), Or.inr (Or.inl ⟨e16.trans a1, ord ν h1.2 a0, Or.inr ⟨e18.trans x, rest y⟩⟩)⟩
    · rcases a4 with ⟨x, b, e1, t1, y1, y2, y3, y4⟩ | ⟨x, tk, R2, y1, y2, y3, y4⟩
      · exact ⟨⟨h1.1, by omega⟩, e21 ν (Nat.le_refl _) (fun z => ⟨a0 z, (SGE_hd y4 z).1⟩), Or.inr (Or.inr ⟨e16.trans a1, ord ν h1.2 a0, k, e18.trans a2, a3, Or.inl ⟨x, b, e1, t1, y1, y2, y3, rest y4⟩⟩)⟩
      · exact ⟨⟨h1.1, by omega⟩, e21 ν (Nat.le_refl _) (fun z => ⟨a0 z, (SGE_hd y3 z).1⟩), Or.inr (Or.inr ⟨e16.trans a1, ord ν h1.2 a0, k, e18.trans a2, a3, Or.inr ⟨x, tk, (R2 || Rg), e17.trans y1, y2, rest y3, by rw [y4, Bool.or_assoc]⟩⟩)⟩
theorem SCX_cut (h : SCX (e :: t) (e2 :: t2) X) (hb : e.1.length ≤ b) : SCX (e :: t) (cutS b (e2 :: t2)) X := by
  refine ⟨?_, h.2.1, h.2.2⟩
  show e.1 <+: e2.1.take b
  rw [List.prefix_take_iff]
  exact ⟨h.1, hb⟩
theorem HDs_cut : ∀ {a c : SCT}, HDs Nk K W p p2 a c → HDs Nk K W p p2 a (cutS b c)
  | [], [], h => h
  | _ :: _, _ :: _, h => h
  | [], _ :: _, h => h.elim
  | _ :: _, [], h => h.elim
theorem SOK_cut : ∀ {c : SCT}, SOK c → SOK (cutS b c)
  | [], h => h
  | e :: t, ⟨⟨h1, h2, h3, h4, h5, h6, h7⟩, h8⟩ => by
    have l := List.length_take_le b e.1
    refine ⟨⟨h1.sublist (List.take_sublist b e.1), fun x hx => h2 x (List.mem_of_mem_take hx), h3, ?_, h5, h6, h7⟩, h8⟩
    show (e.1.take b).length ≤ e.2.2
    rw [List.length_take]
    omega
theorem cut_all (h : e2.1.length ≤ b) : cutS b (e2 :: t2) = e2 :: t2 := by
  show (e2.1.take b, e2.2) :: t2 = e2 :: t2
  rw [List.take_of_length_le h]
def UNQ (sc2 : SCT) (w v : MS) : Prop := RNs v sc2 ∧ v.1 69 = w.1 69 ∧ (∀ k, k ∈ SMI → v.1 k = w.1 k) ∧ (∀ k, SMX k → k ≠ 60 → v.2.2.1 k = w.2.2.1 k) ∧ ∀ a : Nat, w.1 32 = I (a : Nat) → a ≤ 100000 → ∃ b : Nat, (v.1 32 = I (b : Nat) ∧ a ≤ b ∧ b ≤ 100000) ∧ NKP a w v ∧ ∀ j, a ≤ j → j < b → v.2.2.1 23 j ≠ 12 ∧ v.2.2.1 23 j ≠ 15
theorem unb_p (h : RNs w (e2 :: t2)) (hb : b ≤ 1400) : PK (fun v (_ : Unit) => UNQ (cutS b (e2 :: t2)) w v) (fm_M_unbind N w (I (b : Nat))) := by
  show PK _ (fb_M_unbind_0 N () w (I (b : Nat)))
  unfold fb_M_unbind_0 fb_M_unbind_41
  refine pk_ck (fun _ => ?_)
  have sl : t2.length + 1 ≤ 27 := h.2.1.2
  have s65 : (w.1 65).toNatClampNeg = t2.length := by
    rw [h.1]
    exact tnI (n := t2.length) rfl (by omega)
  have l2 := nd_len 1400 _ h.2.2.2.1.1 h.2.2.2.1.2.1
  have h60 : w.2.2.1 60 t2.length = I (e2.1.length : Nat) := h.2.2.1.1.1
  rw [s65, h60]
  rw [decI (by omega) (by omega) (by omega) (by omega)]
  by_cases z : e2.1.length ≤ b
  · rw [decide_eq_true (by omega), br_tq]
    refine pk_some ⟨by rw [cut_all z]; exact h, rfl, fun _ _ => rfl, fun _ _ _ => rfl, fun a e1 e3 => ⟨a, ⟨e1, Nat.le_refl _, e3⟩, NKP_rf, fun j h1 h2 => absurd h2 (by omega)⟩⟩
  · rw [decide_eq_false (by omega), br_fq]
    refine pk_bnd (pk_mo (node_s (w := w) (by decide)) (fun u r q => ?_))
    obtain ⟨s1, u69, -, a, ha, hr, h32, h23, hra⟩ := q
    refine pk_ck (fun _ => pk_lt (pk_ck (fun _ => pk_lt (pk_some ?_))))
    have nc : u.2.2.1 23 r.toNatClampNeg ≠ 12 ∧ u.2.2.1 23 r.toNatClampNeg ≠ 15 := by rw [hra, h23]; decide
    have s2 := SMS_B (x := I (b : Nat)) (k := 25) s1 (Or.inl rfl) nc
    have v69 : (upA u 25 (upd (u.2.2.1 25) r.toNatClampNeg (I (b : Nat)))).1 69 = w.1 69 := u69
    generalize upA u 25 (upd (u.2.2.1 25) r.toNatClampNeg (I (b : Nat))) = v at s2 v69
    have v65 : (v.1 65).toNatClampNeg = t2.length := by rw [s2.1 65 (by decide)]; exact s65
    rw [v65]
    have rv : RNs v (e2 :: t2) := RNs_e h (s2.1 65 (by decide)) (fun k h1 h2 => s2.2.1 k (by unfold SMX; omega))
    have n60 : ∀ k, k ≠ 60 → (upA v 60 (upd (v.2.2.1 60) t2.length (I (b : Nat)))).2.2.1 k = v.2.2.1 k := fun k hk => upA_no hk
    have ln : (e2.1.take b).length = b := by rw [List.length_take]; omega
    refine ⟨⟨rv.1, rv.2.1, ⟨⟨?_, fun k x hx => ?_, ?_, ?_, ?_⟩, ?_⟩, SOK_cut rv.2.2.2⟩, v69, s2.1, fun k hk h6 => by rw [n60 k h6]; exact s2.2.1 k hk, fun a e1 e3 => ?_⟩
    · show (upA v 60 _).2.2.1 60 t2.length = I ((e2.1.take b).length : Nat)
      rw [upA_at, upd_at, ln]
    · have hx : (e2.1.take b)[k]? = some x := hx
      rw [n60 59 (by decide)]
      refine rv.2.2.1.1.2.1 k x ?_
      rw [List.getElem?_take] at hx
      split at hx
      · exact hx
      · cases hx
    · rw [n60 63 (by decide)]; exact rv.2.2.1.1.2.2.1
    · rw [n60 61 (by decide)]; exact rv.2.2.1.1.2.2.2.1
    · rw [n60 64 (by decide)]; exact rv.2.2.1.1.2.2.2.2
    · refine RNl_fr rv.2.2.2.2 rv.2.2.1.2 (fun j hj => ?_) (fun j hj => ?_)
      · rw [n60 63 (by decide), n60 64 (by decide), upA_at, upd_no (by omega)]
        exact ⟨rfl, rfl, rfl⟩
      · rw [n60 59 (by decide), n60 61 (by decide)]
        exact ⟨rfl, rfl⟩
    · obtain ⟨b', g1, g2, g3⟩ := s2.2.2 a e1 e3
      refine ⟨b', g1, fun j hj => ?_, fun j j1 j2 => ?_⟩
      · rw [n60 23 (by decide), n60 25 (by decide), n60 26 (by decide), n60 27 (by decide)]; exact g2 j hj
      · rw [n60 23 (by decide)]; exact g3 j j1 j2
theorem STW_cut (h : STW Nk K p p2 (e :: t) (e2 :: t2) X W Rf Zf CL w v) (hb : e.1.length ≤ b) (k : UNQ (cutS b (e2 :: t2)) v u) : STW Nk K p p2 (e :: t) (cutS b (e2 :: t2)) X W Rf Zf CL w u := by
  obtain ⟨a1, a2, a3, a4, a5, a6, a7, a, c, a8, a9, a10⟩ := h
  obtain ⟨k1, k0, k2, k3, k4⟩ := k
  obtain ⟨f, g1, g2, g3⟩ := k4 c a8.2.1 a8.2.2.2
  have tl : tot (cutS b (e2 :: t2)) ≤ tot (e2 :: t2) := cutS_le
  refine ⟨k1, SCX_cut a2 hb, HDs_cut a3, ⟨by omega, a4.2⟩, by rw [k2 66 (by decide)]; exact a5, by rw [k2 72 (by decide)]; exact a6, ?_, a, f, ⟨a8.1, g1.1, by omega, g1.2.2⟩, fun x => ?_, NKP_tr a10 g2 a8.2.2.1⟩
  · refine WFE_tr a7 ⟨fun j hj => k2 j ?_, fun j hj => k3 j (Or.inl hj) (by omega), fun j _ => by rw [k3 74 (by unfold SMX; omega) (by decide)], fun j _ => by rw [k3 76 (by unfold SMX; omega) (by decide)], fun i i1 i2 j _ => by rw [k3 i (by unfold SMX; omega) (by omega)]⟩
    unfold SMI; simp only [List.mem_cons, List.not_mem_nil, or_false] at hj ⊢; omega
  · rw [CSY_split a8.2.2.1 g1.2.1, CSY_k g2, a9]
    constructor
    · rintro (z | ⟨j, j1, j2, -⟩)
      · exact z
      · exfalso
        rcases j2 with j2 | j2
        · exact (g3 j j1.1 j1.2).1 j2.1
        · exact (g3 j j1.1 j1.2).2 j2.1
    · exact Or.inl
theorem RLP_u (h : RLP m0 w0 T p m w) (k : UNQ sc2 w v) : RLP m0 w0 T p m v := by
  obtain ⟨h1, h2, h3, h4, h5, h6, h7⟩ := h
  obtain ⟨k1, k0, k2, k3, k4⟩ := k
  refine ⟨h1, Kt_tr h2 ⟨fun j hj => k2 j (by unfold TIN at hj; unfold SMI; simp only [List.mem_cons, List.not_mem_nil, or_false] at hj ⊢; omega), fun j hj => k3 j (by unfold TRW at hj; unfold SMX; simp only [List.mem_cons, List.not_mem_nil, or_false] at hj; omega) (by rintro rfl; revert hj; decide)⟩, h3, by rw [k0]; exact h4, h5, by rw [k2 70 (by decide)]; exact h6, by rw [k2 67 (by decide)]; exact h7⟩
theorem STQ_cut (h : STQ m0 w0 K T Nk gd mB wB p n (e :: t) s m w q n2 (e2 :: t2) X W Rf Zf CL) (hb : e.1.length ≤ b) (k : UNQ (cutS b (e2 :: t2)) w v) (hg : gd = true → Rf = false → tot (cutS b (e2 :: t2)) = tot (e :: t)) : STQ m0 w0 K T Nk gd mB wB p n (e :: t) s m v q n2 (cutS b (e2 :: t2)) X W Rf Zf CL := by
  obtain ⟨a1, a2, a3, a4, a5, a6, a7⟩ := h
  exact ⟨RLP_u a1 k, a2, a3, a4, STW_cut a5 hb k, hg, SNW_cut a7⟩
end
