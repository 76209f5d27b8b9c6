set_option maxRecDepth 100000
def WCN (Nk K nm W : Nat → Nat) (p p2 : Nat) (sc : SCT) : Prop := ∀ j, p ≤ j → j < p2 → K j = 3 → (nm (Nk j) ≠ 0 → fnb (Nk j) sc = true → W j = lvx (Nk j) sc) ∧ (nm (Nk j) = 0 ∨ fnb (Nk j) sc = false → sc.length ≤ W j + 1)
def PNM (Nk K nm : Nat → Nat) (p p2 : Nat) : SCT → SCT → Nat → Prop
  | e :: t, e2 :: t2, X => ((X = 0 ∧ e2.1 = e.1) ∨ X = e2.1.length) ∧ (∀ x, x ∈ e2.1 → x ∈ e.1 ∨ (fnb x (e :: t) = false ∧ ∃ j, (p ≤ j ∧ j < p2) ∧ K j = 3 ∧ Nk j = x ∧ nm x ≠ 0)) ∧ ∀ j, p ≤ j → j < p2 → K j = 3 → nm (Nk j) ≠ 0 → fnb (Nk j) (e2 :: t2) = true
  | _, _, _ => False
def PZW (Nk K nm : Nat → Nat) (T p p2 : Nat) (sc : SCT) (w w2 : MS) (q : SCT → Nat → (Nat → Nat) → Prop) : Prop := ∃ (sc2 : SCT) (X : Nat) (W : Nat → Nat), WP w2 K T p2 ∧ RNs w2 sc2 ∧ SCX sc sc2 X ∧ HDs Nk K W p p2 sc sc2 ∧ (tot sc2 ≤ tot sc + (p2 - p) ∧ X ≤ 1400) ∧ w2.1 66 = lgS sc X (w.1 66) ∧ WFP w w2 ∧ WCN Nk K nm W p p2 sc ∧ PNM Nk K nm p p2 sc sc2 X ∧ q sc2 X W
def PTX (N : Nat) (w0 : MS) (K : Nat → Nat) (T : Nat) (nm Nk : Nat → Nat) (m2 : MS) (lo n2 ν p p2 o : Nat) (NC : Nat → Prop) (X : Nat) : Prop := ∃ isP : Bool, (isP = true → X = 0) ∧ (∀ (d : Nat) (m3 : MS), KPX lo n2 ν m2 m3 → PK (fun v r => v = m3 ∧ r = b2c isP) (hrc_Tr_isPattern N d m3 (I (ν : Nat)))) ∧ ∀ (d : Nat) (w : MS) (sc : SCT) (o' : Nat), WP w K T p → Ktc w0 w → w.1 67 = 0 → w.1 70 = I (o' : Nat) → o' ≤ o → RNs w sc → PK (fun w2 _ => (isP = true ∧ PZW Nk K nm T p p2 sc w w2 (fun sc2 X W => PTN N K nm m2 lo n2 ν false p p2 sc sc2 X W)) ∨ (isP = false ∧ (FLW w2 ∨ (w2.1 67 = 0 ∧ ∃ q, WP w2 K T q ∧ NC (K q))))) ((rc_M_rowPattern N d).2 w 0)
def NC0 (k : Nat) : Prop := 0 < rkK k ∨ k = 20
def NC1 (k : Nat) : Prop := NC0 k ∨ k = 30 ∨ k = 36
def EXZ (N : Nat) (m0 w0 : MS) (K : Nat → Nat) (T : Nat) (nm Nk : Nat → Nat) (p n : Nat) (gd : Bool) (sc : SCT) (o : Nat) (NC : Nat → Prop) (m w m2 : MS) (z : Int32 ⊕ Nat) (w2 : MS) (_ : Int32) : Prop := match z with
  | .inr _ => FLW w2
  | .inl ε => ∃ (p2 n2 ν : Nat) (sc2 : SCT) (X : Nat) (W : Nat → Nat) (Rf Zf : Bool) (CL : Int32 × Int32 × Int32 → Prop), ε = I (ν : Nat) ∧ (n < ν ∧ ν ≤ n2) ∧ p < p2 ∧ STQ m0 w0 K T Nk gd m w p n sc 1 m2 w2 p2 n2 sc2 X W Rf Zf CL ∧ m2.2.2.1 21 ν = 0 ∧ EXN N K nm gd m2 n n2 ν p p2 sc sc2 X W Rf Zf (BCo N CL) ∧ PTX N w0 K T nm Nk m2 n n2 ν p p2 o NC X ∧ ∃ k : Nat, m2.2.2.1 16 ν = I (k : Nat) ∧ k < 23 ∧ (k = 1 → K p = 1 ∧ p2 = p + 1 ∧ X = 0) ∧ (k ≠ 1 → K p = 1 → NC (K (p + 1))) ∧ ∃ tok : Nat, tok ≤ 4000 ∧ m2.2.2.1 17 ν = I (tok : Nat)
def EXS (N : Nat) (m0 w0 : MS) (K : Nat → Nat) (T : Nat) (nm Nk : Nat → Nat) (δ : Nat) (NC : Nat → Prop) (fc : MS → Option (MS × (Int32 ⊕ Nat))) (fw : MS → Option (MS × Int32)) : Prop := ∀ (m w : MS) (p n : Nat) (sc : SCT) (gd : Bool) (o : Nat), RLP m0 w0 T p m w → m.1 306 = I (n : Nat) → n ≤ 2 * p → RNs w sc → ND w → w.1 70 = I ((o + δ : Nat) : Int) → o + δ ≤ 25 → decide (w.1 73 = 0) = !gd → PP (EXZ N m0 w0 K T nm Nk p n gd sc o NC m w) (fc m) (fw w)
section
variable {m0 w0 m w v u m2 m3 w2 : MS} {K nm Nk W W2 : Nat → Nat} {T p n N q X Y n2 lo p2 ν μ x o o' : Nat} {sc sc1 sc2 sc3 t t2 : SCT} {e e2 : List Nat × List Nat × Nat} {NC ND : Nat → Prop} {S : SG_M_rowPattern} {k : Nat} {a b c g : Int32}
theorem lvx_cons : lvx x (e :: t) = if e.1.contains x then t.length else lvx x t := rfl
theorem BDs_lvx : ∀ {a b : SCT}, BDs a b → lvx x b = lvx x a
  | [], [], _ => rfl
  | e :: t, e2 :: t2, h => by rw [lvx_cons, lvx_cons, h.1.1, BDs_lvx h.2, (BDs_len h.2).1]
  | [], _ :: _, h => h.elim
  | _ :: _, [], h => h.elim
theorem lvx_up {a b : SCT} (h : SCX a b X) (s : SNW Y a b) (f : fnb x a = true) : lvx x b = lvx x a := by
  cases a with
  | nil => exact h.elim
  | cons e t =>
    cases b with
    | nil => exact h.elim
    | cons e2 t2 =>
      obtain ⟨h1, h2, h3⟩ := h
      rw [lvx_cons, lvx_cons, BDs_lvx h3, (BDs_len h3).1]
      have : e2.1.contains x = e.1.contains x := by
        cases z : e.1.contains x with
        | true => rw [List.contains_iff_mem] at z ⊢; exact h1.subset z
        | false =>
          cases y : e2.1.contains x with
          | false => rfl
          | true =>
            rw [List.contains_iff_mem] at y
            rcases s.1 x y with i | i
            · rw [← List.contains_iff_mem, z] at i; cases i
            · rw [f] at i; cases i
      rw [this]
theorem lvx_nw {a b : SCT} (h : SCX a b X) (f : fnb x a = false) (f2 : fnb x b = true) : a.length ≤ lvx x b + 1 := by
  cases a with
  | nil => exact Nat.zero_le _
  | cons e t =>
    cases b with
    | nil => exact h.elim
    | cons e2 t2 =>
      obtain ⟨h1, h2, h3⟩ := h
      rw [fnb_cons] at f f2
      rw [BDs_fnb h3] at f2
      cases z : e2.1.contains x with
      | true => rw [lvx_cons, z, if_pos rfl, (BDs_len h3).1]; exact Nat.le_refl _
      | false =>
        rw [z, Bool.false_or] at f2
        rw [f2, Bool.or_true] at f
        cases f
theorem PNM_sn (h : PNM Nk K nm p p2 sc sc2 X) : SNW X sc sc2 := by
  cases sc with
  | nil => exact h.elim
  | cons e t =>
    cases sc2 with
    | nil => exact h.elim
    | cons e2 t2 =>
      refine ⟨fun x hx => ?_, ?_⟩
      · rcases h.2.1 x hx with z | z
        · exact Or.inl z
        · exact Or.inr z.1
      · rcases h.1 with z | z
        · rw [z.2]; exact Nat.le_max_left _ _
        · rw [z]; exact Nat.le_max_right _ _
theorem WCN_tr (h : WCN Nk K nm W p q sc) (k : WCN Nk K nm W2 q p2 sc2) (hx : SCX sc sc2 X) (hs : SNW Y sc sc2) : WCN Nk K nm (mrg q W W2) p p2 sc := by
  intro j h1 h2 h3
  by_cases z : j < q
  · rw [mrg_l z]; exact h j h1 z h3
  · rw [mrg_r (by omega)]
    obtain ⟨k1, k2⟩ := k j (by omega) h2 h3
    refine ⟨fun a b => ?_, fun a => ?_⟩
    · rw [k1 a (SCX_fnb hx b), lvx_up hx hs b]
    · rw [← SCX_len hx]
      rcases a with a | a
      · exact k2 (Or.inl a)
      · cases y : fnb (Nk j) sc2 with
        | false => exact k2 (Or.inr y)
        | true =>
          by_cases i : nm (Nk j) = 0
          · exact k2 (Or.inl i)
          · rw [k1 i y, SCX_len hx]; exact lvx_nw hx a y
theorem PNM_tr (h : PNM Nk K nm p q sc sc2 X) (k : PNM Nk K nm q p2 sc2 sc3 Y) (h1 : p ≤ q) (h2 : q ≤ p2) (hx : SCX sc sc2 X) (hy : SCX sc2 sc3 Y) : PNM Nk K nm p p2 sc sc3 (max X Y) := by
  cases sc with
  | nil => exact h.elim
  | cons e t =>
    cases sc2 with
    | nil => exact h.elim
    | cons e2 t2 =>
      cases sc3 with
      | nil => exact k.elim
      | cons e3 t3 =>
        obtain ⟨a1, a2, a3⟩ := h
        obtain ⟨b1, b2, b3⟩ := k
        have l1 := hx.1.length_le
        have l2 := hy.1.length_le
        refine ⟨?_, fun x hx3 => ?_, fun j j1 j2 j3 j4 => ?_⟩
        · rcases b1 with ⟨b, c⟩ | b
          · rcases a1 with ⟨a, d⟩ | a
            · exact Or.inl ⟨by omega, c.trans d⟩
            · rw [c]; exact Or.inr (by omega)
          · refine Or.inr ?_
            rcases a1 with ⟨a, d⟩ | a
            · omega
            · omega
        · rcases b2 x hx3 with z | ⟨z, j, j1, j2⟩
          · rcases a2 x z with y | ⟨y, j, j1, j2⟩
            · exact Or.inl y
            · exact Or.inr ⟨y, j, ⟨j1.1, by omega⟩, j2⟩
          · refine Or.inr ⟨?_, j, ⟨by omega, j1.2⟩, j2⟩
            cases y : fnb x (e :: t) with
            | false => rfl
            | true => rw [SCX_fnb hx y] at z; cases z
        · by_cases z : j < q
          · exact SCX_fnb hy (a3 j j1 z j3 j4)
          · exact b3 j (by omega) j2 j3 j4
theorem PNM_0 (h : sc ≠ []) (g : ∀ j, p ≤ j → j < p2 → K j = 3 → nm (Nk j) ≠ 0 → fnb (Nk j) sc = true) : PNM Nk K nm p p2 sc sc 0 := by
  cases sc with
  | nil => exact absurd rfl h
  | cons e t => exact ⟨Or.inl ⟨rfl, rfl⟩, fun x hx => Or.inl hx, g⟩
theorem WCN_gap {q2 : Nat} (h : WCN Nk K nm W q q2 sc) (g1 : ∀ j, p ≤ j → j < q → K j ≠ 3) (g2 : ∀ j, q2 ≤ j → j < p2 → K j ≠ 3) : WCN Nk K nm W p p2 sc := fun j h1 h2 h3 => by
  by_cases z : j < q
  · exact absurd h3 (g1 j h1 z)
  · by_cases y : j < q2
    · exact h j (by omega) y h3
    · exact absurd h3 (g2 j (by omega) h2)
theorem PNM_gap {q2 : Nat} (h : PNM Nk K nm q q2 sc sc2 X) (hq : p ≤ q ∧ q2 ≤ p2) (g1 : ∀ j, p ≤ j → j < q → K j ≠ 3) (g2 : ∀ j, q2 ≤ j → j < p2 → K j ≠ 3) : PNM Nk K nm p p2 sc sc2 X := by
  cases sc with
  | nil => exact h.elim
  | cons e t =>
    cases sc2 with
    | nil => exact h.elim
    | cons e2 t2 =>
      obtain ⟨a1, a2, a3⟩ := h
      refine ⟨a1, fun x hx => ?_, fun j h1 h2 h3 h4 => ?_⟩
      · rcases a2 x hx with z | ⟨z, j, j1, j2⟩
        · exact Or.inl z
        · exact Or.inr ⟨z, j, ⟨by omega, by omega⟩, j2⟩
      · by_cases z : j < q
        · exact absurd h3 (g1 j h1 z)
        · by_cases y : j < q2
          · exact a3 j (by omega) y h3 h4
          · exact absurd h3 (g2 j (by omega) h2)
theorem pt_none (h : WP w K T p) (h67 : w.1 67 = 0) (hb : bPK (K p) = false) {v1 : Int32} : ∀ d, PK (fun w2 (_ : Int32) => FLW w2) ((rc_M_rowPattern N d).2 w v1)
  | 0 => pk_none
  | d + 1 => by
    show PK _ (fb_M_patternAt_0 N (rc_M_rowPattern N d) () w v1)
    rw [pAt_e h h67, hb, pAt_101, show decide (b2c false = 0) = true from rfl, br_tq]
    exact pk_bnd (fun v r z => pk_some (wrong_s (u0 := w) (by decide) v r z))
theorem KPX_16 (hn : nod m2 ν = (I (k : Nat), a, b, c, g)) (hlo : lo < ν) (hν : ν ≤ n2) (kx : KPX lo n2 ν m2 m3) : m3.2.2.1 16 ν = I (k : Nat) ∧ m3.2.2.1 18 ν = b ∧ m3.2.2.1 20 ν = g := by
  have := KPX_nod kx hlo hν
  rw [hn] at this
  unfold nod at this
  have h1 := congrArg (fun z => z.1) this
  have h2 := congrArg (fun z => z.2.2.1) this
  have h3 := congrArg (fun z => z.2.2.2.2) this
  exact ⟨h1, h2, h3⟩
theorem isP_k (hν : ν ≤ 8015) (hk : k < 23) (h1 : ¬ (1 ≤ k ∧ k ≤ 7)) (h2 : k ≠ 17) : ∀ (d : Nat) (m3 : MS), m3.2.2.1 16 ν = I (k : Nat) → PK (fun v r => v = m3 ∧ r = b2c false) (hrc_Tr_isPattern N d m3 (I (ν : Nat)))
  | 0, _, _ => pk_none
  | d + 1, m3, e0 => by
    show PK _ (hb_Tr_isPattern_0 N (hrc_Tr_isPattern N d) _ m3 (I (ν : Nat)))
    unfold hb_Tr_isPattern_0
    refine pk_ck (fun z => ?_)
    have fin : PK (fun v r => v = m3 ∧ r = b2c false) (ck (isb 0) (some (m3, (0 : Int32)))) := pk_ck (fun _ => pk_some ⟨rfl, rfl⟩)
    rw [tnI (n := ν) rfl (by omega), e0]
    rw [I_dn (a := k) (b := 1) (s := 1) (by omega) (by decide) rfl, decide_eq_false (p := k = 1) (by omega), br_fq]
    rw [I_dn (a := k) (b := 2) (s := 2) (by omega) (by decide) rfl, decide_eq_false (p := k = 2) (by omega), br_fq]
    rw [I_dn (a := k) (b := 3) (s := 3) (by omega) (by decide) rfl, decide_eq_false (p := k = 3) (by omega), br_fq]
    rw [I_dn (a := k) (b := 4) (s := 4) (by omega) (by decide) rfl, decide_eq_false (p := k = 4) (by omega), br_fq]
    rw [I_dn (a := k) (b := 5) (s := 5) (by omega) (by decide) rfl, decide_eq_false (p := k = 5) (by omega), br_fq]
    rw [I_dn (a := k) (b := 6) (s := 6) (by omega) (by decide) rfl, decide_eq_false (p := k = 6) (by omega), br_fq]
    rw [I_dn (a := k) (b := 7) (s := 7) (by omega) (by decide) rfl, decide_eq_false (p := k = 7) (by omega), br_fq]
    refine pk_br (fun _ => fin) (fun _ => pk_br (fun _ => fin) (fun _ => pk_br (fun _ => fin) (fun _ => pk_br (fun _ => fin) (fun _ => pk_br (fun _ => fin) (fun _ => pk_br (fun _ => fin) (fun _ => pk_br (fun _ => fin) (fun _ => pk_br (fun _ => fin) (fun _ => pk_br (fun _ => fin) (fun _ => ?_)))))))))
    rw [I_dn (a := k) (b := 17) (s := 17) (by omega) (by decide) rfl, decide_eq_false (p := k = 17) h2, br_fq]
    exact fin
theorem isP_y (hν : ν ≤ 8015) (hk : 1 ≤ k ∧ k ≤ 4) : ∀ (d : Nat) (m3 : MS), m3.2.2.1 16 ν = I (k : Nat) → PK (fun v r => v = m3 ∧ r = b2c true) (hrc_Tr_isPattern N d m3 (I (ν : Nat)))
  | 0, _, _ => pk_none
  | d + 1, m3, e0 => by
    show PK _ (hb_Tr_isPattern_0 N (hrc_Tr_isPattern N d) _ m3 (I (ν : Nat)))
    unfold hb_Tr_isPattern_0
    refine pk_ck (fun z => ?_)
    have fin : PK (fun v r => v = m3 ∧ r = b2c true) (ck (isb 1) (some (m3, (1 : Int32)))) := pk_ck (fun _ => pk_some ⟨rfl, rfl⟩)
    rw [tnI (n := ν) rfl (by omega), e0]
    refine pk_br (fun _ => fin) (fun y1 => pk_br (fun _ => fin) (fun y2 => pk_br (fun _ => fin) (fun y3 => ?_)))
    rw [I_dn (a := k) (b := 1) (s := 1) (by omega) (by decide) rfl] at y1
    rw [I_dn (a := k) (b := 2) (s := 2) (by omega) (by decide) rfl] at y2
    rw [I_dn (a := k) (b := 3) (s := 3) (by omega) (by decide) rfl] at y3
    have y1 := of_decide_eq_false y1
    have y2 := of_decide_eq_false y2
    have y3 := of_decide_eq_false y3
    rw [I_dn (a := k) (b := 4) (s := 4) (by omega) (by decide) rfl, decide_eq_true (p := k = 4) (by omega), br_tq]
    exact fin
theorem isP_5 {isP : Bool} (hν : ν ≤ 8015) : ∀ (d : Nat) (m3 : MS), m3.2.2.1 16 ν = I ((5 : Nat) : Int) → m3.2.2.1 18 ν = I (μ : Nat) → (∀ d, PK (fun v r => v = m3 ∧ r = b2c isP) (hrc_Tr_isPattern N d m3 (I (μ : Nat)))) → PK (fun v r => v = m3 ∧ r = b2c isP) (hrc_Tr_isPattern N d m3 (I (ν : Nat)))
  | 0, _, _, _, _ => pk_none
  | d + 1, m3, e0, e1, hc => by
    show PK _ (hb_Tr_isPattern_0 N (hrc_Tr_isPattern N d) _ m3 (I (ν : Nat)))
    unfold hb_Tr_isPattern_0
    refine pk_ck (fun z => ?_)
    rw [tnI (n := ν) rfl (by omega), e0, e1, show decide (I ((5 : Nat) : Int) = 1) = false from rfl, br_fq, show decide (I ((5 : Nat) : Int) = 2) = false from rfl, br_fq, show decide (I ((5 : Nat) : Int) = 3) = false from rfl, br_fq, show decide (I ((5 : Nat) : Int) = 4) = false from rfl, br_fq, show decide (I ((5 : Nat) : Int) = 5) = true from rfl, br_tq]
    exact pk_ck (fun _ => pk_bnd (pk_mo (hc d) (fun v r y => pk_ck (fun _ => pk_some y))))
theorem isP_17 (hν : ν ≤ 8015) (hμ : μ ≤ 8015) (hk : k < 23) : ∀ (d : Nat) (m3 : MS), m3.2.2.1 16 ν = I ((17 : Nat) : Int) → m3.2.2.1 18 ν = I (μ : Nat) → m3.2.2.1 16 μ = I (k : Nat) → PK (fun v r => v = m3 ∧ r = b2c (decide (k = 1))) (hrc_Tr_isPattern N d m3 (I (ν : Nat)))
  | 0, _, _, _, _ => pk_none
  | d + 1, m3, e0, e1, e2 => by
    show PK _ (hb_Tr_isPattern_0 N (hrc_Tr_isPattern N d) _ m3 (I (ν : Nat)))
    unfold hb_Tr_isPattern_0 hb_Tr_isPattern_110
    refine pk_ck (fun z => ?_)
    rw [tnI (n := ν) rfl (by omega), e0, e1, tnI (n := μ) rfl (by omega), e2, I_dn (a := k) (b := 1) (s := 1) (by omega) (by decide) rfl]
    have q : ∀ (j : Nat), j < 46 → j ≠ 17 → decide (I ((17 : Nat) : Int) = I (j : Nat)) = false := by decide
    rw [show decide (I ((17 : Nat) : Int) = 1) = false from rfl, br_fq, show decide (I ((17 : Nat) : Int) = 2) = false from rfl, br_fq, show decide (I ((17 : Nat) : Int) = 3) = false from rfl, br_fq, show decide (I ((17 : Nat) : Int) = 4) = false from rfl, br_fq, show decide (I ((17 : Nat) : Int) = 5) = false from rfl, br_fq, show decide (I ((17 : Nat) : Int) = 6) = false from rfl, br_fq, show decide (I ((17 : Nat) : Int) = 7) = false from rfl, br_fq, show decide (I ((17 : Nat) : Int) = 8) = false from rfl, br_fq, show decide (I ((17 : Nat) : Int) = 9) = false from rfl, br_fq, show decide (I ((17 : Nat) : Int) = 10) = false from rfl, br_fq, show decide (I ((17 : Nat) : Int) = 11) = false from rfl, br_fq, show decide (I ((17 : Nat) : Int) = 12) = false from rfl, br_fq, show decide (I ((17 : Nat) : Int) = 13) = false from rfl, br_fq, show decide (I ((17 : Nat) : Int) = 14) = false from rfl, br_fq, show decide (I ((17 : Nat) : Int) = 15) = false from rfl, br_fq, show decide (I ((17 : Nat) : Int) = 16) = false from rfl, br_fq, show decide (I ((17 : Nat) : Int) = 17) = true from rfl, br_tq]
    refine pk_ck (fun _ => pk_ck (fun _ => ?_))
    cases y : decide (k = 1) with
    | true => rw [br_tq]; exact pk_ck (fun _ => pk_some ⟨rfl, rfl⟩)
    | false => rw [br_fq]; exact pk_ck (fun _ => pk_some ⟨rfl, rfl⟩)
theorem PTX_no (hn : nod m2 ν = (I (k : Nat), a, b, c, g)) (hlo : lo < ν) (hν : ν ≤ n2) (hl : n2 ≤ 8015) (hk : k < 23) (h1 : ¬ (1 ≤ k ∧ k ≤ 7)) (h2 : k ≠ 17) (hb : bPK (K p) = false) : PTX N w0 K T nm Nk m2 lo n2 ν p p2 o NC X := ⟨false, fun z => Bool.noConfusion z, fun d m3 kx => isP_k (by omega) hk h1 h2 d m3 (KPX_16 hn hlo hν kx).1, fun d w sc o' hw _ h67 _ _ _ => pk_mo (pt_none hw h67 hb d) (fun _ _ z => Or.inr ⟨rfl, Or.inl z⟩)⟩
theorem PTX_der {m1 : MS} {l1 n1 : Nat} (h : PTX N w0 K T nm Nk m1 l1 n1 μ p q o ND Y) (hn : nod m2 ν = (I (k : Nat), a, b, c, g)) (hlo : lo < ν) (hν : ν ≤ n2) (hl : n2 ≤ 8015) (hk : k < 23) (h1 : ¬ (1 ≤ k ∧ k ≤ 7)) (h2 : k ≠ 17) (hND : ∀ k, ND k → NC k) (hq : NC (K q)) : PTX N w0 K T nm Nk m2 lo n2 ν p p2 o NC X := by
  obtain ⟨isP, -, -, h⟩ := h
  refine ⟨false, fun z => Bool.noConfusion z, fun d m3 kx => isP_k (by omega) hk h1 h2 d m3 (KPX_16 hn hlo hν kx).1, fun d w sc o' hw kt h67 h70 ho hr => pk_mo (h d w sc o' hw kt h67 h70 ho hr) ?_⟩
  rintro w2 r (⟨-, sc2, X, W, a1, a2, a3, a4, a5, a6, a7, a8⟩ | ⟨-, z | ⟨z0, q', z1, z2⟩⟩)
  · exact Or.inr ⟨rfl, Or.inr ⟨by rw [a7.1 67 (by decide)]; exact h67, q, a1, hq⟩⟩
  · exact Or.inr ⟨rfl, Or.inl z⟩
  · exact Or.inr ⟨rfl, Or.inr ⟨z0, q', z1, hND _ z2⟩⟩
theorem PTX_up {n3 l3 : Nat} (h : PTX N w0 K T nm Nk m2 lo n2 ν p p2 o NC X) (kx : KPX lo n2 ν m2 m3) (hn : n2 ≤ n3) (hl : l3 ≤ lo) (hND : ∀ k, NC k → ND k) : PTX N w0 K T nm Nk m3 l3 n3 ν p p2 o ND X := by
  obtain ⟨isP, h0, h1, h2⟩ := h
  refine ⟨isP, h0, fun d m4 k4 => h1 d m4 (KPX_tr kx k4 hn hl), fun d w sc o' hw kt h67 h70 ho hr => pk_mo (h2 d w sc o' hw kt h67 h70 ho hr) ?_⟩
  rintro w2 r (⟨z, sc2, X, W, a1, a2, a3, a4, a5, a6, a7, a8, a9, a10⟩ | ⟨z, y | ⟨z0, q', z1, z2⟩⟩)
  · exact Or.inl ⟨z, sc2, X, W, a1, a2, a3, a4, a5, a6, a7, a8, a9, PTN_up kx hn hl a10⟩
  · exact Or.inr ⟨z, Or.inl y⟩
  · exact Or.inr ⟨z, Or.inr ⟨z0, q', z1, hND _ z2⟩⟩
theorem I_25 (h : w.1 70 = I (o' : Nat)) (ho : o' < 25) : w.1 70 < 25 := by
  rw [h, show (25 : Int32) = I ((25 : Nat) : Int) from rfl]
  exact (I_lt (by omega) (by omega) (by omega) (by omega)).mpr (by omega)
theorem PTX_leaf (hn : nod m2 ν = (I (K p : Nat), a, b, c, g)) (hlo : lo < ν) (hν : ν ≤ n2) (hl : n2 ≤ 8015) (hk : K p = 1 ∨ K p = 2 ∨ K p = 4) (hT : p < T) (ho : o < 25) : PTX N w0 K T nm Nk m2 lo n2 ν p (p + 1) o NC 0 := by
  refine ⟨true, fun _ => rfl, fun d m3 kx => isP_y (k := K p) (by omega) (by omega) d m3 (KPX_16 hn hlo hν kx).1, fun d w sc o' hw kt h67 h70 ho2 hr => ?_⟩
  cases d with
  | zero => exact pk_none
  | succ d =>
    have hb : bPK (K p) = true := by rcases hk with z | z | z <;> rw [z] <;> rfl
    show PK _ (fb_M_patternAt_0 N (rc_M_rowPattern N d) () w 0)
    rw [pAt_e hw h67, hb, pAt_101, show decide (b2c true = 0) = false from rfl, br_fq, if_neg (by omega)]
    refine pk_mo (pB_leaf (N := N) (v1 := 0) hw (I_25 h70 (by omega)) hr hk hT) (fun w2 r q => ?_)
    have k3 : ∀ j, p ≤ j → j < p + 1 → K j ≠ 3 := fun j h1 h2 => by
      rw [show j = p by omega]; omega
    refine Or.inl ⟨rfl, sc, 0, fun _ => 32, q.1, q.2.1, SCX_0 hr, HDs_no (fun j h1 h2 h3 => absurd h3 (k3 j h1 h2)), ⟨by omega, by omega⟩, by rw [lgS_0]; exact q.2.2.1, WNQ_f q, fun j h1 h2 h3 => absurd h3 (k3 j h1 h2), PNM_0 (fun z => by have := hr.2.1.1; rw [z] at this; exact absurd this (by decide)) (fun j h1 h2 h3 => absurd h3 (k3 j h1 h2)), ?_⟩
    exact ptn_leaf (k := K p) hn hlo hν hl hk k3
theorem PTX_name {f : Int32} (ct : CTZ m0 w0 K T nm Nk) (hn : nod m2 ν = (I ((3 : Nat) : Int), I (p : Nat), I (nm (Nk p) : Nat), c, f)) (hlo : lo < ν) (hν : ν ≤ n2) (hl : n2 ≤ 8015) (hk : K p = 3) (hT : p < T) (ho : o < 25) : PTX N w0 K T nm Nk m2 lo n2 ν p (p + 1) o NC 0 := by
  refine ⟨true, fun _ => rfl, fun d m3 kx => isP_y (k := 3) (by omega) (by omega) d m3 (KPX_16 hn hlo hν kx).1, fun d w sc o' hw kt h67 h70 ho2 hr => ?_⟩
  cases d with
  | zero => exact pk_none
  | succ d =>
    have hb : bPK (K p) = true := by rw [hk]; rfl
    have t4 := ct.1.1.1
    obtain ⟨a7, b7, hx, hu⟩ := ct.2.2.2 p hT hk
    have w7 : w.2.2.1 7 p = I (Nk p : Nat) := by rw [kt.2 7 (by decide)]; exact b7
    have hu2 : UND w (Nk p) ↔ nm (Nk p) = 0 := by
      unfold UND at hu ⊢
      rw [kt.2 16 (by decide), kt.2 15 (by decide)]
      exact hu
    show PK _ (fb_M_patternAt_0 N (rc_M_rowPattern N d) () w 0)
    rw [pAt_e hw h67, hb, pAt_101, show decide (b2c true = 0) = false from rfl, br_fq]
    cases sc with
    | nil => exact absurd hr.2.1.1 (by decide)
    | cons e t =>
      have sl : t.length + 1 ≤ 27 := hr.2.1.2
      refine pk_mo (pB_name (N := N) (nm := nm) (own := false) hw (I_25 h70 (by omega)) hr hk hT w7 hx hu2 rfl) (fun w2 r q => ?_)
      have jp : ∀ j, p ≤ j → j < p + 1 → j = p := fun j a b => by omega
      rcases q with ⟨q1, q⟩ | ⟨q1, q⟩
      · rw [q1] at hn
        refine Or.inl ⟨rfl, e :: t, 0, fun _ => 32, q.1, q.2.1, SCX_rf, HDs_no (fun j _ _ _ => ⟨by show t.length + 1 ≤ 32 + 1; omega, Nat.le_refl _⟩), ⟨by omega, by omega⟩, by rw [lgS_0]; exact q.2.2.1, WNQ_f q, fun j h1 h2 h3 => ?_, PNM_0 (fun z => by cases z) (fun j h1 h2 h3 h4 => ?_), ?_⟩
        · rw [jp j h1 h2]; exact ⟨fun z => absurd q1 z, fun _ => by show t.length + 1 ≤ 32 + 1; omega⟩
        · rw [jp j h1 h2] at h4; exact absurd q1 h4
        · exact ptn_und hn hlo hν hl (by omega) hk rfl
      · have dl := rfP_d (Nk := Nk) (K := K) (W := fun _ => rfL false (Nk p) (e :: t)) (p := p) (x := Nk p) (own := false) hr.2.2.2 (by omega) rfl hk rfl
        have xl := rfX_le (own := false) hr.2.2.2 hx
        refine Or.inl ⟨rfl, rfP false (Nk p) (e :: t), rfX false (Nk p) (e :: t), fun _ => rfL false (Nk p) (e :: t), q.1, q.2.1, dl.1, dl.2, ⟨by omega, xl.1⟩, q.2.2.1, WNQ_f q, fun j h1 h2 h3 => ?_, ?_, ?_⟩
        · rw [jp j h1 h2]
          refine ⟨fun _ z => (rf_y z).2.2, fun z => ?_⟩
          rcases z with z | z
          · exact absurd z q1
          · show t.length + 1 ≤ rfL false (Nk p) (e :: t) + 1
            rw [(rf_n z).2.2]; omega
        · cases hf : fnb (Nk p) (e :: t) with
          | true =>
            rw [(rf_y hf).1, (rf_y hf).2.1]
            have bd := hld_BD (x := Nk p) (sc := e :: t)
            have fb := BDs_fnb (x := Nk p) bd
            cases hh : hld (Nk p) (e :: t) with
            | nil => rw [hh] at bd; exact bd.elim
            | cons e2 t2 =>
              rw [hh] at bd fb
              refine ⟨Or.inl ⟨rfl, bd.1.1⟩, fun x hx2 => Or.inl (bd.1.1 ▸ hx2), fun j h1 h2 _ _ => ?_⟩
              rw [jp j h1 h2, fb, hf]
          | false =>
            rw [(rf_n hf).1, (rf_n hf).2.1]
            refine ⟨Or.inr ?_, fun x hx2 => ?_, fun j h1 h2 _ _ => ?_⟩
            · show e.1.length + 1 = (e.1 ++ [Nk p]).length
              rw [List.length_append, List.length_singleton]
            · have hx2 : x ∈ e.1 ++ [Nk p] := hx2
              rw [List.mem_append, List.mem_singleton] at hx2
              rcases hx2 with z | z
              · exact Or.inl z
              · rw [z]; exact Or.inr ⟨hf, p, ⟨Nat.le_refl _, by omega⟩, hk, rfl, q1⟩
            · rw [jp j h1 h2, fnb_cons]
              have : (e.1 ++ [Nk p]).contains (Nk p) = true := by rw [List.contains_iff_mem]; simp
              show ((e.1 ++ [Nk p]).contains (Nk p) || fnb (Nk p) t) = true
              rw [this]; rfl
        · exact ptn_name ct.2.2.1 hn hlo hν hl hr.2.2.2 hx q1 (by omega) hk rfl
end
