/-! all FUNCTIONS, both -/
set_option maxRecDepth 100000
/-- no marks -/
def Q00 : Nat → Nat := fun _ => 0
/-- g FUNCTIONS are there -/
def PGd (m0 w0 : MS) (T : Nat) (nm : Nat → Nat) (fof cvr : Int → Int → Int) (g p q : Nat) (m w : MS) : Prop := ∃ (a : Nat) (Q : Nat → Nat), FRC m0 m ∧ (m.1 441 = I (a : Nat) ∧ 1 ≤ a ∧ a ≤ 23990) ∧ (m.1 712 = 0 ∧ m.1 713 = 0) ∧ (m.2.2.1 27 = m0.2.2.1 27 ∧ m.1 449 = m0.1 449) ∧ (XRn w0 T w p Q ∧ Q 56 = q) ∧ w.1 52 = I (g : Nat) ∧ ∀ (C : Nat → Int) (P R : Nat → Nat → Int) (J : Nat → Int64), FNx w0 fof cvr C P R J m w 1 a 0 q Q00 Q false [] [] [] → (∀ u, u < q → FUX C P R J u) ∧ ∀ f, f < g → ∃ e k1 : Nat, m.2.2.1 29 f = I (e : Nat) ∧ e ≤ 23990 ∧ w.2.2.1 50 f = I (k1 : Nat) ∧ k1 < 16000 ∧ w.2.2.1 48 f = m0.2.2.1 25 f ∧ ∃ g2, ZRs C R J (CRs C R J g2) 0 0 [] [] g2 e ((k1 : Nat) : Int)
section
variable {α β : Type} {m0 w0 m w m2 w2 m3 w3 v u mS wS : MS} {K nm Nk W : Nat → Nat} {N T f p p0 lo hi q r n n0 k k0 k1 kl i a a0 b cm cm2 q0 xa xb kc first g G : Nat} {Q Q0 Q2 : Nat → Nat} {sc sc2 : SCT} {idc fof cvr : Int → Int → Int} {RU : MS → Unit → MS → Unit → Prop}
/-- FUNCTIONS of the tree, one behind another -/
theorem FN_fn {u : MS} : ∀ {g p n q : Nat}, FNScK u g p n q → ∃ pp nn qq : Nat → Nat, (pp 0 = 0 ∧ nn 0 = 0 ∧ qq 0 = 0) ∧ (pp g = p ∧ nn g = n ∧ qq g = q) ∧ (∀ i, i ≤ g → 5 * qq i ≤ pp i ∧ nn i ≤ 2 * pp i ∧ pp i ≤ p) ∧ ∀ i, i < g → ∃ kc k first : Nat, (pp i + 6 ≤ pp (i + 1) ∧ A u 6 (pp (i + 1) - 1) = 28) ∧ RWcK u 1 27 (CLScK u) kc first (pp i) (pp (i + 1) - 1) (nn i) (nn (i + 1)) (qq i) (qq (i + 1)) ∧ (A u 27 i = ((first : Nat) : Int) ∧ A u 25 i = ((k : Nat) : Int) ∧ k ≤ 6 ∧ A u 24 i = A u 7 (pp i))
  | 0, p, n, q, h => by
    obtain ⟨rfl, rfl, rfl⟩ := h
    exact ⟨fun _ => 0, fun _ => 0, fun _ => 0, ⟨rfl, rfl, rfl⟩, ⟨rfl, rfl, rfl⟩, fun i _ => ⟨Nat.le_refl _, Nat.le_refl _, Nat.le_refl _⟩, fun i hi => absurd hi (by omega)⟩
  | g + 1, p, n, q, h => by
    obtain ⟨p0, n0, q0, kc, k, first, h1, h2, h3, h4⟩ := h
    obtain ⟨pp, nn, qq, ⟨a1, a2, a3⟩, ⟨b1, b2, b3⟩, c1, d1⟩ := FN_fn h1
    have hd := (RW_hdK CLS_bdK h3).1
    unfold HDc at hd
    have c0 := c1 g (Nat.le_refl _)
    rw [b1, b2, b3] at c0
    refine ⟨fun i => if i ≤ g then pp i else p, fun i => if i ≤ g then nn i else n, fun i => if i ≤ g then qq i else q, ⟨?_, ?_, ?_⟩, ⟨?_, ?_, ?_⟩, fun i hi => ?_, fun i hi => ?_⟩
    · show (if 0 ≤ g then pp 0 else p) = 0
      rw [if_pos (by omega)]; exact a1
    · show (if 0 ≤ g then nn 0 else n) = 0
      rw [if_pos (by omega)]; exact a2
    · show (if 0 ≤ g then qq 0 else q) = 0
      rw [if_pos (by omega)]; exact a3
    · show (if g + 1 ≤ g then pp (g + 1) else p) = p
      rw [if_neg (by omega)]
    · show (if g + 1 ≤ g then nn (g + 1) else n) = n
      rw [if_neg (by omega)]
    · show (if g + 1 ≤ g then qq (g + 1) else q) = q
      rw [if_neg (by omega)]
    · show 5 * (if i ≤ g then qq i else q) ≤ (if i ≤ g then pp i else p) ∧ (if i ≤ g then nn i else n) ≤ 2 * (if i ≤ g then pp i else p) ∧ (if i ≤ g then pp i else p) ≤ p
      by_cases z : i ≤ g
      · rw [if_pos z, if_pos z, if_pos z]
        have := c1 i z
        omega
      · rw [if_neg z, if_neg z, if_neg z]
        omega
    · show ∃ kc k first : Nat, ((if i ≤ g then pp i else p) + 6 ≤ (if i + 1 ≤ g then pp (i + 1) else p) ∧ A u 6 ((if i + 1 ≤ g then pp (i + 1) else p) - 1) = 28) ∧ RWcK u 1 27 (CLScK u) kc first (if i ≤ g then pp i else p) ((if i + 1 ≤ g then pp (i + 1) else p) - 1) (if i ≤ g then nn i else n) (if i + 1 ≤ g then nn (i + 1) else n) (if i ≤ g then qq i else q) (if i + 1 ≤ g then qq (i + 1) else q) ∧ (A u 27 i = ((first : Nat) : Int) ∧ A u 25 i = ((k : Nat) : Int) ∧ k ≤ 6 ∧ A u 24 i = A u 7 (if i ≤ g then pp i else p))
      rw [if_pos (show i ≤ g by omega), if_pos (show i ≤ g by omega), if_pos (show i ≤ g by omega)]
      by_cases z : i < g
      · rw [if_pos (show i + 1 ≤ g by omega), if_pos (show i + 1 ≤ g by omega), if_pos (show i + 1 ≤ g by omega)]
        exact d1 i z
      · have : i = g := by omega
        subst this
        rw [if_neg (by omega), if_neg (by omega), if_neg (by omega), b1, b2, b3]
        exact ⟨kc, k, first, h2, h3, h4⟩
set_option maxHeartbeats 1000000 in
/-- one FUNCTION -/
theorem fun_pp {A' : MS → Unit → Option (MS × Int32)} {B' : MS → Unit → Option (MS × Unit)} {RZ : MS → Int32 → MS → Unit → Prop} (c : CTZ m0 w0 K T nm Nk) (cv : CTV m0 w0 K T) (cx : CVX N m0 w0 K T idc fof cvr) (hT : T ≤ 1500) (hE : RWcK m0 1 27 (CLScK m0) kc first p0 (p - 1) n0 n q0 q) (h28 : p0 + 6 ≤ p ∧ A m0 6 (p - 1) = 28) (hpT : p ≤ T) (h27 : A m0 27 f = ((first : Nat) : Int)) (hn : n ≤ 8015) (hq : q ≤ 400) (hf : f < 666) (hG : PGd m0 w0 T nm fof cvr f p0 q0 m w) (h : ∀ m2 w2, PGd m0 w0 T nm fof cvr (f + 1) p q m2 w2 → PP RZ (A' m2 ()) (B' w2 ())) : PP RZ (bnd (jm_Cm_oneFunction N m (I (f : Nat))) A') (bnd (km_M_function0 N w) B') := by
  obtain ⟨a, Q, fr, ⟨h441, ha1, ha2⟩, ⟨h712, h713⟩, ⟨r27, i449⟩, ⟨hR, hq56⟩, h52, hM⟩ := hG
  have hd := (RW_hdK CLS_bdK hE).1
  unfold HDc at hd
  have e27 : m.2.2.1 27 f = I (first : Nat) := by
    rw [r27]
    show m0.2.2.1 27 f = _
    rw [I_of (m0.2.2.1 27 f)]
    exact congrArg I h27
  have h17 : A m0 17 first = ((p0 : Nat) : Int) := by
    cases kc with
    | zero => exact hE.elim
    | succ kc =>
      obtain ⟨m1, c1, s1, e, -⟩ := hE
      exact e.2.2.1
  have k28 : K (p - 1) = 28 := kA c (by omega) h28.2
  -- there
  unfold jm_Cm_oneFunction jb_Cm_oneFunction_0
  rw [i_nt2 (p := f) (by omega), e27, bnd_ck]
  refine l_ck (fun _ => ?_)
  rw [bnd_ck]
  refine l_ck (fun _ => ?_)
  rw [bnd_ck]
  refine l_ck (fun _ => ?_)
  rw [bnd_ck]
  refine l_ck (fun _ => ?_)
  rw [i_nt2 (p := first) (by omega), tre fr (by decide) h17, bnd_as2, I_of (m.2.2.1 24 f), I_of (m.2.2.1 25 f)]
  have e73 : ∀ B, PP RZ (bnd (jb_Cm_oneFunction_73 N (jg_Cm_oneFunction N N) m (I (f : Nat)) (I (p0 : Nat))) A') B := fun B => by
    unfold jb_Cm_oneFunction_73
    rw [bnd_as2]
    exact l_flt (tk := p0) (k := 4) rfl rfl (by omega) (by decide)
  refine l_bnd (pk_mo (cx.2.1 m _ _ fr) (fun v r hv => ?_))
  obtain ⟨rfl, -⟩ := hv
  rw [bnd_br]
  refine l_br (fun _ => ?_) (fun _ => e73 _)
  rw [bnd_ck]
  refine l_ck (fun _ => ?_)
  rw [bnd_ck]
  refine l_ck (fun _ => ?_)
  rw [bnd_as2, I_of (v.2.2.1 24 f), I_of (v.2.2.1 25 f)]
  refine l_bnd (pk_mo (cx.1 v _ _ fr) (fun v2 r2 hv => ?_))
  obtain ⟨rfl, -⟩ := hv
  rw [bnd_br]
  refine l_br (fun _ => ?_) (fun _ => e73 _)
  unfold jb_Cm_oneFunction_79
  rw [bnd_lt, lt_e, bnd_lt, lt_e, bnd_ck]
  refine l_ck (fun _ => ?_)
  rw [bnd_lt, lt_e, bnd_ck]
  refine l_ck (fun _ => ?_)
  rw [bnd_lt, lt_e, bnd_ck, i_nt2 (p := f) (by omega)]
  refine l_ck (fun _ => ?_)
  rw [bnd_lt, lt_e, bnd_ck, show (0 : Int32).toNatClampNeg = 0 from rfl]
  refine l_ck (fun _ => ?_)
  have x441 : ∀ g1 g2, (upA (upA (upI (upI v2 709 0) 706 0) 40 g1) 41 g2).1 441 = I (a : Nat) := fun _ _ => by
    show (upI (upI v2 709 0) 706 0).1 441 = _
    rw [upI_ne (by decide), upI_ne (by decide)]; exact h441
  rw [x441]
  -- the class's state
  have mi : ∀ g1 g2 g3 k, k ≠ 709 → k ≠ 706 → (upA (upA (upA (upI (upI v2 709 0) 706 0) 40 g1) 41 g2) 29 g3).1 k = v2.1 k := fun _ _ _ k k1 k2 => by
    show (upI (upI v2 709 0) 706 0).1 k = _
    rw [upI_ne k2, upI_ne k1]
  have mr : ∀ g1 g2 g3 k, k ≠ 40 → k ≠ 41 → k ≠ 29 → (upA (upA (upA (upI (upI v2 709 0) 706 0) 40 g1) 41 g2) 29 g3).2.2.1 k = v2.2.2.1 k := fun _ _ _ k k1 k2 k3 => by
    rw [upA_no k3, upA_no k2, upA_no k1]; rfl
  have m709 : ∀ g1 g2 g3, (upA (upA (upA (upI (upI v2 709 0) 706 0) 40 g1) 41 g2) 29 g3).1 709 = 0 := fun _ _ _ => by
    show (upI (upI v2 709 0) 706 0).1 709 = _
    rw [upI_ne (by decide), upI_at]
  have m706 : ∀ g1 g2 g3, (upA (upA (upA (upI (upI v2 709 0) 706 0) 40 g1) 41 g2) 29 g3).1 706 = 0 := fun _ _ _ => by
    show (upI (upI v2 709 0) 706 0).1 706 = _
    rw [upI_at]
  have m40 : ∀ g1 g2 g3, (upA (upA (upA (upI (upI v2 709 0) 706 0) 40 (upd g1 0 0)) 41 g2) 29 g3).2.2.1 40 0 = 0 := fun _ _ _ => by
    rw [upA_no (by decide), upA_no (by decide), upA_at, upd_at]
  have m41 : ∀ g1 g2 g3, (upA (upA (upA (upI (upI v2 709 0) 706 0) 40 g1) 41 (upd g2 0 0)) 29 g3).2.2.1 41 0 = 0 := fun _ _ _ => by
    rw [upA_no (by decide), upA_at, upd_at]
  have m29 : ∀ g1 g2 x, (upA (upA (upA (upI (upI v2 709 0) 706 0) 40 g1) 41 g2) 29 (upd ((upA (upA (upI (upI v2 709 0) 706 0) 40 g1) 41 g2).2.2.1 29) f x)).2.2.1 29 f = x ∧ ∀ j, j ≠ f → (upA (upA (upA (upI (upI v2 709 0) 706 0) 40 g1) 41 g2) 29 (upd ((upA (upA (upI (upI v2 709 0) 706 0) 40 g1) 41 g2).2.2.1 29) f x)).2.2.1 29 j = v2.2.2.1 29 j := fun g1 g2 x => ⟨by rw [upA_at, upd_at], fun j hj => by rw [upA_at, upd_no hj, upA_no (by decide), upA_no (by decide)]; rfl⟩
  have mi' := mi (upd ((upI (upI v2 709 0) 706 0).2.2.1 40) 0 0) (upd ((upA (upI (upI v2 709 0) 706 0) 40 (upd ((upI (upI v2 709 0) 706 0).2.2.1 40) 0 0)).2.2.1 41) 0 0)
  have mr' := mr (upd ((upI (upI v2 709 0) 706 0).2.2.1 40) 0 0) (upd ((upA (upI (upI v2 709 0) 706 0) 40 (upd ((upI (upI v2 709 0) 706 0).2.2.1 40) 0 0)).2.2.1 41) 0 0)
  have mi2 := mi' (upd ((upA (upA (upI (upI v2 709 0) 706 0) 40 (upd ((upI (upI v2 709 0) 706 0).2.2.1 40) 0 0)) 41 (upd ((upA (upI (upI v2 709 0) 706 0) 40 (upd ((upI (upI v2 709 0) 706 0).2.2.1 40) 0 0)).2.2.1 41) 0 0)).2.2.1 29) f (I (a : Nat)))
  have mr2 := mr' (upd ((upA (upA (upI (upI v2 709 0) 706 0) 40 (upd ((upI (upI v2 709 0) 706 0).2.2.1 40) 0 0)) 41 (upd ((upA (upI (upI v2 709 0) 706 0) 40 (upd ((upI (upI v2 709 0) 706 0).2.2.1 40) 0 0)).2.2.1 41) 0 0)).2.2.1 29) f (I (a : Nat)))
  have m7092 := m709 (upd ((upI (upI v2 709 0) 706 0).2.2.1 40) 0 0) (upd ((upA (upI (upI v2 709 0) 706 0) 40 (upd ((upI (upI v2 709 0) 706 0).2.2.1 40) 0 0)).2.2.1 41) 0 0) (upd ((upA (upA (upI (upI v2 709 0) 706 0) 40 (upd ((upI (upI v2 709 0) 706 0).2.2.1 40) 0 0)) 41 (upd ((upA (upI (upI v2 709 0) 706 0) 40 (upd ((upI (upI v2 709 0) 706 0).2.2.1 40) 0 0)).2.2.1 41) 0 0)).2.2.1 29) f (I (a : Nat)))
  have m7062 := m706 (upd ((upI (upI v2 709 0) 706 0).2.2.1 40) 0 0) (upd ((upA (upI (upI v2 709 0) 706 0) 40 (upd ((upI (upI v2 709 0) 706 0).2.2.1 40) 0 0)).2.2.1 41) 0 0) (upd ((upA (upA (upI (upI v2 709 0) 706 0) 40 (upd ((upI (upI v2 709 0) 706 0).2.2.1 40) 0 0)) 41 (upd ((upA (upI (upI v2 709 0) 706 0) 40 (upd ((upI (upI v2 709 0) 706 0).2.2.1 40) 0 0)).2.2.1 41) 0 0)).2.2.1 29) f (I (a : Nat)))
  have m402 := m40 ((upI (upI v2 709 0) 706 0).2.2.1 40) (upd ((upA (upI (upI v2 709 0) 706 0) 40 (upd ((upI (upI v2 709 0) 706 0).2.2.1 40) 0 0)).2.2.1 41) 0 0) (upd ((upA (upA (upI (upI v2 709 0) 706 0) 40 (upd ((upI (upI v2 709 0) 706 0).2.2.1 40) 0 0)) 41 (upd ((upA (upI (upI v2 709 0) 706 0) 40 (upd ((upI (upI v2 709 0) 706 0).2.2.1 40) 0 0)).2.2.1 41) 0 0)).2.2.1 29) f (I (a : Nat)))
  have m412 := m41 (upd ((upI (upI v2 709 0) 706 0).2.2.1 40) 0 0) ((upA (upI (upI v2 709 0) 706 0) 40 (upd ((upI (upI v2 709 0) 706 0).2.2.1 40) 0 0)).2.2.1 41) (upd ((upA (upA (upI (upI v2 709 0) 706 0) 40 (upd ((upI (upI v2 709 0) 706 0).2.2.1 40) 0 0)) 41 (upd ((upA (upI (upI v2 709 0) 706 0) 40 (upd ((upI (upI v2 709 0) 706 0).2.2.1 40) 0 0)).2.2.1 41) 0 0)).2.2.1 29) f (I (a : Nat)))
  have m292 := m29 (upd ((upI (upI v2 709 0) 706 0).2.2.1 40) 0 0) (upd ((upA (upI (upI v2 709 0) 706 0) 40 (upd ((upI (upI v2 709 0) 706 0).2.2.1 40) 0 0)).2.2.1 41) 0 0) (I (a : Nat))
  clear mi mr m709 m706 m40 m41 m29 mi' mr' x441
  generalize upA (upA (upA (upI (upI v2 709 0) 706 0) 40 (upd ((upI (upI v2 709 0) 706 0).2.2.1 40) 0 0)) 41 (upd ((upA (upI (upI v2 709 0) 706 0) 40 (upd ((upI (upI v2 709 0) 706 0).2.2.1 40) 0 0)).2.2.1 41) 0 0)) 29 (upd ((upA (upA (upI (upI v2 709 0) 706 0) 40 (upd ((upI (upI v2 709 0) 706 0).2.2.1 40) 0 0)) 41 (upd ((upA (upI (upI v2 709 0) 706 0) 40 (upd ((upI (upI v2 709 0) 706 0).2.2.1 40) 0 0)).2.2.1 41) 0 0)).2.2.1 29) f (I (a : Nat))) = m1 at mi2 mr2 m7092 m7062 m402 m412 m292
  have fr1 : FRC m0 m1 := ⟨fun k hk => by rw [mi2 k (by omega) (by omega)]; exact fr.1 k hk, fun k hk => by rw [mr2 k (by omega) (by omega) (by omega)]; exact fr.2 k hk⟩
  have X1 : XCS m0 nm m1 a 0 [([], [], 0)] false := ⟨⟨fr1, ⟨m7092, ⟨by decide, by decide⟩, m7062, by decide, m402, fun k x hk => (by cases hk), trivial⟩, ⟨by rw [mi2 441 (by decide) (by decide)]; exact h441, ha1, ha2⟩, by rw [mi2 713 (by decide) (by decide), h713]; rfl, m412, by decide, by decide⟩, by rw [mi2 712 (by decide) (by decide), h712]; rfl⟩
  have e271 : m1.2.2.1 27 f = I (first : Nat) := by rw [mr2 27 (by decide) (by decide) (by decide)]; exact e27
  rw [e271]
  -- here
  unfold km_M_function0 kb_M_function0_0
  rw [bnd_lt, lt_e, h52, i_suc, bnd_ck, i_nt2 (p := f) (by omega)]
  refine r_ck (fun _ => ?_)
  rw [bnd_lt, lt_e, bnd_ck]
  refine r_ck (fun _ => ?_)
  rw [bnd_lt, lt_e]
  have wi' : ∀ g1 g2 k, k ≠ 52 → (upA (upA (upI w 52 (I ((f + 1 : Nat) : Int))) 49 g1) 51 g2).1 k = w.1 k := fun _ _ k hk => by
    show (upI w 52 _).1 k = _
    rw [upI_ne hk]
  have w52 : ∀ g1 g2, (upA (upA (upI w 52 (I ((f + 1 : Nat) : Int))) 49 g1) 51 g2).1 52 = I ((f + 1 : Nat) : Int) := fun _ _ => by
    show (upI w 52 _).1 52 = _
    exact upI_at
  have wr : ∀ g1 g2 k, k ≠ 49 → k ≠ 51 → (upA (upA (upI w 52 (I ((f + 1 : Nat) : Int))) 49 g1) 51 g2).2.2.1 k = w.2.2.1 k := fun _ _ k k1 k2 => by
    rw [upA_no k2, upA_no k1]; rfl
  have wj : ∀ g1 g2, (upA (upA (upI w 52 (I ((f + 1 : Nat) : Int))) 49 g1) 51 g2).2.2.2 = w.2.2.2 := fun _ _ => rfl
  have w69 : (upI w 52 (I ((f + 1 : Nat) : Int))).1 69 = I (p0 : Nat) := by rw [upI_ne (by decide)]; exact hR.2.1.1
  rw [w69]
  have wi2 := wi' (upd ((upI w 52 (I ((f + 1 : Nat) : Int))).2.2.1 49) f (I (p0 : Nat))) (upd ((upA (upI w 52 (I ((f + 1 : Nat) : Int))) 49 (upd ((upI w 52 (I ((f + 1 : Nat) : Int))).2.2.1 49) f (I (p0 : Nat)))).2.2.1 51) f 0)
  have w522 := w52 (upd ((upI w 52 (I ((f + 1 : Nat) : Int))).2.2.1 49) f (I (p0 : Nat))) (upd ((upA (upI w 52 (I ((f + 1 : Nat) : Int))) 49 (upd ((upI w 52 (I ((f + 1 : Nat) : Int))).2.2.1 49) f (I (p0 : Nat)))).2.2.1 51) f 0)
  have wr2 := wr (upd ((upI w 52 (I ((f + 1 : Nat) : Int))).2.2.1 49) f (I (p0 : Nat))) (upd ((upA (upI w 52 (I ((f + 1 : Nat) : Int))) 49 (upd ((upI w 52 (I ((f + 1 : Nat) : Int))).2.2.1 49) f (I (p0 : Nat)))).2.2.1 51) f 0)
  have wj2 := wj (upd ((upI w 52 (I ((f + 1 : Nat) : Int))).2.2.1 49) f (I (p0 : Nat))) (upd ((upA (upI w 52 (I ((f + 1 : Nat) : Int))) 49 (upd ((upI w 52 (I ((f + 1 : Nat) : Int))).2.2.1 49) f (I (p0 : Nat)))).2.2.1 51) f 0)
  clear wi' w52 wr wj
  generalize upA (upA (upI w 52 (I ((f + 1 : Nat) : Int))) 49 (upd ((upI w 52 (I ((f + 1 : Nat) : Int))).2.2.1 49) f (I (p0 : Nat)))) 51 (upd ((upA (upI w 52 (I ((f + 1 : Nat) : Int))) 49 (upd ((upI w 52 (I ((f + 1 : Nat) : Int))).2.2.1 49) f (I (p0 : Nat)))).2.2.1 51) f 0) = w1 at wi2 w522 wr2 wj2
  have Y1 : XRn w0 T w1 p0 Q := by
    obtain ⟨h1, h2, h3, h4, h5⟩ := hR
    refine ⟨⟨fun k hk => ?_, fun k hk => ?_⟩, ⟨by rw [wi2 69 (by decide)]; exact h2.1, h2.2⟩, by rw [wi2 67 (by decide)]; exact h3, ⟨by rw [wi2 39 (by decide)]; exact h4.1, h4.2⟩, fun k hk => ?_⟩
    · rw [wi2 k (by rintro rfl; revert hk; decide)]; exact h1.1 k hk
    · have : k < 23 := by unfold TRW at hk; simp only [List.mem_cons, List.not_mem_nil, or_false] at hk; omega
      rw [wr2 k (by omega) (by omega)]; exact h1.2 k hk
    · rw [wi2 k (by rintro rfl; revert hk; decide)]; exact h5 k hk
  have gr : ∀ k, grp k ≠ 0 → k ≠ 49 ∧ k ≠ 51 := fun k g0 => ⟨fun e => g0 (by rw [e]; rfl), fun e => g0 (by rw [e]; rfl)⟩
  refine pp_bb ?_
  have hI0 : FNI m0 w0 T nm fof cvr f a q0 Q m1 w1 none m1 w1 p0 a 0 q0 Q [] := ⟨X1, ⟨Y1, hq56⟩, ⟨Nat.le_refl _, Nat.le_refl _, QLE_rf⟩, XFC_rf, ⟨fun _ _ _ _ => rfl, fun _ _ => rfl⟩, ⟨rfl, fun _ _ _ _ _ => rfl⟩, Or.inl ⟨rfl, rfl, rfl, rfl⟩⟩
  refine fnq_lp (xb := n) (r := q) (hi := p - 1) (f := f) (RU := fun m2 z w2 z2 => PP RZ (A' m2 z) (B' w2 z2)) c cv cx hn hq ⟨k28, by omega⟩ (by omega) (fun M M2 m2 w2 b cm2 Q2 sc2 kl hI => ?_) kc first p0 n0 q0 N N none m1 w1 a 0 Q [] hE hI0
  refine fn_fin c hI (fun _ m3 w3 hp3 hz => pp_end ?_)
  rw [show p - 1 + 1 = p by omega] at hz
  obtain ⟨a3, cm3, Q3, g1, ⟨g2, g2b⟩, ⟨g3, g3b, g3c⟩, g4, g5, g6, k1, g7, g8, g9, g10⟩ := hz
  refine h m3 w3 ⟨a3, Q3, XCS_fr g1, g1.1.2.2.1, ⟨of_decide_eq_true (by have := g1.2; exact this), of_decide_eq_true (by have := g1.1.2.2.2.1; exact this)⟩, ?_, ⟨g2, g2b⟩, g6.1.trans w522, fun C P R J fi => ?_⟩
  · exact ⟨by rw [g4.2.1 27 (by decide) (by decide) (by decide), mr2 27 (by decide) (by decide) (by decide)]; exact r27, by rw [g4.1 449 (by decide) (by decide), mi2 449 (by decide) (by decide)]; exact i449⟩
  · have le0 : QLE Q00 Q := fun _ _ => Nat.zero_le _
    have f1 : FNx w0 fof cvr C P R J v2 w 1 a 0 q0 Q00 Q false [] [] [] := FNx_mo fi ⟨Nat.le_refl _, g3⟩ ⟨Nat.le_refl _, g3b⟩ QLE_rf g3c (fun j _ z _ => by rw [g4.2.2.1 j z, mr2 23 (by decide) (by decide) (by decide)]) (fun k u z1 z2 _ z4 => by rw [g4.2.2.2.1 k u z1 z2 (Or.inl z4), mr2 k (by omega) (by omega) (by omega)]) (fun k n g0 _ _ _ n2 _ => by rw [g5.1 k n g0 n2, wr2 k (gr k g0).1 (gr k g0).2]) (fun n _ n2 => by rw [g5.2 n n2, wj2]) (fun n _ n2 => by rw [show A w3 30 n = A w 30 n from congrArg Int32.toInt ((g5.1 30 n (by decide) n2).trans (by rw [wr2 30 (by decide) (by decide)]))]) (fun j hm _ _ => hm) (fun j hm _ _ => hm)
    have f2 : FNx w0 fof cvr C P R J m3 w3 a a3 q0 q Q Q3 false [] [] [] := FNx_mo fi ⟨ha1, Nat.le_refl _⟩ ⟨Nat.zero_le _, Nat.le_refl _⟩ le0 QLE_rf (fun _ _ _ _ => rfl) (fun _ _ _ _ _ _ => rfl) (fun _ _ _ _ _ _ _ _ => rfl) (fun _ _ _ => rfl) (fun _ _ _ => rfl) (fun j hm _ _ => hm) (fun j hm _ _ => hm)
    obtain ⟨o1, o2⟩ := hM C P R J f1
    obtain ⟨n1, n2⟩ := g10 C P R J f2
    refine ⟨fun u hu => ?_, fun f' hf' => ?_⟩
    · by_cases z : u < q0
      · exact o1 u z
      · exact n1 u (by omega) hu
    · by_cases z : f' = f
      · subst z
        exact ⟨a, k1, by rw [g4.2.1 29 (by decide) (by decide) (by decide)]; exact m292.1, ha2, g8, g7, g9, n2⟩
      · obtain ⟨e, kk1, y1, y2, y3, y4, y5, y6⟩ := o2 f' (by omega)
        exact ⟨e, kk1, by rw [g4.2.1 29 (by decide) (by decide) (by decide), m292.2 f' z]; exact y1, y2, by rw [g6.2 50 f' (by decide) (by decide) z, wr2 50 (by decide) (by decide)]; exact y3, y4, by rw [g6.2 48 f' (by decide) (by decide) z, wr2 48 (by decide) (by decide)]; exact y5, y6⟩
end
