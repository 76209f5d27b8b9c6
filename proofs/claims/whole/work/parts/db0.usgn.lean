/-! what compiling an E does to names, there alone: units with signs between -/
set_option maxRecDepth 100000
/-- units and signs so far: S waits -/
def USG (m0 : MS) (nm : Nat → Nat) (t : SCT) (g : Bool) (lo0 a0 cm0 : Nat) (e0 : List Nat × List Nat × Nat) (mS : MS) : List Nat → Nat → Nat → Nat → List Nat × List Nat × Nat → MS → Int32 → Int32 → Int32 → Int32 → Prop
  | [], p, a, cm, e, m, _, _, _, _ => lo0 ≤ p ∧ UXQ m0 nm t g (p - lo0) mS a0 cm0 e0 m a cm e
  | s :: S, p, a, cm, e, m, v2, v3, v4, v5 => ((3 ≤ rnkc (A m0 6 s) ∨ A m0 6 s = 6 ∨ A m0 6 s = 16) ∧ ∀ s', s' ∈ S → rnkc (A m0 6 s') < rnkc (A m0 6 s) ∨ (rnkc (A m0 6 s') = 4 ∧ rnkc (A m0 6 s) = 4)) ∧ ∃ (a1 cm1 : Nat) (e1 : List Nat × List Nat × Nat) (m1 : MS) (v2' v3' v4' v5' : Int32), USG m0 nm t g lo0 a0 cm0 e0 mS S s a1 cm1 e1 m1 v2' v3' v4' v5' ∧ s ≤ p ∧
      ((3 ≤ rnkc (A m0 6 s) ∧ UXQ m0 nm t g (p - s) m1 a1 cm1 e1 m a cm e ∧ (v2' = v2 ∧ v3' = v3 ∧ v4' = v4 ∧ v5' = v5)) ∨
       (∃ m2, UXQ m0 nm t g 0 m1 a1 cm1 e1 m2 (a1 + 2) cm1 e1 ∧ m2.2.2.1 23 (a1 + 1) = 0 ∧ UXQ m0 nm t g (p - s) m2 (a1 + 2) cm1 e1 m a cm e ∧ ((A m0 6 s = 6 ∧ v2 = I ((a1 + 1 : Nat) : Int) ∧ v3 = I (tot (e1 :: t) : Nat) ∧ v4' = v4 ∧ v5' = v5) ∨ (A m0 6 s = 16 ∧ v4 = I ((a1 + 1 : Nat) : Int) ∧ v5 = I (tot (e1 :: t) : Nat) ∧ v2' = v2 ∧ v3' = v3))))
section
variable {α β : Type} {m0 w0 m w m2 w2 m3 w3 m4 v u w1 mS wS : MS} {K nm Nk W W2 : Nat → Nat} {N T D d o a a0 a2 b b0 c cm cm0 cm2 cm3 cm4 p q q0 r s lo lo0 mid hi i j f f2 n n1 k k2 kk KK p2 σ tk x xa xb xc mm M m1 lv y cl l2 : Nat} {sc sc0 sc2 sc3 t t2 : SCT} {e e0 e2 e3 e4 : List Nat × List Nat × Nat} {g g2 own lst : Bool} {S : List Nat} {v2 v3 v4 v5 x2 x3 x4 x5 v1 xw : Int32} {RU : MS → α → MS → β → Prop} {B : Option (MS × β)} {fc : MS → Unit → Option (MS × α)} {G : MS → Int32 → Int32 → Int32 → Int32 → Int32 → Option (MS × Unit)} {SF : SF_Cm_fun}
theorem USG_now (h : USG m0 nm t g lo0 a0 cm0 e0 mS S p a cm e m v2 v3 v4 v5) : XCS m0 nm m a cm (e :: t) g ∧ SOK (e :: t) := by
  cases S with
  | nil => exact ⟨h.2.1, h.2.2.1⟩
  | cons s S =>
    obtain ⟨-, a1, cm1, e1, m1, v2', v3', v4', v5', -, -, h⟩ := h
    rcases h with ⟨-, h, -⟩ | ⟨m2, -, -, h, -⟩
    · exact ⟨h.1, h.2.1⟩
    · exact ⟨h.1, h.2.1⟩
theorem USG_ext (h : USG m0 nm t g lo0 a0 cm0 e0 mS S p a cm e m v2 v3 v4 v5) (k : UXQ m0 nm t g (p2 - p) m a cm e m3 b cm3 e3) (hp : p ≤ p2) : USG m0 nm t g lo0 a0 cm0 e0 mS S p2 b cm3 e3 m3 v2 v3 v4 v5 := by
  cases S with
  | nil =>
    obtain ⟨h1, h2⟩ := h
    exact ⟨by omega, UXQ_mo (UXQ_tr h2 k) (by omega)⟩
  | cons s S =>
    obtain ⟨h0, a1, cm1, e1, m1, v2', v3', v4', v5', h1, h2, h⟩ := h
    refine ⟨h0, a1, cm1, e1, m1, v2', v3', v4', v5', h1, by omega, ?_⟩
    rcases h with ⟨h3, h4, h5⟩ | ⟨m2, h3, h4, h5, h6⟩
    · exact Or.inl ⟨h3, UXQ_mo (UXQ_tr h4 k) (by omega), h5⟩
    · exact Or.inr ⟨m2, h3, h4, UXQ_mo (UXQ_tr h5 k) (by omega), h6⟩
theorem USG_nu : ∀ {S : List Nat} {p a cm : Nat} {e : List Nat × List Nat × Nat} {m : MS} {v2 v3 v4 v5 : Int32}, USG m0 nm t g lo0 a0 cm0 e0 mS S p a cm e m v2 v3 v4 v5 → tot (e :: t) ≤ tot (e0 :: t) + (p - lo0) ∧ lo0 ≤ p
  | [], _, _, _, _, _, _, _, _, _, h => ⟨UXQ_nu h.2, h.1⟩
  | s :: S, p, a, cm, e, m, v2, v3, v4, v5, h => by
    obtain ⟨-, a1, cm1, e1, m1, v2', v3', v4', v5', h1, h2, h⟩ := h
    have r1 := USG_nu h1
    rcases h with ⟨-, h, -⟩ | ⟨m2, -, -, h, -⟩
    · have := UXQ_nu h
      omega
    · have := UXQ_nu h
      omega
theorem USG_v : ∀ {S : List Nat} {p a cm : Nat} {e : List Nat × List Nat × Nat} {m : MS} {v2 v3 v4 v5 x2 x3 x4 x5 : Int32}, ((∀ s, s ∈ S → A m0 6 s ≠ 6) ∨ (x2 = v2 ∧ x3 = v3)) → ((∀ s, s ∈ S → A m0 6 s ≠ 16) ∨ (x4 = v4 ∧ x5 = v5)) → USG m0 nm t g lo0 a0 cm0 e0 mS S p a cm e m v2 v3 v4 v5 → USG m0 nm t g lo0 a0 cm0 e0 mS S p a cm e m x2 x3 x4 x5
  | [], _, _, _, _, _, _, _, _, _, _, _, _, _, _, _, h => h
  | s :: S, p, a, cm, e, m, v2, v3, v4, v5, x2, x3, x4, x5, n6, n16, h => by
    obtain ⟨h0, a1, cm1, e1, m1, v2', v3', v4', v5', h1, h2, h⟩ := h
    have n6' : (∀ s, s ∈ S → A m0 6 s ≠ 6) ∨ (x2 = v2 ∧ x3 = v3) := n6.imp (fun z s hs => z s (List.mem_cons_of_mem _ hs)) id
    have n16' : (∀ s, s ∈ S → A m0 6 s ≠ 16) ∨ (x4 = v4 ∧ x5 = v5) := n16.imp (fun z s hs => z s (List.mem_cons_of_mem _ hs)) id
    rcases h with ⟨g1, g2, g4⟩ | ⟨m2, g1, g2, g3, g6⟩
    · obtain ⟨rfl, rfl, rfl, rfl⟩ := g4
      exact ⟨h0, a1, cm1, e1, m1, x2, x3, x4, x5, USG_v n6' n16' h1, h2, Or.inl ⟨g1, g2, rfl, rfl, rfl, rfl⟩⟩
    · rcases g6 with ⟨k6, e2, e3, rfl, rfl⟩ | ⟨k16, e2, e3, rfl, rfl⟩
      · have y6 : x2 = v2 ∧ x3 = v3 := n6.resolve_left (fun z => z s List.mem_cons_self k6)
        exact ⟨h0, a1, cm1, e1, m1, v2', v3', x4, x5, USG_v (Or.inr ⟨rfl, rfl⟩) n16' h1, h2, Or.inr ⟨m2, g1, g2, g3, Or.inl ⟨k6, y6.1.trans e2, y6.2.trans e3, rfl, rfl⟩⟩⟩
      · have y16 : x4 = v4 ∧ x5 = v5 := n16.resolve_left (fun z => z s List.mem_cons_self k16)
        exact ⟨h0, a1, cm1, e1, m1, x2, x3, v4', v5', USG_v n6' (Or.inr ⟨rfl, rfl⟩) h1, h2, Or.inr ⟨m2, g1, g2, g3, Or.inr ⟨k16, y16.1.trans e2, y16.2.trans e3, rfl, rfl⟩⟩⟩
theorem USG_ord (h : USG m0 nm t g lo0 a0 cm0 e0 mS S p a cm e m v2 v3 v4 v5) (hc : CLOk m0 y S) : ∀ s', s' ∈ S → rnkc (A m0 6 s') < rnkc (A m0 6 y) ∨ (rnkc (A m0 6 s') = 4 ∧ rnkc (A m0 6 y) = 4) := by
  cases S with
  | nil => intro s' hs'; cases hs'
  | cons s S =>
    have cl := hc s S rfl
    have p7 := h.1.2
    intro s' hs'
    rcases List.mem_cons.mp hs' with rfl | z
    · exact cl
    · have := p7 s' z
      omega
/-- what stands between two units -/
theorem u_join (h : UXQ m0 nm t g k m a cm e m2 b cm2 e2) (h1 : v1 = I (tk : Nat)) (h4 : tk ≤ 4000) (hh : ∀ m3 b3, UXQ m0 nm t g k m a cm e m3 b3 cm2 e2 → PP RU (fc m3 ()) B) : PP RU (bnd (jm_Cm_joining N m2 xw v1) fc) B := by
  have hC := h.1
  have e106 : ∀ {m3 b3}, UXQ m0 nm t g k m a cm e m3 b3 cm2 e2 → PP RU (bnd (jb_Cm_joining_106 N () m3 xw) fc) B := fun {m3 b3} h3 => by
    unfold jb_Cm_joining_106
    rw [bnd_as2]
    refine u_put h3 (fun _ h5 => ?_)
    rw [bnd_s]
    exact hh _ _ h5
  have e9 : ∀ z : Int32, PP RU (bnd (bnd (jm_Co_put N m2 z) (fun u5 r5 => jb_Cm_joining_106 N () u5 xw)) fc) B := fun z => by
    rw [bnd_as2]
    exact u_put h (fun _ h5 => e106 h5)
  have e10 : PP RU (bnd (bnd (jm_Cm_notInGuard N m2 v1) (fun u19 r19 => bnd (jm_Co_put N u19 10) (fun u21 r21 => jb_Cm_joining_106 N () u21 xw))) fc) B := by
    rw [bnd_as2]
    refine l_ntg (tk := tk) hC.2 h1 (by omega) (fun _ => ?_)
    exact e9 10
  unfold jm_Cm_joining jb_Cm_joining_0
  have brb : ∀ (bb : Bool) (x y : Option (MS × Unit)), PP RU (bnd x fc) B → PP RU (bnd y fc) B → PP RU (bnd (br bb x y) fc) B := fun bb x y hx hy => by
    cases bb with
    | false => rw [br_f]; exact hy
    | true => rw [br_t]; exact hx
  exact brb _ _ _ (e9 9) (brb _ _ _ (e9 9) (brb _ _ _ (e9 9) (brb _ _ _ (e9 9) (brb _ _ _ (e9 9) (brb _ _ _ e10 (brb _ _ _ e10 (e9 8)))))))
/-- units and signs, to their end -/
theorem u_sgl (IE : HUE N m0 T nm f) (hxb : xb ≤ 8015) (hr4 : r ≤ 400) (hiT : hi ≤ T) (hT4 : T ≤ 4000) (htot : tot (e0 :: t) + (hi - lo0) ≤ 4000 ∧ (e0 :: t).length ≤ o + 1) :
    ∀ (j k n x cc q : Nat) (S : List Nat) (gg : Bool) (a cm : Nat) (e : List Nat × List Nat × Nat) (m : MS) (v2 v3 v4 v5 : Int32), SFcK m0 (XPcK m0 f o 1) hi xb r j n x cc q S gg → (gg = true → 1 ≤ x) → USG m0 nm t g lo0 a0 cm0 e0 mS S (if gg = true then x - 1 else x) a cm e m v2 v3 v4 v5 → PP (fun v (_ : Unit) (_ : MS) (_ : Unit) => UXP m0 nm t g (hi - lo0) mS a0 cm0 e0 v) (jg_Cm_signs N (jrc_Cm_fun N D) k m v2 v3 v4 v5 (I (n : Nat))) (some (m0, ())) := by
  have hb : BdE (XPcK m0 f o 1) := XP_bdK f o 1
  intro j
  induction j with
  | zero =>
    intro k n x cc q S gg a cm e m v2 v3 v4 v5 h hx1 hS
    obtain ⟨rfl, rfl, rfl, rfl, rfl, rfl⟩ := h
    rw [if_pos rfl, show hi + 1 - 1 = hi from rfl] at hS
    cases k with
    | zero => exact pp_nl
    | succ k =>
      show PP _ (jb_Cm_signs_13 N (jrc_Cm_fun N D) (jg_Cm_signs N (jrc_Cm_fun N D) k) m v2 v3 v4 v5 (I ((0 : Nat) : Int))) _
      unfold jb_Cm_signs_13
      rw [show decide (I ((0 : Nat) : Int) = 0) = true from rfl, br_t]
      exact pp_end ⟨_, _, _, hS.2⟩
  | succ j ih =>
    intro k n x cc q S gg a cm e m v2 v3 v4 v5 h hx1 hS
    obtain ⟨hn1, n2, x2, c2, q2, S2, g2, h1, h21, hs⟩ := h
    have sh := SF_hd2 hb hs
    have hnow := USG_now hS
    have hnu := USG_nu hS
    have fr := XCS_fr hnow.1
    cases k with
    | zero => exact pp_nl
    | succ k =>
    have nxt : ∀ {m3 v2 v3 v4 v5}, n ≤ 8015 → FRC m0 m3 → PP (fun v (_ : Unit) (_ : MS) (_ : Unit) => UXP m0 nm t g (hi - lo0) mS a0 cm0 e0 v) (jg_Cm_signs N (jrc_Cm_fun N D) k m3 v2 v3 v4 v5 (I (n2 : Nat))) (some (m0, ())) → PP (fun v (_ : Unit) (_ : MS) (_ : Unit) => UXP m0 nm t g (hi - lo0) mS a0 cm0 e0 v) (jb_Cm_signs_198 N (jrc_Cm_fun N D) (jg_Cm_signs N (jrc_Cm_fun N D) k) m3 v2 v3 v4 v5 (I (n : Nat))) (some (m0, ())) := fun {m3 v2 v3 v4 v5} hn fr3 h => by
      unfold jb_Cm_signs_198
      rw [i_nt2 (show n ≤ 100000 by omega), tre fr3 (by decide) h21]
      exact l_ck (fun _ => h)
    show PP _ (jb_Cm_signs_13 N (jrc_Cm_fun N D) (jg_Cm_signs N (jrc_Cm_fun N D) k) m v2 v3 v4 v5 (I (n : Nat))) _
    rcases h1 with ⟨⟨mm, hE, rfl⟩, rfl, h3⟩ | ⟨⟨hx2, hc1, hc2, hq2⟩, rfl, h3⟩
    · -- a unit
      have hd := xp_hd hE
      have hn : n ≤ 8015 := by clear h3; omega
      obtain ⟨v, hv, hv18⟩ := xp_kd hE
      have unit : USG m0 nm t g lo0 a0 cm0 e0 mS S2 x a cm e m v2 v3 v4 v5 → PP (fun v (_ : Unit) (_ : MS) (_ : Unit) => UXP m0 nm t g (hi - lo0) mS a0 cm0 e0 v) (jb_Cm_signs_13 N (jrc_Cm_fun N D) (jg_Cm_signs N (jrc_Cm_fun N D) k) m v2 v3 v4 v5 (I (n : Nat))) (some (m0, ())) := fun hS => by
        have hnu := USG_nu hS
        have dv : ∀ x : Nat, 19 ≤ x → x ≤ 30 → decide (I ((v : Nat) : Int) = I ((x : Nat) : Int)) = false := fun x h1 h2 => decide_eq_false (fun z => by
          have := (I_eq (x := ((v : Nat) : Int)) (y := ((x : Nat) : Int)) (by omega) (by omega) (by omega) (by omega)).mp z
          omega)
        unfold jb_Cm_signs_13
        rw [decide_eq_false (fun z => by
          have := (I_eq (x := ((n : Nat) : Int)) (y := 0) (by omega) (by omega) (by decide) (by decide)).mp z
          omega), br_f]
        refine l_ck (fun _ => l_ck (fun _ => ?_))
        rw [i_nt2 (show n ≤ 100000 by omega), tre fr (by decide) hv, show (24 : Int32) = I ((24 : Nat) : Int) from rfl, dv 24 (by omega) (by omega), br_f]
        unfold jb_Cm_signs_82
        rw [show (24 : Int32) = I ((24 : Nat) : Int) from rfl, dv 24 (by omega) (by omega), br_f, show (23 : Int32) = I ((23 : Nat) : Int) from rfl, dv 23 (by omega) (by omega), br_f]
        refine l_bnd (pk_mo (IE D o 1 n x mm cc c2 q q2 m a cm e t g false hE (by omega) (by omega) (by omega) hnow.1 hnow.2 ⟨by omega, htot.2⟩) (fun m3 z hz => ?_))
        obtain ⟨b3, cm3, e3, h4⟩ := hz
        refine nxt hn (XCS_fr h4.1) (ih k n2 (mm + 1) c2 q2 S2 true b3 cm3 e3 m3 v2 v3 v4 v5 hs (fun _ => by omega) ?_)
        rw [if_pos rfl, show mm + 1 - 1 = mm from rfl]
        exact USG_ext hS h4 (by omega)
      rcases h3 with ⟨rfl, rfl⟩ | ⟨rfl, rfl, hr3, hcl3⟩
      · exact unit hS
      · rw [if_pos rfl] at hS hnu
        have := hx1 rfl
        refine unit ⟨⟨Or.inl hr3, USG_ord hS hcl3⟩, a, cm, e, m, v2, v3, v4, v5, hS, by omega, Or.inl ⟨hr3, UXQ_mo (UXQ_rf hnow.1 hnow.2) (by omega), rfl, rfl, rfl, rfl⟩⟩
    · -- a sign
      rw [hx2, hc2, hq2] at hs
      rw [hx2, hc2, hq2] at sh
      have hx1 := hx1 rfl
      rw [if_pos rfl] at hS hnu
      have hn : n ≤ 8015 := by clear h3; omega
      unfold jb_Cm_signs_13
      rw [decide_eq_false (fun z => by
        have := (I_eq (x := ((n : Nat) : Int)) (y := 0) (by omega) (by omega) (by decide) (by decide)).mp z
        omega), br_f]
      refine l_ck (fun _ => l_ck (fun _ => ?_))
      rw [i_nt2 (show n ≤ 100000 by omega)]
      rcases h3 with ⟨h16, h17, h18, hk, hcl3, rfl, rfl⟩ | ⟨h16, s, rfl, h17, h18, hpop, rfl⟩
      · have two : ∀ (zz : Int32) {F : MS → Int32 → Option (MS × Unit)}, (∀ m3, UXQ m0 nm t g 0 m a cm e m3 (a + 2) cm e → m3.2.2.1 23 (a + 1) = 0 → PP (fun v (_ : Unit) (_ : MS) (_ : Unit) => UXP m0 nm t g (hi - lo0) mS a0 cm0 e0 v) (F m3 (I ((a + 1 : Nat) : Int))) (some (m0, ()))) → PP (fun v (_ : Unit) (_ : MS) (_ : Unit) => UXP m0 nm t g (hi - lo0) mS a0 cm0 e0 v) (bnd (jm_Co_put N m zz) (fun u39 r39 => bnd (jm_Co_hook N u39 0) F)) (some (m0, ())) := fun zz {F} hF =>
          u_put (UXQ_rf hnow.1 hnow.2) (fun _ h1 => u_hook h1 (fun _ h2 => hF _ h2 ptc_n))
        rw [tre fr (by decide) h16, show decide (I 24 = (24 : Int32)) = true from rfl, br_t]
        rcases hk with z | z
        · have h18' : m.2.2.1 18 n = I 6 := tre fr (by decide) (h18.trans z)
          rw [h18', show decide (I 6 = (6 : Int32)) = true from rfl, br_t]
          refine two 13 (fun m3 h5 h6 => nxt hn (XCS_fr h5.1) (ih k n2 x n _ _ false (a + 2) cm e m3 _ _ v4 v5 hs (fun y => by cases y) ?_))
          exact ⟨⟨Or.inr (Or.inl z), USG_ord hS hcl3⟩, a, cm, e, m, v2, v3, v4, v5, hS, by show x - 1 ≤ x; omega, Or.inr ⟨m3, h5, h6, UXQ_mo (UXQ_rf h5.1 h5.2.1) (Nat.zero_le _), Or.inl ⟨z, rfl, h5.1.1.2.1.2.2.1, rfl, rfl⟩⟩⟩
        · have h18' : m.2.2.1 18 n = I 16 := tre fr (by decide) (h18.trans z)
          rw [h18', show decide (I 16 = (6 : Int32)) = false from rfl, br_f]
          unfold jb_Cm_signs_82
          rw [show decide (I 24 = (24 : Int32)) = true from rfl, br_t]
          refine two 14 (fun m3 h5 h6 => nxt hn (XCS_fr h5.1) (ih k n2 x n _ _ false (a + 2) cm e m3 v2 v3 _ _ hs (fun y => by cases y) ?_))
          exact ⟨⟨Or.inr (Or.inr z), USG_ord hS hcl3⟩, a, cm, e, m, v2, v3, v4, v5, hS, by show x - 1 ≤ x; omega, Or.inr ⟨m3, h5, h6, UXQ_mo (UXQ_rf h5.1 h5.2.1) (Nat.zero_le _), Or.inr ⟨z, rfl, h5.1.1.2.1.2.2.1, rfl, rfl⟩⟩⟩
      · -- one is worked off
        obtain ⟨⟨hr, hord⟩, a1, cm1, e1, m1, v2', v3', v4', v5', hS1, hsp, hcase⟩ := hS
        have ok1 := (USG_now hS1).2
        have p1 : 1 ≤ a1 := (USG_now hS1).1.1.2.2.1.2.1
        have r6 : rnkc 6 = 2 := by decide
        have r16 : rnkc 16 = 1 := by decide
        have fin : ∀ {m3 b3 cm3 e3}, USG m0 nm t g lo0 a0 cm0 e0 mS S2 (x - 1) b3 cm3 e3 m3 v2 v3 v4 v5 → PP (fun v (_ : Unit) (_ : MS) (_ : Unit) => UXP m0 nm t g (hi - lo0) mS a0 cm0 e0 v) (jb_Cm_signs_198 N (jrc_Cm_fun N D) (jg_Cm_signs N (jrc_Cm_fun N D) k) m3 v2 v3 v4 v5 (I (n : Nat))) (some (m0, ())) := fun {m3 b3 cm3 e3} h5 => nxt hn (XCS_fr (USG_now h5).1) (ih k n2 x n _ S2 true b3 cm3 e3 m3 v2 v3 v4 v5 hs (fun _ => hx1) h5)
        have pop : ∀ {m2 : MS} {va : Int32}, UXQ m0 nm t g 0 m1 a1 cm1 e1 m2 (a1 + 2) cm1 e1 → m2.2.2.1 23 (a1 + 1) = 0 → UXQ m0 nm t g (x - 1 - s) m2 (a1 + 2) cm1 e1 m a cm e → va = I (tot (e1 :: t) : Nat) → (∀ {m3 b3}, UXQ m0 nm t g (x - 1 - s) m1 a1 cm1 e1 m3 b3 cm e1 → PP (fun v (_ : Unit) (_ : MS) (_ : Unit) => UXP m0 nm t g (hi - lo0) mS a0 cm0 e0 v) (jb_Cm_signs_198 N (jrc_Cm_fun N D) (jg_Cm_signs N (jrc_Cm_fun N D) k) m3 v2 v3 v4 v5 (I (n : Nat))) (some (m0, ()))) → ∀ vb : Int32, vb = I ((a1 + 1 : Nat) : Int) → PP (fun v (_ : Unit) (_ : MS) (_ : Unit) => UXP m0 nm t g (hi - lo0) mS a0 cm0 e0 v) (bnd (jm_Cm_forget N m va) (fun u16 r16 => bnd (hm_Co_arrive N u16 vb) (fun u18 r18 => jb_Cm_signs_198 N (jrc_Cm_fun N D) (jg_Cm_signs N (jrc_Cm_fun N D) k) u18 v2 v3 v4 v5 (I (n : Nat))))) (some (m0, ())) := fun {m2 va} g1 g2 g3 hva hF vb hvb => by
          have a2k : a1 + 2 ≤ 23990 := g1.1.1.2.2.1.2.2
          rw [hva, hvb]
          refine u_fg g3 ok1 (fun m4 b4 h5 => ?_)
          have w4 : m4.2.2.1 23 (a1 + 1) = 0 := (h5.2.2.2.2.2.2.1 (a1 + 1) (by omega)).trans g2
          refine u_arr (hs := [a1 + 1]) (UXQ_tr g1 h5) ⟨rfl, ⟨by omega, by omega⟩, fun h hm => (by cases hm), w4⟩ (fun j hj => ?_) (fun Z hZ _ => hF (UXQ_mo hZ (Nat.zero_le _)))
          rcases List.mem_cons.mp hj with rfl | y
          · omega
          · cases y
        rw [tre fr (by decide) h16, show decide (I 23 = (24 : Int32)) = false from rfl, br_f]
        unfold jb_Cm_signs_82
        rw [show decide (I 23 = (24 : Int32)) = false from rfl, br_f, show decide (I 23 = (23 : Int32)) = true from rfl, br_t]
        rcases hcase with ⟨hr3, g2, rfl, rfl, rfl, rfl⟩ | ⟨m2, g1, g2, g3, hv⟩
        · have step : PP (fun v (_ : Unit) (_ : MS) (_ : Unit) => UXP m0 nm t g (hi - lo0) mS a0 cm0 e0 v) (ck (inb (I (n : Nat)) 8016) (bnd (jm_Cm_joining N m (m.2.2.1 18 n) (m.2.2.1 17 (I (n : Nat)).toNatClampNeg)) (fun u11 r11 => jb_Cm_signs_198 N (jrc_Cm_fun N D) (jg_Cm_signs N (jrc_Cm_fun N D) k) u11 v2' v3' v4' v5' (I (n : Nat))))) (some (m0, ())) := by
            refine l_ck (fun _ => ?_)
            rw [i_nt2 (show n ≤ 100000 by omega), tre fr (by decide) h17]
            exact u_join (tk := s) g2 rfl (by omega) (fun m3 b3 h5 => fin (USG_ext hS1 h5 hsp))
          have n6 : decide (m.2.2.1 18 n = (6 : Int32)) = false := decide_eq_false (fun z => by
            have : A m 18 n = 6 := by show (m.2.2.1 18 n).toInt = 6; rw [z]; rfl
            have e18 : A m 18 n = A m0 6 s := by
              show (m.2.2.1 18 n).toInt = _
              rw [fr.2 18 (by decide)]
              exact h18
            rw [← e18, this, r6] at hr3
            omega)
          have n16 : decide (m.2.2.1 18 n = (16 : Int32)) = false := decide_eq_false (fun z => by
            have : A m 18 n = 16 := by show (m.2.2.1 18 n).toInt = 16; rw [z]; rfl
            have e18 : A m 18 n = A m0 6 s := by
              show (m.2.2.1 18 n).toInt = _
              rw [fr.2 18 (by decide)]
              exact h18
            rw [← e18, this, r16] at hr3
            omega)
          rw [n6, br_f, n16, br_f]
          exact step
        · rcases hv with ⟨z, z2, z3, rfl, rfl⟩ | ⟨z, z2, z3, rfl, rfl⟩
          · have h18' : m.2.2.1 18 n = I 6 := tre fr (by decide) (h18.trans z)
            rw [h18', show decide (I 6 = (6 : Int32)) = true from rfl, br_t]
            refine pop g1 g2 g3 z3 (fun {m3 b3} h5 => fin (USG_v (Or.inl (fun s' hs' y => ?_)) (Or.inr ⟨rfl, rfl⟩) (USG_ext hS1 h5 hsp))) _ z2
            have := hord s' hs'
            rw [y, z, r6] at this
            omega
          · have h18' : m.2.2.1 18 n = I 16 := tre fr (by decide) (h18.trans z)
            rw [h18', show decide (I 16 = (6 : Int32)) = false from rfl, br_f, show decide (I 16 = (16 : Int32)) = true from rfl, br_t]
            refine pop g1 g2 g3 z3 (fun {m3 b3} h5 => fin (USG_v (Or.inr ⟨rfl, rfl⟩) (Or.inl (fun s' hs' y => ?_)) (USG_ext hS1 h5 hsp))) _ z2
            have := hord s' hs'
            rw [y, z, r16] at this
            omega
theorem u_sgn (IE : HUE N m0 T nm f) (hC : XCS m0 nm m a cm (e :: t) g) (ok : SOK (e :: t)) (hn : n ≤ 8015) (h16 : A m0 16 n = 22) (h18 : A m0 18 n = ((x : Nat) : Int)) (hs : SFcK m0 (XPcK m0 f o 1) hi xb r j x lo xa q [] false) (hxb : xb ≤ 8015) (hr4 : r ≤ 400) (hiT : hi ≤ T) (hT4 : T ≤ 4000) (htot : tot (e :: t) + (hi - lo) ≤ 4000 ∧ (e :: t).length ≤ o + 1) : PK (fun v _ => UXP m0 nm t g (hi - lo) m a cm e v) (jm_Cm_expression N (jrc_Cm_fun N D) m (I (n : Nat)) (lsI lst)) := by
  have fr := XCS_fr hC
  refine pu_pk (w := m0) (exd_22 hn (tre fr (by decide) h16) ?_)
  rw [tre fr (by decide) h18]
  refine l_ck (fun _ => l_id ?_)
  cases D with
  | zero => exact pp_nl
  | succ D =>
  show PP _ (jm_Cm_signs N (jrc_Cm_fun N D) m (I (x : Nat))) _
  unfold jm_Cm_signs jb_Cm_signs_0
  exact u_sgl IE hxb hr4 hiT hT4 htot j N x lo xa q [] false a cm e m 0 0 0 0 hs (fun y => by cases y) ⟨Nat.le_refl _, UXQ_mo (UXQ_rf hC ok) (Nat.zero_le _)⟩
end
