/-! what compiling an E does to names, there alone: CASE, IF, RECEIVE -/
set_option maxRecDepth 100000
section
variable {α β : Type} {m0 w0 m w m2 w2 m3 w3 m4 v u w1 mS wS : MS} {K nm Nk W W2 : Nat → Nat} {N T D d o a a0 a2 b b0 b4 c cm cm0 cm2 cm3 cm4 p pl ph q q0 r s lo lo0 mid hi i j f f2 n n1 k k2 kd kk KK kp p2 σ tk x xa xb xc xd mm M m1 lv y cl l2 : Nat} {sc sc0 sc2 sc3 t t2 : SCT} {e e0 e2 e3 e4 : List Nat × List Nat × Nat} {g g2 own lst : Bool} {hs : List Nat} {v1 v2 v3 v4 v5 vv xw : Int32} {RU : MS → α → MS → β → Prop} {B : Option (MS × β)} {fc : MS → Unit → Option (MS × α)} {RX : MS → Int32 → MS → β → Prop} {QU : MS → α → Prop} {AU : Option (MS × α)}
/-- a word, a chain of hooks arrives -/
theorem u_pend {hs : List Nat} (h : UHQ m0 nm t k m a cm e m2 b cm2 e2 hs vv) (hh : ∀ Z b3, UXQ m0 nm t false k m a cm e Z b3 cm2 e2 → PP RU (fc Z ()) B) : PP RU (bnd (jm_Co_put N m2 xw) (fun u57 _ => bnd (hm_Co_arrive N u57 vv) fc)) B :=
  u_put (UXQ_rf h.1.1 h.1.2.1) (fun _ h5 => by
    have h6 := UHQ_tr h h5
    exact u_arr2 h6.1 h6.2.1 (fun j hj => (h6.2.2 j hj).1) (fun Z hZ _ => hh Z _ hZ))
/-- CASE -/
theorem u_cas (c : CTZ m0 w0 K T nm Nk) (cv : CTV m0 w0 K T) (IE : HUE N m0 T nm f) (hC : XCS m0 nm m a cm (e :: t) g) (ok : SOK (e :: t)) (hn : n ≤ 8015) (h16 : A m0 16 n = 9) (h17 : A m0 17 n = ((lo : Nat) : Int)) (h18 : A m0 18 n = ((x : Nat) : Int)) (hx : XPcK m0 f (o + 1) 3 x (lo + 1) mid xa xc q s) (h19 : A m0 19 n = ((mm : Nat) : Int)) (hE : RWcK m0 1 27 (PEc m0 f o 1) k mm (mid + 1) (hi - 1) xc xb s r) (hxb : xb ≤ 8015) (hr4 : r ≤ 400) (hl4 : lo ≤ 4000) (hiT : hi ≤ T) (htot : tot (e :: t) + (hi - lo) ≤ 4000 ∧ (e :: t).length ≤ o + 1) : PK (fun v _ => UXP m0 nm t g (hi - lo) m a cm e v) (jm_Cm_expression N (jrc_Cm_fun N D) m (I (n : Nat)) (lsI lst)) := by
  have fr := XCS_fr hC
  have hd1 := xp_hd hx
  have hd := RW_xb PE_bE hE
  unfold HDc at hd
  have htl : t.length + 1 ≤ o + 1 := htot.2
  refine pu_pk (w := m0) (exd_9 hn (tre fr (by decide) h16) (l_id ?_))
  cases D with
  | zero => exact pp_nl
  | succ D =>
  show PP _ (jm_Cm_compound N (jrc_Cm_fun N D) m (I (n : Nat)) (lsI lst)) _
  refine cmd_9 hn (tre fr (by decide) h16) hC.2 (tre fr (by decide) h17) (by omega) (fun hg => l_ck (fun _ => ?_))
  subst hg
  rw [tre fr (by decide) h18]
  refine l_bnd (pk_mo (IE D (o + 1) 3 x (lo + 1) mid xa xc q s m a cm e t false false hx (by omega) (by omega) (by omega) hC ok ⟨by omega, by omega⟩) (fun m3 z hz => l_ck (fun _ => ?_)))
  obtain ⟨b3, cm3, e3, h3⟩ := hz
  have nu := UXQ_nu h3
  rw [tre (XCS_fr h3.1) (by decide) h19]
  refine l_bnd (pk_mo (u_par c cv IE h3.1 h3.2.1 (Or.inr ⟨by
    cases k with
    | zero => exact hE.elim
    | succ k => omega, hE⟩) hxb hr4 (by omega) ⟨by omega, htl⟩) (fun m4 r55 hz => ?_))
  obtain ⟨b4, cm4, hs4, h4⟩ := hz
  refine u_pend h4 (fun Z b5 h5 => ?_)
  unfold jb_Cm_compound_455
  exact pp_end ⟨_, _, _, UXQ_mo (UXQ_tr h3 h5) (by omega)⟩
/-- IF -/
theorem u_iff (c : CTZ m0 w0 K T nm Nk) (cv : CTV m0 w0 K T) (IE : HUE N m0 T nm f) (hC : XCS m0 nm m a cm (e :: t) g) (ok : SOK (e :: t)) (hn : n ≤ 8015) (h16 : A m0 16 n = 10) (h17 : A m0 17 n = ((lo : Nat) : Int)) (h19 : A m0 19 n = ((mm : Nat) : Int)) (hE : RWcK m0 1 27 (PEc m0 f o 2) k mm (lo + 1) (hi - 1) xa xb q r) (hxb : xb ≤ 8015) (hr4 : r ≤ 400) (hl4 : lo ≤ 4000) (hiT : hi ≤ T) (htot : tot (e :: t) + (hi - lo) ≤ 4000 ∧ (e :: t).length ≤ o + 1) : PK (fun v _ => UXP m0 nm t g (hi - lo) m a cm e v) (jm_Cm_expression N (jrc_Cm_fun N D) m (I (n : Nat)) (lsI lst)) := by
  have fr := XCS_fr hC
  have hd := RW_xb PE_bE hE
  unfold HDc at hd
  have htl : t.length + 1 ≤ o + 1 := htot.2
  refine pu_pk (w := m0) (exd_10 hn (tre fr (by decide) h16) (l_id ?_))
  cases D with
  | zero => exact pp_nl
  | succ D =>
  show PP _ (jm_Cm_compound N (jrc_Cm_fun N D) m (I (n : Nat)) (lsI lst)) _
  refine cmd_10 hn (tre fr (by decide) h16) hC.2 (tre fr (by decide) h17) (by omega) (fun hg => l_ck (fun _ => ?_))
  subst hg
  rw [tre fr (by decide) h19]
  refine l_bnd (pk_mo (u_par c cv IE hC ok (Or.inr ⟨by
    cases k with
    | zero => exact hE.elim
    | succ k => omega, hE⟩) hxb hr4 (by omega) ⟨by omega, htl⟩) (fun m4 r55 hz => ?_))
  obtain ⟨b4, cm4, hs4, h4⟩ := hz
  refine u_pend h4 (fun Z b5 h5 => ?_)
  unfold jb_Cm_compound_455
  exact pp_end ⟨_, _, _, UXQ_mo h5 (by omega)⟩
/-- RECEIVE -/
theorem u_rcv (c : CTZ m0 w0 K T nm Nk) (cv : CTV m0 w0 K T) (IE : HUE N m0 T nm f) (hC : XCS m0 nm m a cm (e :: t) g) (ok : SOK (e :: t)) (hn : n ≤ 8015) (h16 : A m0 16 n = 11) (h17 : A m0 17 n = ((lo : Nat) : Int)) (h19 : A m0 19 n = ((mm : Nat) : Int)) (hE : ORcK m0 1 27 (PEc m0 f o 3) k mm (lo + 1) m1 xa xc q s) (hA : (A m0 18 n = 0 ∧ hi = m1 + 1 ∧ s = r ∧ xc ≤ xb) ∨ ∃ x m2 c2 s2 kb mb : Nat, 1 ≤ x ∧ A m0 18 n = ((x : Nat) : Int) ∧ XPcK m0 f (o + 1) 3 x (m1 + 1) m2 xc c2 s s2 ∧ A m0 20 n = ((mb : Nat) : Int) ∧ RWcK m0 1 26 (XPcK m0 f (o + 2) 3) kb mb (m2 + 1) (hi - 1) c2 xb s2 r) (hxb : xb ≤ 8015) (hr4 : r ≤ 400) (hl4 : lo ≤ 4000) (hiT : hi ≤ T) (htot : tot (e :: t) + (hi - lo) ≤ 4000 ∧ (e :: t).length ≤ o + 1) : PK (fun v _ => UXP m0 nm t g (hi - lo) m a cm e v) (jm_Cm_expression N (jrc_Cm_fun N D) m (I (n : Nat)) (lsI lst)) := by
  have fr := XCS_fr hC
  have htl : t.length + 1 ≤ o + 1 := htot.2
  have hd : lo + 1 ≤ m1 ∧ xa ≤ xc := by
    rcases hE with ⟨-, -, z1, z2, -⟩ | ⟨-, hE⟩
    · omega
    · have := RW_xb PE_bE hE
      unfold HDc at this
      omega
  refine pu_pk (w := m0) (exd_11 hn (tre fr (by decide) h16) (l_id ?_))
  cases D with
  | zero => exact pp_nl
  | succ D =>
  show PP _ (jm_Cm_compound N (jrc_Cm_fun N D) m (I (n : Nat)) (lsI lst)) _
  refine cmd_11 hn (tre fr (by decide) h16) hC.2 (tre fr (by decide) h17) (by omega) (fun hg => l_bnd ?_)
  subst hg
  unfold jb_Cm_compound_455
  refine pk_mo (?_ : PK (fun v _ => UXP m0 nm t false (hi - lo) m a cm e v) _) (fun v z hz => pp_end hz)
  cases D with
  | zero => exact pu_pk (w := m0) pp_nl
  | succ D =>
  refine pu_pk (w := m0) ?_
  show PP _ (jb_Cm_receive_0 N (jrc_Cm_fun N D) () m (I (n : Nat)) (lsI lst)) _
  unfold jb_Cm_receive_0
  rw [i_nt2 (show n ≤ 100000 by omega), hC.1.2.1.2.2.1]
  refine l_ck (fun _ => ?_)
  -- behind E
  have fin : ∀ {m2 b2 cm2 hs2 r20}, UHQ m0 nm t 0 m a cm e m2 b2 cm2 e hs2 r20 → PP (fun v (_ : Unit) (_ : MS) (_ : Unit) => UXP m0 nm t false (hi - lo) m a cm e v) (jb_Cm_receive_173 N (jrc_Cm_fun N D) () m2 r20) (some (m0, ())) := fun {m2 b2 cm2 hs2 r20} h => by
    unfold jb_Cm_receive_173
    exact u_arr2 h.1 h.2.1 (fun j hj => (h.2.2 j hj).1) (fun Z hZ _ => pp_end ⟨_, _, _, UXQ_mo hZ (Nat.zero_le _)⟩)
  have n71 : ∀ {m2 b2 cm2 : _} (v4 t1 : Int32), UXQ m0 nm t false 0 m a cm e m2 b2 cm2 e → tot (e :: t) + (m1 - (lo + 1)) ≤ 4000 → xc ≤ 8015 → s ≤ 400 → m1 ≤ T → (∀ m5 b5 cm5 hs5 r20, UHQ m0 nm t 0 m a cm e m5 b5 cm5 e hs5 r20 → PP (fun v (_ : Unit) (_ : MS) (_ : Unit) => UXP m0 nm t false (hi - lo) m a cm e v) (br (decide (v4 = 0)) (jb_Cm_receive_173 N (jrc_Cm_fun N D) () m5 r20) (ck (inb (I (n : Nat)) 8016) (bnd ((jrc_Cm_fun N D).2.2.2.1 m5 (m5.2.2.1 20 n) (lsI lst)) (fun u35 r35 => bnd (jm_Cm_forget N u35 (I (tot (e :: t) : Nat))) (fun u36 r36 => jb_Cm_receive_173 N (jrc_Cm_fun N D) () u36 r20))))) (some (m0, ()))) → PP (fun v (_ : Unit) (_ : MS) (_ : Unit) => UXP m0 nm t false (hi - lo) m a cm e v) (jb_Cm_receive_71 N (jrc_Cm_fun N D) () m2 (I (n : Nat)) (lsI lst) (I (tot (e :: t) : Nat)) v4 t1) (some (m0, ())) := fun {m2 b2 cm2} v4 t1 h o1 o2 o3 o4 hF => by
    unfold jb_Cm_receive_71
    refine u_put h (fun _ h1 => u_put h1 (fun _ h2 => u_hook h2 (fun hb5 h3 => l_ck (fun _ => ?_))))
    have wv : ∀ x : MS, (ptc x (b2 + 1 + 1) 0).2.2.1 23 (b2 + 1 + 1) = 0 := fun x => ptc_n
    have wv := wv (ptc (ptc m2 b2 t1) (b2 + 1) 32)
    generalize (ptc m2 b2 t1).1 441 = x441
    generalize ptc (ptc (ptc m2 b2 t1) (b2 + 1) 32) (b2 + 1 + 1) 0 = mH at h3 wv
    have b2k : b2 + 1 + 1 + 1 ≤ 23990 := h3.1.1.2.2.1.2.2
    have le0 := h.2.2.2.2.1.1
    rw [i_nt2 (show n ≤ 100000 by omega), tre (XCS_fr h3.1) (by decide) h19]
    refine l_bnd (pk_mo (u_par c cv IE h3.1 ok hE o2 o3 o4 ⟨o1, htl⟩) (fun m4 r20 hz => ?_))
    obtain ⟨b4, cm4, hs4, h4⟩ := hz
    refine u_put (UXQ_rf h4.1.1 ok) (fun _ h5 => u_put h5 (fun _ h6 => ?_))
    have h7 := UHQ_tr h4 h6
    have h8 := UXQ_tr h3 h7.1
    have w8 := (h7.1.2.2.2.2.2.2.1 (b2 + 1 + 1) (by omega)).trans wv
    refine u_arr2 (hs := [b2 + 1 + 1]) h8 ⟨rfl, ⟨by omega, by omega⟩, fun h hm => (by cases hm), w8⟩ (fun j hj => ?_) (fun Z hZ hZw => ?_)
    · rcases List.mem_cons.mp hj with rfl | y
      · omega
      · cases y
    · refine hF Z _ _ hs4 r20 ⟨UXQ_mo hZ (Nat.le_refl _), HKc_fr h7.2.1 (fun j hj => hZw j (fun y => ?_)), fun j hj => ?_⟩
      · have := (h7.2.2 j hj).1
        have := List.mem_singleton.mp y
        omega
      · have hj7 := h7.2.2 j hj
        have := h3.2.2.2.2.1.1
        exact ⟨by omega, hj7.2⟩
  have n48 : ∀ {m2 b2 cm2 : _} (v4 : Int32), UXQ m0 nm t false 0 m a cm e m2 b2 cm2 e → tot (e :: t) + (m1 - (lo + 1)) ≤ 4000 → xc ≤ 8015 → s ≤ 400 → m1 ≤ T → (∀ m5 b5 cm5 hs5 r20, UHQ m0 nm t 0 m a cm e m5 b5 cm5 e hs5 r20 → PP (fun v (_ : Unit) (_ : MS) (_ : Unit) => UXP m0 nm t false (hi - lo) m a cm e v) (br (decide (v4 = 0)) (jb_Cm_receive_173 N (jrc_Cm_fun N D) () m5 r20) (ck (inb (I (n : Nat)) 8016) (bnd ((jrc_Cm_fun N D).2.2.2.1 m5 (m5.2.2.1 20 n) (lsI lst)) (fun u35 r35 => bnd (jm_Cm_forget N u35 (I (tot (e :: t) : Nat))) (fun u36 r36 => jb_Cm_receive_173 N (jrc_Cm_fun N D) () u36 r20))))) (some (m0, ()))) → PP (fun v (_ : Unit) (_ : MS) (_ : Unit) => UXP m0 nm t false (hi - lo) m a cm e v) (jb_Cm_receive_48 N (jrc_Cm_fun N D) () m2 (I (n : Nat)) (lsI lst) (I (tot (e :: t) : Nat)) v4) (some (m0, ())) := fun {m2 b2 cm2} v4 h o1 o2 o3 o4 hF => by
    unfold jb_Cm_receive_48
    refine u_put h (fun _ h1 => l_br (fun _ => n71 v4 0 h1 o1 o2 o3 o4 hF) (fun _ => n71 v4 1 h1 o1 o2 o3 o4 hF))
  rcases hA with ⟨h18, rfl, rfl, hxc⟩ | ⟨x, m2, c2, s2, kb, mb, hx1, h18, hX, h20, hB⟩
  · rw [tre fr (by decide) h18, show decide (I 0 = (0 : Int32)) = true from rfl, br_t]
    unfold jb_Cm_receive_22
    rw [show decide ((0 : Int32) = 0) = true from rfl, br_t]
    refine n48 0 (UXQ_rf hC ok) (by omega) (by omega) hr4 (by omega) (fun m5 b5 cm5 hs5 r20 h5 => ?_)
    rw [show decide ((0 : Int32) = 0) = true from rfl, br_t]
    exact fin h5
  · have hd2 := xp_hd hX
    have hd3 := (RW_hdK (XP_bdK _ _ _) hB).1
    unfold HDc at hd3
    rw [tre fr (by decide) h18, decide_eq_false (fun z => by
      have := (I_eq (x := ((x : Nat) : Int)) (y := 0) (by omega) (by omega) (by decide) (by decide)).mp z
      omega), br_f]
    unfold jb_Cm_receive_22
    rw [show decide ((1 : Int32) = 0) = false from rfl, br_f, i_nt2 (show n ≤ 100000 by omega), tre fr (by decide) h18]
    refine l_ck (fun _ => ?_)
    refine l_bnd (pk_mo (IE D (o + 1) 3 x (m1 + 1) m2 xc c2 s s2 m a cm e t false false hX (by omega) (by omega) (by omega) hC ok ⟨by omega, by omega⟩) (fun m3 z hz => ?_))
    obtain ⟨b3, cm3, e3, h3⟩ := hz
    refine u_fg h3 ok (fun m4 b4 h4 => ?_)
    refine n48 1 h4 (by omega) (by omega) (by omega) (by omega) (fun m5 b5 cm5 hs5 r20 h5 => ?_)
    rw [show decide ((1 : Int32) = 0) = false from rfl, br_f, tre (XCS_fr h5.1.1) (by decide) h20]
    refine l_ck (fun _ => ?_)
    cases D with
    | zero => exact pp_nl
    | succ D =>
    refine l_bnd (pk_mo (pu_pk (w := m0) (u_bod (KK := (hi - 1) - (m2 + 1)) (D := D) (lst := lst) (o := o + 2) IE hxb hr4 (by omega) ⟨by omega, by show t.length + 1 ≤ _; omega⟩ kb mb (m2 + 1) c2 s2 N 0 m5 b5 cm5 e hB (UXQ_rf h5.1.1 ok) (by omega))) (fun mB z hz => ?_))
    obtain ⟨bB, cmB, eB, hB1⟩ := hz
    have hB2 := UHQ_tr h5 hB1
    refine u_fg2 hB2.1 ok (fun m6 b6 h6 f6 hb6 => ?_)
    refine fin (hs2 := hs5) ⟨h6, HKc_fr hB2.2.1 (fun j hj => f6.2.1 j (hB2.2.2 j hj).2), fun j hj => ?_⟩
    have := hB2.2.2 j hj
    exact ⟨this.1, by omega⟩
end
