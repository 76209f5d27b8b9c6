/-! a message of its own, when its term is at hand here and waits uppermost there -/
set_option maxRecDepth 100000
/-- another number of terms that wait, there -/
def Yk (q : Nat) (z : Int32) (u : MS) : MS := upI u (pq q 26) z
def CYk {α : Type} (q : Nat) (z : Int32) (a b : Option (MS × α)) : Prop := ∀ s r, a = some (s, r) → b = some (Yk q z s, r)
section
variable {α β : Type} {q k N : Nat} {z x : Int32} {u : MS} {t : Int64}
theorem yk4 : (Yk q z u).1 (pq q 4) = u.1 (pq q 4) := if_neg (pq_inj (by omega))
theorem yk7 : (Yk q z u).1 (pq q 7) = u.1 (pq q 7) := if_neg (pq_inj (by omega))
theorem ykJ : (Yk q z u).2.2.2 = u.2.2.2 := rfl
theorem yuJ {r : Nat → Int64} : upJ (Yk q z u) k r = Yk q z (upJ u k r) := rfl
theorem yuI (h : k ≠ pq q 26) : upI (Yk q z u) k x = Yk q z (upI u k x) := by
  refine Prod.ext (funext (fun K => ?_)) rfl
  show (if K = k then x else if K = pq q 26 then z else u.1 K) = (if K = pq q 26 then z else if K = k then x else u.1 K)
  by_cases c : K = k
  · rw [if_pos c, if_neg (by rw [c]; exact h), if_pos c]
  · rw [if_neg c, if_neg c]
theorem yu4 : upI (Yk q z u) (pq q 4) x = Yk q z (upI u (pq q 4) x) := yuI (pq_inj (by omega))
theorem yu7 : upI (Yk q z u) (pq q 7) x = Yk q z (upI u (pq q 7) x) := yuI (pq_inj (by omega))
theorem cy_some {r : α} : CYk q z (some (u, r)) (some (Yk q z u, r)) := fun s r2 e => by
  injection e with e
  injection e with e1 e2
  rw [e1, e2]
theorem cy_ck {c : Bool} {a b : Option (MS × α)} (h : CYk q z a b) : CYk q z (ck c a) (ck c b) := by
  cases c
  · exact fun _ _ e => by cases e
  · exact h
theorem cy_br {c : Bool} {a b a2 b2 : Option (MS × α)} (h : CYk q z a b) (h2 : CYk q z a2 b2) : CYk q z (br c a a2) (br c b b2) := by
  cases c
  · exact h2
  · exact h
theorem cy_bnd {a b : Option (MS × β)} {f g : MS → β → Option (MS × α)} (h1 : CYk q z a b) (h2 : ∀ s r, CYk q z (f s r) (g (Yk q z s) r)) : CYk q z (bnd a f) (bnd b g) := by
  cases a with
  | none => exact fun _ _ e => by cases e
  | some y =>
    obtain ⟨s, r⟩ := y
    rw [h1 s r rfl]
    exact h2 s r
theorem cy_make {a c : Int32} : CYk q z (hm_Te_make N u a c) (hm_Te_make N (Yk q z u) a c) := cy_some
theorem cy_cells {v : Nat} : CYk q z (hm_Te_cellsAt N u v t) (hm_Te_cellsAt N (Yk q z u) v t) := by
  unfold hm_Te_cellsAt hb_Te_cellsAt_0 hb_Te_cellsAt_49
  simp only [lt_e, ykJ]
  repeat' first | exact cy_some | exact fun _ _ e => by cases e | apply cy_br | apply cy_ck
theorem cy_c42 {G : MS → Nat → Nat → Int64 → Int64 → Int32 → Int32 → Option (MS × Int64)} {v1 : Nat} {v2 v4 t0 : Int64} {v6 v7 : Int32} (hG : ∀ u v4 v7, CYk q z (G u q v1 v2 v4 v6 v7) (G (Yk q z u) q v1 v2 v4 v6 v7)) : CYk q z (hb_Pr_copyIn_42 N G u q v1 v2 v4 v6 v7 t0) (hb_Pr_copyIn_42 N G (Yk q z u) q v1 v2 v4 v6 v7 t0) := by
  unfold hb_Pr_copyIn_42 hb_Pr_copyIn_140
  refine cy_bnd cy_cells (fun s r => ?_)
  simp only [lt_e, yk4, ykJ, yuJ, yu4]
  exact cy_br (hG _ _ _) (cy_br (cy_ck (cy_br (cy_ck (hG _ _ _)) (hG _ _ _))) (hG _ _ _))
theorem cy_clp {v1 : Nat} {v2 : Int64} {v6 : Int32} : ∀ (M : Nat) (u : MS) (v4 : Int64) (v7 : Int32), CYk q z (hg_Pr_copyIn N M u q v1 v2 v4 v6 v7) (hg_Pr_copyIn N M (Yk q z u) q v1 v2 v4 v6 v7) := by
  intro M
  induction M with
  | zero => exact fun _ _ _ _ _ e => by cases e
  | succ M ih =>
    intro u v4 v7
    show CYk q z (hb_Pr_copyIn_15 N (hg_Pr_copyIn N M) u q v1 v2 v4 v6 v7) (hb_Pr_copyIn_15 N (hg_Pr_copyIn N M) (Yk q z u) q v1 v2 v4 v6 v7)
    unfold hb_Pr_copyIn_15
    rw [yk4, ykJ]
    exact cy_br cy_some (cy_br (cy_ck (cy_c42 ih)) (cy_c42 ih))
theorem cy_copy {v1 : Nat} : CYk q z (hm_Pr_copyIn N u q v1 t) (hm_Pr_copyIn N (Yk q z u) q v1 t) := by
  unfold hm_Pr_copyIn hb_Pr_copyIn_0
  rw [yk4]
  exact cy_clp _ _ _ _
theorem cy_comes : CYk q z (hm_Pr_comes N u q t) (hm_Pr_comes N (Yk q z u) q t) := by
  unfold hm_Pr_comes hb_Pr_comes_0 hb_Pr_comes_29
  simp only [lt_e, yk7, ykJ, yuJ, yu7]
  exact cy_br cy_some (cy_ck cy_some)
theorem cy_193 {v2 v3 v11 : Int32} : CYk q z (hb_Wl_post_193 N () u q v2 v3 v11 t) (hb_Wl_post_193 N () (Yk q z u) q v2 v3 v11 t) := by
  unfold hb_Wl_post_193
  refine cy_bnd cy_make (fun s r => cy_ck ?_)
  rw [lt_e, lt_e, ykJ, yuJ]
  generalize upJ s (pq q 2) (vp_updL (s.2.2.2 (pq q 2)) (v11 + v2 - 2).toNatClampNeg r) = s2
  refine cy_ck ?_
  rw [ykJ, yuJ, lt_e]
  generalize upJ s2 (pq q 2) (vp_updL (s2.2.2.2 (pq q 2)) (v11 + v2 - 1).toNatClampNeg t) = s3
  refine cy_bnd cy_make (fun s r => ?_)
  refine cy_bnd cy_comes (fun s r => ?_)
  exact cy_some
theorem cy_169 {v2 v3 v4 v11 t1 t2 t3 : Int32} {t0 : Nat} : CYk q z (hb_Wl_post_169 N () u q v2 v3 v4 v11 t t0 t1 t2 t3) (hb_Wl_post_169 N () (Yk q z u) q v2 v3 v4 v11 t t0 t1 t2 t3) := by
  unfold hb_Wl_post_169
  refine cy_bnd cy_make (fun s r => cy_ck ?_)
  simp only [lt_e, ykJ, yuJ]
  refine cy_br (cy_bnd cy_make (fun s r => cy_ck ?_)) cy_193
  simp only [ykJ, yuJ]
  exact cy_193
theorem cy_120 {v2 v3 v4 v11 : Int32} : CYk q z (hb_Wl_post_120 N () u q v2 v3 v4 v11 t) (hb_Wl_post_120 N () (Yk q z u) q v2 v3 v4 v11 t) := by
  unfold hb_Wl_post_120
  refine cy_br (cy_bnd cy_comes (fun s r => cy_some)) (cy_bnd cy_make (fun s r => cy_ck ?_))
  simp only [lt_e, ykJ, yuJ]
  exact cy_br cy_169 cy_169
theorem cy_81 {v2 v3 v4 : Int32} {j : Nat} : CYk q z (hb_Wl_post_81 N () u q v2 v3 v4 (some j) t) (hb_Wl_post_81 N () (Yk q z u) q v2 v3 v4 (some j) t) := by
  unfold hb_Wl_post_81
  simp only [lt_e, yk4, yu4]
  refine cy_br cy_120 ?_
  rw [bo_s, bo_s]
  exact cy_bnd cy_copy (fun s r => cy_120)
end
/-- what comes of a message of its own -/
def MPe (q B W Y e e' : Nat) (m w m2 w2 : MS) : Prop := (Y = 30 ∧ m2 = m ∧ w2 = w) ∨ (∃ m1 w1, XMm q m m1 ∧ XMr q w w1 ∧ m1.1 (pq q 5) = w1.2.2.1 90 q ∧ m2 = enS m1 q (mk 1 20) q e ∧ w2 = enR w1 q 0 ((q : Nat) : Int) (mk 1 20) e') ∨ (Y < 30 ∧ ∃ U2 b2, PLs b2 q (wi m2 (pq q 26) ((W : Nat) : Int)) w2 U2 B W (Y + 1) ∧ XMm q m m2 ∧ XMr q w w2)
section
variable {b : Int → Nat → Nat → Prop} {N q U B W Y s e e' f : Nat} {ow kd ow' kd' : Nat → Nat} {Fv Fv' : Int64 → Int64 → Prop} {P P' : Int64 → Prop} {m w : MS} {x : Int64} {v3 : Int}
theorem post_pe (hq : q < 24) (hal : F m (pq q 9) ≠ 3) (hal' : A w 109 q ≠ 3) (pl : PLs b q (wi m (pq q 26) ((W : Nat) : Int)) w U B W Y) (pt : PTQ m q U ow kd Fv P B (W + 1) Y) (cx : CTX Fv P m) (cw : CX w q (hp w q) U ow' kd' Fv' P' W B Y) (rt : RTb b (m.2.2.2 (pq q 35) W) x) (gx : GT U ow' kd' P' x) (zs : SZc (m.2.2.2 (pq q 2)) U ow kd Fv P f (m.2.2.2 (pq q 35) W) s) (hs : s ≤ 500) (he : F m 955 = ((e : Nat) : Int) ∧ e < 24) (he' : F w 150 = ((e' : Nat) : Int) ∧ e' < 4000) (hN : 2200000 ≤ N) :
    PP (fun m2 (_ : Unit) w2 (_ : Unit) => MPe q B W Y e e' m w m2 w2) (hm_Wl_post N m q (I ((4 : Nat) : Int)) (I v3) (I 0) (m.2.2.2 (pq q 35) W) (some q)) (fm_M_message N w (I ((q : Nat) : Int)) (I ((0 : Nat) : Int)) (I 0) (I v3) (I 0) (I ((q : Nat) : Int)) x) := by
  have p7 : F m (pq q 7) = ((Y : Nat) : Int) := by
    have := pl.2.2.2.1
    rw [wi_ne (pq_inj (by omega))] at this
    exact this
  have p8 : A w 108 q = ((Y : Nat) : Int) := pl.2.2.2.2.1
  have hY := (PTQ_b pt).2.2.2
  have hU : U ≤ 500 := pl.1.1.2.2
  have iso : ISb b (m.2.2.2 (pq q 2)) U (hp w q) U := pl.1.2.1
  obtain ⟨f', s', z'⟩ := HP_sz cw.2.1 gx
  have es := SZ_iso iso rt zs z'
  subst es
  have n9 : ¬ m.1 (pq q 9) = 3 := fun z => hal (by show (m.1 (pq q 9)).toInt = 3; rw [z]; rfl)
  have n9' : ¬ w.2.2.1 109 q = 3 := fun z => hal' (by show (w.2.2.1 109 q).toInt = 3; rw [z]; rfl)
  unfold hm_Wl_post hb_Wl_post_0 hb_Wl_post_17 fm_M_message fb_M_message_0 fb_M_message_21
  rw [decide_eq_false n9, br_f]
  refine r_ck (fun _ => ?_)
  rw [tnI (n := q) rfl (by omega), decide_eq_false n9', br_f]
  refine r_ck (fun _ => ?_)
  rw [I_F' p7, I_A' p8, show (30 : Int32) = I 30 from rfl, decL (by omega) (by omega) (by omega) (by omega), decE (by omega) (by omega) (by omega) (by omega)]
  by_cases c : Y < 30
  · rw [decide_eq_true (p := ((Y : Nat) : Int) < 30) (by omega), br_t, decide_eq_false (p := ((Y : Nat) : Int) = 30) (by omega), br_f]
    show PP _ (bnd (hm_Te_size N m (pq q 2) (m.2.2.2 (pq q 35) W)) (fun u53 r53 => hb_Wl_post_41 N () u53 q (I ((4 : Nat) : Int)) (I v3) (I 0) (m.2.2.2 (pq q 35) W) (some q) r53)) (fb_M_message_50 N () w (I ((q : Nat) : Int)) (I ((0 : Nat) : Int)) (I 0) (I v3) (I 0) (I ((q : Nat) : Int)) x (I ((4 : Nat) : Int)) (I 0))
    refine l_bnd (pk_mo (pk_ok (size_ok (N := N) (b := pq q 2) (by unfold pq; omega) rfl (by omega) cx.1.1 (by omega) zs (by omega))) (fun m1 r1 h1 => ?_))
    obtain ⟨fm, rfl⟩ := h1
    unfold fb_M_message_50 hb_Wl_post_41
    refine r_bnd (pk_mo (pk_ok (copySize_ok (N := N) cw.2.1 hU (by omega) z' (by omega))) (fun w1 r1 h1 => ?_))
    obtain ⟨f1, rfl⟩ := h1
    rw [hand_e, bnd_so, if_pos hs, show I ((4 : Nat) : Int) + I ((s : Nat) : Int) = I ((4 + s : Nat) : Int) from addN, show I ((4 : Nat) : Int) + I 0 + I ((s : Nat) : Int) = I ((4 + s : Nat) : Int) from by rw [show I ((4 : Nat) : Int) + I 0 = I ((4 : Nat) : Int) from rfl, addN]]
    have i1 : ∀ k, m1.1 k = m.1 k := fun k => fm.1 k (by simp)
    have j1 : ∀ k, k < 100 → m1.2.2.2 (pq q k) = m.2.2.2 (pq q k) := fun k hk => fm.2.2.2 _ (by simp; unfold pq; omega)
    have pl1 : PLs b q (wi m1 (pq q 26) ((W : Nat) : Int)) w1 U B W Y := PLs_cg pl (fun k _ => by
        show (if pq q k = pq q 26 then _ else m1.1 (pq q k)) = (if pq q k = pq q 26 then _ else m.1 (pq q k))
        rw [i1]) (fun i _ => by show m1.2.2.2 (pq q 2) i = m.2.2.2 (pq q 2) i; rw [j1 2 (by omega)]) (fun i _ => by show m1.2.2.2 (pq q 33) i = m.2.2.2 (pq q 33) i; rw [j1 33 (by omega)]) (fun i _ => by show m1.2.2.2 (pq q 35) i = m.2.2.2 (pq q 35) i; rw [j1 35 (by omega)]) (fun i _ => by show m1.2.2.2 (pq q 6) i = m.2.2.2 (pq q 6) i; rw [j1 6 (by omega)]) (fun k _ => by rw [f1.2.2.1 k (by simp)]) (fun i _ => by rw [f1.2.2.2 88 (by simp)]) (fun i _ => by rw [f1.2.2.2 93 (by simp)]) (fun i _ => by rw [f1.2.2.2 91 (by simp)]) (fun i _ => by rw [f1.2.2.2 107 (by simp)])
    have pt1 : PTQ m1 q U ow kd Fv P B (W + 1) Y := PTQ_same pt (fun k _ => i1 _) (fun k hk => j1 k (by simp at hk; omega))
    have cx1 : CTX Fv P m1 := CTX_fr cx (i1 22) (fm.2.2.1 3 (by simp))
    have cw1 : CX w1 q (hp w1 q) U ow' kd' Fv' P' W B Y := CX_141 cw f1
    have cw2 : CX (wl (wi w1 140 ((q : Nat) : Int)) 139 x) q (hp (wl (wi w1 140 ((q : Nat) : Int)) 139 x) q) U ow' kd' Fv' P' W B Y := CX_hand cw1 gx
    refine pp_bb (pp_mo (pp_pl (want_pe (N := N) (e := 1) (k := 4 + s) (x := x) pt1 cx1 cw2 pl1 (fun i h1 h2 => by rw [show i = W by omega, j1 35 (by omega)]; exact rt) (by omega) (by omega) (by omega) hN) (pk_ok (want_ok (N := N) (x := ((4 + s : Nat) : Int)) pt1 cx1 ⟨by omega, by omega⟩ (by omega)))) (fun m3 r3 w3 r3' hw => ?_))
    obtain ⟨⟨b2, U2, pl3, rt3, hr, xm, xr, -, ⟨owr, kdr, cx3⟩⟩, -, U3, ow3, kd3, pt3, -, -, -, sW⟩ := hw
    have eU : U3 = U2 := by
      have h1 := pt3.1.1
      have h2 := pl3.1.1.1
      rw [wi_ne (pq_inj (by omega))] at h2
      omega
    subst eU
    have xm3 : XMm q m m3 := XMm.tr (FR.mo fm (by simp) (by simp) (by simp) (by simp)) (XMm.want xm)
    have xr3 : XMr q w w3 := XMr.tr (XMr.tr (XMr.sz f1) XMr.hand) (XMr.want xr)
    have xr4 : XMr q w (wl (wi w3 140 (-1)) 139 (mk 6 0)) := XMr.tr xr3 XMr.hand
    have y5 : m3.1 (pq q 5) = w3.2.2.1 90 q := by
      have := pl3.1.2.2
      rw [wi_1 (pq_inj (by omega))] at this
      exact this
    rcases hr with ⟨rfl, rfl⟩ | ⟨rfl, rfl, hU3⟩
    · -- no room
      rw [show decide ((0 : Int32) = 0) = true from rfl, br_t, br_t, handN_e, bnd_so]
      unfold hm_Wl_endsBy hb_Wl_endsBy_0
      have h9 : F m3 (pq q 9) ≠ 3 := by
        rw [FR.F xm3 (by simp; exact ⟨pq_inj (by omega), pq_inj (by omega), pq_inj (by omega)⟩)]
        exact hal
      have h955 : F m3 955 = ((e : Nat) : Int) := by
        rw [FR.F xm3 (by simp; unfold pq; omega)]
        exact he.1
      have h109 : A (wl (wi w3 140 (-1)) 139 (mk 6 0)) 109 q ≠ 3 := by
        rw [FR.A xr4.1 (by simp)]
        exact hal'
      have h150 : F (wl (wi w3 140 (-1)) 139 (mk 6 0)) 150 = ((e' : Nat) : Int) := by
        rw [FR.F xr4.1 (by simp)]
        exact he'.1
      rw [show (1 : Int32) = I 1 from rfl, show (20 : Int32) = I 20 from rfl, e_make, bnd_so, endsW_e (e := e) h9 h955 he.2, bnd_so, bnd_so, term_e, bnd_so, lit0, willE_e (e := e') (by omega) h109 h150 he'.2 hq, bnd_so]
      exact pp_end (Or.inr (Or.inl ⟨m3, _, xm3, xr4, y5, rfl, rfl⟩))
    · -- room
      rw [show decide ((1 : Int32) = 0) = false from rfl, br_f, br_f, handN_e, bnd_so, show decide ((some q : Option Nat) = some q) = true from decide_eq_true rfl, br_t]
      have eW : F m3 (pq q 26) = ((W + 1 : Nat) : Int) := pt3.2.2.1.1
      have hb : hm_Fr_below N m3 q 0 = some (m3, m3.2.2.2 (pq q 35) W) := by
        obtain ⟨l2, d1, d2, d3⟩ := pt3.2.2.2.2.2.1
        have := below_e (N := N) (u := m3) (q := q) (k := 0) (x := 0) (W := W + 1) eW d1 (by omega) (by omega) rfl (by omega)
        rw [show W + 1 - 1 - 0 = W by omega] at this
        exact this
      rw [hb, bnd_so]
      have pl4 : PLs b2 q (Yk q (I ((W : Nat) : Int)) m3) (wl (wi w3 140 (-1)) 139 (mk 6 0)) U3 B W Y := PLs_h pl3
      have rt4 : RTb b2 (m3.2.2.2 (pq q 35) W) (w3.2.1 139) := rt3 W (Nat.le_refl _) (by omega)
      have z3 : SZc (m3.2.2.2 (pq q 2)) U3 ow3 kd3 Fv P f (m3.2.2.2 (pq q 35) W) s := (sW W (by omega)).2.2 f s (by rw [j1 2 (by omega), j1 35 (by omega)]; exact zs)
      have f140 : F w3 140 = ((q : Nat) : Int) := by
        rw [FR.F xr.1 (by simp)]
        show F (wi w1 140 ((q : Nat) : Int)) 140 = _
        exact wi_sm (by omega) (by omega)
      have g3 : GT U3 owr kdr P' (w3.2.1 139) := cx3.2.2.2.2.2.2.2.2.2.2 f140
      obtain ⟨f3', s3', z3'⟩ := HP_sz cx3.2.1 g3
      have es3 := SZ_iso pl4.1.2.1 rt4 z3 z3'
      subst es3
      have hU3' : U3 ≤ 500 := pl4.1.1.2.2
      have sr4 : SRs Fv P Fv' P' (Yk q (I ((W : Nat) : Int)) m3) (wl (wi w3 140 (-1)) 139 (mk 6 0)) q U3 (some q) (m3.2.2.2 (pq q 35) W) 0 q (w3.2.1 139) s := ⟨by omega, Or.inr ⟨q, b2, U3, ow3, kd3, f, U3, owr, kdr, f3', rfl, ⟨pt3.1.2.2, by omega, fun _ => Nat.le_refl _⟩, ⟨cx3.2.1, hU3', fun _ => Nat.le_refl _⟩, pl4.1.2.1.w, z3, Or.inl ⟨rfl, rt4, z3'⟩⟩⟩
      have u4 : A (wl (wi w3 140 (-1)) 139 (mk 6 0)) 89 q = ((U3 : Nat) : Int) := pl4.1.1.2.1
      rw [show decide ((2 : Int32) ≤ I ((0 : Nat) : Int)) = false from rfl, br_f]
      refine r_ck (fun _ => ?_)
      rw [tnI (n := q) rfl (by omega), I_A' u4, lt_e, show decide (I ((0 : Nat) : Int) = 0) = true from rfl, br_t]
      have tl := tail_pp (N := N) (a := 4) (v3 := v3) (v4 := 0) (wr := 0) (o := q) (x := w3.2.1 139) (Or.inr (Or.inl ⟨rfl, rfl⟩)) pl4 c hq cx.1 (show HPc ((Yk q (I ((W : Nat) : Int)) m3).2.2.2 (pq q 2)) U3 ow3 kd3 Fv P from pt3.1.2.2) sr4 (by omega) (by omega)
      intro m2 _ w2 _ e1 e2
      have cy := cy_81 (N := N) (q := q) (z := I ((W : Nat) : Int)) (u := m3) (t := m3.2.2.2 (pq q 35) W) (v2 := I ((4 : Nat) : Int)) (v3 := I v3) (v4 := I 0) (j := q) m2 () e1
      obtain ⟨⟨b3, pl5⟩, xm5, xr5⟩ := tl (Yk q (I ((W : Nat) : Int)) m2) () w2 () cy e2
      have kc : Kwcc m3 m2 := ywc_hb_Wl_post_81 Kwc_rf m2 () e1
      have xm6 : XMm q m3 m2 := ⟨fun k hk => by
        by_cases c26 : k = pq q 26
        · rw [c26]
          exact kc (pq q 26) ⟨by unfold pq; omega, by unfold pq; omega⟩
        · have := xm5.1 k hk
          rw [show (Yk q (I ((W : Nat) : Int)) m2).1 k = m2.1 k from if_neg c26, show (Yk q (I ((W : Nat) : Int)) m3).1 k = m3.1 k from if_neg c26] at this
          exact this, xm5.2.1, xm5.2.2.1, xm5.2.2.2⟩
      exact Or.inr (Or.inr ⟨c, _, b3, pl5, XMm.tr xm3 xm6, XMr.tr xr4 xr5⟩)
  · rw [decide_eq_false (by omega), br_f, decide_eq_true (by omega), br_t]
    exact pp_end (Or.inl ⟨by omega, rfl, rfl⟩)
end
