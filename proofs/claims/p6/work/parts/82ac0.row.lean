section
variable {α : Type} {Q : MS → α → Prop} {u0 u v v1 w x : MS} {N σ TN SN q0 q1 q2 q3 e : Nat} {bw : Nat → Nat} {p o n q c f h s wt g lv xb xb1 xb2 k t m D d p1 n1 q1' c1 f1 h1 p2 n2 c2 f2 h2 y z l : Int} {R R1 R2 : Nat → Prop} {r y1 y2 y3 : Int32} {S : SG_M_behind} {a : Nat → Nat} {j : Nat}
theorem SEQ_nil {gg q m lo mm X Y sh : Nat} (h : lo ≤ m ∧ m ≤ mm ∧ q ≤ X) : SEQ w SN gg a a q q m m lo mm X Y sh (fun _ => False) := by
  refine ⟨⟨fun i => Nat.le_refl _, fun _ => rfl, h.1, h.1, h.2.1, h.2.1, h.2.2, h.2.2, fun n hn => hn.elim⟩, fun Z hh rk z1 z2 z3 z4 z5 z6 z7 z8 z9 => ?_⟩
  exact ⟨tyc Z (hh + q) m rk, fun _ _ => 0, tyc_e, tyc_e, tyc_r (i := 0), fun z => by omega, by rw [show tR (tyc Z (hh + q) m rk) (a 0) = rk from tyc_r (i := 0)]; omega, fun n hn => hn.elim, fun n h1 h2 => by omega, fun n h1 h2 => by omega, fun n h1 h2 => by omega⟩
theorem TYG_nil (hs : SCP (F u0 17) σ v) (hl : LGS σ v) (h1 : mks v = mks u) (h2 : nmo σ v = nmo σ u) (hx : 0 ≤ xb) (hlv : lv ≤ 25) : TYG TN SN σ g lv xb u v 0 0 (fun _ => False) := by
  intro z1 z2 z3
  have s1 := (hs σ (Nat.le_refl σ)).1
  have := hl z2
  refine ⟨nmo σ v, 0, 0, ?_, by unfold nmo; omega, by unfold nmo; omega, by omega, by omega⟩
  rw [h1, h2]
  exact SEQ_nil ⟨Nat.le_refl _, Nat.le_refl _, Nat.le_refl _⟩
def ARL (u0 : MS) (TN SN : Nat) (bw : Nat → Nat) (σ : Nat) (y : Int) (j : Nat) (p o n q c f h s wt g : Int) (u v : MS) : Prop := F v 67 = 0 ∧ ∃ p1 n1 q1 c1 f1 h1 : Int, ST u0 σ p1 o n1 q1 c1 f1 h1 s wt g v ∧ KPR σ u v ∧ p1 ≤ TN ∧ DLT bw 3 y 1 p n q c f h p1 n1 q1 c1 f1 h1 ∧ LGS σ v ∧ TYG TN SN σ g o (p1 - p) u v 0 j (fun _ => False)
theorem ARL_0 (tk : TKW u0 TN SN bw) (hs : ST u0 σ p o n q c f h s wt g u) (hf : F u 67 = 0) (hl : LGS σ u) (hp : 0 ≤ p ∧ p < TN) (ho : o ≤ 25) : ARL u0 TN SN bw σ 1 0 p o n q c f h s wt g u (nx1 u) := by
  have hT := tk.1.1
  have d := DLT_1 (n := n) (q := q) (c := c) (f := f) (h := h) (m := 0) tk hp (by omega)
  have l1 : LGS σ (nx1 u) := fun z => hl (by rw [← z]; exact (wi_ne (by decide)).symm)
  refine ⟨(wi_ne (by decide)).trans hf, p + 1, n, q, c, f, h, ST_nx hs (by omega), KPR_w0 KPR_rf (by decide), by omega, ?_, l1, TYG_nil (ST_nx hs (by omega)).2.2.2.1 l1 (wi_mks (by decide)) rfl (by omega) ho⟩
  unfold DLT at d ⊢
  omega
theorem ARL_add (a : ARL u0 TN SN bw σ (1 + 2 * j) j p o n q c f h s wt g u v) (hx : XSP u0 TN SN bw D 3 0 0 0 o S.2.2.2.2.2.2.2.2.2.2.2.2.2.1) (tk : TKW u0 TN SN bw) (hm : NM TN bw 3 0 0 σ p o n q c f h s wt) : OK (fun w r => ARL u0 TN SN bw σ (2 * (j + 1 : Nat)) (j + 1) p o n q c f h s wt g u w ∨ FSM u0 TN σ D w) (S.2.2.2.2.2.2.2.2.2.2.2.2.2.1 v) := by
  obtain ⟨a0, p1, n1, q1, c1, f1, h1, a1, a2, a3, a4, a5, a6⟩ := a
  have m1 := NM_dlt tk hm a4 (by omega) (by omega) a3
  refine ok_mono (hx v σ _ _ _ _ _ _ _ _ _ a1 a0 m1 a5) (fun w r hw => ?_)
  rw [show o - 0 = o from by omega] at hw
  rcases hw with ⟨g0, p5, n5, q5, c5, f5, h5, e5, g1, g2, g3, g4, g5, g6, g7, g8⟩ | hw
  · refine Or.inl ⟨g0, p5, n5, q5, c5, f5, h5, g2, KPR_tr a2 g3, g4, DLT_mo (DLT_tr a4 g5) (by omega) (by omega) (by omega), g7, ?_⟩
    have t := TYG_app (xb := p5 - p) (e := j) a6 g3 g8 (by omega) (by unfold DLT at g5; omega) (by unfold DLT at a4; omega)
    rw [Nat.add_comm 1 j] at t
    refine TYG_ro t (fun n hn => hn.elim) (fun n hn => Or.inr ?_)
    rcases hn with hn | hn
    · exact hn.elim
    · rw [hn]; exact g6.2.2.2
  · exact Or.inr hw.1
theorem ARL_s {y2 : Int} (a : ARL u0 TN SN bw σ y j p o n q c f h s wt g u v) (tk : TKW u0 TN SN bw) (hz : IS v z) (hy : y2 ≤ y + 1) (hp : 0 ≤ p) (hy0 : 0 ≤ y) : ARL u0 TN SN bw σ y2 j p o n q c f h s wt g u (nx1 v) ∧ ∃ p1 n1 q1 c1 f1 h1 : Int, ST u0 σ (p1 + 1) o n1 q1 c1 f1 h1 s wt g (nx1 v) ∧ p1 < TN ∧ DLT bw 6 (y + 1) 2 p n q c f h (p1 + 1) n1 q1 c1 f1 h1 ∧ KPR σ u (nx1 v) ∧ LGS σ (nx1 v) ∧ TYG TN SN σ g o (p1 - p) u (nx1 v) 0 j (fun _ => False) := by
  obtain ⟨a0, p1, n1, q1, c1, f1, h1, a1, a2, a3, a4, a5, a6⟩ := a
  have hT := tk.1.1
  have z2 := ST_IS a1 hz
  have p0 : 0 ≤ p1 := by unfold DLT at a4; omega
  have ltp := tok_lt tk ⟨p0, a3⟩ (show ¬ (A u0 6 (p1).toNat = 0 ∨ A u0 6 (p1).toNat = 7) by omega)
  have d := DLT_1 (n := n1) (q := q1) (c := c1) (f := f1) (h := h1) (m := 0) tk ⟨p0, ltp⟩ (by omega)
  have l1 : LGS σ (nx1 v) := fun z => a5 (by rw [← z]; exact (wi_ne (by decide)).symm)
  have k1 : KPR σ v (nx1 v) := KPR_w0 KPR_rf (by decide)
  have t1 : TYG TN SN σ g o (p1 - p) u (nx1 v) 0 j (fun _ => False) := TYG_v a6 k1 (wi_mks (by decide)) rfl
  have dd := DLT_tr a4 d
  rw [show n1 + 0 = n1 by omega] at dd
  exact ⟨⟨(wi_ne (by decide)).trans a0, p1 + 1, n1, q1, c1, f1, h1, ST_nx a1 (by omega), KPR_tr a2 k1, by omega, DLT_mo dd (by omega) (by omega) (by omega), l1, TYG_mo t1 (by omega) (Int.le_refl _)⟩, p1, n1, q1, c1, f1, h1, ST_nx a1 (by omega), ltp, DLT_mo dd (by omega) (by omega) (by omega), KPR_tr a2 k1, l1, t1⟩
theorem ARL_p (a : ARL u0 TN SN bw σ y j p o n q c f h s wt g u v) (tk : TKW u0 TN SN bw) (hp : 0 ≤ p) (hy : 0 ≤ y) : 0 ≤ F v 69 ∧ F v 69 ≤ TN := by
  obtain ⟨a0, p1, n1, q1, c1, f1, h1, a1, a2, a3, a4, a5, a6⟩ := a
  have : F v 69 = p1 := a1.2.1.1
  unfold DLT at a4
  omega
theorem ARL_F (a : ARL u0 TN SN bw σ y j p o n q c f h s wt g u v) (tk : TKW u0 TN SN bw) (hm : NM TN bw 3 0 0 σ p o n q c f h s wt) (hy : 0 ≤ y) (hd : 0 ≤ d) (b : FR [67, 68] [] [] [] v w) (hw : F w 67 ≠ 0) : FSM u0 TN σ d w := by
  obtain ⟨a0, p1, n1, q1, c1, f1, h1, a1, a2, a3, a4, a5, a6⟩ := a
  have fs := NM_fs (NM_dlt tk hm a4 (by omega) (by omega) a3) (by omega)
  exact FSM_of (ST_67 a1 b) (by omega) (by omega) fs.1 hw
def ARQ (u0 : MS) (TN SN : Nat) (bw : Nat → Nat) (σ : Nat) (p o n q c f h s wt g : Int) (u v : MS) : Prop := F v 67 = 0 ∧ ∃ (j : Nat) (p1 n1 q1 c1 f1 h1 : Int), (F v 84 = j ∧ j ≤ 6) ∧ ST u0 σ p1 o n1 q1 c1 f1 h1 s wt g v ∧ KPR σ u v ∧ p1 ≤ TN ∧ DLT bw 6 2 2 p n q c f h p1 n1 q1 c1 f1 h1 ∧ 2 * (j : Int) ≤ p1 - p ∧ LGS σ v ∧ TYG TN SN σ g o (p1 - p - 1) u v 0 j (fun _ => False)
def XAR (u0 : MS) (TN SN : Nat) (bw : Nat → Nat) (D o : Int) (fn : MS → Option (MS × Unit)) : Prop := ∀ (u : MS) (σ : Nat) (p n q c f h s wt g : Int), ST u0 σ p o n q c f h s wt g u → F u 67 = 0 → NM TN bw 3 0 0 σ p o n q c f h s wt → LGS σ u → OK (fun v _ => ARQ u0 TN SN bw σ p o n q c f h s wt g u v ∨ FSM u0 TN σ D v) (fn u)
theorem args73_F {G : MS → Int32 → Int32 → Option (MS × Unit)} (hT : TN ≤ 4000) (hs : FSM u0 TN σ D v) : OK (fun v _ => FSM u0 TN σ D v) (fb_M_arguments_73 N S G v y1) := by
  unfold fb_M_arguments_73
  refine k_needSign (s := 1) rfl ⟨by decide, by decide⟩ (FSM_p hs hT) (fun z => absurd z hs.2.1) (fun v1 h1 h2 => ok_lt.mpr (ok_some.mpr ?_))
  rw [I_of y1, wi_e]
  exact FSM_wi (FSM_67 hs h1 h2) (by decide)
theorem args73_N {G : MS → Int32 → Int32 → Option (MS × Unit)} (tk : TKW u0 TN SN bw) (hD : 0 ≤ D) (hm : NM TN bw 3 0 0 σ p o n q c f h s wt) (a : ARL u0 TN SN bw σ y j p o n q c f h s wt g u v) (hy : 1 ≤ y ∧ 2 * j ≤ y) (hj : j ≤ 6) : OK (fun v _ => ARQ u0 TN SN bw σ p o n q c f h s wt g u v ∨ FSM u0 TN σ D v) (fb_M_arguments_73 N S G v (I (j : Int))) := by
  have hT := tk.1.1
  have fs := NM_fs hm (by omega)
  have pv := ARL_p a tk (by omega) (by omega)
  unfold fb_M_arguments_73
  refine k_needSign (s := 1) rfl ⟨by decide, by decide⟩ (by omega) (fun _ z => ok_lt.mpr (ok_some.mpr (Or.inl ?_))) (fun v1 h1 h2 => ok_lt.mpr (ok_some.mpr (Or.inr ?_)))
  · obtain ⟨b, p1, n1, q1, c1, f1, h1, s1, s2, s3, s4, s5, s6⟩ := ARL_s (y2 := y + 1) a tk z (by omega) (by omega) (by omega)
    rw [wi_e]
    have k8 : KPR σ (nx1 v) (wi (nx1 v) 84 (j : Int)) := KPR_w0 KPR_rf (by decide)
    refine ⟨(wi_ne (by decide)).trans b.1, j, p1 + 1, n1, q1, c1, f1, h1, ⟨wi_eq ⟨by omega, by omega⟩, hj⟩, ST_84 s1, KPR_tr s4 k8, by omega, DLT_mo s3 (by omega) (by omega) (by omega), by unfold DLT at s3; omega, fun z => s5 (by rw [← z]; exact (wi_ne (by decide)).symm), ?_⟩
    rw [show p1 + 1 - p - 1 = p1 - p from by omega]
    exact TYG_v s6 k8 (wi_mks (by decide)) rfl
  · rw [wi_e]
    exact FSM_wi (ARL_F a tk hm (by omega) hD h1 h2) (by decide)
theorem args_loop (tk : TKW u0 TN SN bw) (hD : 0 ≤ D) (hx : XSP u0 TN SN bw D 3 0 0 0 o S.2.2.2.2.2.2.2.2.2.2.2.2.2.1) (hm : NM TN bw 3 0 0 σ p o n q c f h s wt) : ∀ (m j : Nat) (v : MS), ARL u0 TN SN bw σ (1 + 2 * j) j p o n q c f h s wt g u v → j ≤ 5 → 8 - j < m → OK (fun v _ => ARQ u0 TN SN bw σ p o n q c f h s wt g u v ∨ FSM u0 TN σ D v) (gg_M_arguments N S m v (I (j : Int)) 1) := by
  have hT := tk.1.1
  have fs := NM_fs hm (by omega)
  intro m
  induction m with
  | zero => intro j v _ _ z; exact absurd z (Nat.not_lt_zero _)
  | succ m ih =>
    intro j v a hj hm2
    obtain ⟨m', rfl⟩ : ∃ m', m = m' + 1 := ⟨m - 1, by omega⟩
    show OK _ (fb_M_arguments_24 N S (gg_M_arguments N S (m' + 1)) v (I (j : Int)) 1)
    unfold fb_M_arguments_24
    rw [br10, I_F' a.1, show decide (I 0 = (0 : Int32)) = true from rfl, br_tq]
    refine ok_bnd.mpr (ok_mono (ARL_add a hx tk hm) (fun w r hw => ?_))
    rw [lit1q, I_add, show (j : Int) + 1 = ((j + 1 : Nat) : Int) from by omega, show (6 : Int32) = I 6 from rfl]
    have goF : ∀ w, FSM u0 TN σ D w → OK (fun v _ => ARQ u0 TN SN bw σ p o n q c f h s wt g u v ∨ FSM u0 TN σ D v) (fb_M_arguments_63 N S (gg_M_arguments N S (m' + 1)) w (I ((j + 1 : Nat) : Int))) := fun w hw => by
      unfold fb_M_arguments_63
      refine k_takeSign (s := 6) rfl ⟨by decide, by decide⟩ (FSM_p hw hT) (fun z => absurd z hw.2.1) (fun _ => ?_)
      show OK _ (fb_M_arguments_24 N S (gg_M_arguments N S m') w (I ((j + 1 : Nat) : Int)) 0)
      unfold fb_M_arguments_24
      rw [br00]
      exact ok_mono (args73_F hT hw) (fun _ _ => Or.inr)
    rcases hw with hw | hw
    · have pv := ARL_p hw tk (by omega) (by omega)
      have go : (j + 1 ≤ 5 ∨ ¬ IS w 6) → OK (fun v _ => ARQ u0 TN SN bw σ p o n q c f h s wt g u v ∨ FSM u0 TN σ D v) (fb_M_arguments_63 N S (gg_M_arguments N S (m' + 1)) w (I ((j + 1 : Nat) : Int))) := fun hz => by
        unfold fb_M_arguments_63
        refine k_takeSign (s := 6) rfl ⟨by decide, by decide⟩ (by omega) (fun _ z => ?_) (fun _ => ?_)
        · have hj5 : j + 1 ≤ 5 := hz.resolve_right (fun y => y z)
          have b := (ARL_s (y2 := 1 + 2 * (j + 1 : Nat)) hw tk z (by omega) (by omega) (by omega)).1
          exact ih (j + 1) (nx1 w) b hj5 (by omega)
        · show OK _ (fb_M_arguments_24 N S (gg_M_arguments N S m') w (I ((j + 1 : Nat) : Int)) 0)
          unfold fb_M_arguments_24
          rw [br00]
          exact args73_N tk hD hm hw (by omega) (by omega)
      refine k_eq ⟨by omega, by omega⟩ ⟨by decide, by decide⟩ (fun e => ?_) (fun e => go (Or.inl (by omega)))
      refine k_isSign (s := 6) rfl ⟨by decide, by decide⟩ (by omega) (fun z => ?_) (fun z => go (Or.inr z))
      exact k_wrong (s := 2) rfl ⟨by decide, by decide⟩ (by decide) (by omega) (fun v1 h1 h2 => goF v1 (ARL_F hw tk hm (by omega) hD h1 h2))
    · refine k_eq ⟨by omega, by omega⟩ ⟨by decide, by decide⟩ (fun e => ?_) (fun e => goF w hw)
      refine k_isSign (s := 6) rfl ⟨by decide, by decide⟩ (FSM_p hw hT) (fun z => ?_) (fun z => goF w hw)
      exact k_wrong (s := 2) rfl ⟨by decide, by decide⟩ (by decide) (FSM_p hw hT) (fun v1 h1 h2 => goF v1 (FSM_67 hw h1 h2))
theorem arguments_ok (tk : TKW u0 TN SN bw) (hN : 5000 ≤ N) (hD : 0 ≤ D) (ho : o ≤ 25) (hx : XSP u0 TN SN bw D 3 0 0 0 o S.2.2.2.2.2.2.2.2.2.2.2.2.2.1) : XAR u0 TN SN bw (D + 10) o (fm_M_arguments N S) := by
  intro u σ p n q c f h s wt g hs hf hm hl
  have hT := tk.1.1
  have fs := NM_fs hm (by omega)
  have e69 : F u 69 = p := hs.2.1.1
  unfold fm_M_arguments fb_M_arguments_0
  have up : ∀ (x : Option (MS × Unit)), OK (fun v _ => ARQ u0 TN SN bw σ p o n q c f h s wt g u v ∨ FSM u0 TN σ D v) x → OK (fun v _ => ARQ u0 TN SN bw σ p o n q c f h s wt g u v ∨ FSM u0 TN σ (D + 10) v) x := fun x hx => ok_mono hx (fun _ _ y => y.imp id (fun z => FSM_mo z (by omega)))
  refine up _ (k_needSign (s := 0) rfl ⟨by decide, by decide⟩ (by omega) (fun _ z => ?_) (fun v1 h1 h2 => ?_))
  · have z2 := ST_IS hs z
    have ltp := tok_lt tk (by omega) (show ¬ (A u0 6 (p).toNat = 0 ∨ A u0 6 (p).toNat = 7) by omega)
    have a0 : ARL u0 TN SN bw σ 1 0 p o n q c f h s wt g u (nx1 u) := ARL_0 tk hs hf hl ⟨by omega, ltp⟩ ho
    have pv := ARL_p a0 tk (by omega) (by omega)
    refine k_F (y := 0) rfl ⟨by decide, by decide⟩ (fun _ => ?_) (fun z => absurd a0.1 z)
    refine k_isSign (s := 1) rfl ⟨by decide, by decide⟩ (by omega) (fun _ => args73_N (j := 0) tk hD hm a0 (by omega) (by omega)) (fun _ => ?_)
    exact args_loop tk hD hx hm N 0 (nx1 u) a0 (by omega) (by omega)
  · have fsm : FSM u0 TN σ D v1 := FSM_of (ST_67 hs h1) (by omega) (by omega) fs.1 h2
    refine k_F (y := 0) rfl ⟨by decide, by decide⟩ (fun z => absurd z h2) (fun _ => ?_)
    exact ok_mono (args73_F hT fsm) (fun _ _ => Or.inr)
def RWQ (u0 : MS) (TN SN : Nat) (bw : Nat → Nat) (σ : Nat) (D p o n q c f h s wt g : Int) (u v : MS) (r : Int32) : Prop := EXQ u0 TN SN bw σ (o - 1) p o n q c f h s wt g u v r ∨ FSM u0 TN σ D v
theorem row140_F2 {G : MS → Int32 → Int32 → Int32 → Int32 → Int32 → Int32 → Option (MS × Int32)} {t1 : Int32} (hT : TN ≤ 4000) (hD : D ≤ 3000) (hs : FSM u0 TN σ D v) (hp : 0 ≤ p ∧ p < 4002) (hk : vp_nar .byte (t1.toInt8.toInt32) = I k) (hk2 : 0 ≤ k ∧ k ≤ 31) : OK (fun v _ => FSM u0 TN σ (D + 1) v) (fb_M_row_140 N S G v (I p) y1 y2 t1) := by
  unfold fb_M_row_140
  have n0 := hs.2.2.2.2.1
  refine k_node hk hk2 rfl hp (by omega) (fun v1 hv1 => ?_)
  refine k_in (k := 25) (n := 16000) rfl (by decide) (by omega) (ok_lt.mpr (k_in (k := 26) (n := 16000) rfl (by decide) (by omega) (ok_lt.mpr (ok_some.mpr ?_))))
  rw [I_of y1, I_of y2, wa_e, wa_e]
  exact FSM_wa (FSM_wa (FSM_nd hs hv1.1) (by decide)) (by decide)
theorem row125_F {G : MS → Int32 → Int32 → Int32 → Int32 → Int32 → Int32 → Option (MS × Int32)} (hT : TN ≤ 4000) (hD : D ≤ 3000) (hs : FSM u0 TN σ D v) (hp : 0 ≤ p ∧ p < 4002) {z1 z2 : Int32} : OK (fun v _ => FSM u0 TN σ (D + 1) v) (fb_M_row_125 N S G v (I p) z1 z2 y1 y2) := by
  unfold fb_M_row_125
  refine k_needSign (I_of z2) (ti_rng z2) (FSM_p hs hT) (fun z => absurd z hs.2.1) (fun v1 h1 h2 => ?_)
  have s1 := FSM_67 hs h1 h2
  exact ok_br.mpr ⟨fun _ => row140_F2 (k := 5) hT hD s1 hp rfl (by decide), fun _ => row140_F2 (k := 4) hT hD s1 hp rfl (by decide)⟩
theorem row103_F {G : MS → Int32 → Int32 → Int32 → Int32 → Int32 → Int32 → Option (MS × Int32)} (hT : TN ≤ 4000) (hD : D ≤ 3000) (hs : FSM u0 TN σ D v) (hp : 0 ≤ p ∧ p < 4002) {z1 z2 : Int32} : OK (fun v _ => FSM u0 TN σ (D + 1) v) (fb_M_row_103 N S G v (I p) z1 z2 y1 y2) := by
  unfold fb_M_row_103
  refine ok_br.mpr ⟨fun _ => k_takeSign (s := 9) rfl ⟨by decide, by decide⟩ (FSM_p hs hT) (fun z => absurd z hs.2.1) (fun _ => ?_), fun _ => row125_F hT hD hs hp⟩
  rw [br00]
  exact row125_F hT hD hs hp
theorem row125_N {G : MS → Int32 → Int32 → Int32 → Int32 → Int32 → Int32 → Option (MS × Int32)} {j1 i : Nat} {z1 z2 : Int32} (tk : TKW u0 TN SN bw) (hD : 0 ≤ D ∧ D ≤ 2900) (ho : 0 ≤ o ∧ o ≤ 25) (hm : NM TN bw 3 0 0 σ p o n q c f h s wt) (a : ARL u0 TN SN bw σ y j p o n q c f h s wt g u v) (hy : 1 ≤ y ∧ 2 * j ≤ y) (hj : j1 ≤ 8 ∧ i ≤ 1 ∧ j = j1 + i) (hz : (z1 = 0 ∧ z2 = I 5) ∨ (z1 = 1 ∧ z2 = I 3 ∧ i = 0)) : OK (RWQ u0 TN SN bw σ (D + 1) p o n q c f h s wt g u) (fb_M_row_125 N S G v (I p) z1 z2 (I (j1 : Int)) (I (i : Int))) := by
  have hT := tk.1.1
  have fs := NM_fs hm (by omega)
  have pv := ARL_p a tk (by omega) (by omega)
  unfold fb_M_row_125
  obtain ⟨ec, hec, hrg⟩ : ∃ ec : Int, z2 = I ec ∧ RG ec := by
    rcases hz with hz | hz
    · exact ⟨5, hz.2, by decide, by decide⟩
    · exact ⟨3, hz.2.1, by decide, by decide⟩
  refine k_needSign hec hrg (by omega) (fun _ z => ?_) (fun v1 h1 h2 => ?_)
  · obtain ⟨b, p1, n1, q1, c1, f1, hh1, r1, r2, r3, r4, r5, r6⟩ := ARL_s (y2 := y + 1) a tk z (by omega) (by omega) (by omega)
    have e32 : F (nx1 v) 32 = n1 := r1.2.1.2.2.1
    have n1b : 0 ≤ n1 ∧ n1 ≤ 12000 ∧ n ≤ n1 := by unfold DLT at r3; unfold NM at hm; omega
    have p1b : p + 1 ≤ p1 ∧ 2 * (j : Int) ≤ p1 - p := by unfold DLT at r3; omega
    have nul := nu_le u0 (p1 + 1).toNat
    have node : ∀ (t1 : Int32) (kk : Int), vp_nar .byte (t1.toInt8.toInt32) = I kk → (kk = 5 ∨ (kk = 4 ∧ i = 0)) → OK (RWQ u0 TN SN bw σ (D + 1) p o n q c f h s wt g u) (fb_M_row_140 N S G (nx1 v) (I p) (I (j1 : Int)) (I (i : Int)) t1) := fun t1 kk h1 h2 => by
      unfold fb_M_row_140
      refine k_node h1 (by omega) rfl (by omega) (by omega) (fun v3 hv3 => ?_)
      refine k_in (k := 25) (n := 16000) rfl (by decide) (by omega) (ok_lt.mpr (k_in (k := 26) (n := 16000) rfl (by decide) (by omega) (ok_lt.mpr (ok_some.mpr (Or.inl ?_)))))
      rw [I_tn (by omega) (by omega), wa_e, wa_e]
      have nd : NDW (nx1 v) (wa (wa v3 25 (F (nx1 v) 32).toNat (j1 : Int)) 26 (F (nx1 v) 32).toNat (i : Int)) kk p := NDW_wa (NDW_wa hv3.1 (by decide)) (by decide)
      have nw : NEWN (wa (wa v3 25 (F (nx1 v) 32).toNat (j1 : Int)) 26 (F (nx1 v) 32).toNat (i : Int)) (F (nx1 v) 32).toNat kk := NEWN_wa (NEWN_wa (NEWN_of hv3 (by omega)) (by decide)) (by decide)
      have a25 : A (wa (wa v3 25 (F (nx1 v) 32).toNat (j1 : Int)) 26 (F (nx1 v) 32).toNat (i : Int)) 25 (F (nx1 v) 32).toNat = (j1 : Int) := by rw [wa_rne (by decide), wa_eq ⟨by omega, by omega⟩]
      have a26 : A (wa (wa v3 25 (F (nx1 v) 32).toNat (j1 : Int)) 26 (F (nx1 v) 32).toNat (i : Int)) 26 (F (nx1 v) 32).toNat = (i : Int) := wa_eq ⟨by omega, by omega⟩
      generalize wa (wa v3 25 (F (nx1 v) 32).toNat (j1 : Int)) 26 (F (nx1 v) 32).toNat (i : Int) = w at *
      have kw : KPR σ (nx1 v) w := KPR_nd KPR_rf nd (by omega)
      have sw := ST_nd r1 nd (by omega) (by omega) (fun z => by omega)
      have tn : TYG TN SN σ g (o - 1) (p1 + 1 - p + 1) (nx1 v) w j 1 (fun i => i = (F (nx1 v) 32).toNat) := by
        refine TYG_nd (xx := max 1 j) nd (by omega) r1.2.2.2.1 r5 (fun mm X Y y1 y2 => ?_) (by omega) (by omega)
        have on := ONE_nd nd (show 0 ≤ F (nx1 v) 32 by omega)
        rcases h2 with h2 | ⟨h2, h3⟩
        · rw [h2] at nw
          rw [hj.2.2]
          exact s5 on nw ⟨Nat.le_refl _, y1, by omega, by omega⟩ a25 a26 hj.1 hj.2.1
        · rw [h2] at nw
          rw [show j = j1 by omega]
          exact s4 on nw ⟨Nat.le_refl _, y1, by omega, by omega⟩ a25 hj.1
      refine ⟨?_, p1 + 1, n1 + 1, q1, c1, f1, hh1, n1.toNat, by rw [e32]; congr 1; omega, sw, KPR_tr r4 kw, by omega, ?_, ⟨by omega, by omega, ?_, ?_⟩, ?_, ?_⟩
      · rw [nd.1.F (by decide)]; exact b.1
      · unfold DLT at r3 ⊢; omega
      · rw [e32] at nw
        exact RTD_mo 0 _ _ ⟨by omega, nw.2.2.2.1⟩ (by omega)
      · rw [e32] at nw; exact nw.2.2.2.2.1
      · intro z; rw [nd.1.A (by decide)]; exact r5 (by rw [← z]; exact (nd.1.F (by decide)).symm)
      · refine TYG_ro (TYG_app (xb := p1 + 1 - p + 1) (e := 0) (TYG_mo (lv2 := o - 1) r6 (Int.le_refl _) (by omega)) kw tn rfl (by omega) (by omega)) (fun i hi => Or.inr (by rw [e32]; exact hi)) (fun i hi => ?_)
        rcases hi with hi | hi
        · exact hi.elim
        · rw [e32] at hi; exact Or.inl hi
    rcases hz with hz | hz
    · rw [hz.1, br00]; exact node 5 5 rfl (Or.inl rfl)
    · rw [hz.1, br10]; exact node 4 4 rfl (Or.inr ⟨rfl, hz.2.2⟩)
  · have s1 : FSM u0 TN σ D v1 := ARL_F a tk hm (by omega) hD.1 h1 h2
    refine ok_br.mpr ⟨fun _ => ok_mono (row140_F2 (k := 5) hT (by omega) s1 (by omega) rfl (by decide)) (fun _ _ => Or.inr), fun _ => ok_mono (row140_F2 (k := 4) hT (by omega) s1 (by omega) rfl (by decide)) (fun _ _ => Or.inr)⟩
theorem row103_N {G : MS → Int32 → Int32 → Int32 → Int32 → Int32 → Int32 → Option (MS × Int32)} {z1 z2 : Int32} (tk : TKW u0 TN SN bw) (hD : 0 ≤ D ∧ D ≤ 2900) (ho : 0 ≤ o ∧ o ≤ 25) (hx : XSP u0 TN SN bw D 3 0 0 0 o S.2.2.2.2.2.2.2.2.2.2.2.2.2.1) (hm : NM TN bw 3 0 0 σ p o n q c f h s wt) (a : ARL u0 TN SN bw σ (2 * (j : Int)) j p o n q c f h s wt g u v) (hj : 1 ≤ j ∧ j ≤ 8) (hz : (z1 = 0 ∧ z2 = I 5) ∨ (z1 = 1 ∧ z2 = I 3)) : OK (RWQ u0 TN SN bw σ (D + 1) p o n q c f h s wt g u) (fb_M_row_103 N S G v (I p) z1 z2 (I (j : Int)) 0) := by
  have hT := tk.1.1
  have fs := NM_fs hm (by omega)
  have pv := ARL_p a tk (by omega) (by omega)
  have plain := row125_N (N := N) (S := S) (G := G) (i := 0) (j1 := j) (z1 := z1) (z2 := z2) tk hD ho hm a (by omega) (by omega) (hz.imp id (fun y => ⟨y.1, y.2, rfl⟩))
  unfold fb_M_row_103
  rcases hz with hz | hz
  · rw [hz.1] at plain ⊢
    rw [br00]
    refine k_takeSign (s := 9) rfl ⟨by decide, by decide⟩ (by omega) (fun _ z => ?_) (fun _ => by rw [br00]; exact plain)
    rw [br10]
    have b := (ARL_s (y2 := 1 + 2 * (j : Int)) a tk z (by omega) (by omega) (by omega)).1
    refine ok_bnd.mpr (ok_mono (ARL_add b hx tk hm) (fun w r hw => ?_))
    rcases hw with hw | hw
    · exact row125_N (i := 1) (j1 := j) tk hD ho hm hw (by omega) (by omega) (Or.inl ⟨rfl, hz.2⟩)
    · exact ok_mono (row125_F hT (by omega) hw (by omega)) (fun _ _ => Or.inr)
  · rw [hz.1] at plain ⊢
    rw [br10]
    exact plain
theorem row_loop2 {z1 z2 : Int32} (tk : TKW u0 TN SN bw) (hD : 0 ≤ D ∧ D ≤ 2900) (ho : 0 ≤ o ∧ o ≤ 25) (hx : XSP u0 TN SN bw D 3 0 0 0 o S.2.2.2.2.2.2.2.2.2.2.2.2.2.1) (hm : NM TN bw 3 0 0 σ p o n q c f h s wt) (hz : (z1 = 0 ∧ z2 = I 5) ∨ (z1 = 1 ∧ z2 = I 3)) : ∀ (m j : Nat) (v : MS), ARL u0 TN SN bw σ (1 + 2 * j) j p o n q c f h s wt g u v → j ≤ 7 → 10 - j < m → OK (RWQ u0 TN SN bw σ (D + 1) p o n q c f h s wt g u) (gg_M_row N S m v (I p) z1 z2 (I (j : Int)) 0 1) := by
  have hT := tk.1.1
  have fs := NM_fs hm (by omega)
  intro m
  induction m with
  | zero => intro j v _ _ z; exact absurd z (Nat.not_lt_zero _)
  | succ m ih =>
    intro j v a hj hm2
    obtain ⟨m', rfl⟩ : ∃ m', m = m' + 1 := ⟨m - 1, by omega⟩
    show OK _ (fb_M_row_50 N S (gg_M_row N S (m' + 1)) v (I p) z1 z2 (I (j : Int)) 0 1)
    unfold fb_M_row_50
    rw [br10, I_F' a.1, show decide (I 0 = (0 : Int32)) = true from rfl, br_tq]
    refine ok_bnd.mpr (ok_mono (ARL_add a hx tk hm) (fun w r hw => ?_))
    rw [lit1q, I_add, show (j : Int) + 1 = ((j + 1 : Nat) : Int) from by omega, show (8 : Int32) = I 8 from rfl]
    have goF : ∀ w, FSM u0 TN σ D w → OK (RWQ u0 TN SN bw σ (D + 1) p o n q c f h s wt g u) (fb_M_row_92 N S (gg_M_row N S (m' + 1)) w (I p) z1 z2 (I ((j + 1 : Nat) : Int)) 0) := fun w hw => by
      unfold fb_M_row_92
      refine k_takeSign (s := 6) rfl ⟨by decide, by decide⟩ (FSM_p hw hT) (fun z => absurd z hw.2.1) (fun _ => ?_)
      show OK _ (fb_M_row_50 N S (gg_M_row N S m') w (I p) z1 z2 (I ((j + 1 : Nat) : Int)) 0 0)
      unfold fb_M_row_50
      rw [br00]
      exact ok_mono (row103_F hT (by omega) hw (by omega)) (fun _ _ => Or.inr)
    rcases hw with hw | hw
    · have pv := ARL_p hw tk (by omega) (by omega)
      have go : (j + 1 ≤ 7 ∨ ¬ IS w 6) → OK (RWQ u0 TN SN bw σ (D + 1) p o n q c f h s wt g u) (fb_M_row_92 N S (gg_M_row N S (m' + 1)) w (I p) z1 z2 (I ((j + 1 : Nat) : Int)) 0) := fun hzz => by
        unfold fb_M_row_92
        refine k_takeSign (s := 6) rfl ⟨by decide, by decide⟩ (by omega) (fun _ z => ?_) (fun _ => ?_)
        · have hj5 : j + 1 ≤ 7 := hzz.resolve_right (fun y => y z)
          have b := (ARL_s (y2 := 1 + 2 * (j + 1 : Nat)) hw tk z (by omega) (by omega) (by omega)).1
          exact ih (j + 1) (nx1 w) b hj5 (by omega)
        · show OK _ (fb_M_row_50 N S (gg_M_row N S m') w (I p) z1 z2 (I ((j + 1 : Nat) : Int)) 0 0)
          unfold fb_M_row_50
          rw [br00]
          exact row103_N tk hD ho hx hm hw (by omega) hz
      refine k_eq ⟨by omega, by omega⟩ ⟨by decide, by decide⟩ (fun e => ?_) (fun e => go (Or.inl (by omega)))
      refine k_isSign (s := 6) rfl ⟨by decide, by decide⟩ (by omega) (fun z => ?_) (fun z => go (Or.inr z))
      exact k_wrong (s := 2) rfl ⟨by decide, by decide⟩ (by decide) (by omega) (fun v1 h1 h2 => goF v1 (ARL_F hw tk hm (by omega) hD.1 h1 h2))
    · refine k_eq ⟨by omega, by omega⟩ ⟨by decide, by decide⟩ (fun e => ?_) (fun e => goF w hw)
      refine k_isSign (s := 6) rfl ⟨by decide, by decide⟩ (FSM_p hw hT) (fun z => ?_) (fun z => goF w hw)
      exact k_wrong (s := 2) rfl ⟨by decide, by decide⟩ (by decide) (FSM_p hw hT) (fun v1 h1 h2 => goF v1 (FSM_67 hw h1 h2))
def XWP (u0 : MS) (TN SN : Nat) (bw : Nat → Nat) (D o : Int) (P : MS → Prop) (fn : MS → Int32 → Option (MS × Int32)) : Prop := ∀ (u : MS) (σ : Nat) (p n q c f h s wt g : Int), ST u0 σ p o n q c f h s wt g u → F u 67 = 0 → P u → NM TN bw 0 1 0 σ p o n q c f h s wt → LGS σ u → OK (RWQ u0 TN SN bw σ D p o n q c f h s wt g u) (fn u (I p))
theorem row_ok (tk : TKW u0 TN SN bw) (hN : 5000 ≤ N) (hD : 0 ≤ D ∧ D ≤ 2900) (ho : 0 ≤ o ∧ o ≤ 25) (hx : XSP u0 TN SN bw D 3 0 0 0 o S.2.2.2.2.2.2.2.2.2.2.2.2.2.1) : XWP u0 TN SN bw (D + 10) o (fun u => IS u 2 ∨ IS u 4) (fm_M_row N S) := by
  intro u σ p n q c f h s wt g hs hf hi hm0 hl
  have hm := NM_mo (k2 := 3) (j2 := 0) (l2 := 0) hm0 (by omega) (by omega) (by omega)
  have hT := tk.1.1
  have fs := NM_fs hm (by omega)
  have e69 : F u 69 = p := hs.2.1.1
  have ltp : p < TN := by
    rcases hi with z | z
    · exact tok_lt tk (by omega) (by have := (ST_IS hs z).1; omega)
    · exact tok_lt tk (by omega) (by have := (ST_IS hs z).1; omega)
  have a0 : ARL u0 TN SN bw σ 1 0 p o n q c f h s wt g u (nx1 u) := ARL_0 tk hs hf hl ⟨by omega, ltp⟩ (by omega)
  have pv := ARL_p a0 tk (by omega) (by omega)
  have up : ∀ (x : Option (MS × Int32)), OK (RWQ u0 TN SN bw σ (D + 1) p o n q c f h s wt g u) x → OK (RWQ u0 TN SN bw σ (D + 10) p o n q c f h s wt g u) x := fun x hx => ok_mono hx (fun _ _ y => y.imp id (fun z => FSM_mo z (by omega)))
  have main : ∀ (z1 z2 : Int32) (ec : Int), (z1 = 0 ∧ z2 = I 5) ∨ (z1 = 1 ∧ z2 = I 3) → z2 = I ec → RG ec → OK (RWQ u0 TN SN bw σ (D + 1) p o n q c f h s wt g u) (fb_M_row_15 N S (gg_M_row N S N) u (I p) z1 z2) := fun z1 z2 ec hz hec hrg => by
    unfold fb_M_row_15
    refine ok_lt.mpr ?_
    rw [nx1_e]
    refine k_F (y := 0) rfl ⟨by decide, by decide⟩ (fun _ => ?_) (fun z => absurd a0.1 z)
    refine k_isSign hec hrg (by omega) (fun _ => ?_) (fun _ => ?_)
    · rw [lit0q]
      exact row125_N (i := 0) (j1 := 0) (j := 0) tk hD ho hm a0 (by omega) (by omega) (hz.imp id (fun y => ⟨y.1, y.2, rfl⟩))
    · exact row_loop2 tk hD ho hx hm hz N 0 (nx1 u) a0 (by omega) (by omega)
  unfold fm_M_row fb_M_row_0
  refine up _ (k_isSign (s := 2) rfl ⟨by decide, by decide⟩ (by omega) (fun _ => main 1 3 3 (Or.inr ⟨rfl, rfl⟩) rfl ⟨by decide, by decide⟩) (fun _ => main 0 5 5 (Or.inl ⟨rfl, rfl⟩) rfl ⟨by decide, by decide⟩))
end
