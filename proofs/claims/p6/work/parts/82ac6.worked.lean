def TYA (TN SN σ : Nat) (g o wt p p1 : Int) (u v : MS) (J : Nat) : Prop := F v 72 = 0 → F v 66 = 0 → TN ≤ 1500 → ∃ ps : Int, STK SN σ g (o - 1) wt p u v J (mks v) (nmo σ v) ps ∧ ps ≤ p1
def WKA (u0 : MS) (TN SN σ : Nat) (bw : Nat → Nat) (p o n q c f h s wt g : Int) (u v : MS) (p1 o1 n1 q1 c1 f1 h1 : Int) (J : Nat) : Prop := WKB u0 TN σ bw 0 0 p o n q c f h s wt g u v p1 o1 n1 q1 c1 f1 h1 J ∧ TYA TN SN σ g o wt p p1 u v J
section
variable {u0 u v v1 w x : MS} {N σ TN SN e q0 q1 q2 q3 : Nat} {bw : Nat → Nat} {p o n q c f h s wt g lv xb xb1 xb2 k t D d y z l p1 o1 n1 q1' c1 f1 h1 κ : Int} {r y1 y2 y3 : Int32} {R R1 R2 : Nat → Prop} {M M0 M1 : Nat → Nat} {m m0 J b : Nat} {S : SG_M_behind} {G : (MS → Int32 → Int32 → Int32 → Option (MS × Int32)) × (MS → Int32 → Option (MS × Int32))}
def UB (σ : Nat) (n wt : Int) (u : MS) : Prop := F u 32 = n ∧ F u 83 = wt ∧ 0 ≤ A u 60 σ
theorem red_loop (tk : TKW u0 TN SN bw) (hm : NM TN bw 0 1 0 σ p o n q c f h s wt) (hu : UB σ n wt u) (hl : RG l) : ∀ (i J : Nat) (v : MS) (e : Nat) (o1 n1 : Int), WKC u0 TN SN σ bw p o n q c f h s wt g u v p1 o1 n1 q1' c1 f1 h1 J e → J + 2 ≤ i → OK (fun w r => ∃ (J2 e2 : Nat) (o2 n2 : Int), r = I (e2 : Int) ∧ WKC u0 TN SN σ bw p o n q c f h s wt g u w p1 o2 n2 q1' c1 f1 h1 J2 e2 ∧ (l = 0 → J2 = 0)) (gg_M_reduce N i v (I wt) (I l) (I (e : Int)) 1) := by
  have hT := tk.1.1
  have fs := NM_fs hm (by omega)
  intro i
  induction i with
  | zero => intro J v e o1 n1 _ z; omega
  | succ i ih =>
    intro J v e o1 n1 hw hi
    have hmn : n ≤ 3 * p ∧ 0 ≤ wt ∧ 0 ≤ o := by unfold NM at hm; omega
    have e83 : F v 83 = wt + J := hw.1.1.2.1.2.2.2.2.2.2.2.2.2.1
    have wnb : n1 ≤ 12000 ∧ 2 * (wt + J) + 1 ≤ p1 + 2 * o1 ∧ o1 ≤ 25 ∧ p1 ≤ TN := by
      have w1 := hw.1.2.2.2.2.1
      have w2 := hw.1.2.2.2.1
      unfold WKN at w1
      omega
    show OK _ (fb_M_reduce_6 N (gg_M_reduce N i) v (I wt) (I l) (I (e : Int)) 1)
    unfold fb_M_reduce_6 fb_M_reduce_258
    rw [br10, I_F' e83]
    refine k_le ⟨by omega, by omega⟩ ⟨by omega, by omega⟩ (fun z => ok_some.mpr ⟨J, e, o1, n1, rfl, hw, fun _ => by omega⟩) (fun z => ?_)
    obtain ⟨J', rfl⟩ : ∃ J', J = J' + 1 := ⟨J - 1, by omega⟩
    rw [lit1q, I_sub, show wt + ((J' + 1 : Nat) : Int) - 1 = wt + J' from by omega]
    refine k_in (k := 79) (n := 3000) rfl (by decide) (by omega) (ok_lt.mpr ?_)
    rw [I_tn (by omega) (by omega), I_A (w := v) (k := 79)]
    have en := hw.1.2.2.2.2.2.1 J' (by omega)
    obtain ⟨L, hL⟩ : ∃ L, A v 79 (wt + J').toNat = L := ⟨_, rfl⟩
    rw [hL]
    have hLr : 1 ≤ L ∧ L ≤ 7 := by
      rcases en with a | ⟨a, -⟩ | ⟨a, -⟩
      · omega
      · omega
      · omega
    have pop : OK (fun w r => ∃ (J2 e2 : Nat) (o2 n2 : Int), r = I (e2 : Int) ∧ WKC u0 TN SN σ bw p o n q c f h s wt g u w p1 o2 n2 q1' c1 f1 h1 J2 e2 ∧ (l = 0 → J2 = 0)) (fb_M_reduce_56 N (gg_M_reduce N i) v (I wt) (I l) (I (e : Int)) (I L)) := by
      unfold fb_M_reduce_56
      rcases en with a | ⟨a, -⟩ | ⟨a, -⟩
      · have : L = 7 := by omega
        subst this
        exact red_7 hT (by omega) (by omega) ⟨hu.1, hu.2.1⟩ hw hL (by omega) (fun w e2 h2 => ih J' w e2 _ _ h2 (by omega))
      · exact red_and hT (by omega) (by omega) (by omega) hu hw ⟨hL, by omega⟩ (by omega) (fun w e2 n2 h2 => ih J' w e2 _ _ h2 (by omega))
      · exact red_op tk (by omega) (by omega) ⟨hu.1, hu.2.1⟩ hw ⟨hL, by omega, by omega⟩ (by omega) (fun w e2 h2 => ih J' w e2 _ _ h2 (by omega))
    have stop : l ≠ 0 → OK (fun w r => ∃ (J2 e2 : Nat) (o2 n2 : Int), r = I (e2 : Int) ∧ WKC u0 TN SN σ bw p o n q c f h s wt g u w p1 o2 n2 q1' c1 f1 h1 J2 e2 ∧ (l = 0 → J2 = 0)) (fb_M_reduce_60 N (gg_M_reduce N i) v (I wt) (I l) (I (e : Int)) (I L)) := fun hl0 => by
      unfold fb_M_reduce_60 fb_M_reduce_61 fb_M_reduce_255
      rw [br00]
      obtain ⟨i', rfl⟩ : ∃ i', i = i' + 1 := ⟨i - 1, by omega⟩
      show OK _ (fb_M_reduce_6 N (gg_M_reduce N i') v (I wt) (I l) (I (e : Int)) 0)
      unfold fb_M_reduce_6 fb_M_reduce_258
      rw [br00]
      exact ok_some.mpr ⟨J' + 1, e, o1, n1, rfl, hw, fun y => absurd y hl0⟩
    refine k_lt hl ⟨by omega, by omega⟩ (fun _ => pop) (fun h1 => ?_)
    rw [show (3 : Int32) = I 3 from rfl, show (4 : Int32) = I 4 from rfl]
    refine k_eq ⟨by omega, by omega⟩ hl (fun _ => ?_) (fun _ => stop (by omega))
    refine k_eq ⟨by omega, by omega⟩ ⟨by decide, by decide⟩ (fun _ => stop (by omega)) (fun _ => ?_)
    exact k_eq ⟨by omega, by omega⟩ ⟨by decide, by decide⟩ (fun _ => stop (by omega)) (fun _ => pop)
theorem WKC_end (hm : NM TN bw 0 1 0 σ p o n q c f h s wt) (ho : 1 ≤ o) (hw : WKC u0 TN SN σ bw p o n q c f h s wt g u v p1 o1 n1 q1' c1 f1 h1 0 e) : EXQ u0 TN SN bw σ (o - 1) p o n q c f h s wt g u v (I (e : Int)) := by
  obtain ⟨⟨s0, f0, k0, hp, wn, en, hoo, l0⟩, rt, ty⟩ := hw
  have o1e : o1 = o := by rw [hoo]; show o + 0 = o; omega
  subst o1e
  have s1 : ST u0 σ p1 o1 n1 q1' c1 f1 h1 s wt g v := by
    have := s0
    rw [show wt + ((0 : Nat) : Int) = wt by omega] at this
    exact this
  refine ⟨f0, p1, n1, q1', c1, f1, h1, e, rfl, s1, k0, hp, ?_, ⟨rt.1, rt.2.1, ?_, rt.2.2.2⟩, l0, fun z1 z2 z3 => ?_⟩
  · unfold WKN at wn
    unfold DLT
    omega
  · have := rt.2.2.1
    rw [show (27 - o1).toNat = (26 - (o1 - 1)).toNat by omega] at this
    exact this
  · obtain ⟨M, m, ps, ⟨rfl, rfl, rfl⟩, -, -, t4⟩ := ty z1 z2 z3
    exact t4
def WRQ (u0 : MS) (TN SN : Nat) (bw : Nat → Nat) (σ : Nat) (D p o n q c f h s wt g : Int) (u v : MS) (r : Int32) : Prop := EXQ u0 TN SN bw σ (o - 1) p o n q c f h s wt g u v r ∨ (FSM u0 TN σ D v ∧ r = -1)
theorem work334_F (hf : FSM u0 TN σ D v) : OK (WRQ u0 TN SN bw σ D p o n q c f h s wt g u) (fb_M_worked_334 N S G v y1 y2) := by
  unfold fb_M_worked_334
  exact k_F (y := 0) rfl ⟨by decide, by decide⟩ (fun z => absurd z hf.2.1) (fun _ => ok_some.mpr (Or.inr ⟨hf, rfl⟩))
theorem work334_N (tk : TKW u0 TN SN bw) (hN : 20000 ≤ N) (ho : 1 ≤ o) (hm : NM TN bw 0 1 0 σ p o n q c f h s wt) (hu : UB σ n wt u) (hw : WKC u0 TN SN σ bw p o n q c f h s wt g u v p1 o1 n1 q1' c1 f1 h1 J e) : OK (WRQ u0 TN SN bw σ D p o n q c f h s wt g u) (fb_M_worked_334 N S G v (I wt) (I (e : Int))) := by
  unfold fb_M_worked_334
  have J0 : J ≤ 4000 := by
    have w1 := hw.1.2.2.2.2.1
    have w2 := hw.1.2.2.2.1
    have := tk.1.1
    have hmn : 0 ≤ wt := by unfold NM at hm; omega
    unfold WKN at w1
    omega
  refine k_F (y := 0) rfl ⟨by decide, by decide⟩ (fun _ => ?_) (fun z => absurd hw.1.2.1 z)
  unfold fm_M_reduce fb_M_reduce_0
  rw [lit0q]
  refine ok_bnd.mpr (ok_mono (red_loop tk hm hu ⟨by decide, by decide⟩ N J v e o1 n1 hw (by omega)) (fun w r hr => ?_))
  obtain ⟨J2, e2, o2, n2, hr2, h2, h3⟩ := hr
  have := h3 rfl
  subst this
  rw [hr2]
  exact ok_some.mpr (Or.inl (WKC_end hm ho h2))
def LP1 (N : Nat) (S : SG_M_behind) (u0 : MS) (TN SN : Nat) (bw : Nat → Nat) (σ : Nat) (D p o n q c f h s wt g : Int) (u : MS) (i : Nat) : Prop := (∀ (v : MS) (r : Int32) (p1 o1 n1 q1 c1 f1 h1 : Int) (J : Nat), WKA u0 TN SN σ bw p o n q c f h s wt g u v p1 o1 n1 q1 c1 f1 h1 J → 3 * (4001 - p1) + 2 ≤ i → OK (WRQ u0 TN SN bw σ D p o n q c f h s wt g u) ((gg_M_worked N S i).1 v (I wt) r 1)) ∧ (∀ (v : MS) (p1 o1 n1 q1 c1 f1 h1 : Int) (J : Nat), WKA u0 TN SN σ bw p o n q c f h s wt g u v p1 o1 n1 q1 c1 f1 h1 J → 3 * (4001 - p1) + 1 ≤ i → OK (WRQ u0 TN SN bw σ D p o n q c f h s wt g u) ((gg_M_worked N S i).2 v (I wt)))
theorem head_F {i : Nat} (hf : FSM u0 TN σ D v) : OK (WRQ u0 TN SN bw σ D p o n q c f h s wt g u) ((gg_M_worked N S (i + 1)).1 v y1 y2 y3) := by
  show OK _ (fb_M_worked_9 N S (gg_M_worked N S i) v y1 y2 y3)
  unfold fb_M_worked_9
  exact ok_br.mpr ⟨fun _ => work334_F hf, fun _ => k_F (y := 0) rfl ⟨by decide, by decide⟩ (fun z => absurd z hf.2.1) (fun _ => work334_F hf)⟩
theorem WKB_nm (tk : TKW u0 TN SN bw) (hm : NM TN bw 0 1 0 σ p o n q c f h s wt) (hw : WKB u0 TN σ bw κ b p o n q c f h s wt g u v p1 o1 n1 q1' c1 f1 h1 J) (hk : 0 ≤ κ) : NM TN bw 0 1 0 σ p1 o1 n1 q1' c1 f1 h1 s (wt + J) := by
  obtain ⟨s0, f0, k0, hp, wn, en, hoo, l0⟩ := hw
  have p0 : 0 ≤ p1 := by unfold NM at hm; unfold WKN at wn; omega
  have := bw_top tk (i := p1.toNat) (by omega)
  unfold NM at hm ⊢
  unfold WKN at wn
  omega
theorem WKA_prim (tk : TKW u0 TN SN bw) (hm : NM TN bw 0 1 0 σ p o n q c f h s wt) (hw : WKA u0 TN SN σ bw p o n q c f h s wt g u v p1 o1 n1 q1' c1 f1 h1 J) (hr : EXQ u0 TN SN bw σ (o1 - 1) p1 o1 n1 q1' c1 f1 h1 s (wt + J) g v w r) : ∃ (e : Nat) (p2 n2 q2 c2 f2 h2 : Int), r = I (e : Int) ∧ p1 < p2 ∧ WKC u0 TN SN σ bw p o n q c f h s wt g u w p2 o1 n2 q2 c2 f2 h2 J e := by
  obtain ⟨⟨s0, f0, k0, hp, wn, en, hoo, l0⟩, ty⟩ := hw
  obtain ⟨b0, p2, n2, q2, c2, f2, h2, e, b1, b2, b3, b4, b5, b6, b7, b8⟩ := hr
  have e83 : F v 83 = wt + J := s0.2.1.2.2.2.2.2.2.2.2.2.1
  have hw0 : 0 ≤ wt ∧ 0 ≤ n ∧ 0 ≤ o := by unfold NM at hm; omega
  have wnb : o ≤ o1 ∧ n ≤ n1 := by unfold WKN at wn; omega
  have row : ∀ r i, r ∈ [79, 80, 81, 82] → (i : Nat) < wt + J → A w r i = A v r i := fun r i hr hi => b3.2.2.2.1.2.2 r i hr (by omega)
  refine ⟨e, p2, n2, q2, c2, f2, h2, b1, by unfold DLT at b5; omega, ⟨b2, b0, KPR_tr k0 b3, b4, ?_, fun i hi => WEN_tr (en i hi) (fun r hr => row r _ hr (by omega)) (fun r j hr hj => ?_) b3.2.2.2.2.1.1 b3.2.2.2.2.2.2 hw0.2.1, ?_, b7⟩, ⟨by omega, b6.2.1, ?_, b6.2.2.2⟩, fun z1 z2 z3 => ?_⟩
  · unfold DLT at b5
    unfold WKN at wn ⊢
    omega
  · have : ∀ r, r ∈ [23, 28, 29] → r ∈ [23, 24, 25, 26, 27, 28, 29, 30, 31] := by decide
    exact b3.2.1.1 r j (this r hr) hj
  · rw [hoo]; congr 1
    exact (c7_tr J (fun i hi => row 79 i (by decide) hi) hw0.1).symm
  · exact RTD_mo _ _ _ (RTD_dn (by omega) _ _ b6.2.2.1) (by omega)
  · obtain ⟨ps, t1, t2⟩ := ty (b3.2.2.2.2.2.1 z1) (b3.2.2.2.2.2.2 z2) z3
    have sz := (b8 z1 z2 z3)
    refine ⟨mks v, nmo σ v, ps, STK_tr J _ _ ps t1 hw0.1 (TRN_kp b3 (fun i => Nat.le_refl _) e83), ?_, by unfold DLT at b5; omega, TYM_mo (TYM_of b8 z1 z2 z3) (by omega) (by omega)⟩
    obtain ⟨mm, X, Y, s1, -⟩ := sz
    exact s1.1.1
end
