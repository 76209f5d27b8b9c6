/-! what is PREDEFINED: no watch any more -/
set_option maxRecDepth 100000
/-- a watch that stays -/
def kpW (a c : Int) (y : Int × Int × Int) : Bool := !(decide (y.1 = a) && decide (y.2.2 = c))
section
variable {N : Nat} {m w w0 m2 w2 m0 : MS} {L L1 L2 : List (Int × Int × Int)} {y : Int × Int × Int} {a c : Int}
/-- there -/
theorem unw_lp (ha : RG a) (hc : RG c) (hl : L.length ≤ 200) : ∀ (M : Nat) (L1 L2 : List (Int × Int × Int)) (m : MS), L = L1 ++ L2 → WFm m0 m → F m 950 = ((L.length : Nat) : Int) → (∀ k x, (L1.filter (kpW a c))[k]? = some x → WAm m k x) → (∀ k x, L2[k]? = some x → WAm m (L1.length + k) x) → PK (fun m2 (_ : Unit) => WSm m2 (L.filter (kpW a c)) ∧ WFm m0 m2) (hg_Wl_removeWatch N M m (I a) (I c) (I (((L1.filter (kpW a c)).length : Nat) : Int)) (I ((L1.length : Nat) : Int))) := by
  intro M
  induction M with
  | zero => intro L1 L2 m _ _ _ _ _; exact pk_none
  | succ M ih =>
    intro L1 L2 m e f h950 h1 h2
    have hf : (L1.filter (kpW a c)).length ≤ L1.length := List.length_filter_le _ _
    have hL : L.length = L1.length + L2.length := by rw [e]; simp
    show PK _ (hb_Wl_removeWatch_5 N (hg_Wl_removeWatch N M) m (I a) (I c) (I (((L1.filter (kpW a c)).length : Nat) : Int)) (I ((L1.length : Nat) : Int)))
    unfold hb_Wl_removeWatch_5 hb_Wl_removeWatch_36 hb_Wl_removeWatch_46
    rw [I_F' h950, decI (by omega) (by omega) (by omega) (by omega)]
    cases L2 with
    | nil =>
      rw [show decide (((L.length : Nat) : Int) ≤ ((L1.length : Nat) : Int)) = true from decide_eq_true (by simp at hL; omega), br_t, wi_e, lt_e]
      refine pk_some ⟨⟨?_, ?_, fun i x hx => ?_⟩, FR.wi f (by simp)⟩
      · rw [wi_sm (by omega) (by omega), e]
        simp
      · have := List.length_filter_le (kpW a c) L
        omega
      · rw [e] at hx
        simp at hx
        exact h1 i x hx
    | cons z L3 =>
      have z0 : WAm m L1.length z := by simpa using h2 0 z (by simp)
      obtain ⟨z1, z2, z3⟩ := z0
      obtain ⟨y1, y2, y3⟩ := WAm_r (m := m) (i := L1.length) ⟨z1, z2, z3⟩
      simp at hL
      rw [show decide (((L.length : Nat) : Int) ≤ ((L1.length : Nat) : Int)) = false from decide_eq_false (by omega), br_f, tnI (n := L1.length) rfl (by omega), I_A' z1, I_A' z3, decE y1.1 y1.2 ha.1 ha.2, decE y3.1 y3.2 hc.1 hc.2, show I ((L1.length : Nat) : Int) + 1 = I (((L1 ++ [z]).length : Nat) : Int) from by simp; exact addN]
      have on : kpW a c z = false → PK (fun m2 (_ : Unit) => WSm m2 (L.filter (kpW a c)) ∧ WFm m0 m2) (hg_Wl_removeWatch N M m (I a) (I c) (I (((L1.filter (kpW a c)).length : Nat) : Int)) (I (((L1 ++ [z]).length : Nat) : Int))) := fun hk => by
        have e2 : (L1 ++ [z]).filter (kpW a c) = L1.filter (kpW a c) := by simp [List.filter_append, List.filter_cons, hk]
        have := ih (L1 ++ [z]) L3 m (by rw [e]; simp) f h950 (by rw [e2]; exact h1) (fun k x hx => by
          have := h2 (k + 1) x (by simpa using hx)
          rw [show (L1 ++ [z]).length + k = L1.length + (k + 1) by simp; omega]
          exact this)
        rw [e2] at this
        exact this
      have kp : kpW a c z = true → PK (fun m2 (_ : Unit) => WSm m2 (L.filter (kpW a c)) ∧ WFm m0 m2) (bnd (hm_Wl_keepWatch N m (I ((L1.length : Nat) : Int)) (I (((L1.filter (kpW a c)).length : Nat) : Int))) (fun u1 _ => hg_Wl_removeWatch N M u1 (I a) (I c) (I (((L1.filter (kpW a c)).length : Nat) : Int) + 1) (I (((L1 ++ [z]).length : Nat) : Int)))) := fun hk => by
        have e2 : (L1 ++ [z]).filter (kpW a c) = L1.filter (kpW a c) ++ [z] := by simp [List.filter_append, List.filter_cons, hk]
        refine pk_bnd (pk_mo (keepW (N := N) (i := L1.length) (j := (L1.filter (kpW a c)).length) ⟨z1, z2, z3⟩ (by omega) hf) (fun m5 _ h => ?_))
        obtain ⟨f5, q5, w5, o5⟩ := h
        have := ih (L1 ++ [z]) L3 m5 (by rw [e]; simp) (FR.tr f f5) (by show (m5.1 950).toInt = _; rw [q5]; exact h950) (by
          rw [e2]
          intro k x hx
          rcases Nat.lt_trichotomy k (L1.filter (kpW a c)).length with g | g | g
          · rw [List.getElem?_append_left g] at hx
            exact o5 k x (by omega) (h1 k x hx)
          · subst g
            simp at hx
            subst hx
            exact w5
          · rw [List.getElem?_eq_none (by simp; omega)] at hx
            cases hx) (fun k x hx => by
          rw [show (L1 ++ [z]).length + k = L1.length + (k + 1) by simp; omega]
          exact o5 _ x (by omega) (h2 (k + 1) x (by simpa using hx)))
        rw [e2] at this
        rw [show I (((L1.filter (kpW a c)).length : Nat) : Int) + 1 = I (((L1.filter (kpW a c) ++ [z]).length : Nat) : Int) from by simp; exact addN]
        exact this
      refine pk_ck (fun _ => ?_)
      by_cases c1 : z.1 = a
      · rw [decide_eq_true c1, br_t]
        refine pk_ck (fun _ => ?_)
        by_cases c2 : z.2.2 = c
        · rw [decide_eq_true c2, br_t]
          exact on (by unfold kpW; rw [decide_eq_true c1, decide_eq_true c2]; rfl)
        · rw [decide_eq_false c2, br_f]
          exact kp (by unfold kpW; rw [decide_eq_false c2]; simp)
      · rw [decide_eq_false c1, br_f]
        exact kp (by unfold kpW; rw [decide_eq_false c1]; rfl)
theorem unw_m (s : WSm m L) (ha : RG a) (hc : RG c) : PK (fun m2 (_ : Unit) => WSm m2 (L.filter (kpW a c)) ∧ WFm m m2) (hm_Wl_removeWatch N m (I a) (I c)) := by
  unfold hm_Wl_removeWatch hb_Wl_removeWatch_0
  exact unw_lp (N := N) ha hc s.2.1 N [] L m rfl FR.rf s.1 (fun k x hx => by simp at hx) (fun k x hx => by simpa using s.2.2 k x hx)
end
section
variable {α β : Type} {N p : Nat} {w w0 : MS} {Q : MS → α → MS → β → Prop} {z : Option (MS × α)} {KK : MS → Unit → Option (MS × β)} {t : Int64}
/-- and here -/
theorem unww_lp (hp1 : p < 24) (h33 : F w0 133 = ((p : Nat) : Int)) : ∀ (M : Nat) (L1 L2 : List (Int × Int × Int)) (w : MS), WFw w0 w → WSw w (L1 ++ L2) → (∀ w2, WSw w2 (L1 ++ L2.filter (kpW ((p : Nat) : Int) (va t))) → WFw w0 w2 → PP Q z (bnd (bnd (fm_M_truth N w2 1) (fun u1 r1 => bnd (fm_M_put N u1 r1) (fun u2 _ => some (u2, ())))) KK)) → PP Q z (bnd (gg_M_unwatchRun N M w t (I ((L1.length : Nat) : Int))) KK) := by
  intro M
  induction M with
  | zero => intro L1 L2 w _ _ _; exact pp_nr
  | succ M ih =>
    intro L1 L2 w f s hh
    have hl := s.2.1
    have x33 : F w 133 = ((p : Nat) : Int) := by rw [FR.F f (by simp)]; exact h33
    have vr := va_r t
    show PP Q z (bnd (fb_M_unwatchRun_22 N (gg_M_unwatchRun N M) w t (I ((L1.length : Nat) : Int))) KK)
    unfold fb_M_unwatchRun_22 fb_M_unwatchRun_64
    cases L2 with
    | nil =>
      simp at hl s
      rw [I_F' s.1, show decide (I ((L1.length : Nat) : Int) ≤ I ((L1.length : Nat) : Int)) = true from decide_eq_true (Int32.le_refl _), br_t]
      exact hh w (by simpa using s) f
    | cons v L3 =>
      have z0 : WAw w L1.length v := s.2.2 L1.length v mid_get
      obtain ⟨z1, z2, z3⟩ := z0
      obtain ⟨y1, y2, y3⟩ := WAw_r (w := w) (i := L1.length) ⟨z1, z2, z3⟩
      have hl2 : (L1 ++ v :: L3).length = L1.length + L3.length + 1 := by simp; omega
      rw [I_F' s.1, hl2, decI (by omega) (by omega) (by omega) (by omega), show decide (((L1.length + L3.length + 1 : Nat) : Int) ≤ ((L1.length : Nat) : Int)) = false from decide_eq_false (by omega), br_f, valueOf_e]
      refine rb_ck (fun _ => ?_)
      rw [bnd_so, tnI (n := L1.length) rfl (by omega), I_A' z3, I_A' z1, I_F' x33, decE y3.1 y3.2 vr.1 vr.2, decE y1.1 y1.2 (by omega) (by omega), show I ((L1.length : Nat) : Int) + 1 = I (((L1 ++ [v]).length : Nat) : Int) from by simp; exact addN]
      have on : kpW ((p : Nat) : Int) (va t) v = true → PP Q z (bnd (gg_M_unwatchRun N M w t (I (((L1 ++ [v]).length : Nat) : Int))) KK) := fun hk => by
        refine ih (L1 ++ [v]) L3 w f (by rw [List.append_assoc]; exact s) (fun w2 s2 f2 => hh w2 ?_ f2)
        rw [List.append_assoc] at s2
        simpa [List.filter_cons, hk] using s2
      by_cases c1 : v.2.2 = va t
      · rw [decide_eq_true c1, br_t]
        refine rb_ck (fun _ => ?_)
        by_cases c2 : v.1 = ((p : Nat) : Int)
        · rw [decide_eq_true c2, br_t]
          have hk : kpW ((p : Nat) : Int) (va t) v = false := by unfold kpW; rw [decide_eq_true c1, decide_eq_true c2]; rfl
          refine rb_bnd (pk_mo (rmw_w (N := N) s) (fun w5 _ h5 => ?_))
          refine ih L1 L3 w5 (FR.tr f h5.2) h5.1 (fun w2 s2 f2 => hh w2 ?_ f2)
          simpa [List.filter_cons, hk] using s2
        · rw [decide_eq_false c2, br_f]
          exact on (by unfold kpW; rw [decide_eq_false c2]; rfl)
      · rw [decide_eq_false c1, br_f]
        exact on (by unfold kpW; rw [decide_eq_false c1]; simp)
end
section
variable {b : Int → Nat → Nat → Prop} {Fv Fv' : Int64 → Int64 → Prop} {P P' : Int64 → Prop} {N PR r p i j0 j U B W Y a n : Nat} {m w m1 w1 m2 w2 wA wC : MS} {cur : Option Nat} {RR : Nat → MS → MS → Prop} {nb : Nat → Nat} {Hs Os : Nat → List Nat} {y : Option (Nat × Nat × Nat)} {Lw : List (Int × Int × Int)}
/-- tables change only: the tables may change first -/
theorem tab_sw (g : FGw p j w wA) (f : WFw wA wC) : ∃ wB, WFw w wB ∧ FGw p j wB wC ∧ ∀ L, WSw wC L → WSw wB L := by
  obtain ⟨⟨g1, g2, g3, g4⟩, g5, g6, g7⟩ := g
  refine ⟨⟨fun k => if k = 125 then wC.1 125 else w.1 k, w.2.1, fun K => if K = 122 ∨ K = 123 ∨ K = 124 then wC.2.2.1 K else w.2.2.1 K, w.2.2.2⟩, ⟨fun k hk => if_neg (by simpa using hk), fun _ _ => rfl, fun K hK => if_neg (by simpa using hK), fun _ _ => rfl⟩, ⟨⟨fun k hk => ?_, fun k hk => ?_, fun K hK => ?_, fun K hK => ?_⟩, fun k hk => ?_, fun k hk => ?_, ?_⟩, fun L s => ⟨?_, s.2.1, fun k x hx => ?_⟩⟩
  · show wC.1 k = if k = 125 then wC.1 125 else w.1 k
    by_cases c : k = 125
    · rw [if_pos c, c]
    · rw [if_neg c, f.1 k (by simpa using c)]
      exact g1 k hk
  · show wC.2.1 k = w.2.1 k
    rw [f.2.1 k (by simp)]
    exact g2 k hk
  · show wC.2.2.1 K = if K = 122 ∨ K = 123 ∨ K = 124 then wC.2.2.1 K else w.2.2.1 K
    by_cases c : K = 122 ∨ K = 123 ∨ K = 124
    · rw [if_pos c]
    · rw [if_neg c, f.2.2.1 K (by simpa using c)]
      exact g3 K hK
  · show wC.2.2.2 K = w.2.2.2 K
    rw [f.2.2.2 K (by simp)]
    exact g4 K hK
  · have e : ∀ K, K ≠ 122 → K ≠ 123 → K ≠ 124 → wC.2.2.1 K = wA.2.2.1 K := fun K a b c => f.2.2.1 K (by simp; omega)
    show (wC.2.2.1 89 k).toInt = (w.2.2.1 89 k).toInt ∧ wC.2.2.1 90 k = w.2.2.1 90 k ∧ (wC.2.2.1 92 k).toInt = (w.2.2.1 92 k).toInt
    rw [e 89 (by omega) (by omega) (by omega), e 90 (by omega) (by omega) (by omega), e 92 (by omega) (by omega) (by omega)]
    exact g5 k hk
  · show (wC.2.2.1 98 k).toInt = (w.2.2.1 98 k).toInt
    rw [f.2.2.1 98 (by simp)]
    exact g6 k hk
  · have e : wC.2.2.2 = wA.2.2.2 := funext fun K => f.2.2.2 K (by simp)
    show (∀ i, _ → wC.2.2.2 88 i = _) ∧ _
    rw [e]
    exact g7
  · show (wC.1 125).toInt = _
    exact s.1
  · exact s.2.2 k x hx
theorem tab_n (f : WFm m m1) : EQn r m m1 := ⟨fun k hk _ => f.1 _ (by simp; exact fun c => pq_n (by omega) c.symm), fun _ _ _ => f.2.1 _ (by simp), fun k hk _ => f.2.2.1 _ (by simp; exact ⟨fun c => pq_n (by omega) c.symm, fun c => pq_n (by omega) c.symm, fun c => pq_n (by omega) c.symm⟩), f.2.2.1 23 (by simp)⟩
theorem tab_v (f : WFw w w1) : EQv r w w1 := ⟨fun K k h _ _ => by rw [f.2.2.1 K (by simp; rcases h with ⟨h, -⟩ | ⟨h, -⟩ | ⟨h, -⟩ | ⟨h, -⟩ <;> omega)], by rw [f.2.2.2 111 (by simp)], fun K h => f.2.2.1 K (by unfold PRr at h; simp; omega), f.2.2.2 34 (by simp)⟩
theorem tab_pg (f1 : WFm m m1) (f2 : WFw w w1) : PGs m w m1 w1 := PGs_fr f1 f2 (by simp) (by simp) (by simp) (by simp) (fun k hk => by simp at hk; unfold PRr; omega) (by simp)
theorem RUs_tab (h : RUs m w p j nb Hs Os y a n) (f1 : WFm m m1) (f2 : WFw w w1) : RUs m1 w1 p j nb Hs Os y a n := RUs_st h (tab_n f1) (tab_v f2) (tab_pg f1 f2)
theorem PLs_tab (pl : PLs b r m w U B W Y) (f1 : WFm m m1) : PLs b r m1 w U B W Y := PLs_cg pl (fun k hk => f1.1 _ (by simp; exact fun c => pq_n (by omega) c.symm)) (fun i _ => by rw [f1.2.2.2 _ (by simp)]) (fun i _ => by rw [f1.2.2.2 _ (by simp)]) (fun i _ => by rw [f1.2.2.2 _ (by simp)]) (fun i _ => by rw [f1.2.2.2 _ (by simp)]) (fun _ _ => rfl) (fun _ _ => rfl) (fun _ _ => rfl) (fun _ _ => rfl) (fun _ _ => rfl)
theorem PLs_tabw (pl : PLs b r m w U B W Y) (f2 : WFw w w1) : PLs b r m w1 U B W Y := PLs_cg pl (fun _ _ => rfl) (fun _ _ => rfl) (fun _ _ => rfl) (fun _ _ => rfl) (fun _ _ => rfl) (fun k hk => by rw [f2.2.2.1 k (by simp at hk ⊢; omega)]) (fun i _ => by rw [f2.2.2.2 88 (by simp)]) (fun i _ => by rw [f2.2.2.2 93 (by simp)]) (fun i _ => by rw [f2.2.2.2 91 (by simp)]) (fun i _ => by rw [f2.2.2.2 107 (by simp)])
theorem SCs_tab (s : SCs p m w) (f1 : WFm m m1) (f2 : WFw w w1) : SCs p m1 w1 := SC_ow s (fun k _ => f1.1 _ (by simp; exact fun c => pq_n (by omega) c.symm)) (f1.2.2.1 _ (by simp; exact ⟨fun c => pq_n (by omega) c.symm, fun c => pq_n (by omega) c.symm, fun c => pq_n (by omega) c.symm⟩)) (fun K h1 h2 => f2.2.2.1 K (by simp; omega))
/-- watches change only -/
theorem WL_tab (W0 : WLs RR PR Fv P Fv' P' cur i j0 m w) (f1 : WFm m m1) (b1 : 0 ≤ F m1 950 ∧ F m1 950 ≤ 200) (f2 : WFw w w1) (s : WSw w1 Lw) (g : ∀ y, y ∈ Lw → GWs PR y) : WLs RR PR Fv P Fv' P' cur i j0 m1 w1 := by
  obtain ⟨⟨d, cx⟩, ⟨dw, lk, wt⟩, pb⟩ := W0.1
  have fc : FC 0 [950] [] [49, 50, 51] [] [] [] [] m m1 := FC.of f1 (by simp) (by simp) (by simp) (by simp)
  have d2 : DWc Fv P PR m1 := DWc_gl d fc (by simp) (by simp) (fun h0 => by
    have := (d.2 0 h0).1
    unfold SMQ at this ⊢
    rw [fc.Fq (by omega) (by simp), fc.Fq (by omega) (by simp), fc.Fq (by omega) (by simp), fc.Fq (by omega) (by simp)]
    exact this) (by simp) b1 (by rw [fc.Fg (by omega) (by simp)]; exact ⟨d.1.2.2.2.1.2.1, d.1.2.2.2.1.2.2⟩) (by simp)
  have lm : ∀ d, LOCm d m m1 := fun d k hk => ⟨f1.1 _ (by simp; exact fun c => pq_n (by omega) c.symm), f1.2.1 _ (by simp), f1.2.2.1 _ (by simp; exact ⟨fun c => pq_n (by omega) c.symm, fun c => pq_n (by omega) c.symm, fun c => pq_n (by omega) c.symm⟩), f1.2.2.2 _ (by simp)⟩
  have lw : ∀ d, LOCw d w w1 := fun d => ⟨fun K k h => by rw [f2.2.2.1 K (by simp; rcases h with ⟨h, -⟩ | ⟨h, -⟩ | ⟨h, -⟩ | ⟨h, -⟩ <;> omega)], fun K h => by rw [f2.2.2.1 K (by simp; omega)], fun k _ _ => by rw [f2.2.2.1 131 (by simp)], by rw [f2.2.2.2 111 (by simp)], fun k _ _ => by rw [f2.2.2.2 88 (by simp)], fun k _ _ => by rw [f2.2.2.2 91 (by simp)], fun k _ _ => by rw [f2.2.2.2 93 (by simp)], fun k _ _ => by rw [f2.2.2.2 107 (by simp)]⟩
  exact WL_same W0 ⟨⟨d2, CTX_fr cx (f1.1 22 (by simp)) (f1.2.2.1 3 (by simp))⟩, ⟨DW_fr dw f2 (by simp) (by simp) (by simp) (by simp) (by simp) (by simp) (by simp) (by simp) (by simp) (by simp) (by simp) (by simp) (by simp) (by simp) (by simp) (by simp) (by simp), LK_fr lk f2 (by simp) (by simp), GW_wt s g⟩, pb⟩ (tab_pg f1 f2) lm lw (f1.1 955 (by simp)) (f1.2.2.1 54 (by simp)) (f2.1 150 (by simp)) (fun K h => f2.2.2.1 K (by simp; omega)) (f2.2.2.2 148 (by simp))
end
