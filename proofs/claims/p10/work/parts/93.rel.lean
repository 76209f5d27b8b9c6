/-! begun and the time: both sides; clock() answers alike -/
set_option maxRecDepth 100000
/-- nothing has begun, or on both sides, with the same time -/
def BGZ (m w : MS) : Prop := (m.1 943 = 0 ∧ w.1 87 = 0 ∧ m.1 944 = 0) ∨ (m.1 943 = 1 ∧ w.1 87 = 1 ∧ ∃ t : Nat, t ≤ 1000000000 ∧ m.1 944 = I (t : Nat) ∧ w.1 120 = I (t : Nat))
section
variable {m w : MS} {N : Nat} {v1 : Int32}
theorem begin_e (z : ACZ m w) : PP (fun _ z w2 (_ : Unit) => w2.1 3 = cd_L_begin z) (hm_H_begin N m v1) (fm_M_begin N w v1) := by
  show PP _ (hb_H_begin_0 N () m v1) (fb_M_begin_0 N () w v1)
  unfold hb_H_begin_0 fb_M_begin_0 fb_M_begin_24
  have thr : ∀ t : Int32, t ≠ 0 → PK (fun w2 (_ : Unit) => w2.1 3 = t) (fb_M_begin_42 N () w v1 t) := fun t ht => by
    unfold fb_M_begin_42
    refine pk_ltq ?_
    rw [upI_at, decide_eq_false ht, br_fq]
    exact pk_some upI_at
  have ok0 : PK (fun w2 (_ : Unit) => w2.1 3 = 0) (fb_M_begin_42 N () w v1 0) := by
    unfold fb_M_begin_42
    refine pk_ltq ?_
    rw [upI_at, decide_eq_true rfl, br_tq]
    refine pk_ltq (pk_ltq (pk_ltq (pk_ltq (pk_ltq (pk_ltq (pk_ltq (pk_ltq (pk_ltq ?_))))))))
    generalize hx : upI (upI (upI (upI (upI (upI (upI (upI (upI (upI w 3 0) 87 1) 118 0) 119 0) 120 0) 121 0) 125 0) 128 0) 149 0) 150 0 = x
    have x3 : x.1 3 = 0 := by
      rw [← hx, upI_ne (by decide), upI_ne (by decide), upI_ne (by decide), upI_ne (by decide), upI_ne (by decide), upI_ne (by decide), upI_ne (by decide), upI_ne (by decide), upI_ne (by decide), upI_at]
    refine pk_bnd (pk_mo (fun v r e => yk9_fm_M_newProcess (u0 := x) (N := N) Kk9_rf v r e) (fun v r (hv : v.1 3 = x.1 3) => ?_))
    exact pk_ck (fun _ => pk_ltq (pk_ck (fun _ => pk_ltq (pk_some (hv.trans x3)))))
  rcases z with ⟨z1, z2⟩ | ⟨z1, z2, ⟨g, hg, t1, t2, t3⟩, -⟩
  · rw [decide_eq_true z1, br_tq, decide_eq_true z2, br_tq]
    exact pp_l (pk_mo (thr 1 (by decide)) (fun v r hv => hv))
  · have n86 : w.1 86 ≠ 0 := by rw [z2]; decide
    have n10 : m.1 10 ≠ 0 := by rw [z1]; decide
    rw [decide_eq_false n86, br_fq, decide_eq_false n10, br_fq, t2]
    refine l_bnd (pk_mo isf_p (fun v rr hv => ?_))
    obtain ⟨e0, hv⟩ := hv
    rw [e0]
    by_cases q : v1 < 0
    · rw [decide_eq_true (hv.mpr (Or.inr (Or.inl q))), br_tq, decide_eq_true q, br_tq]
      exact pp_l (pk_mo (thr 2 (by decide)) (fun v r hv => hv))
    · rw [decide_eq_false q, br_fq]
      by_cases q2 : I (g : Nat) ≤ v1
      · have q3 : ¬ v1 < I (g : Nat) := fun y => by
          have rv := ti_rng v1
          rw [I_of v1, I_lt rv.1 rv.2 (by omega) (by omega)] at y
          rw [I_of v1, I_le (by omega) (by omega) rv.1 rv.2] at q2
          omega
        rw [decide_eq_true (hv.mpr (Or.inr (Or.inr (by rw [t1]; exact q2)))), br_tq, decide_eq_false q3, br_fq]
        exact pp_l (pk_mo (thr 2 (by decide)) (fun v r hv => hv))
      · have q3 : v1 < I (g : Nat) := by
          have rv := ti_rng v1
          rw [I_of v1, I_lt rv.1 rv.2 (by omega) (by omega)]
          rw [I_of v1, I_le (by omega) (by omega) rv.1 rv.2] at q2
          omega
        have r0 : rr ≠ 0 := fun e => by
          rcases hv.mp e with y | y | y
          · exact n10 y
          · exact q y
          · rw [t1] at y; exact q2 y
        rw [decide_eq_false r0, br_fq, decide_eq_true q3, br_tq]
        obtain ⟨f, hf, rfl⟩ := ix_of hg q q2
        rw [tnI (n := f) rfl (by omega)]
        obtain ⟨f1, f2, f3, ⟨ar, ar1, ar2⟩, -⟩ := t3 f hf
        rw [f2, ar2]
        refine l_ck (fun _ => r_ck (fun _ => ?_))
        by_cases y : I (ar : Nat) = (0 : Int32)
        · have y2 : I (ar : Nat) ≤ (0 : Int32) := by rw [y]; decide
          rw [decide_eq_true y, br_tq, decide_eq_true y2, br_tq]
          have ci : PK (fun (_ : MS) (z : Unit ⊕ Nat) => z = .inl ()) (bnd (hm_Wl_clearAll N m) (fun u9 r9 => lt (upI u9 943 1) (fun w13 => bnd (hm_Wl_born N w13) (fun u15 r15 => br (decide (r15 = none)) (hb_H_begin_102 N () u15) (bo r15 (fun j17 => ck (inb (I (f : Nat)) 666) (bnd (hm_Fr_open N u15 j17 (I (f : Nat)) (u15.2.2.1 29 f) 0) (fun u24 r24 => hb_H_begin_102 N () u24)))))))) := by
            unfold hb_H_begin_102
            exact pk_bnd (fun _ _ _ => pk_ltq (pk_bnd (fun _ _ _ => pk_br (fun _ => pk_some rfl) (fun _ => pk_bo (fun _ _ => pk_ck (fun _ => pk_bnd (fun _ _ _ => pk_some rfl)))))))
          intro m3 z3 w3 r3 x1 x2
          rw [ci m3 z3 x1]
          exact ok0 w3 r3 x2
        · have y2 : ¬ I (ar : Nat) ≤ (0 : Int32) := fun q => y (by
            rw [show (0 : Int32) = I 0 from rfl, I_le (by omega) (by omega) (by omega) (by omega)] at q
            rw [show ar = 0 by omega]; rfl)
          rw [decide_eq_false y, br_fq, decide_eq_false y2, br_fq]
          exact pp_l (pk_mo (thr 3 (by decide)) (fun v r hv => hv))
end
section
variable {α β : Type} {u0 u w m w2 m2 : MS} {k N : Nat} {r s v1 v2 : Int32}
theorem BGZ_k (h : BGZ m w) (k : KPT m m2) (g : Kt9c w w2) : BGZ m2 w2 := by
  unfold BGZ at h ⊢
  rw [k.1, k.2, g.1, g.2]
  exact h
theorem KTE_s9 {o : Option (MS × β)} {f : MS → β → Option (MS × α)} (h1 : KTE u0 o) (h2 : ∀ w r, KPT u0 w → KTE u0 (f w r)) : KTE u0 (bnd o f) := KTE_bnd h1 h2
theorem KTE_bo {o : Option β} {f : β → Option (MS × α)} (h : ∀ j, KTE u0 (f j)) : KTE u0 (bo o f) := KTE_boe (fun j _ => h j)
theorem show_t {v1 v2 v3 : Int32} (h : KPT u0 u) : KTE u0 (hm_H_show N u v1 v2 v3) := by
  have k9 : ∀ {w : MS} {r : Int32}, KPT u0 w → KTE u0 (lt (upI w 9 r) (fun w7 => some (w7, (w7.1 9)))) := fun hw => KTE_some (KPT_I hw (by omega))
  have tx : ∀ {w : MS} {b : Nat} {t : Int64}, KPT u0 w → KTE u0 (bnd (hm_Te_text N w b t 56 0) (fun u5 r5 => lt (upI u5 9 r5) (fun w7 => some (w7, (w7.1 9))))) := fun hw => KTE_bnd (zzm_Te_text hw (Or.inr rfl)) (fun w r hw => k9 hw)
  have so : ∀ {w : MS} {r : Int32}, KPT u0 w → KTE u0 (some (w, r)) := fun hw => KTE_some hw
  have e145 : ∀ {w : MS} {v2 v3 v6 t0 : Int32} {v4 v5 : Nat}, KPT u0 w → KTE u0 (hb_H_show_145 N () w v2 v3 v4 v5 v6 t0) := fun hw => by
    unfold hb_H_show_145 hb_H_show_209
    exact KTE_br (KTE_br (KTE_ck (tx hw)) (KTE_br (KTE_bnd (zzm_Fr_of hw) (fun w r hw => KTE_ck (tx hw))) (KTE_bnd (zzm_Fr_of hw) (fun w r hw => KTE_ck (tx hw))))) (so hw)
  unfold hm_H_show hb_H_show_0 hb_H_show_19 hb_H_show_39 hb_H_show_93
  exact KTE_bnd (zzm_Wl_find h) (fun w r hw => KTE_br (so hw) (KTE_br (KTE_br (KTE_bo (fun j => KTE_br (KTE_br (KTE_bo (fun j => tx hw)) (so hw)) (so hw))) (KTE_br (so hw) (KTE_br (so hw) (KTE_bo (fun j => KTE_br (so hw) (KTE_br (e145 hw) (KTE_br (KTE_bnd (zzm_Fr_namesIn hw) (fun w r hw => e145 hw)) (KTE_bnd (zzm_Fr_waitsIn hw) (fun w r hw => e145 hw))))))))) (so hw)))
theorem clr_t : PK (fun v (_ : Unit) => v.1 943 = 0 ∧ v.1 944 = 0) (hm_Wl_clearAll N m) := by
  unfold hm_Wl_clearAll hb_Wl_clearAll_0
  refine pk_ltq (pk_ltq (pk_ltq (pk_ltq (pk_ltq (pk_ltq (pk_ltq (pk_ltq (pk_ltq (pk_some ⟨?_, ?_⟩)))))))))
  · rw [upI_ne (by decide), upI_ne (by decide), upI_ne (by decide), upI_ne (by decide), upI_ne (by decide), upI_ne (by decide), upI_ne (by decide), upI_at]
  · rw [upI_ne (by decide), upI_ne (by decide), upI_ne (by decide), upI_ne (by decide), upI_ne (by decide), upI_ne (by decide), upI_at]
/-- read(): nothing has begun -/
theorem read_b (ec : hm_H_read N m = some (m2, r)) (ew : fm_M_read N w = some (w2, s)) (h87 : F w2 87 = 0) : BGZ m2 w2 := by
  have pc : PK (fun v (_ : Int32) => v.1 943 = 0 ∧ v.1 944 = 0) (hm_H_read N m) := by
    have e27 : ∀ {w : MS} {r : Int32}, PK (fun v (_ : Int32) => v.1 943 = 0 ∧ v.1 944 = 0) (hb_H_read_27 N () w r) := fun {w r} => by
      unfold hb_H_read_27 hb_H_read_45
      exact pk_ltq (pk_br (fun _ => pk_ck (fun _ => pk_ltq (pk_bnd (pk_mo clr_t (fun v _ hv => pk_some hv))))) (fun _ => pk_ck (fun _ => pk_ltq (pk_bnd (pk_mo clr_t (fun v _ hv => pk_some hv))))))
    unfold hm_H_read hb_H_read_0
    exact pk_bnd (fun _ _ _ => pk_bnd (fun _ _ _ => pk_br (fun _ => pk_bnd (fun _ _ _ => e27)) (fun _ => e27)))
  obtain ⟨h1, h2⟩ := pc m2 r ec
  exact Or.inl ⟨h1, I_F' h87, h2⟩
/-- begin() -/
theorem begin_bg (z : ACZ m w) (h : BGZ m w) : PP (fun m2 _ w2 (_ : Unit) => BGZ m2 w2) (hm_H_begin N m v1) (fm_M_begin N w v1) := by
  show PP _ (hb_H_begin_0 N () m v1) (fb_M_begin_0 N () w v1)
  unfold hb_H_begin_0 fb_M_begin_0 fb_M_begin_24
  have thr : ∀ t : Int32, t ≠ 0 → PK (fun w2 (_ : Unit) => BGZ m w2) (fb_M_begin_42 N () w v1 t) := fun t ht => by
    unfold fb_M_begin_42
    refine pk_ltq ?_
    rw [upI_at, decide_eq_false ht, br_fq]
    exact pk_some (BGZ_k h KPT_rf (Kt9_I Kt9_rf (by decide)))
  have ok0 : PK (fun w2 (_ : Unit) => w2.1 87 = 1 ∧ w2.1 120 = 0) (fb_M_begin_42 N () w v1 0) := by
    unfold fb_M_begin_42
    refine pk_ltq ?_
    rw [upI_at, decide_eq_true rfl, br_tq]
    refine pk_ltq (pk_ltq (pk_ltq (pk_ltq (pk_ltq (pk_ltq (pk_ltq (pk_ltq (pk_ltq ?_))))))))
    generalize hx : upI (upI (upI (upI (upI (upI (upI (upI (upI (upI w 3 0) 87 1) 118 0) 119 0) 120 0) 121 0) 125 0) 128 0) 149 0) 150 0 = x
    have x87 : x.1 87 = 1 := by
      rw [← hx, upI_ne (by decide), upI_ne (by decide), upI_ne (by decide), upI_ne (by decide), upI_ne (by decide), upI_ne (by decide), upI_ne (by decide), upI_ne (by decide), upI_at]
    have x120 : x.1 120 = 0 := by
      rw [← hx, upI_ne (by decide), upI_ne (by decide), upI_ne (by decide), upI_ne (by decide), upI_ne (by decide), upI_at]
    refine pk_bnd (pk_mo (fun v r e => yt9_fm_M_newProcess (u0 := x) (N := N) Kt9_rf v r e) (fun v r (hv : Kt9c x v) => ?_))
    exact pk_ck (fun _ => pk_ltq (pk_ck (fun _ => pk_ltq (pk_some ⟨hv.1.trans x87, hv.2.trans x120⟩))))
  rcases z with ⟨z1, z2⟩ | ⟨z1, z2, ⟨g, hg, t1, t2, t3⟩, -⟩
  · rw [decide_eq_true z1, br_tq, decide_eq_true z2, br_tq]
    exact pp_l (thr 1 (by decide))
  · have n86 : w.1 86 ≠ 0 := by rw [z2]; decide
    have n10 : m.1 10 ≠ 0 := by rw [z1]; decide
    rw [decide_eq_false n86, br_fq, decide_eq_false n10, br_fq, t2]
    refine l_bnd (pk_mo isf_p (fun v rr hv => ?_))
    obtain ⟨e0, hv⟩ := hv
    rw [e0]
    by_cases q : v1 < 0
    · rw [decide_eq_true (hv.mpr (Or.inr (Or.inl q))), br_tq, decide_eq_true q, br_tq]
      exact pp_l (thr 2 (by decide))
    · rw [decide_eq_false q, br_fq]
      by_cases q2 : I (g : Nat) ≤ v1
      · have q3 : ¬ v1 < I (g : Nat) := fun y => by
          have rv := ti_rng v1
          rw [I_of v1, I_lt rv.1 rv.2 (by omega) (by omega)] at y
          rw [I_of v1, I_le (by omega) (by omega) rv.1 rv.2] at q2
          omega
        rw [decide_eq_true (hv.mpr (Or.inr (Or.inr (by rw [t1]; exact q2)))), br_tq, decide_eq_false q3, br_fq]
        exact pp_l (thr 2 (by decide))
      · have q3 : v1 < I (g : Nat) := by
          have rv := ti_rng v1
          rw [I_of v1, I_lt rv.1 rv.2 (by omega) (by omega)]
          rw [I_of v1, I_le (by omega) (by omega) rv.1 rv.2] at q2
          omega
        have r0 : rr ≠ 0 := fun e => by
          rcases hv.mp e with y | y | y
          · exact n10 y
          · exact q y
          · rw [t1] at y; exact q2 y
        rw [decide_eq_false r0, br_fq, decide_eq_true q3, br_tq]
        obtain ⟨f, hf, rfl⟩ := ix_of hg q q2
        rw [tnI (n := f) rfl (by omega)]
        obtain ⟨f1, f2, f3, ⟨ar, ar1, ar2⟩, -⟩ := t3 f hf
        rw [f2, ar2]
        refine l_ck (fun _ => r_ck (fun _ => ?_))
        by_cases y : I (ar : Nat) = (0 : Int32)
        · have y2 : I (ar : Nat) ≤ (0 : Int32) := by rw [y]; decide
          rw [decide_eq_true y, br_tq, decide_eq_true y2, br_tq]
          have ci : PK (fun (v : MS) (_ : Unit ⊕ Nat) => v.1 943 = 1 ∧ v.1 944 = 0) (bnd (hm_Wl_clearAll N m) (fun u9 r9 => lt (upI u9 943 1) (fun w13 => bnd (hm_Wl_born N w13) (fun u15 r15 => br (decide (r15 = none)) (hb_H_begin_102 N () u15) (bo r15 (fun j17 => ck (inb (I (f : Nat)) 666) (bnd (hm_Fr_open N u15 j17 (I (f : Nat)) (u15.2.2.1 29 f) 0) (fun u24 r24 => hb_H_begin_102 N () u24)))))))) := by
            unfold hb_H_begin_102
            refine pk_bnd (pk_mo clr_t (fun v _ hv => pk_ltq ?_))
            generalize hx : upI v 943 1 = x
            have x1 : x.1 943 = 1 ∧ x.1 944 = 0 := by rw [← hx]; exact ⟨upI_at, by rw [upI_ne (by decide)]; exact hv.2⟩
            refine pk_bnd (pk_mo (fun v r e => zzm_Wl_born (u0 := x) (N := N) KPT_rf v r e) (fun v3 r3 (h3 : KPT x v3) => ?_))
            have x3 : v3.1 943 = 1 ∧ v3.1 944 = 0 := ⟨h3.1.trans x1.1, h3.2.trans x1.2⟩
            refine pk_br (fun _ => pk_some x3) (fun _ => pk_bo (fun _ _ => pk_ck (fun _ => pk_bnd (pk_mo (fun v r e => zzm_Fr_open (u0 := v3) (N := N) KPT_rf v r e) (fun v4 r4 (h4 : KPT v3 v4) => pk_some ⟨h4.1.trans x3.1, h4.2.trans x3.2⟩)))))
          intro m3 z3 w3 r3 x1 x2
          obtain ⟨c1, c2⟩ := ci m3 z3 x1
          obtain ⟨d1, d2⟩ := ok0 w3 r3 x2
          exact Or.inr ⟨c1, d1, 0, by decide, c2, d2⟩
        · have y2 : ¬ I (ar : Nat) ≤ (0 : Int32) := fun q => y (by
            rw [show (0 : Int32) = I 0 from rfl, I_le (by omega) (by omega) (by omega) (by omega)] at q
            rw [show ar = 0 by omega]; rfl)
          rw [decide_eq_false y, br_fq, decide_eq_false y2, br_fq]
          exact pp_l (thr 3 (by decide))
theorem lgc_leq (y z : Int64) : (lg_cmp y z ≤ 0) ↔ y.toInt ≤ z.toInt := by
  unfold lg_cmp
  simp only [gt_iff_lt, Int64.lt_iff_toInt_lt, ← Int64.toInt_inj]
  repeat' split
  all_goals (constructor <;> intro h <;> first | omega | exact absurd h (by decide) | decide)
theorem lgc_le {a b : Int} (ha : 0 ≤ a ∧ a ≤ 1000000000) (hb : 0 ≤ b ∧ b ≤ 1000000000) : decide (lg_cmp ((I a).toInt64 + (I b).toInt64) 1000000000 ≤ 0) = decide (a + b ≤ 1000000000) := by
  have e : (I a).toInt64 + (I b).toInt64 = Int64.ofInt (a + b) := by
    rw [Int64.ofInt_add]
    congr 1
    · apply Int64.toInt_inj.mp
      rw [Int32.toInt_toInt64, I_ti (by omega) (by omega), Int64.toInt_ofInt_of_le (by omega) (by omega)]
    · apply Int64.toInt_inj.mp
      rw [Int32.toInt_toInt64, I_ti (by omega) (by omega), Int64.toInt_ofInt_of_le (by omega) (by omega)]
  have t : (Int64.ofInt (a + b)).toInt = a + b := Int64.toInt_ofInt_of_le (by omega) (by omega)
  have t2 : (1000000000 : Int64).toInt = 1000000000 := rfl
  rw [e]
  exact decide_eq_decide.mpr ((lgc_leq _ _).trans (by rw [t, t2]))
/-- clock() -/
theorem clock_e (h : BGZ m w) : PP (fun m2 z w2 r9 => (w2.1 3 = cd_L_clock z ∧ ∀ f : Nat → Int64, cd_L_clock z = 0 → outF z f 0 = r9.toInt64) ∧ BGZ m2 w2) (hm_H_clock N m v1) (fm_M_clock N w v1) := by
  show PP _ (hb_H_clock_0 N () m v1) (fb_M_clock_0 N () w v1)
  unfold hb_H_clock_0 hb_H_clock_24 fb_M_clock_0 fb_M_clock_34 fb_M_clock_38 fb_M_clock_50
  have rv := ti_rng v1
  have thr : ∀ t : Int32, t ≠ 0 → PK (fun w2 (_ : Int32) => w2.1 3 = t ∧ BGZ m w2) (lt (upI w 3 t) (fun w1 => br (decide ((w1.1 3) = 0)) (lt (upI w1 120 ((w1.1 120) + v1)) (fun w2 => some (w2, (w2.1 120)))) (some (w1, 0)))) := fun t ht => by
    refine pk_ltq ?_
    rw [upI_at, decide_eq_false ht, br_fq]
    exact pk_some ⟨upI_at, BGZ_k h KPT_rf (Kt9_I Kt9_rf (by decide))⟩
  have f1 : PP (fun m2 z w2 r9 => (w2.1 3 = cd_L_clock z ∧ ∀ f : Nat → Int64, cd_L_clock z = 0 → outF z f 0 = r9.toInt64) ∧ BGZ m2 w2) (some (m, (.inr 2 : Int32 ⊕ Nat))) (lt (upI w 3 1) (fun w1 => br (decide ((w1.1 3) = 0)) (lt (upI w1 120 ((w1.1 120) + v1)) (fun w2 => some (w2, (w2.1 120)))) (some (w1, 0)))) := pp_l (pk_mo (thr 1 (by decide)) (fun v r hv => ⟨⟨hv.1, fun f q => absurd q (by decide)⟩, hv.2⟩))
  by_cases q : v1 < 0
  · rw [decide_eq_true q, br_tq, br_tq]
    exact f1
  · rw [decide_eq_false q, br_fq, br_fq]
    by_cases q2 : (1000000000 : Int32) < v1
    · rw [decide_eq_true q2, br_tq, br_tq]
      exact f1
    · rw [decide_eq_false q2, br_fq, br_fq]
      obtain ⟨a, ha, rfl⟩ : ∃ a : Nat, a ≤ 1000000000 ∧ v1 = I (a : Nat) := by
        rw [I_of v1, show (0 : Int32) = I 0 from rfl, I_lt rv.1 rv.2 (by omega) (by omega)] at q
        rw [I_of v1, show (1000000000 : Int32) = I 1000000000 from rfl, I_lt (by omega) (by omega) rv.1 rv.2] at q2
        exact ⟨v1.toInt.toNat, by omega, by rw [Int.toNat_of_nonneg (by omega)]; exact I_of v1⟩
      rcases h with ⟨h1, h2, h3⟩ | ⟨h1, h2, t, ht, h3, h4⟩
      · rw [h3, show (1000000000 : Int32) - 0 = I 1000000000 from rfl, decide_eq_true ((I_le (x := (a : Nat)) (y := (1000000000 : Int)) (by omega) (by omega) (by omega) (by omega)).mpr (by omega)), br_tq, decide_eq_true h1, br_tq, decide_eq_true h2, br_tq]
        exact pp_l (pk_mo (thr 2 (by decide)) (fun v r hv => ⟨⟨hv.1, fun f q => absurd q (by decide)⟩, hv.2⟩))
      · have n87 : w.1 87 ≠ 0 := by rw [h2]; decide
        have n43 : m.1 943 ≠ 0 := by rw [h1]; decide
        rw [h3, show (1000000000 : Int32) = I 1000000000 from rfl, I_sub, decide_eq_decide.mpr (I_le (x := (a : Nat)) (y := (1000000000 : Int) - ((t : Nat) : Int)) (by omega) (by omega) (by omega) (by omega)), decide_eq_false n87, br_fq, h4, show (1000000000 : Int64) = 1000000000 from rfl, lgc_le ⟨by omega, by omega⟩ ⟨by omega, by omega⟩, br_fq]
        by_cases z : t + a ≤ 1000000000
        · rw [decide_eq_true (by omega), br_tq, decide_eq_false n43, br_fq, decide_eq_true (by omega), br_tq]
          refine l_lt (r_lt ?_)
          have u3 : (upI w 3 0).1 3 = 0 := upI_at
          rw [upI_at, decide_eq_true u3, br_tq]
          refine r_lt ?_
          have e1 : (upI w 3 0).1 120 = I (t : Nat) := by rw [upI_ne (by decide)]; exact h4
          rw [e1, I_add, show ((t : Nat) : Int) + ((a : Nat) : Int) = ((t + a : Nat) : Int) by omega, upI_at]
          refine pp_end ⟨⟨?_, fun f _ => ?_⟩, Or.inr ⟨?_, ?_, t + a, z, upI_at, upI_at⟩⟩
          · rw [upI_ne (by decide), upI_at]; rfl
          · rfl
          · rw [upI_ne (by decide)]; exact h1
          · rw [upI_ne (by decide), upI_ne (by decide)]; exact h2
        · rw [decide_eq_false (by omega), br_fq, decide_eq_false (by omega), br_fq]
          exact pp_l (pk_mo (thr 1 (by decide)) (fun v r hv => ⟨⟨hv.1, fun f q => absurd q (by decide)⟩, hv.2⟩))
end
/-! the relation between the two states, over a script: FUNCTIONS and atoms too -/
set_option maxRecDepth 100000
def RZt (m w : MS) : Prop := RZf m w ∧ BGZ m w
def RELt (k : Nat) (u : CS) (uM : MS) (ce sl : Nat) : Prop := ∃ c m, RP none c m u ∧ INVc m ∧ INV uM ∧ RZt m uM ∧ ce ≤ 115 + u.1.1 + k ∧ sl ≤ 1787608 + u.1.2 + 6 * k ∧ k ≤ 512
theorem q_andc (x : Int32) : ∃ j : Nat, j < 16 ∧ x &&& 15 = Int32.ofNat j := by
  refine ⟨(x.toBitVec &&& 15#32).toNat, ?_, ?_⟩
  · rw [BitVec.toNat_and]
    exact Nat.lt_of_le_of_lt Nat.and_le_right (by decide)
  · apply Int32.toBitVec_inj.mp
    show (x.toBitVec &&& 15#32) = BitVec.ofNat 32 _
    simp
section
variable {α β : Type} {N z : Nat} {c : Nat → Nat} {m uM : MS} {u : CS}
theorem stept {hp : Option (CS × α)} {cp : Option (MS × α)} {rp : Option (MS × β)} {Aq : α → MS → β → Prop} (hrf : RF z none VE c u hp cp) (ok1 : OK (fun w _ => INVc w) cp) (ok2 : OK (fun w _ => INV w) rp) (hl : ∀ m2 r uM2 r2, cp = some (m2, r) → rp = some (uM2, r2) → RZt m2 uM2 ∧ Aq r uM2 r2) : ∃ u2 uM2 r r2 c2 m2, hp = some (u2, r) ∧ rp = some (uM2, r2) ∧ cp = some (m2, r) ∧ RP none c2 m2 u2 ∧ INVc m2 ∧ INV uM2 ∧ RZt m2 uM2 ∧ EX z c u c2 u2 ∧ Aq r uM2 r2 := by
  obtain ⟨c2, m2, u2, r, e1, e2, R2, i1, ex⟩ := step_c hrf ok1
  obtain ⟨uM2, r2, e3, i2⟩ := ok2
  obtain ⟨f, q⟩ := hl m2 r uM2 r2 e2 e3
  exact ⟨u2, uM2, r, r2, c2, m2, e1, e3, e2, R2, i1, i2, f, ex, q⟩
theorem kpu (h : INVc m) : KPS m m := KPS_rf h.1.2.2.2.2.2.2
theorem tc_le {q : α ⊕ Nat} : tc q ≤ 1 := by
  cases q
  · exact Nat.zero_le _
  · exact Nat.le_refl _
theorem tsl_le {q : α ⊕ Nat} : tsl q ≤ 6 := by
  cases q
  · exact Nat.zero_le _
  · exact Nat.le_refl _
end
section
variable {N k ce sl : Nat} {u : CS} {uM : MS} {xs : Nat → Int32}
theorem stt_feed (hN : 1000000000000000 ≤ N) (h : RELt k u uM ce sl) (hk : k < 512) (e9 : xs (6 * k) &&& 15 = 0) : ∃ u2 uM2 ce2 sl2, STEPt N xs k u uM u2 uM2 ce sl ce2 sl2 ∧ RELt (k + 1) u2 uM2 ce2 sl2 := by
  obtain ⟨c, m, R, i1, i2, zz, hce, hsl, -⟩ := h
  have ok1 : OK (fun w _ => INVc w) (hm_H_feed N m (xs (6 * k + 1)) (xs (6 * k + 2)) (xs (6 * k + 3)) (xs (6 * k + 4)) (xs (6 * k + 5))) := invc_feed (N := N) i1 (by omega)
  have ok2 : OK (fun w _ => INV w) (fm_M_feed N uM (xs (6 * k + 1)) (xs (6 * k + 2)) (xs (6 * k + 3)) (xs (6 * k + 4)) (xs (6 * k + 5))) := inv_feed hN i2
  have hl0 : ∀ m2 r uM2 r2, hm_H_feed N m (xs (6 * k + 1)) (xs (6 * k + 2)) (xs (6 * k + 3)) (xs (6 * k + 4)) (xs (6 * k + 5)) = some (m2, r) → fm_M_feed N uM (xs (6 * k + 1)) (xs (6 * k + 2)) (xs (6 * k + 3)) (xs (6 * k + 4)) (xs (6 * k + 5)) = some (uM2, r2) → F m2 81 = F uM2 5 ∧ r = r2 := fun m2 r uM2 r2 a b => by
    obtain ⟨w1, r1, a1, q1⟩ := feed_c (N := N) (a := xs (6 * k + 1)) (b := xs (6 * k + 2)) (c := xs (6 * k + 3)) (d := xs (6 * k + 4)) (e := xs (6 * k + 5)) i1 (by omega)
    obtain ⟨w2, r3, b1, q2⟩ := feed_m (N := N) (a := xs (6 * k + 1)) (b := xs (6 * k + 2)) (c := xs (6 * k + 3)) (d := xs (6 * k + 4)) (e := xs (6 * k + 5)) i2.1 (by omega)
    rw [a1] at a
    rw [b1] at b
    injection a with a
    injection a with a3 a4
    injection b with b
    injection b with b3 b4
    rw [← a3, ← a4, ← b3, ← b4]
    rw [zz.1.1] at q1
    exact FD_f q1 q2
  have hl : ∀ m2 r uM2 r2, hm_H_feed N m (xs (6 * k + 1)) (xs (6 * k + 2)) (xs (6 * k + 3)) (xs (6 * k + 4)) (xs (6 * k + 5)) = some (m2, r) → fm_M_feed N uM (xs (6 * k + 1)) (xs (6 * k + 2)) (xs (6 * k + 3)) (xs (6 * k + 4)) (xs (6 * k + 5)) = some (uM2, r2) → RZt m2 uM2 ∧ r = r2 := fun m2 r uM2 r2 x y => ⟨⟨feed_z (by omega) R i1.1.1.1 zz.1 (hl0 m2 r uM2 r2 x y).1 x y, BGZ_k zz.2 ⟨(yh9_hm_H_feed (u0 := m) (N := N) Kh_rf m2 r x).1 943 (by decide), (yh9_hm_H_feed (u0 := m) (N := N) Kh_rf m2 r x).1 944 (by decide)⟩ (yt9_fm_M_feed (u0 := uM) Kt9_rf uM2 r2 y)⟩, (hl0 m2 r uM2 r2 x y).2⟩
  obtain ⟨u2, uM2, r, r2, c2, m2, a1, a2, a3, R2, j1, j2, f, ex, q⟩ := stept (Aq := fun r _ r2 => r = r2) (ym_H_feed (N := N) R) ok1 ok2 hl
  have ez : u2.1 = u.1 := ex.2.2.2.2.2 (by omega)
  have q : r = r2 := q
  subst q
  exact ⟨u2, uM2, _, _, Or.inl (⟨e9, ⟨r, a1, a2, rfl, rfl⟩⟩), c2, m2, R2, j1, j2, f, by rw [ez]; omega, by rw [ez]; omega, by omega⟩
theorem stt_back (hN : 1000000000000000 ≤ N) (h : RELt k u uM ce sl) (hk : k < 512) (e9 : xs (6 * k) &&& 15 = 1) : ∃ u2 uM2 ce2 sl2, STEPt N xs k u uM u2 uM2 ce sl ce2 sl2 ∧ RELt (k + 1) u2 uM2 ce2 sl2 := by
  obtain ⟨c, m, R, i1, i2, zz, hce, hsl, -⟩ := h
  have ok1 : OK (fun w _ => INVc w) (hm_H_back N m (xs (6 * k + 1))) := invc_back (N := N) i1
  have ok2 : OK (fun w _ => INV w) (fm_M_back N uM (xs (6 * k + 1))) := inv_back i2
  have hl0 : ∀ m2 r uM2 r2, hm_H_back N m (xs (6 * k + 1)) = some (m2, r) → fm_M_back N uM (xs (6 * k + 1)) = some (uM2, r2) → F m2 81 = F uM2 5 ∧ r = r2 := fun m2 r uM2 r2 a b => by
    obtain ⟨w1, r1, a1, q1⟩ := back_c (N := N) i1 (ti_rng (xs (6 * k + 1)))
    obtain ⟨w2, r3, b1, q2⟩ := back_m (N := N) i2.1 (ti_rng (xs (6 * k + 1)))
    rw [← I_of (xs (6 * k + 1))] at a1 b1
    rw [a1] at a
    rw [b1] at b
    injection a with a
    injection a with a3 a4
    injection b with b
    injection b with b3 b4
    rw [← a3, ← a4, ← b3, ← b4]
    rw [zz.1.1] at q1
    exact BK_f q1 q2
  have hl : ∀ m2 r uM2 r2, hm_H_back N m (xs (6 * k + 1)) = some (m2, r) → fm_M_back N uM (xs (6 * k + 1)) = some (uM2, r2) → RZt m2 uM2 ∧ r = r2 := fun m2 r uM2 r2 x y => ⟨⟨back_z zz.1 i1.1.1.1 (hl0 m2 r uM2 r2 x y).1 x y, BGZ_k zz.2 ⟨(yh9_hm_H_back (u0 := m) (N := N) Kh_rf m2 r x).1 943 (by decide), (yh9_hm_H_back (u0 := m) (N := N) Kh_rf m2 r x).1 944 (by decide)⟩ (yt9_fm_M_back (u0 := uM) Kt9_rf uM2 r2 y)⟩, (hl0 m2 r uM2 r2 x y).2⟩
  obtain ⟨u2, uM2, r, r2, c2, m2, a1, a2, a3, R2, j1, j2, f, ex, q⟩ := stept (Aq := fun r _ r2 => r = r2) (ym_H_back (N := N) R) ok1 ok2 hl
  have ez : u2.1 = u.1 := ex.2.2.2.2.2 (by omega)
  have q : r = r2 := q
  subst q
  exact ⟨u2, uM2, _, _, Or.inr (Or.inl (⟨e9, ⟨r, a1, a2, rfl, rfl⟩⟩)), c2, m2, R2, j1, j2, f, by rw [ez]; omega, by rw [ez]; omega, by omega⟩
theorem stt_read (hN : 1000000000000000 ≤ N) (h : RELt k u uM ce sl) (hk : k < 512) (e9 : xs (6 * k) &&& 15 = 2) : ∃ u2 uM2 ce2 sl2, STEPt N xs k u uM u2 uM2 ce sl ce2 sl2 ∧ RELt (k + 1) u2 uM2 ce2 sl2 := by
  obtain ⟨c, m, R, i1, i2, zz, hce, hsl, -⟩ := h
  have ok1 : OK (fun w _ => INVc w) (hm_H_read N m) := invc_read (N := N) i1 (by omega)
  have ok2 : OK (fun w _ => INV w) (fm_M_read N uM) := inv_read hN i2
  have hl : ∀ m2 r uM2 r2, hm_H_read N m = some (m2, r) → fm_M_read N uM = some (uM2, r2) → RZt m2 uM2 ∧ True := fun m2 r uM2 r2 x y => ⟨⟨read_z hN R i1 i2 zz.1 x y, read_b x y (by
    obtain ⟨w', r', e', q⟩ := read_ok (N := N) (by omega) i2.1 i2.2.1.1 i2.2.1.2.1 i2.2.1.2.2.1 i2.2.1.2.2.2.1 i2.2.1.2.2.2.2
    rw [y] at e'
    injection e' with e'
    injection e' with e' _
    rw [e']
    exact q.2.2.1)⟩, trivial⟩
  obtain ⟨u2, uM2, r, r2, c2, m2, a1, a2, a3, R2, j1, j2, f, ex, q⟩ := stept (Aq := fun _ _ _ => True) (ym_H_read (N := N) R) ok1 ok2 hl
  have ez : u2.1 = u.1 := ex.2.2.2.2.2 (by omega)
  exact ⟨u2, uM2, _, _, Or.inr (Or.inr (Or.inl (⟨e9, ⟨r, r2, a1, a2, rfl, rfl⟩⟩))), c2, m2, R2, j1, j2, f, by rw [ez]; omega, by rw [ez]; omega, by omega⟩
theorem stt_count (hN : 1000000000000000 ≤ N) (h : RELt k u uM ce sl) (hk : k < 512) (e9 : xs (6 * k) &&& 15 = 3) : ∃ u2 uM2 ce2 sl2, STEPt N xs k u uM u2 uM2 ce sl ce2 sl2 ∧ RELt (k + 1) u2 uM2 ce2 sl2 := by
  obtain ⟨c, m, R, i1, i2, zz, hce, hsl, -⟩ := h
  have ok1 : OK (fun w _ => INVc w) (hm_H_count N m (xs (6 * k + 1))) := invc_count (N := N) i1
  have ok2 : OK (fun w _ => INV w) (fm_M_count N uM (xs (6 * k + 1))) := inv_count i2
  obtain ⟨u2, uM2, r, r2, c2, m2, a1, a2, a3, R2, j1, j2, f, ex, q⟩ := stept (Aq := fun _ _ _ => True) (ym_H_count (N := N) R) ok1 ok2 (fun m2 r uM2 r2 x y => ⟨⟨(keepz zz.1 (Z9_ke (zm_H_count (kpu i1))) (y5_fm_M_count (u0 := uM) rfl) (yg9_fm_M_count (u0 := uM) Kg_rf) m2 r uM2 r2 x y).1, BGZ_k zz.2 (zzm_H_count (u0 := m) KPT_rf m2 r x) (yt9_fm_M_count (u0 := uM) Kt9_rf uM2 r2 y)⟩, trivial⟩)
  have ez : u2.1 = u.1 := ex.2.2.2.2.2 (by omega)
  exact ⟨u2, uM2, _, _, Or.inr (Or.inr (Or.inr (Or.inl (⟨e9, ⟨r, r2, a1, a2, rfl, rfl⟩⟩)))), c2, m2, R2, j1, j2, f, by rw [ez]; omega, by rw [ez]; omega, by omega⟩
theorem stt_function (hN : 1000000000000000 ≤ N) (h : RELt k u uM ce sl) (hk : k < 512) (e9 : xs (6 * k) &&& 15 = 4) : ∃ u2 uM2 ce2 sl2, STEPt N xs k u uM u2 uM2 ce sl ce2 sl2 ∧ RELt (k + 1) u2 uM2 ce2 sl2 := by
  obtain ⟨c, m, R, i1, i2, zz, hce, hsl, -⟩ := h
  have ok1 : OK (fun w _ => INVc w) (hm_H_function N m (xs (6 * k + 1)) (xs (6 * k + 2))) := invc_function (N := N) i1
  have ok2 : OK (fun w _ => INV w) (fm_M_function1 N uM (xs (6 * k + 1)) (xs (6 * k + 2))) := inv_function i2
  obtain ⟨u2, uM2, r, r2, c2, m2, a1, a2, a3, R2, j1, j2, f, ex, q⟩ := stept (Aq := fun r _ r2 => r = r2) (ym_H_function (N := N) R) ok1 ok2 (fun m2 r uM2 r2 x y => ⟨⟨(keepz zz.1 (Z9_ke (zm_H_function (kpu i1))) (y5_fm_M_function1 (u0 := uM) rfl) (yg9_fm_M_function1 (u0 := uM) Kg_rf) m2 r uM2 r2 x y).1, BGZ_k zz.2 (zzm_H_function (u0 := m) KPT_rf m2 r x) (yt9_fm_M_function1 (u0 := uM) Kt9_rf uM2 r2 y)⟩, function_e zz.1.2.2.2.2 m2 r uM2 r2 x y⟩)
  have ez : u2.1 = u.1 := ex.2.2.2.2.2 (by omega)
  have q : r = r2 := q
  subst q
  exact ⟨u2, uM2, _, _, Or.inr (Or.inr (Or.inr (Or.inr (Or.inl (⟨e9, ⟨r, a1, a2, rfl, rfl⟩⟩))))), c2, m2, R2, j1, j2, f, by rw [ez]; omega, by rw [ez]; omega, by omega⟩
theorem stt_letter (hN : 1000000000000000 ≤ N) (h : RELt k u uM ce sl) (hk : k < 512) (e9 : xs (6 * k) &&& 15 = 5) : ∃ u2 uM2 ce2 sl2, STEPt N xs k u uM u2 uM2 ce sl ce2 sl2 ∧ RELt (k + 1) u2 uM2 ce2 sl2 := by
  obtain ⟨c, m, R, i1, i2, zz, hce, hsl, -⟩ := h
  have ok1 : OK (fun w _ => INVc w) (hm_H_letter N m (xs (6 * k + 1)) (xs (6 * k + 2))) := invc_letter (N := N) i1
  have ok2 : OK (fun w _ => INV w) (fm_M_letter N uM (xs (6 * k + 1)) (xs (6 * k + 2))) := inv_letter i2
  obtain ⟨u2, uM2, r, r2, c2, m2, a1, a2, a3, R2, j1, j2, f, ex, q⟩ := stept (Aq := fun r _ r2 => r = r2) (ym_H_letter (N := N) R) ok1 ok2 (fun m2 r uM2 r2 x y => ⟨⟨(keepz zz.1 (Z9_ke (zm_H_letter (kpu i1))) (y5_fm_M_letter (u0 := uM) rfl) (yg9_fm_M_letter (u0 := uM) Kg_rf) m2 r uM2 r2 x y).1, BGZ_k zz.2 (zzm_H_letter (u0 := m) KPT_rf m2 r x) (yt9_fm_M_letter (u0 := uM) Kt9_rf uM2 r2 y)⟩, letter_e zz.1.2.2.2.2 m2 r uM2 r2 x y⟩)
  have ez : u2.1 = u.1 := ex.2.2.2.2.2 (by omega)
  have q : r = r2 := q
  subst q
  exact ⟨u2, uM2, _, _, Or.inr (Or.inr (Or.inr (Or.inr (Or.inr (Or.inl (⟨e9, ⟨r, a1, a2, rfl, rfl⟩⟩)))))), c2, m2, R2, j1, j2, f, by rw [ez]; omega, by rw [ez]; omega, by omega⟩
theorem stt_begin (hN : 1000000000000000 ≤ N) (h : RELt k u uM ce sl) (hk : k < 512) (e9 : xs (6 * k) &&& 15 = 6) : ∃ u2 uM2 ce2 sl2, STEPt N xs k u uM u2 uM2 ce sl ce2 sl2 ∧ RELt (k + 1) u2 uM2 ce2 sl2 := by
  obtain ⟨c, m, R, i1, i2, zz, hce, hsl, -⟩ := h
  have ok1 : OK (fun w _ => INVc w) (hm_H_begin N m (xs (6 * k + 1))) := by
    have h : OK (fun w _ => INVc w) (hm_H_begin N m (I (xs (6 * k + 1)).toInt)) := invc_begin (N := N) i1 (ti_rng (xs (6 * k + 1)))
    rw [← I_of (xs (6 * k + 1))] at h
    exact h
  have ok2 : OK (fun w _ => INV w) (fm_M_begin N uM (xs (6 * k + 1))) := inv_begin hN i2
  obtain ⟨u2, uM2, r, r2, c2, m2, a1, a2, a3, R2, j1, j2, f, ex, q⟩ := stept (Aq := fun z w2 _ => w2.1 3 = cd_L_begin z) (ym_H_begin (N := N) R) ok1 ok2 (fun m2 r uM2 r2 x y => ⟨⟨(keepz zz.1 (Z9_ke (zm_H_begin (kpu i1))) (y5_fm_M_begin (u0 := uM) rfl) (yg9_fm_M_begin (u0 := uM) Kg_rf) m2 r uM2 r2 x y).1, begin_bg zz.1.2.2.2.2 zz.2 m2 r uM2 r2 x y⟩, begin_e zz.1.2.2.2.2 m2 r uM2 r2 x y⟩)
  have hok : ok_L_begin r = true := by
    cases r with
    | inl v => rfl
    | inr t =>
      have := begin_kz (N := N) m2 _ a3 t rfl
      exact decide_eq_true (by omega)
  have t1 := tc_le (q := r)
  have t2 := tsl_le (q := r)
  cases r2
  obtain ⟨-, g1, g2, -⟩ := ex
  have q : uM2.1 3 = cd_L_begin r := q
  exact ⟨u2, uM2, _, _, Or.inr (Or.inr (Or.inr (Or.inr (Or.inr (Or.inr (Or.inl (⟨e9, ⟨u2.1.1 + tc r - u.1.1, u2.1.2 + tsl r - u.1.2, r, a1, hok, ⟨by omega, by omega⟩, a2, by rw [← q]; rfl, rfl, rfl⟩⟩))))))), c2, m2, R2, j1, j2, f, by omega, by omega, by omega⟩
theorem stt_go (hN : 1000000000000000 ≤ N) (h : RELt k u uM ce sl) (hk : k < 512) (e9 : xs (6 * k) &&& 15 = 7) : ∃ u2 uM2 ce2 sl2, STEPt N xs k u uM u2 uM2 ce sl ce2 sl2 ∧ RELt (k + 1) u2 uM2 ce2 sl2 := by
  obtain ⟨c, m, R, i1, i2, zz, hce, hsl, -⟩ := h
  have ok1 : OK (fun w _ => INVc w) (hm_H_go N m (xs (6 * k + 1)) (xs (6 * k + 2))) := by
    have h : OK (fun w _ => INVc w) (hm_H_go N m (I (xs (6 * k + 1)).toInt) (xs (6 * k + 2))) := invc_go (N := N) i1 (ti_rng (xs (6 * k + 1))) (by omega)
    rw [← I_of (xs (6 * k + 1))] at h
    exact h
  have ok2 : OK (fun w _ => INV w) (fm_M_go N uM (xs (6 * k + 1)) (xs (6 * k + 2))) := inv_go hN i2
  obtain ⟨u2, uM2, r, r2, c2, m2, a1, a2, a3, R2, j1, j2, f, ex, q⟩ := stept (Aq := fun _ _ _ => True) (ym_H_go (N := N) R) ok1 ok2 (fun m2 r uM2 r2 x y => ⟨⟨(keepz zz.1 (Z9_ke (zm_H_go (kpu i1))) (y5_fm_M_go (u0 := uM) rfl) (yg9_fm_M_go (u0 := uM) Kg_rf) m2 r uM2 r2 x y).1, BGZ_k zz.2 (zzm_H_go (u0 := m) KPT_rf m2 r x) (yt9_fm_M_go (u0 := uM) Kt9_rf uM2 r2 y)⟩, trivial⟩)
  have hok : ok_L_go r = true := by
    cases r with
    | inl v => rfl
    | inr t =>
      have := go_kz (N := N) m2 _ a3 t rfl
      exact decide_eq_true (by omega)
  have t1 := tc_le (q := r)
  have t2 := tsl_le (q := r)
  obtain ⟨-, g1, g2, -⟩ := ex
  exact ⟨u2, uM2, _, _, Or.inr (Or.inr (Or.inr (Or.inr (Or.inr (Or.inr (Or.inr (Or.inl (⟨e9, ⟨u2.1.1 + tc r - u.1.1, u2.1.2 + tsl r - u.1.2, r, r2, a1, hok, ⟨by omega, by omega⟩, a2, rfl, rfl⟩⟩)))))))), c2, m2, R2, j1, j2, f, by omega, by omega, by omega⟩
theorem stt_clock (hN : 1000000000000000 ≤ N) (h : RELt k u uM ce sl) (hk : k < 512) (e9 : xs (6 * k) &&& 15 = 8) : ∃ u2 uM2 ce2 sl2, STEPt N xs k u uM u2 uM2 ce sl ce2 sl2 ∧ RELt (k + 1) u2 uM2 ce2 sl2 := by
  obtain ⟨c, m, R, i1, i2, zz, hce, hsl, -⟩ := h
  have ok1 : OK (fun w _ => INVc w) (hm_H_clock N m (xs (6 * k + 1))) := invc_clock (N := N) i1
  have ok2 : OK (fun w _ => INV w) (fm_M_clock N uM (xs (6 * k + 1))) := inv_clock i2
  obtain ⟨u2, uM2, r, r2, c2, m2, a1, a2, a3, R2, j1, j2, f, ex, q⟩ := stept (Aq := fun z w2 r9 => w2.1 3 = cd_L_clock z ∧ ∀ f : Nat → Int64, cd_L_clock z = 0 → outF z f 0 = r9.toInt64) (ym_H_clock (N := N) R) ok1 ok2 (fun m2 r uM2 r2 x y => ⟨⟨(keepz zz.1 (Z9_ke (zm_H_clock (kpu i1))) (y5_fm_M_clock (u0 := uM) rfl) (yg9_fm_M_clock (u0 := uM) Kg_rf) m2 r uM2 r2 x y).1, (clock_e zz.2 m2 r uM2 r2 x y).2⟩, (clock_e zz.2 m2 r uM2 r2 x y).1⟩)
  have hok : ok_L_clock r = true := by
    cases r with
    | inl v => rfl
    | inr t =>
      have := clock_kz (N := N) m2 _ a3 t rfl
      exact decide_eq_true (by omega)
  have t1 := tc_le (q := r)
  have t2 := tsl_le (q := r)
  have ez : u2.1 = u.1 := ex.2.2.2.2.2 (by omega)
  have q : uM2.1 3 = cd_L_clock r ∧ ∀ f : Nat → Int64, cd_L_clock r = 0 → outF r f 0 = r2.toInt64 := q
  exact ⟨u2, uM2, _, _, Or.inr (Or.inr (Or.inr (Or.inr (Or.inr (Or.inr (Or.inr (Or.inr (Or.inl (⟨e9, ⟨r, r2, a1, hok, a2, by rw [← q.1]; rfl, q.2, rfl, rfl⟩⟩))))))))), c2, m2, R2, j1, j2, f, by rw [ez]; omega, by rw [ez]; omega, by omega⟩
theorem stt_send (hN : 1000000000000000 ≤ N) (h : RELt k u uM ce sl) (hk : k < 512) (e9 : xs (6 * k) &&& 15 = 9) : ∃ u2 uM2 ce2 sl2, STEPt N xs k u uM u2 uM2 ce sl ce2 sl2 ∧ RELt (k + 1) u2 uM2 ce2 sl2 := by
  obtain ⟨c, m, R, i1, i2, zz, hce, hsl, -⟩ := h
  have ok1 : OK (fun w _ => INVc w) (hm_H_send N m (xs (6 * k + 1)) (xs (6 * k + 2)) (xs (6 * k + 3))) := by
    have h : OK (fun w _ => INVc w) (hm_H_send N m (I (xs (6 * k + 1)).toInt) (xs (6 * k + 2)) (I (xs (6 * k + 3)).toInt)) := invc_send (N := N) i1 (ti_rng (xs (6 * k + 1))) (ti_rng (xs (6 * k + 3))) (by omega)
    rw [← I_of (xs (6 * k + 1))] at h
    rw [← I_of (xs (6 * k + 3))] at h
    exact h
  have ok2 : OK (fun w _ => INV w) (fm_M_send N uM (xs (6 * k + 1)) (xs (6 * k + 2)) (xs (6 * k + 3))) := inv_send hN i2
  obtain ⟨u2, uM2, r, r2, c2, m2, a1, a2, a3, R2, j1, j2, f, ex, q⟩ := stept (Aq := fun _ _ _ => True) (ym_H_send (N := N) R) ok1 ok2 (fun m2 r uM2 r2 x y => ⟨⟨(keepz zz.1 (Z9_ke (zm_H_send (kpu i1))) (y5_fm_M_send (u0 := uM) rfl) (yg9_fm_M_send (u0 := uM) Kg_rf) m2 r uM2 r2 x y).1, BGZ_k zz.2 (zzm_H_send (u0 := m) KPT_rf m2 r x) (yt9_fm_M_send (u0 := uM) Kt9_rf uM2 r2 y)⟩, trivial⟩)
  have hok : ok_L_send r = true := by
    cases r with
    | inl v => rfl
    | inr t =>
      have := send_kz (N := N) m2 _ a3 t rfl
      exact decide_eq_true (by omega)
  have t1 := tc_le (q := r)
  have t2 := tsl_le (q := r)
  cases r2
  have ez : u2.1 = u.1 := ex.2.2.2.2.2 (by omega)
  exact ⟨u2, uM2, _, _, Or.inr (Or.inr (Or.inr (Or.inr (Or.inr (Or.inr (Or.inr (Or.inr (Or.inr (Or.inl (⟨e9, ⟨r, a1, hok, a2, rfl, rfl⟩⟩)))))))))), c2, m2, R2, j1, j2, f, by rw [ez]; omega, by rw [ez]; omega, by omega⟩
theorem stt_process (hN : 1000000000000000 ≤ N) (h : RELt k u uM ce sl) (hk : k < 512) (e9 : xs (6 * k) &&& 15 = 10) : ∃ u2 uM2 ce2 sl2, STEPt N xs k u uM u2 uM2 ce sl ce2 sl2 ∧ RELt (k + 1) u2 uM2 ce2 sl2 := by
  obtain ⟨c, m, R, i1, i2, zz, hce, hsl, -⟩ := h
  have ok1 : OK (fun w _ => INVc w) (hm_H_process N m (xs (6 * k + 1)) (xs (6 * k + 2))) := by
    have h : OK (fun w _ => INVc w) (hm_H_process N m (I (xs (6 * k + 1)).toInt) (xs (6 * k + 2))) := invc_process (N := N) i1 (ti_rng (xs (6 * k + 1))) (by omega)
    rw [← I_of (xs (6 * k + 1))] at h
    exact h
  have ok2 : OK (fun w _ => INV w) (fm_M_process N uM (xs (6 * k + 1)) (xs (6 * k + 2))) := inv_process hN i2
  obtain ⟨u2, uM2, r, r2, c2, m2, a1, a2, a3, R2, j1, j2, f, ex, q⟩ := stept (Aq := fun _ _ _ => True) (ym_H_process (N := N) R) ok1 ok2 (fun m2 r uM2 r2 x y => ⟨⟨(keepz zz.1 (Z9_ke (zm_H_process (kpu i1))) (y5_fm_M_process (u0 := uM) rfl) (yg9_fm_M_process (u0 := uM) Kg_rf) m2 r uM2 r2 x y).1, BGZ_k zz.2 (zzm_H_process (u0 := m) KPT_rf m2 r x) (yt9_fm_M_process (u0 := uM) Kt9_rf uM2 r2 y)⟩, trivial⟩)
  have ez : u2.1 = u.1 := ex.2.2.2.2.2 (by omega)
  exact ⟨u2, uM2, _, _, Or.inr (Or.inr (Or.inr (Or.inr (Or.inr (Or.inr (Or.inr (Or.inr (Or.inr (Or.inr (Or.inl (⟨e9, ⟨r, r2, a1, a2, rfl, rfl⟩⟩))))))))))), c2, m2, R2, j1, j2, f, by rw [ez]; omega, by rw [ez]; omega, by omega⟩
theorem stt_frame (hN : 1000000000000000 ≤ N) (h : RELt k u uM ce sl) (hk : k < 512) (e9 : xs (6 * k) &&& 15 = 11) : ∃ u2 uM2 ce2 sl2, STEPt N xs k u uM u2 uM2 ce sl ce2 sl2 ∧ RELt (k + 1) u2 uM2 ce2 sl2 := by
  obtain ⟨c, m, R, i1, i2, zz, hce, hsl, -⟩ := h
  have ok1 : OK (fun w _ => INVc w) (hm_H_frame N m (xs (6 * k + 1)) (xs (6 * k + 2)) (xs (6 * k + 3))) := by
    have h : OK (fun w _ => INVc w) (hm_H_frame N m (I (xs (6 * k + 1)).toInt) (xs (6 * k + 2)) (xs (6 * k + 3))) := invc_frame (N := N) i1 (ti_rng (xs (6 * k + 1)))
    rw [← I_of (xs (6 * k + 1))] at h
    exact h
  have ok2 : OK (fun w _ => INV w) (fm_M_frame1 N uM (xs (6 * k + 1)) (xs (6 * k + 2)) (xs (6 * k + 3))) := inv_frame i2
  obtain ⟨u2, uM2, r, r2, c2, m2, a1, a2, a3, R2, j1, j2, f, ex, q⟩ := stept (Aq := fun _ _ _ => True) (ym_H_frame (N := N) R) ok1 ok2 (fun m2 r uM2 r2 x y => ⟨⟨(keepz zz.1 (Z9_ke (zm_H_frame (kpu i1))) (y5_fm_M_frame1 (u0 := uM) rfl) (yg9_fm_M_frame1 (u0 := uM) Kg_rf) m2 r uM2 r2 x y).1, BGZ_k zz.2 (zzm_H_frame (u0 := m) KPT_rf m2 r x) (yt9_fm_M_frame1 (u0 := uM) Kt9_rf uM2 r2 y)⟩, trivial⟩)
  have ez : u2.1 = u.1 := ex.2.2.2.2.2 (by omega)
  exact ⟨u2, uM2, _, _, Or.inr (Or.inr (Or.inr (Or.inr (Or.inr (Or.inr (Or.inr (Or.inr (Or.inr (Or.inr (Or.inr (Or.inl (⟨e9, ⟨r, r2, a1, a2, rfl, rfl⟩⟩)))))))))))), c2, m2, R2, j1, j2, f, by rw [ez]; omega, by rw [ez]; omega, by omega⟩
theorem stt_link (hN : 1000000000000000 ≤ N) (h : RELt k u uM ce sl) (hk : k < 512) (e9 : xs (6 * k) &&& 15 = 12) : ∃ u2 uM2 ce2 sl2, STEPt N xs k u uM u2 uM2 ce sl ce2 sl2 ∧ RELt (k + 1) u2 uM2 ce2 sl2 := by
  obtain ⟨c, m, R, i1, i2, zz, hce, hsl, -⟩ := h
  have ok1 : OK (fun w _ => INVc w) (hm_H_link N m (xs (6 * k + 1)) (xs (6 * k + 2))) := by
    have h : OK (fun w _ => INVc w) (hm_H_link N m (I (xs (6 * k + 1)).toInt) (xs (6 * k + 2))) := invc_link (N := N) i1 (ti_rng (xs (6 * k + 1)))
    rw [← I_of (xs (6 * k + 1))] at h
    exact h
  have ok2 : OK (fun w _ => INV w) (fm_M_link N uM (xs (6 * k + 1)) (xs (6 * k + 2))) := inv_link i2
  obtain ⟨u2, uM2, r, r2, c2, m2, a1, a2, a3, R2, j1, j2, f, ex, q⟩ := stept (Aq := fun _ _ _ => True) (ym_H_link (N := N) R) ok1 ok2 (fun m2 r uM2 r2 x y => ⟨⟨(keepz zz.1 (Z9_ke (zm_H_link (kpu i1))) (y5_fm_M_link (u0 := uM) rfl) (yg9_fm_M_link (u0 := uM) Kg_rf) m2 r uM2 r2 x y).1, BGZ_k zz.2 (zzm_H_link (u0 := m) KPT_rf m2 r x) (yt9_fm_M_link (u0 := uM) Kt9_rf uM2 r2 y)⟩, trivial⟩)
  have ez : u2.1 = u.1 := ex.2.2.2.2.2 (by omega)
  exact ⟨u2, uM2, _, _, Or.inr (Or.inr (Or.inr (Or.inr (Or.inr (Or.inr (Or.inr (Or.inr (Or.inr (Or.inr (Or.inr (Or.inr (Or.inl (⟨e9, ⟨r, r2, a1, a2, rfl, rfl⟩⟩))))))))))))), c2, m2, R2, j1, j2, f, by rw [ez]; omega, by rw [ez]; omega, by omega⟩
theorem stt_show (hN : 1000000000000000 ≤ N) (h : RELt k u uM ce sl) (hk : k < 512) (e9 : xs (6 * k) &&& 15 = 13) : ∃ u2 uM2 ce2 sl2, STEPt N xs k u uM u2 uM2 ce sl ce2 sl2 ∧ RELt (k + 1) u2 uM2 ce2 sl2 := by
  obtain ⟨c, m, R, i1, i2, zz, hce, hsl, -⟩ := h
  have ok1 : OK (fun w _ => INVc w) (hm_H_show N m (xs (6 * k + 1)) (xs (6 * k + 2)) (xs (6 * k + 3))) := by
    have h : OK (fun w _ => INVc w) (hm_H_show N m (I (xs (6 * k + 1)).toInt) (xs (6 * k + 2)) (xs (6 * k + 3))) := invc_show (N := N) i1 (ti_rng (xs (6 * k + 1))) (by omega)
    rw [← I_of (xs (6 * k + 1))] at h
    exact h
  have ok2 : OK (fun w _ => INV w) (fm_M_show N uM (xs (6 * k + 1)) (xs (6 * k + 2)) (xs (6 * k + 3))) := inv_show hN i2
  obtain ⟨u2, uM2, r, r2, c2, m2, a1, a2, a3, R2, j1, j2, f, ex, q⟩ := stept (Aq := fun _ _ _ => True) (ym_H_show (N := N) R) ok1 ok2 (fun m2 r uM2 r2 x y => ⟨⟨(keepz zz.1 (show_9 (kpu i1)) (y5_fm_M_show (u0 := uM) rfl) (yg9_fm_M_show (u0 := uM) Kg_rf) m2 r uM2 r2 x y).1, BGZ_k zz.2 (show_t (u0 := m) KPT_rf m2 r x) (yt9_fm_M_show (u0 := uM) Kt9_rf uM2 r2 y)⟩, trivial⟩)
  have ez : u2.1 = u.1 := ex.2.2.2.2.2 (by omega)
  exact ⟨u2, uM2, _, _, Or.inr (Or.inr (Or.inr (Or.inr (Or.inr (Or.inr (Or.inr (Or.inr (Or.inr (Or.inr (Or.inr (Or.inr (Or.inr (Or.inl (⟨e9, ⟨r, r2, a1, a2, rfl, rfl⟩⟩)))))))))))))), c2, m2, R2, j1, j2, f, by rw [ez]; omega, by rw [ez]; omega, by omega⟩
theorem stt_shown (hN : 1000000000000000 ≤ N) (h : RELt k u uM ce sl) (hk : k < 512) (e9 : xs (6 * k) &&& 15 = 14) : ∃ u2 uM2 ce2 sl2, STEPt N xs k u uM u2 uM2 ce sl ce2 sl2 ∧ RELt (k + 1) u2 uM2 ce2 sl2 := by
  obtain ⟨c, m, R, i1, i2, zz, hce, hsl, -⟩ := h
  have ok1 : OK (fun w _ => INVc w) (hm_H_shown N m (xs (6 * k + 1))) := invc_shown (N := N) i1
  have ok2 : OK (fun w _ => INV w) (fm_M_shown N uM (xs (6 * k + 1))) := inv_shown i2
  obtain ⟨u2, uM2, r, r2, c2, m2, a1, a2, a3, R2, j1, j2, f, ex, q⟩ := stept (Aq := fun _ _ _ => True) (ym_H_shown (N := N) R) ok1 ok2 (fun m2 r uM2 r2 x y => ⟨⟨(keepz zz.1 (Z9_ke (zm_H_shown (kpu i1))) (y5_fm_M_shown (u0 := uM) rfl) (yg9_fm_M_shown (u0 := uM) Kg_rf) m2 r uM2 r2 x y).1, BGZ_k zz.2 (zzm_H_shown (u0 := m) KPT_rf m2 r x) (yt9_fm_M_shown (u0 := uM) Kt9_rf uM2 r2 y)⟩, trivial⟩)
  have ez : u2.1 = u.1 := ex.2.2.2.2.2 (by omega)
  exact ⟨u2, uM2, _, _, Or.inr (Or.inr (Or.inr (Or.inr (Or.inr (Or.inr (Or.inr (Or.inr (Or.inr (Or.inr (Or.inr (Or.inr (Or.inr (Or.inr (Or.inl (⟨e9, ⟨r, r2, a1, a2, rfl, rfl⟩⟩))))))))))))))), c2, m2, R2, j1, j2, f, by rw [ez]; omega, by rw [ez]; omega, by omega⟩
theorem stt_printed (hN : 1000000000000000 ≤ N) (h : RELt k u uM ce sl) (hk : k < 512) (e9 : xs (6 * k) &&& 15 = 15) : ∃ u2 uM2 ce2 sl2, STEPt N xs k u uM u2 uM2 ce sl ce2 sl2 ∧ RELt (k + 1) u2 uM2 ce2 sl2 := by
  obtain ⟨c, m, R, i1, i2, zz, hce, hsl, -⟩ := h
  have ok1 : OK (fun w _ => INVc w) (hm_H_printed N m (xs (6 * k + 1)) (xs (6 * k + 2))) := invc_printed (N := N) i1
  have ok2 : OK (fun w _ => INV w) (fm_M_printed N uM (xs (6 * k + 1)) (xs (6 * k + 2))) := inv_printed i2
  obtain ⟨u2, uM2, r, r2, c2, m2, a1, a2, a3, R2, j1, j2, f, ex, q⟩ := stept (Aq := fun _ _ _ => True) (ym_H_printed (N := N) R) ok1 ok2 (fun m2 r uM2 r2 x y => ⟨⟨(keepz zz.1 (Z9_ke (zm_H_printed (kpu i1))) (y5_fm_M_printed (u0 := uM) rfl) (yg9_fm_M_printed (u0 := uM) Kg_rf) m2 r uM2 r2 x y).1, BGZ_k zz.2 (zzm_H_printed (u0 := m) KPT_rf m2 r x) (yt9_fm_M_printed (u0 := uM) Kt9_rf uM2 r2 y)⟩, trivial⟩)
  have ez : u2.1 = u.1 := ex.2.2.2.2.2 (by omega)
  exact ⟨u2, uM2, _, _, Or.inr (Or.inr (Or.inr (Or.inr (Or.inr (Or.inr (Or.inr (Or.inr (Or.inr (Or.inr (Or.inr (Or.inr (Or.inr (Or.inr (Or.inr ((⟨e9, ⟨r, r2, a1, a2, rfl, rfl⟩⟩)))))))))))))))), c2, m2, R2, j1, j2, f, by rw [ez]; omega, by rw [ez]; omega, by omega⟩
theorem stt_all (hN : 1000000000000000 ≤ N) (h : RELt k u uM ce sl) (hk : k < 512) : ∃ u2 uM2 ce2 sl2, STEPt N xs k u uM u2 uM2 ce sl ce2 sl2 ∧ RELt (k + 1) u2 uM2 ce2 sl2 := by
  obtain ⟨j, hj, e⟩ := q_andc (xs (6 * k))
  by_cases z0 : j = 0
  · subst z0
    exact stt_feed hN h hk e
  by_cases z1 : j = 1
  · subst z1
    exact stt_back hN h hk e
  by_cases z2 : j = 2
  · subst z2
    exact stt_read hN h hk e
  by_cases z3 : j = 3
  · subst z3
    exact stt_count hN h hk e
  by_cases z4 : j = 4
  · subst z4
    exact stt_function hN h hk e
  by_cases z5 : j = 5
  · subst z5
    exact stt_letter hN h hk e
  by_cases z6 : j = 6
  · subst z6
    exact stt_begin hN h hk e
  by_cases z7 : j = 7
  · subst z7
    exact stt_go hN h hk e
  by_cases z8 : j = 8
  · subst z8
    exact stt_clock hN h hk e
  by_cases z9 : j = 9
  · subst z9
    exact stt_send hN h hk e
  by_cases z10 : j = 10
  · subst z10
    exact stt_process hN h hk e
  by_cases z11 : j = 11
  · subst z11
    exact stt_frame hN h hk e
  by_cases z12 : j = 12
  · subst z12
    exact stt_link hN h hk e
  by_cases z13 : j = 13
  · subst z13
    exact stt_show hN h hk e
  by_cases z14 : j = 14
  · subst z14
    exact stt_shown hN h hk e
  by_cases z15 : j = 15
  · subst z15
    exact stt_printed hN h hk e
  omega
theorem RELt_room (h : RELt k u uM ce sl) : isO u 0 1 = true ∧ ce ≤ 601024 ∧ sl ≤ 7293034 := by
  obtain ⟨c, m, R, i1, i2, el, hce, hsl, hk⟩ := h
  have r := room_c R i1
  exact ⟨io_0 R.1.1, by omega, by omega⟩
end
theorem len_0 : F (mFo xH15) 81 = F mS0 5 := by
  have a : F (mFo xH15) 81 = 0 := by decide +kernel
  have b : F mS0 5 = 0 := by decide +kernel
  rw [a, b]
theorem rz_0 : RZf (mFo xH15) mS0 := by
  have a : F (mFo xH15) 81 = 0 := by decide +kernel
  refine ⟨len_0, fun j hj => absurd hj (by rw [a]; omega), ⟨⟨by decide +kernel, by decide +kernel, by decide +kernel, rfl, rfl, rfl, rfl, rfl⟩, by decide +kernel, by decide +kernel, by decide +kernel, ⟨by decide +kernel, by decide +kernel⟩, by decide +kernel, by decide +kernel, by decide +kernel⟩, ⟨by decide +kernel, by decide +kernel, by decide +kernel⟩, Or.inl ⟨by decide +kernel, by decide +kernel⟩⟩
theorem rt_0 : RZt (mFo xH15) mS0 := ⟨rz_0, Or.inl ⟨by decide +kernel, by decide +kernel, by decide +kernel⟩⟩
theorem pure_t : PUREt := by
  refine ⟨1000000000000000, 56, 145827, xH15, xH15_eq, ⟨by rw [xH15_n]; rfl, by rw [xH15_n]; rfl⟩, fun L xs hL => ⟨RELt, fun k u uM ce sl h => RELt_room h, fun k u uM ce sl h hk => stt_all (Nat.le_refl _) h (by omega), ?_⟩⟩
  exact ⟨fun _ => 0, mFo xH15, RP_0, INVc_0, inv_0, rt_0, by rw [xH15_n]; decide, by rw [xH15_n]; decide, by decide⟩
