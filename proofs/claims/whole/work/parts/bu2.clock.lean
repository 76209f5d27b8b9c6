/-! begun and the time: both sides; clock() answers alike -/
set_option maxRecDepth 100000
/-- nothing has begun, or on both sides, with the same time -/
def BGZ (m w : MS) : Prop := (m.1 943 = 0 ∧ w.1 87 = 0 ∧ m.1 944 = 0) ∨ (m.1 943 = 1 ∧ w.1 87 = 1 ∧ ∃ t : Nat, t ≤ 1000000000 ∧ m.1 944 = I (t : Nat) ∧ w.1 120 = I (t : Nat))
section
variable {α β : Type} {u0 u w m w2 m2 : MS} {k N : Nat} {r s v1 v2 : Int32}
theorem BGZ_k (h : BGZ m w) (k : KPT m m2) (g : Kt9c w w2) : BGZ m2 w2 := by
  unfold BGZ at h ⊢
  rw [k.1, k.2, g.1, g.2]
  exact h
theorem KTE_s9 {o : Option (MS × β)} {f : MS → β → Option (MS × α)} (h1 : KTE u0 o) (h2 : ∀ w r, KPT u0 w → KTE u0 (f w r)) : KTE u0 (bnd o f) := KTE_bnd h1 h2
theorem KTE_bo {o : Option β} {f : β → Option (MS × α)} (h : ∀ j, KTE u0 (f j)) : KTE u0 (bo o f) := KTE_boe (fun j _ => h j)
theorem show_t {v1 v2 v3 : Int32} (h : KPT u0 u) : KTE u0 (hm_H_show N u v1 v2 v3) := by
  have k9 : ∀ {w : MS} {r : Int32}, KPT u0 w → KTE u0 (lt (upI w 9 r) (fun w7 => some (w7, (w7.1 9)))) := fun hw => KTE_some (KPT_I hw (by omega))
  have tx : ∀ {w : MS} {b : Nat} {t : Int64}, KPT u0 w → KTE u0 (bnd (hm_Te_text N w b t 56 0) (fun u5 r5 => lt (upI u5 9 r5) (fun w7 => some (w7, (w7.1 9))))) := fun hw => KTE_bnd (zzm_Te_text hw (Or.inr rfl)) (fun w r hw => k9 hw)
  have so : ∀ {w : MS} {r : Int32}, KPT u0 w → KTE u0 (some (w, r)) := fun hw => KTE_some hw
  have e145 : ∀ {w : MS} {v2 v3 v6 t0 : Int32} {v4 v5 : Nat}, KPT u0 w → KTE u0 (hb_H_show_145 N () w v2 v3 v4 v5 v6 t0) := fun hw => by
    unfold hb_H_show_145 hb_H_show_209
    exact KTE_br (KTE_br (KTE_ck (tx hw)) (KTE_br (KTE_bnd (zzm_Fr_of hw) (fun w r hw => KTE_ck (tx hw))) (KTE_bnd (zzm_Fr_of hw) (fun w r hw => KTE_ck (tx hw))))) (so hw)
  unfold hm_H_show hb_H_show_0 hb_H_show_19 hb_H_show_39 hb_H_show_93
  exact KTE_bnd (zzm_Wl_find h) (fun w r hw => KTE_br (so hw) (KTE_br (KTE_br (KTE_bo (fun j => KTE_br (KTE_br (KTE_bo (fun j => tx hw)) (so hw)) (so hw))) (KTE_br (so hw) (KTE_br (so hw) (KTE_bo (fun j => KTE_br (so hw) (KTE_br (e145 hw) (KTE_br (KTE_bnd (zzm_Fr_namesIn hw) (fun w r hw => e145 hw)) (KTE_bnd (zzm_Fr_waitsIn hw) (fun w r hw => e145 hw))))))))) (so hw)))
theorem clr_t : PK (fun v (_ : Unit) => v.1 943 = 0 ∧ v.1 944 = 0) (hm_Wl_clearAll N m) := by
  unfold hm_Wl_clearAll hb_Wl_clearAll_0
  refine pk_lt (pk_lt (pk_lt (pk_lt (pk_lt (pk_lt (pk_lt (pk_lt (pk_lt (pk_some ⟨?_, ?_⟩)))))))))
  · rw [upI_ne (by decide), upI_ne (by decide), upI_ne (by decide), upI_ne (by decide), upI_ne (by decide), upI_ne (by decide), upI_ne (by decide), upI_at]
  · rw [upI_ne (by decide), upI_ne (by decide), upI_ne (by decide), upI_ne (by decide), upI_ne (by decide), upI_ne (by decide), upI_at]
/-- read(): nothing has begun -/
theorem read_b (ec : hm_H_read N m = some (m2, r)) (ew : fm_M_read N w = some (w2, s)) (h87 : F w2 87 = 0) : BGZ m2 w2 := by
  have pc : PK (fun v (_ : Int32) => v.1 943 = 0 ∧ v.1 944 = 0) (hm_H_read N m) := by
    have e27 : ∀ {w : MS} {r : Int32}, PK (fun v (_ : Int32) => v.1 943 = 0 ∧ v.1 944 = 0) (hb_H_read_27 N () w r) := fun {w r} => by
      unfold hb_H_read_27 hb_H_read_45
      exact pk_lt (pk_br (fun _ => pk_ck (fun _ => pk_lt (pk_bnd (pk_mo clr_t (fun v _ hv => pk_some hv))))) (fun _ => pk_ck (fun _ => pk_lt (pk_bnd (pk_mo clr_t (fun v _ hv => pk_some hv))))))
    unfold hm_H_read hb_H_read_0
    exact pk_bnd (fun _ _ _ => pk_bnd (fun _ _ _ => pk_br (fun _ => pk_bnd (fun _ _ _ => e27)) (fun _ => e27)))
  obtain ⟨h1, h2⟩ := pc m2 r ec
  exact Or.inl ⟨h1, I_F' h87, h2⟩
/-- begin() -/
theorem begin_bg (z : ACZ m w) (h : BGZ m w) : PP (fun m2 _ w2 (_ : Unit) => BGZ m2 w2) (hm_H_begin N m v1) (fm_M_begin N w v1) := by
  show PP _ (hb_H_begin_0 N () m v1) (fb_M_begin_0 N () w v1)
  unfold hb_H_begin_0 fb_M_begin_0 fb_M_begin_24
  have thr : ∀ t : Int32, t ≠ 0 → PK (fun w2 (_ : Unit) => BGZ m w2) (fb_M_begin_42 N () w v1 t) := fun t ht => by
    unfold fb_M_begin_42
    refine pk_lt ?_
    rw [upI_at, decide_eq_false ht, br_f]
    exact pk_some (BGZ_k h KPT_rf (Kt9_I Kt9_rf (by decide)))
  have ok0 : PK (fun w2 (_ : Unit) => w2.1 87 = 1 ∧ w2.1 120 = 0) (fb_M_begin_42 N () w v1 0) := by
    unfold fb_M_begin_42
    refine pk_lt ?_
    rw [upI_at, decide_eq_true rfl, br_t]
    refine pk_lt (pk_lt (pk_lt (pk_lt (pk_lt (pk_lt (pk_lt (pk_lt (pk_lt ?_))))))))
    generalize hx : upI (upI (upI (upI (upI (upI (upI (upI (upI (upI w 3 0) 87 1) 118 0) 119 0) 120 0) 121 0) 125 0) 128 0) 149 0) 150 0 = x
    have x87 : x.1 87 = 1 := by
      rw [← hx, upI_ne (by decide), upI_ne (by decide), upI_ne (by decide), upI_ne (by decide), upI_ne (by decide), upI_ne (by decide), upI_ne (by decide), upI_ne (by decide), upI_at]
    have x120 : x.1 120 = 0 := by
      rw [← hx, upI_ne (by decide), upI_ne (by decide), upI_ne (by decide), upI_ne (by decide), upI_ne (by decide), upI_at]
    refine pk_bnd (pk_mo (fun v r e => yt9_fm_M_newProcess (u0 := x) (N := N) Kt9_rf v r e) (fun v r (hv : Kt9c x v) => ?_))
    exact pk_ck (fun _ => pk_lt (pk_ck (fun _ => pk_lt (pk_some ⟨hv.1.trans x87, hv.2.trans x120⟩))))
  rcases z with ⟨z1, z2⟩ | ⟨z1, z2, ⟨g, hg, t1, t2, t3⟩, -⟩
  · rw [decide_eq_true z1, br_t, decide_eq_true z2, br_t]
    exact pp_l (thr 1 (by decide))
  · have n86 : w.1 86 ≠ 0 := by rw [z2]; decide
    have n10 : m.1 10 ≠ 0 := by rw [z1]; decide
    rw [decide_eq_false n86, br_f, decide_eq_false n10, br_f, t2]
    refine l_bnd (pk_mo isf_p (fun v rr hv => ?_))
    obtain ⟨e0, hv⟩ := hv
    rw [e0]
    by_cases q : v1 < 0
    · rw [decide_eq_true (hv.mpr (Or.inr (Or.inl q))), br_t, decide_eq_true q, br_t]
      exact pp_l (thr 2 (by decide))
    · rw [decide_eq_false q, br_f]
      by_cases q2 : I (g : Nat) ≤ v1
      · have q3 : ¬ v1 < I (g : Nat) := fun y => by
          have rv := ti_rng v1
          rw [I_of v1, I_lt rv.1 rv.2 (by omega) (by omega)] at y
          rw [I_of v1, I_le (by omega) (by omega) rv.1 rv.2] at q2
          omega
        rw [decide_eq_true (hv.mpr (Or.inr (Or.inr (by rw [t1]; exact q2)))), br_t, decide_eq_false q3, br_f]
        exact pp_l (thr 2 (by decide))
      · have q3 : v1 < I (g : Nat) := by
          have rv := ti_rng v1
          rw [I_of v1, I_lt rv.1 rv.2 (by omega) (by omega)]
          rw [I_of v1, I_le (by omega) (by omega) rv.1 rv.2] at q2
          omega
        have r0 : rr ≠ 0 := fun e => by
          rcases hv.mp e with y | y | y
          · exact n10 y
          · exact q y
          · rw [t1] at y; exact q2 y
        rw [decide_eq_false r0, br_f, decide_eq_true q3, br_t]
        obtain ⟨f, hf, rfl⟩ := ix_of hg q q2
        rw [tnI (n := f) rfl (by omega)]
        obtain ⟨f1, f2, f3, ⟨ar, ar1, ar2⟩, -⟩ := t3 f hf
        rw [f2, ar2]
        refine l_ck (fun _ => r_ck (fun _ => ?_))
        by_cases y : I (ar : Nat) = (0 : Int32)
        · have y2 : I (ar : Nat) ≤ (0 : Int32) := by rw [y]; decide
          rw [decide_eq_true y, br_t, decide_eq_true y2, br_t]
          have ci : PK (fun (v : MS) (_ : Unit ⊕ Nat) => v.1 943 = 1 ∧ v.1 944 = 0) (bnd (hm_Wl_clearAll N m) (fun u9 r9 => lt (upI u9 943 1) (fun w13 => bnd (hm_Wl_born N w13) (fun u15 r15 => br (decide (r15 = none)) (hb_H_begin_102 N () u15) (bo r15 (fun j17 => ck (inb (I (f : Nat)) 666) (bnd (hm_Fr_open N u15 j17 (I (f : Nat)) (u15.2.2.1 29 f) 0) (fun u24 r24 => hb_H_begin_102 N () u24)))))))) := by
            unfold hb_H_begin_102
            refine pk_bnd (pk_mo clr_t (fun v _ hv => pk_lt ?_))
            generalize hx : upI v 943 1 = x
            have x1 : x.1 943 = 1 ∧ x.1 944 = 0 := by rw [← hx]; exact ⟨upI_at, by rw [upI_ne (by decide)]; exact hv.2⟩
            refine pk_bnd (pk_mo (fun v r e => zzm_Wl_born (u0 := x) (N := N) KPT_rf v r e) (fun v3 r3 (h3 : KPT x v3) => ?_))
            have x3 : v3.1 943 = 1 ∧ v3.1 944 = 0 := ⟨h3.1.trans x1.1, h3.2.trans x1.2⟩
            refine pk_br (fun _ => pk_some x3) (fun _ => pk_bo (fun _ _ => pk_ck (fun _ => pk_bnd (pk_mo (fun v r e => zzm_Fr_open (u0 := v3) (N := N) KPT_rf v r e) (fun v4 r4 (h4 : KPT v3 v4) => pk_some ⟨h4.1.trans x3.1, h4.2.trans x3.2⟩)))))
          intro m3 z3 w3 r3 x1 x2
          obtain ⟨c1, c2⟩ := ci m3 z3 x1
          obtain ⟨d1, d2⟩ := ok0 w3 r3 x2
          exact Or.inr ⟨c1, d1, 0, by decide, c2, d2⟩
        · have y2 : ¬ I (ar : Nat) ≤ (0 : Int32) := fun q => y (by
            rw [show (0 : Int32) = I 0 from rfl, I_le (by omega) (by omega) (by omega) (by omega)] at q
            rw [show ar = 0 by omega]; rfl)
          rw [decide_eq_false y, br_f, decide_eq_false y2, br_f]
          exact pp_l (thr 3 (by decide))
theorem lgc_leq (y z : Int64) : (lg_cmp y z ≤ 0) ↔ y.toInt ≤ z.toInt := by
  unfold lg_cmp
  simp only [gt_iff_lt, Int64.lt_iff_toInt_lt, ← Int64.toInt_inj]
  repeat' split
  all_goals (constructor <;> intro h <;> first | omega | exact absurd h (by decide) | decide)
theorem lgc_le {a b : Int} (ha : 0 ≤ a ∧ a ≤ 1000000000) (hb : 0 ≤ b ∧ b ≤ 1000000000) : decide (lg_cmp ((I a).toInt64 + (I b).toInt64) 1000000000 ≤ 0) = decide (a + b ≤ 1000000000) := by
  have e : (I a).toInt64 + (I b).toInt64 = Int64.ofInt (a + b) := by
    rw [Int64.ofInt_add]
    congr 1
    · apply Int64.toInt_inj.mp
      rw [Int32.toInt_toInt64, I_ti (by omega) (by omega), Int64.toInt_ofInt_of_le (by omega) (by omega)]
    · apply Int64.toInt_inj.mp
      rw [Int32.toInt_toInt64, I_ti (by omega) (by omega), Int64.toInt_ofInt_of_le (by omega) (by omega)]
  have t : (Int64.ofInt (a + b)).toInt = a + b := Int64.toInt_ofInt_of_le (by omega) (by omega)
  have t2 : (1000000000 : Int64).toInt = 1000000000 := rfl
  rw [e]
  exact decide_eq_decide.mpr ((lgc_leq _ _).trans (by rw [t, t2]))
/-- clock() -/
theorem clock_e (h : BGZ m w) : PP (fun m2 z w2 r9 => (w2.1 3 = cd_L_clock z ∧ ∀ f : Nat → Int64, cd_L_clock z = 0 → outF z f 0 = r9.toInt64) ∧ BGZ m2 w2) (hm_H_clock N m v1) (fm_M_clock N w v1) := by
  show PP _ (hb_H_clock_0 N () m v1) (fb_M_clock_0 N () w v1)
  unfold hb_H_clock_0 hb_H_clock_24 fb_M_clock_0 fb_M_clock_34 fb_M_clock_38 fb_M_clock_50
  have rv := ti_rng v1
  have thr : ∀ t : Int32, t ≠ 0 → PK (fun w2 (_ : Int32) => w2.1 3 = t ∧ BGZ m w2) (lt (upI w 3 t) (fun w1 => br (decide ((w1.1 3) = 0)) (lt (upI w1 120 ((w1.1 120) + v1)) (fun w2 => some (w2, (w2.1 120)))) (some (w1, 0)))) := fun t ht => by
    refine pk_lt ?_
    rw [upI_at, decide_eq_false ht, br_f]
    exact pk_some ⟨upI_at, BGZ_k h KPT_rf (Kt9_I Kt9_rf (by decide))⟩
  have f1 : PP (fun m2 z w2 r9 => (w2.1 3 = cd_L_clock z ∧ ∀ f : Nat → Int64, cd_L_clock z = 0 → outF z f 0 = r9.toInt64) ∧ BGZ m2 w2) (some (m, (.inr 2 : Int32 ⊕ Nat))) (lt (upI w 3 1) (fun w1 => br (decide ((w1.1 3) = 0)) (lt (upI w1 120 ((w1.1 120) + v1)) (fun w2 => some (w2, (w2.1 120)))) (some (w1, 0)))) := pp_l (pk_mo (thr 1 (by decide)) (fun v r hv => ⟨⟨hv.1, fun f q => absurd q (by decide)⟩, hv.2⟩))
  by_cases q : v1 < 0
  · rw [decide_eq_true q, br_t, br_t]
    exact f1
  · rw [decide_eq_false q, br_f, br_f]
    by_cases q2 : (1000000000 : Int32) < v1
    · rw [decide_eq_true q2, br_t, br_t]
      exact f1
    · rw [decide_eq_false q2, br_f, br_f]
      obtain ⟨a, ha, rfl⟩ : ∃ a : Nat, a ≤ 1000000000 ∧ v1 = I (a : Nat) := by
        rw [I_of v1, show (0 : Int32) = I 0 from rfl, I_lt rv.1 rv.2 (by omega) (by omega)] at q
        rw [I_of v1, show (1000000000 : Int32) = I 1000000000 from rfl, I_lt (by omega) (by omega) rv.1 rv.2] at q2
        exact ⟨v1.toInt.toNat, by omega, by rw [Int.toNat_of_nonneg (by omega)]; exact I_of v1⟩
      rcases h with ⟨h1, h2, h3⟩ | ⟨h1, h2, t, ht, h3, h4⟩
      · rw [h3, show (1000000000 : Int32) - 0 = I 1000000000 from rfl, decide_eq_true ((I_le (x := (a : Nat)) (y := (1000000000 : Int)) (by omega) (by omega) (by omega) (by omega)).mpr (by omega)), br_t, decide_eq_true h1, br_t, decide_eq_true h2, br_t]
        exact pp_l (pk_mo (thr 2 (by decide)) (fun v r hv => ⟨⟨hv.1, fun f q => absurd q (by decide)⟩, hv.2⟩))
      · have n87 : w.1 87 ≠ 0 := by rw [h2]; decide
        have n43 : m.1 943 ≠ 0 := by rw [h1]; decide
        rw [h3, show (1000000000 : Int32) = I 1000000000 from rfl, I_sub, decide_eq_decide.mpr (I_le (x := (a : Nat)) (y := (1000000000 : Int) - ((t : Nat) : Int)) (by omega) (by omega) (by omega) (by omega)), decide_eq_false n87, br_f, h4, show (1000000000 : Int64) = 1000000000 from rfl, lgc_le ⟨by omega, by omega⟩ ⟨by omega, by omega⟩, br_f]
        by_cases z : t + a ≤ 1000000000
        · rw [decide_eq_true (by omega), br_t, decide_eq_false n43, br_f, decide_eq_true (by omega), br_t]
          refine l_lt (r_lt ?_)
          have u3 : (upI w 3 0).1 3 = 0 := upI_at
          rw [upI_at, decide_eq_true u3, br_t]
          refine r_lt ?_
          have e1 : (upI w 3 0).1 120 = I (t : Nat) := by rw [upI_ne (by decide)]; exact h4
          rw [e1, I_add, show ((t : Nat) : Int) + ((a : Nat) : Int) = ((t + a : Nat) : Int) by omega, upI_at]
          refine pp_end ⟨⟨?_, fun f _ => ?_⟩, Or.inr ⟨?_, ?_, t + a, z, upI_at, upI_at⟩⟩
          · rw [upI_ne (by decide), upI_at]; rfl
          · rfl
          · rw [upI_ne (by decide)]; exact h1
          · rw [upI_ne (by decide), upI_ne (by decide)]; exact h2
        · rw [decide_eq_false (by omega), br_f, decide_eq_false (by omega), br_f]
          exact pp_l (pk_mo (thr 1 (by decide)) (fun v r hv => ⟨⟨hv.1, fun f q => absurd q (by decide)⟩, hv.2⟩))
end
