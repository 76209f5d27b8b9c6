set_option maxRecDepth 100000
section
variable {m0 w0 m w v u mB wB m2 w2 m3 w3 mi w' w1 mX : MS} {K nm Nk W W2 : Nat → Nat} {T p n N q X Y n2 n' p0 n0 n3 p2 ν μ κ o s L d D k q1 q2 lo li ni t0 b c0 b0 tt e0 cur lv len φ : Nat} {sc sc1 sc2 sc3 t t2 : SCT} {e e2 : List Nat × List Nat × Nat} {gd Rf Zf Rg Zg : Bool} {l l' : List Nat} {σ : List (Nat × Nat)} {r v1 v2 v3 v4 v5 x y am om am2 om2 : Int32} {CL CM : Int32 × Int32 × Int32 → Prop} {NC : Nat → Prop} {B1 B2 BC : MS → Prop}
theorem le_rf {x : Int32} : decide (x ≤ x) = true := decide_eq_true (Int32.le_refl x)
theorem EXZ_s {z : Int32} (h : EXZ N m0 w0 K T nm Nk p n gd sc o NC m w m2 (.inl z) w2 r) (k : SMS w2 u) (h69 : u.1 69 = w2.1 69) : EXZ N m0 w0 K T nm Nk p n gd sc o NC m w m2 (.inl z) u v1 := by
  obtain ⟨q, n2, μ, sc4, X, W, Rf, Zf, CL, b1, b2, b3, b4, b5⟩ := h
  exact ⟨q, n2, μ, sc4, X, W, Rf, Zf, CL, b1, b2, b3, STQ_s b4 k h69, b5⟩
theorem sg_st (c : CTZ m0 w0 K T nm Nk) (c45 : ∀ p, p ≤ T → K p ≠ 45) (hP : HPr N m0 w0 K T nm Nk d) (hn0 : n ≤ 2 * p) (h70 : w.1 70 = I ((o + 1 : Nat) : Int)) (ho : o + 1 ≤ 25) (hg : decide (w.1 73 = 0) = !gd) {M M3 M9 : Nat} (h : EXZ N m0 w0 K T nm Nk p n gd sc o NC0 m w m2 (.inl x) u r) : ∃ q, WP u K T q ∧ u.1 67 = 0 ∧ PP (EXZ N m0 w0 K T nm Nk p n gd sc o NC0 m w) (hg_Pa_signed N (hrc_Pa_matched N D) M m2 (I (p : Nat)) (m.1 664) x x 1 0) (bnd (gg_M_reduce N M9 u (w.1 83) (I (rkK (K q) : Nat)) r 1) (wkF N (rc_M_behind N d) M3 (w.1 83) (rkK (K q)))) := by
  obtain ⟨q, n2, μ, sc2, X, W, Rf, Zf, CL, b1, b2, b3, b4, b5, b6, b7, kk, k1, k2, k3, k4⟩ := id h
  have hc := RLP_c c b4.1
  have hw := RLP_w c b4.1
  have h0 := b4.1.2.2.2.2.2.2
  have qT := b4.1.2.2.2.2.1
  have k46 := hc.1.1.k46 hc.2.2
  have t4 := c.1.1.1
  have u83 : u.1 83 = w.1 83 := b4.2.2.2.2.1.2.2.2.2.2.2.1.1 83 (by decide)
  have m664 : m2.1 664 = m.1 664 := b4.2.2.2.1.1 664 (by decide)
  have nb := b4.2.1
  have rk6 : rkK (K q) ≤ 6 := by
    have : ∀ k, k < 46 → rkK k ≤ 6 := by decide
    exact this _ k46
  refine ⟨q, hw, h0, ?_⟩
  by_cases hx : (∃ b0 : Nat, w.1 83 = I (b0 : Nat) ∧ b0 ≤ 3000) ∧ ∃ c0 : Nat, m.1 664 = I (c0 : Nat) ∧ c0 ≤ 4001
  · obtain ⟨⟨b0, hb0, hb3⟩, c0, hc0, hc4⟩ := hx
    rw [hb0, hc0, b1]
    have fu : 0 < rkK (K q) → FUI N w0 K T nm Nk p n o μ := fun z => by
      refine ⟨⟨m2, n2, q, X, b7, z⟩, fun y => ?_⟩
      by_cases k9 : kk = 1
      · rw [← (k3 k9).2.1]; exact Or.inl z
      · exact k4.1 k9 y
    have scl := b4.2.2.2.2.1
    cases sc with
    | nil => exact scl.2.1.elim
    | cons e t =>
      cases sc2 with
      | nil => exact scl.2.1.elim
      | cons e2 t2 =>
        have := sg_lp (N := N) (D := D) (φ := μ) (e := e) (t := t) (mB := m) (wB := w) c c45 hP hn0 h70 ho hg hc4 M M3 M9 m2 u q n2 e2 t2 0 0 [μ] [] 0 1 1 r (b0 := b0) ?_ rfl ⟨b3, by omega⟩ (Or.inl ⟨rfl, Nat.le_refl _, rfl, rfl, fun r' => ?_, fu⟩)
        · exact this
        · refine ⟨X, W, Rf, Rf, Zf, CL, q, ?_, ?_, ?_, ⟨(fun z => by cases z), b5⟩, ⟨hc0, hb0, by show b0 + 0 ≤ 3000; omega, by rw [m664]; exact hc0, by rw [u83]; exact hb0, by show c0 + 0 ≤ 4002; omega, Nat.le_refl _, fun j h1 h2 => absurd h2 (by omega)⟩, trivial⟩
          · rw [upI_id (k := 664) m664, upI_id (k := 83) u83]
            exact b4
          · exact ⟨⟨b2.1, b2.2⟩, b5, Or.inl ⟨p, q, e2 :: t2, X, 0, Rf, false, Zf, false, BCo N CL, (fun _ => False), ⟨Nat.le_refl _, by omega, Nat.le_refl _⟩, fun j h1 h2 => absurd h2 (by omega), ⟨m2, n, n2, kk, b6, ⟨fun _ _ _ => ⟨rfl, fun _ => rfl⟩, Kc_rf⟩, ⟨Nat.le_refl _, Nat.le_refl _⟩, ⟨k1, k2⟩, b2, fun z => absurd rfl z⟩, ⟨scl.2.2.2.1.1, SCX_len scl.2.1, scl.2.2.2.1.2⟩, ⟨⟨rfl, rfl, rfl, rfl, rfl, fun _ z => z⟩, rfl, rfl⟩, by omega, (Bool.or_false _).symm, (Bool.or_false _).symm, fun m => (iff_of_eq (or_false _)).symm, fun _ _ _ => Iff.rfl⟩⟩
          · show Rf = (Rf || (gd && false))
            rw [Bool.and_false, Bool.or_false]
        · rw [← b1]
          exact EXZ_s h SMS_rf rfl
  · cases M with
    | zero => exact pp_nl
    | succ M =>
      cases M9 with
      | zero => exact pp_nr
      | succ M9 =>
        show PP _ (hb_Pa_signed_24 N (hrc_Pa_matched N D) (hg_Pa_signed N (hrc_Pa_matched N D) M) m2 (I (p : Nat)) (m.1 664) x x 1 0) (bnd (fb_M_reduce_6 N (gg_M_reduce N M9) u (w.1 83) (I (rkK (K q) : Nat)) r 1) _)
        unfold hb_Pa_signed_24 fb_M_reduce_6 fb_M_reduce_258
        rw [show decide ((4000 : Int32) ≤ 0) = false from rfl, br_fq, look_e hc (c45 _ qT), bTm_l, rk_e k46, bnd_s, u83, le_rf, show decide ((1 : Int32) = 0) = false from rfl, br_fq, br_tq, bnd_s]
        have d0 : decide (I (rkK (K q) : Nat) ≤ 0) = decide (rkK (K q) = 0) := by
          rw [show (0 : Int32) = I ((0 : Nat) : Int) from rfl, decI (by omega) (by omega) (by omega) (by omega)]
          exact decide_eq_decide.mpr ⟨fun z => by omega, fun z => by omega⟩
        rw [d0]
        unfold wkF
        by_cases z0 : rkK (K q) = 0
        · rw [decide_eq_true z0, br_tq, if_pos z0]
          unfold hb_Pa_signed_155
          rw [show decide ((1 : Int32) = 0) = false from rfl, br_fq]
          exact pp_end h
        · rw [decide_eq_false z0, br_fq, if_neg z0, look_e hc (c45 _ qT), bTm_l, rk_e k46, bnd_s, u83, le_rf, br_tq]
          have cl : ∀ M, hg_Pa_closeSigns N M m2 (m.1 664) (I (rkK (K q) : Nat)) x = none ∨ hg_Pa_closeSigns N M m2 (m.1 664) (I (rkK (K q) : Nat)) x = some (m2, .inl x) := fun M => by
            cases M with
            | zero => exact Or.inl rfl
            | succ M =>
              refine Or.inr ?_
              show hb_Pa_closeSigns_3 N (hg_Pa_closeSigns N M) m2 (m.1 664) (I (rkK (K q) : Nat)) x = _
              unfold hb_Pa_closeSigns_3
              rw [m664, le_rf, br_tq]
          show PP _ (bTm (hg_Pa_closeSigns N N m2 (m.1 664) (I (rkK (K q) : Nat)) x) _) _
          rcases cl N with z | z
          · rw [z]; exact pp_nl
          · rw [z, bTm_l]
            refine l_ck (fun zc => ?_)
            have hcx : ∃ c0 : Nat, m.1 664 = I (c0 : Nat) ∧ c0 ≤ 4001 := by
              rw [m664] at zc
              obtain ⟨a, h1, h2⟩ := inb_N zc
              exact ⟨a, h1, by omega⟩
            have nb0 : ¬ ∃ b0 : Nat, w.1 83 = I (b0 : Nat) ∧ b0 ≤ 3000 := fun y => hx ⟨y, hcx⟩
            have n189 : PP (EXZ N m0 w0 K T nm Nk p n gd sc o NC0 m w) (lt (upA m2 34 (upd (m2.2.2.1 34) (m2.1 664).toNatClampNeg (m2.1 665))) (fun w23 => lt (upI w23 664 (w23.1 664 + 1)) (fun w25 => br (decide (I (K q : Nat) = 6)) (hb_Pa_signed_102 N (hrc_Pa_matched N D) (hg_Pa_signed N (hrc_Pa_matched N D) M) w25 (I (p : Nat)) (m.1 664) x x 0 0 (I (K q : Nat))) (br (decide (I (K q : Nat) = 16)) (hb_Pa_signed_102 N (hrc_Pa_matched N D) (hg_Pa_signed N (hrc_Pa_matched N D) M) w25 (I (p : Nat)) (m.1 664) x x 0 0 (I (K q : Nat))) (hb_Pa_signed_127 N (hrc_Pa_matched N D) (hg_Pa_signed N (hrc_Pa_matched N D) M) w25 (I (p : Nat)) (m.1 664) x x 0 0))))) (fb_M_worked_189 N (rc_M_behind N d) (gg_M_worked N (rc_M_behind N d) M3) u (w.1 83) r 1 (I (rkK (K q) : Nat))) := by
              unfold fb_M_worked_189
              refine r_ck (fun zb => ?_)
              exfalso
              rw [u83] at zb
              obtain ⟨a, h1, h2⟩ := inb_N zb
              have l79 : ln 79 = 3000 := rfl
              exact nb0 ⟨a, h1, by omega⟩
            exact r_br (fun _ => n189) (fun _ => n189)
theorem HWo_s (c : CTZ m0 w0 K T nm Nk) (c45 : ∀ p, p ≤ T → K p ≠ 45) (hP : HPr N m0 w0 K T nm Nk d) : HWo N m0 w0 K T nm Nk (d + 1) := by
  intro D m w p n sc gd o h hn hn2 hR nd h70 ho hg
  cases D with
  | zero => exact pp_nl
  | succ D =>
    show PP _ (hb_Pa_signed_0 N (hrc_Pa_matched N D) (hg_Pa_signed N (hrc_Pa_matched N D) N) m) (fb_M_worked_0 N (rc_M_behind N d) (gg_M_worked N (rc_M_behind N d) N) w)
    have hc := RLP_c c h
    have h0 := h.2.2.2.2.2.2
    unfold hb_Pa_signed_0 fb_M_worked_0
    have go : ∀ M, PP (EXZ N m0 w0 K T nm Nk p n gd sc o NC0 m w) (bTm ((hrc_Pa_matched N D).2.2.2.2.2.2.2.2.2.2.2.2.1 m) (fun u28 r28 => hg_Pa_signed N (hrc_Pa_matched N D) N u28 (m.1 665) (m.1 664) r28 r28 1 0)) ((gg_M_worked N (rc_M_behind N d) M).1 w (w.1 83) (-1) 1) := fun M => by
      cases M with
      | zero => exact pp_nr
      | succ M =>
        show PP _ _ (fb_M_worked_9 N (rc_M_behind N d) (gg_M_worked N (rc_M_behind N d) M) w (w.1 83) (-1) 1)
        unfold fb_M_worked_9
        rw [show decide ((1 : Int32) = 0) = false from rfl, br_fq, decide_eq_true h0, br_tq]
        refine un_pp (gd := gd) (v1 := w.1 83) c c45 hP (fun _ _ _ _ z => z) D M m w p n sc o _ h hn hn2 hR nd h70 ho hg (fun M2 m2 ε w2 r k hE hU => ?_)
        rw [hc.2.1]
        have pos : ∃ q, WP w2 K T q ∧ w2.1 67 = 0 := by
          obtain ⟨q2, n2, μ, sc4, X, W, Rf, Zf, CL, b1, b2, b3, b4, b5⟩ := hE
          refine ⟨q2, ?_, ?_⟩
          · have := RLP_w c b4.1
            exact ⟨this.1, by have := this.2.1; rw [bkW_i (by decide) (by decide)] at this; exact this, this.2.2⟩
          · have := b4.1.2.2.2.2.2.2; rw [bkW_i (by decide) (by decide)] at this; exact this
        obtain ⟨q, hw2, h02⟩ := pos
        have qe : ∀ u q', WP u K T q' → u.1 69 = w2.1 69 → q' = q := fun u q' hu h69 => by
          have := hu.2.1.symm.trans (h69.trans hw2.2.1)
          have t4 := c.1.1.1
          have := (I_eq (x := (q' : Nat)) (y := (q : Nat)) (by omega) (by have := hu.2.2; omega) (by omega) (by have := hw2.2.2; omega)).mp this
          omega
        refine wkR_e hw2 h02 (fun M3 => ?_)
        rcases hU with ⟨rfl, y1, y2⟩ | ⟨t0, y1, y2, y3, y4, δ, y5, y6, y7⟩
        · have e2 : bkW w w2 = w2 := by
            unfold bkW
            rw [upI_id (k := 83) y1, upI_id (k := 70) y2]
          rw [e2] at hE
          obtain ⟨q', hq', -, hh⟩ := sg_st (D := D) (M := N) (M3 := M3) (M9 := N) c c45 hP hn2 h70 ho hg hE
          have := qe w2 q' hq' rfl
          subst this
          exact hh
        · have k46' := hw2.1.1.k46 hw2.2.2
          have rk6' : rkK (K q) ≤ 6 := by
            have : ∀ k, k < 46 → rkK k ≤ 6 := by decide
            exact this _ k46'
          rw [y1]
          refine red_un (t0 := t0) (δ := δ) rk6' (Nat.le_refl _) k N w2 r y2 y3 y4 y7 (fun u r9 M9 sm s69 => ?_)
          have sm2 : SMS (bkW w w2) u := by
            unfold bkW
            rw [y1, y5]
            exact sm
          have hE2 := EXZ_s (v1 := r9) hE sm2 (by rw [s69, bkW_i (by decide) (by decide)])
          obtain ⟨q', hq', -, hh⟩ := sg_st (D := D) (M := N) (M3 := M3) (M9 := M9) c c45 hP hn2 h70 ho hg hE2
          have := qe u q' hq' s69
          subst this
          rw [← y1]
          exact hh
    exact go N
end
