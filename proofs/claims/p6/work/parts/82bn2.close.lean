set_option maxRecDepth 100000
section
variable {m0 w0 m w v u mB wB m2 w2 m3 w3 mi w' : MS} {K nm Nk W W2 : Nat → Nat} {T p n N q X Y n2 p0 n0 n3 p2 ν μ κ o s L d D k q1 q2 lo li ni t0 b c0 b0 tt e0 cur lv φ : Nat} {sc sc1 sc2 sc3 t t2 : SCT} {e e2 : List Nat × List Nat × Nat} {gd Rf Zf Rg Zg : Bool} {l : List Nat} {σ : List (Nat × Nat)} {r v1 v2 v3 v4 v5 x y am om am2 om2 : Int32} {CL CM : Int32 × Int32 × Int32 → Prop} {NC : Nat → Prop} {B1 B2 BC : MS → Prop}
theorem bTm_bnd_ck {α β γ : Type} {b : Bool} {x : Option (MS × γ)} {f : MS → γ → Option (MS × (β ⊕ Nat))} {g : MS → β → Option (MS × (α ⊕ Nat))} : bTm (bnd (ck b x) f) g = ck b (bTm (bnd x f) g) := by cases b <;> rfl
theorem UNQ_s (h : UNQ sc2 w v) (k : SMS v u) (h69 : u.1 69 = v.1 69) : UNQ sc2 w u := by
  obtain ⟨k1, k0, k2, k3, k4⟩ := h
  refine ⟨RNs_e k1 (k.1 65 (by decide)) (fun j j1 j2 => k.2.1 j (by unfold SMX; omega)), h69.trans k0, fun j hj => (k.1 j hj).trans (k2 j hj), fun j hj h6 => (k.2.1 j hj).trans (k3 j hj h6), fun a h1 h2 => ?_⟩
  obtain ⟨b, g1, g2, g3⟩ := k4 a h1 h2
  obtain ⟨b', f1, f2, f3⟩ := k.2.2 b g1.1 g1.2.2
  refine ⟨b', ⟨f1.1, by omega, f1.2.2⟩, NKP_tr g2 f2 g1.2.1, fun j j1 j2 => ?_⟩
  by_cases z : j < b
  · rw [(f2 j z).1]; exact g3 j j1 z
  · exact f3 j (by omega) j2
theorem red_pop {R : MS → Int32 ⊕ Nat → MS → Int32 → Prop} {a : Option (MS × (Int32 ⊕ Nat))} {M len : Nat} {f : MS → Int32 → Option (MS × Int32)} {rk : Nat} (hrk : 1 ≤ rk ∧ rk ≤ 6) (h83 : w.1 83 = I ((b0 + len + 1 : Nat) : Int)) (hb : b0 + len < 3000) (hR : RNs w (e2 :: t2)) (h2 : rk ≤ 2 → b ≤ 1400 ∧ w.2.2.1 82 (b0 + len) = I (b : Nat) ∧ ∃ h a : Nat, w.2.2.1 81 (b0 + len) = I (h : Nat) ∧ w.1 32 = I (a : Nat) ∧ a ≤ 100000 ∧ h < a ∧ w.2.2.1 23 h ≠ 12 ∧ w.2.2.1 23 h ≠ 15) (hG : ∀ u r M', ((3 ≤ rk ∧ SMS (upI w 83 (I ((b0 + len : Nat) : Int))) u ∧ u.1 69 = w.1 69) ∨ (rk ≤ 2 ∧ UNQ (cutS b (e2 :: t2)) (upI w 83 (I ((b0 + len : Nat) : Int))) u)) → PP R a (bnd (gg_M_reduce N M' u v1 v2 r 1) f)) : PP R a (bnd (fb_M_reduce_61 N (gg_M_reduce N M) w v1 v2 v4 (I (rk : Nat)) 1) f) := by
  unfold fb_M_reduce_61
  rw [show decide ((1 : Int32) = 0) = false from rfl, br_fq, h83, I_sn, bnd_lt]
  refine r_lt ?_
  generalize hw3 : upI w 83 (I ((b0 + len : Nat) : Int)) = w3 at hG
  have i3 : ∀ k, k ≠ 83 → w3.1 k = w.1 k := fun k hk => by rw [← hw3]; exact upI_ne hk
  have i83 : (w3.1 83).toNatClampNeg = b0 + len := by rw [← hw3, upI_at]; exact tnI rfl (by omega)
  have r3 : w3.2.2.1 = w.2.2.1 := by rw [← hw3]; rfl
  rw [I_dn (a := rk) (b := 7) (s := 7) (by omega) (by decide) rfl, decide_eq_false (p := rk = 7) (by omega), br_fq, show (3 : Int32) = I ((3 : Nat) : Int) from rfl, decI (by omega) (by omega) (by omega) (by omega)]
  by_cases z : 3 ≤ rk
  · rw [decide_eq_true (by omega), br_tq, bnd_ck]
    refine r_ck (fun _ => ?_)
    rw [bnd_as2]
    refine r_bnd (pk_mo (node_s (w := w3) (by decide)) (fun u4 r4 q => ?_))
    obtain ⟨s1, u69, -, a', ha, hr, h32, h23, hra⟩ := q
    have nc : u4.2.2.1 23 r4.toNatClampNeg ≠ 12 ∧ u4.2.2.1 23 r4.toNatClampNeg ≠ 15 := by rw [hra, h23]; decide
    have go : ∀ t2' : Int32, PP R a (bnd (fb_M_reduce_254 N (gg_M_reduce N M) u4 v1 v2 r4 1 25 r4 t2') f) := fun t2' => by
      unfold fb_M_reduce_254 fb_M_reduce_255
      rw [bnd_ck]
      refine r_ck (fun _ => ?_)
      rw [bnd_ck]
      refine r_ck (fun _ => ?_)
      rw [bnd_lt]
      refine r_lt ?_
      exact hG _ r4 M (Or.inl ⟨z, SMS_B s1 (Or.inl rfl) nc, by show u4.1 69 = _; rw [u69, i3 69 (by decide)]⟩)
    rw [bnd_ck]
    refine r_ck (fun _ => ?_)
    rw [bnd_lt]
    refine r_lt ?_
    rw [bnd_ck]
    refine r_ck (fun _ => ?_)
    rw [bnd_br]
    refine r_br (fun _ => ?_) (fun _ => ?_)
    · rw [bnd_ck]
      exact r_ck (fun _ => go _)
    · rw [bnd_ck]
      exact r_ck (fun _ => go _)
  · obtain ⟨hb1, h82, h, a', f1, f2, f3, f4, f5, f6⟩ := h2 (by omega)
    rw [decide_eq_false (by omega), br_fq, bnd_ck]
    refine r_ck (fun _ => ?_)
    rw [i83, r3, h82, bnd_as2]
    refine r_bnd (pk_mo (unb_p (w := w3) (b := b) (WFP_rn hR (i3 65 (by decide)) r3) hb1) (fun u6 _ un => ?_))
    have u83 : (u6.1 83).toNatClampNeg = b0 + len := by rw [un.2.2.1 83 (by decide)]; exact i83
    have u81 : u6.2.2.1 81 (b0 + len) = I (h : Nat) := by rw [un.2.2.2.1 81 (by unfold SMX; omega) (by decide), r3]; exact f1
    obtain ⟨b', x1, x2, -⟩ := un.2.2.2.2 a' (by rw [i3 32 (by decide)]; exact f2) f3
    have hh : (I (h : Nat)).toNatClampNeg = h := tnI rfl (by omega)
    have nc : u6.2.2.1 23 h ≠ 12 ∧ u6.2.2.1 23 h ≠ 15 := by rw [(x2 h f4).1, r3]; exact ⟨f5, f6⟩
    rw [bnd_ck]
    refine r_ck (fun _ => ?_)
    rw [bnd_ck]
    refine r_ck (fun _ => ?_)
    rw [u83, u81, hh, bnd_lt]
    refine r_lt ?_
    rw [bnd_ck]
    refine r_ck (fun _ => ?_)
    rw [bnd_lt]
    refine r_lt ?_
    unfold fb_M_reduce_255
    exact hG _ _ M (Or.inr ⟨by omega, UNQ_s un (SMS_B (SMS_rf (w := u6)) (Or.inl rfl) nc) rfl⟩)
theorem cls_pp {R : MS → Int32 ⊕ Nat → MS → Int32 → Prop} {fC : MS → Int32 → Option (MS × (Int32 ⊕ Nat))} {f : MS → Int32 → Option (MS × Int32)} (c : CTZ m0 w0 K T nm Nk) (hn0 : n0 ≤ 2 * p) (hlv : lv ≤ 6) (hW : ∀ m k w r, FLW w → R m (.inr k) w r)
    (hEnd : ∀ (m w : MS) (n : Nat) (e2 : List Nat × List Nat × Nat) (t2 : SCT) (am om : Int32) (l : List Nat) (σ : List (Nat × Nat)) (r : Int32), SLI N m0 w0 K T nm Nk gd mB wB p n0 e t c0 b0 s m w q n e2 t2 am om l σ → l.headD 0 = φ → (∀ x, σ.head? = some x → rkK (K x.1) < lv ∨ (rkK (K x.1) = lv ∧ lv = 4)) → PP R (fC m (I ((l.getLastD 0 : Nat) : Int))) (f w r))
    (h3 : ∀ (w : MS) (len : Nat) (r : Int32), lv = 3 → w.1 83 = I ((b0 + len + 1 : Nat) : Int) → b0 + len < 3000 → w.2.2.1 79 (b0 + len) = 3 → w.1 67 = 0 → WP w K T q → PK (fun w2 _ => FLW w2) (f w r)) : ∀ (σ : List (Nat × Nat)) (m w : MS) (n : Nat) (e2 : List Nat × List Nat × Nat) (t2 : SCT) (am om : Int32) (l : List Nat) (M M' : Nat) (r : Int32), SLI N m0 w0 K T nm Nk gd mB wB p n0 e t c0 b0 s m w q n e2 t2 am om l σ → l.headD 0 = φ → PP R (bTm (hg_Pa_closeSigns N M m (I (c0 : Nat)) (I (lv : Nat)) (I ((l.getLastD 0 : Nat) : Int))) fC) (bnd (gg_M_reduce N M' w (I (b0 : Nat)) (I (lv : Nat)) r 1) f) := by
  intro σ
  induction σ with
  | nil =>
    intro m w n e2 t2 am om l M M' r h hφ
    obtain ⟨X, W, Rf, Rs, Zf, CL, q0, a1, a2, a3, a4, a5, a6⟩ := id h
    have l0 : ([] : List (Nat × Nat)).length = 0 := rfl
    rw [l0] at a5
    cases M with
    | zero => exact pp_nl
    | succ M =>
      cases M' with
      | zero => exact pp_nr
      | succ M' =>
        show PP R (bTm (hb_Pa_closeSigns_3 N (hg_Pa_closeSigns N M) m (I (c0 : Nat)) (I (lv : Nat)) (I ((l.getLastD 0 : Nat) : Int))) fC) (bnd (fb_M_reduce_6 N (gg_M_reduce N M') w (I (b0 : Nat)) (I (lv : Nat)) r 1) f)
        unfold hb_Pa_closeSigns_3 fb_M_reduce_6 fb_M_reduce_258
        rw [a5.2.2.2.1, a5.2.2.2.2.1, decI (by omega) (by omega) (by omega) (by omega), decide_eq_true (by omega), br_tq, bTm_l, show decide ((1 : Int32) = 0) = false from rfl, br_fq, decI (by omega) (by omega) (by omega) (by omega), decide_eq_true (by omega), br_tq, bnd_s]
        exact hEnd m w n e2 t2 am om l [] r h hφ (fun x hx => by cases hx)
  | cons top σ ih =>
    intro m w n e2 t2 am om l M M' r h hφ
    obtain ⟨q1, b⟩ := top
    obtain ⟨X, W, Rf, Rs, Zf, CL, q0, a1, a2, a3, a4, a5, a6⟩ := id h
    obtain ⟨⟨h1, h2, h3', h4, h5⟩, g2, g3, g4⟩ := id a6
    have ll : ((q1, b) :: σ).length = σ.length + 1 := rfl
    rw [ll] at a1 a5
    have t4 := c.1.1.1
    have k46 : K q1 < 46 := c.1.1.k46 (by omega)
    have rk := rk_k k46 h4
    have rk6 : rkK (K q1) ≤ 6 := by
      have : ∀ k, k < 46 → rkK k ≤ 6 := by decide
      exact this _ k46
    have qT := a1.1.2.2.2.2.1
    have cp : CP m K T q := by
      have := RLP_c c a1.1
      exact ⟨⟨this.1.1, this.1.2⟩, by have := this.2.1; rw [upI_ne (by decide)] at this; exact this, this.2.2⟩
    have wp : WP w K T q := by
      have := RLP_w c a1.1
      exact ⟨this.1, by have := this.2.1; rw [upI_ne (by decide)] at this; exact this, this.2.2⟩
    have w67 : w.1 67 = 0 := by have := a1.1.2.2.2.2.2.2; rw [upI_ne (by decide)] at this; exact this
    have rn : RNs w (e2 :: t2) := WFP_rn (STQ_rn a1) (by rw [upI_ne (by decide)]) rfl
    obtain ⟨d1, d2, d3⟩ := SGE_hd a2 a4.1
    cases M with
    | zero => exact pp_nl
    | succ M =>
      cases M' with
      | zero => exact pp_nr
      | succ M' =>
        show PP R (bTm (hb_Pa_closeSigns_3 N (hg_Pa_closeSigns N M) m (I (c0 : Nat)) (I (lv : Nat)) (I ((l.getLastD 0 : Nat) : Int))) fC) (bnd (fb_M_reduce_6 N (gg_M_reduce N M') w (I (b0 : Nat)) (I (lv : Nat)) r 1) f)
        unfold hb_Pa_closeSigns_3 fb_M_reduce_6
        rw [a5.2.2.2.1, a5.2.2.2.2.1, decI (by omega) (by omega) (by omega) (by omega), decide_eq_false (p := ((c0 + (σ.length + 1) : Nat) : Int) ≤ ((c0 : Nat) : Int)) (by omega), br_fq, show decide ((1 : Int32) = 0) = false from rfl, br_fq, decI (by omega) (by omega) (by omega) (by omega), decide_eq_false (p := ((b0 + (σ.length + 1) : Nat) : Int) ≤ ((b0 : Nat) : Int)) (by omega), br_fq, show c0 + (σ.length + 1) = c0 + σ.length + 1 by omega, show b0 + (σ.length + 1) = b0 + σ.length + 1 by omega, I_sn, I_sn, tnI (n := c0 + σ.length) rfl (by omega), tnI (n := b0 + σ.length) rfl (by omega), h1, h2, tnI (n := q1) rfl (by omega), cp.1.2 q1 (by omega), bTm_ck]
        refine l_ck (fun _ => ?_)
        rw [bTm_ck]
        refine l_ck (fun _ => ?_)
        rw [rk_e k46, bnd_s, bnd_ck]
        refine r_ck (fun _ => ?_)
        rw [bnd_lt]
        refine r_lt ?_
        have stop : (∀ x, ((q1, b) :: σ).head? = some x → rkK (K x.1) < lv ∨ (rkK (K x.1) = lv ∧ lv = 4)) → PP R (bTm (hb_Pa_closeSigns_60 N (hg_Pa_closeSigns N M) m (I ((l.getLastD 0 : Nat) : Int))) fC) (bnd (fb_M_reduce_60 N (gg_M_reduce N M') w (I (b0 : Nat)) (I (lv : Nat)) r (I (rkK (K q1) : Nat))) f) := fun hx => by
          unfold hb_Pa_closeSigns_60 fb_M_reduce_60 fb_M_reduce_61 fb_M_reduce_255
          rw [bTm_l, show decide ((0 : Int32) = 0) = true from rfl, br_tq]
          cases M' with
          | zero => exact pp_nr
          | succ M' =>
            show PP R _ (bnd (fb_M_reduce_6 N (gg_M_reduce N M') w (I (b0 : Nat)) (I (lv : Nat)) r 0) f)
            unfold fb_M_reduce_6 fb_M_reduce_258
            rw [show decide ((0 : Int32) = 0) = true from rfl, br_tq, bnd_s]
            exact hEnd m w n e2 t2 am om l ((q1, b) :: σ) r h hφ hx
        have pop : PP R (bTm (hb_Pa_closeSigns_79 N (hg_Pa_closeSigns N M) m (I (c0 : Nat)) (I (lv : Nat)) (I ((l.getLastD 0 : Nat) : Int)) (I (q1 : Nat)) (I (K q1 : Nat))) fC) (bnd (fb_M_reduce_56 N (gg_M_reduce N M') w (I (b0 : Nat)) (I (lv : Nat)) r (I (rkK (K q1) : Nat))) f) := by
          unfold hb_Pa_closeSigns_79 fb_M_reduce_56
          refine red_pop (e2 := e2) (t2 := t2) (b := b) (len := σ.length) ⟨h4, rk6⟩ (by rw [a5.2.2.2.2.1]; congr 2) (by omega) rn (fun z => ?_) (fun u r2 M2 hu => ?_)
          · obtain ⟨x1, x2, x3, -⟩ := g2 z
            have l2 := nd_len 1400 _ rn.2.2.2.1.1 rn.2.2.2.1.2.1
            exact ⟨by omega, x2, x3⟩
          · obtain ⟨e3, y1, y2, y3, y4⟩ := SLI_pop (u := u) (κ := 0) c hn0 h hu
            rw [add_e y2 y1, bnd_s]
            unfold hm_Pa_chain hb_Pa_chain_0
            rw [tnI (n := l.getLastD 0) rfl (by omega), bTm_bnd_ck]
            refine l_ck (fun _ => ?_)
            show PP R (bTm (lt (upI (upA (adN m n 23 (I (q1 : Nat)) (I (K q1 : Nat)) 0 0) 21 (upd ((adN m n 23 (I (q1 : Nat)) (I (K q1 : Nat)) 0 0).2.2.1 21) (l.getLastD 0) (I ((n + 1 : Nat) : Int)))) 664 ((adN m n 23 (I (q1 : Nat)) (I (K q1 : Nat)) 0 0).1 664 - 1)) (fun w6 => hg_Pa_closeSigns N M w6 (I (c0 : Nat)) (I (lv : Nat)) (I ((n + 1 : Nat) : Int)))) fC) _
            rw [adN_i (by decide), a5.2.2.2.1, show c0 + (σ.length + 1) = c0 + σ.length + 1 by omega, I_sn, bTm_lt]
            refine l_lt ?_
            have := ih _ u (n + 1) e3 t2 am om (l ++ [n + 1]) M M2 r2 y4 (by rw [headD_snoc a4.1]; exact hφ)
            rw [getLastD_snoc] at this
            exact this
        rw [decide_eq_decide.mpr (I_lt (x := (rkK (K q1) : Nat)) (y := (lv : Nat)) (by omega) (by omega) (by omega) (by omega)), decide_eq_decide.mpr (I_lt (x := (lv : Nat)) (y := (rkK (K q1) : Nat)) (by omega) (by omega) (by omega) (by omega)), I_dn (a := rkK (K q1)) (b := lv) (by omega) (by omega) rfl, I_dn (a := lv) (b := 4) (s := 4) (by omega) (by decide) rfl, I_dn (a := rkK (K q1)) (b := 3) (s := 3) (by omega) (by decide) rfl, I_dn (a := rkK (K q1)) (b := 4) (s := 4) (by omega) (by decide) rfl]
        by_cases c1 : rkK (K q1) < lv
        · rw [decide_eq_true (p := ((rkK (K q1) : Nat) : Int) < ((lv : Nat) : Int)) (by omega), br_tq, decide_eq_false (p := ((lv : Nat) : Int) < ((rkK (K q1) : Nat) : Int)) (by omega), br_fq, decide_eq_false (p := rkK (K q1) = lv) (by omega), br_fq]
          exact stop (fun x hx => by cases hx; exact Or.inl c1)
        · rw [decide_eq_false (p := ((rkK (K q1) : Nat) : Int) < ((lv : Nat) : Int)) (by omega), br_fq]
          by_cases c2 : rkK (K q1) = lv
          · rw [decide_eq_true c2, br_tq, decide_eq_false (p := ((lv : Nat) : Int) < ((rkK (K q1) : Nat) : Int)) (by omega), br_fq, br_tq]
            by_cases c4 : lv = 4
            · rw [decide_eq_true c4, br_tq, decide_eq_false (p := rkK (K q1) = 3) (by omega), br_fq, decide_eq_true (p := rkK (K q1) = 4) (by omega), br_tq]
              exact stop (fun x hx => by cases hx; exact Or.inr ⟨c2, c4⟩)
            · rw [decide_eq_false c4, br_fq]
              unfold hb_Pa_closeSigns_63
              rw [I_dn (a := rkK (K q1)) (b := lv) (by omega) (by omega) rfl, decide_eq_true c2, br_tq, I_dn (a := lv) (b := 3) (s := 3) (by omega) (by decide) rfl]
              by_cases c3 : lv = 3
              · rw [decide_eq_true c3, br_tq, decide_eq_true (p := rkK (K q1) = 3) (by omega), br_tq]
                refine pp_rf (RFS_T (RFS_T (rfs_e cp))) (fun mm => ?_)
                unfold fb_M_reduce_60 fb_M_reduce_61 fb_M_reduce_255
                rw [show decide ((0 : Int32) = 0) = true from rfl, br_tq]
                cases M' with
                | zero => exact pk_none
                | succ M' =>
                  show PK _ (bnd (fb_M_reduce_6 N (gg_M_reduce N M') w (I (b0 : Nat)) (I (lv : Nat)) r 0) f)
                  unfold fb_M_reduce_6 fb_M_reduce_258
                  rw [show decide ((0 : Int32) = 0) = true from rfl, br_tq, bnd_s]
                  exact pk_mo (h3 w σ.length r c3 (by rw [a5.2.2.2.2.1]; congr 2) (by omega) (by rw [h2, c2, c3]; rfl) w67 wp) (fun _ _ y => hW _ _ _ _ y)
              · rw [decide_eq_false c3, br_fq, decide_eq_false (p := rkK (K q1) = 3) (by omega), br_fq, decide_eq_false (p := rkK (K q1) = 4) (by omega), br_fq]
                exact pop
          · rw [decide_eq_false c2, br_fq, decide_eq_true (p := ((lv : Nat) : Int) < ((rkK (K q1) : Nat) : Int)) (by omega), br_tq]
            unfold hb_Pa_closeSigns_63
            rw [I_dn (a := rkK (K q1)) (b := lv) (by omega) (by omega) rfl, decide_eq_false c2, br_fq]
            exact pop
end
