set_option maxRecDepth 100000
section
variable {α β γ : Type} {m0 w0 m w v u mB wB m2 w2 m3 w3 : MS} {K nm Nk W : Nat → Nat} {T p n N q X n2 p0 n0 p2 ν : Nat} {sc sc1 sc2 sc3 t : SCT} {own : Bool} {l : List Nat} {r v1 v2 v3 v4 : Int32} {S : SG_M_rowPattern} {SC : SF_Pa_matched} {fC : MS → Int32 → Option (MS × (Int32 ⊕ Nat))} {R : MS → Int32 ⊕ Nat → MS → Int32 → Prop}
theorem bTm_as {o : Option (MS × (β ⊕ Nat))} {f : MS → β → Option (MS × (γ ⊕ Nat))} {g : MS → γ → Option (MS × (α ⊕ Nat))} : bTm (bTm o f) g = bTm o (fun u r => bTm (f u r) g) := by
  cases o with
  | none => rfl
  | some x =>
    obtain ⟨x, z⟩ := x
    cases z <;> rfl
theorem bnd_as {o : Option (MS × β)} {f : MS → β → Option (MS × (γ ⊕ Nat))} {g : MS → γ → Option (MS × (α ⊕ Nat))} : bTm (bnd o f) g = bnd o (fun u r => bTm (f u r) g) := by
  cases o <;> rfl
theorem pp_bTn {δ : Type} {R : MS → α ⊕ Nat → MS → β → Prop} {o : Option (MS × (γ ⊕ Nat))} {f : MS → γ → Option (MS × (α ⊕ Nat))} {t : Option (MS × δ)} {g : MS → δ → Option (MS × β)} {Q : MS → γ ⊕ Nat → MS → δ → Prop} (h : PP Q o t) (h1 : ∀ m v w r, Q m (.inl v) w r → PP R (f m v) (g w r)) (h2 : ∀ m k w r, Q m (.inr k) w r → PK (fun v s => R m (.inr k) v s) (g w r)) : PP R (bTm o f) (bnd t g) := pp_bT (pp_mo h (fun m z w r q => by
  cases z with
  | inl v => exact h1 m v w r q
  | inr k => exact h2 m k w r q))
theorem gg_f {u0 : MS} (hS0 : ∀ (u0 u : MS) a0, Kfc u0 u → KfE u0 (S.1 u a0)) (hS1 : ∀ (u0 u : MS) a0, Kfc u0 u → KfE u0 (S.2 u a0)) (M : Nat) : ∀ (u : MS) a0 a1 a2 a3 a4 a5 a6, Kfc u0 u → KfE u0 ((gg_M_rowPattern N S M) u a0 a1 a2 a3 a4 a5 a6) := yf_gg_M_rowPattern (N := N) (hS0 u0) (hS1 u0) M
theorem row_lp (c : CTZ m0 w0 K T nm Nk) (hn0 : n0 ≤ 2 * p0) (hS0 : ∀ (u0 u : MS) a0, Kfc u0 u → KfE u0 (S.1 u a0)) (hS1 : ∀ (u0 u : MS) a0, Kfc u0 u → KfE u0 (S.2 u a0)) (hP : PTS N m0 w0 K T nm Nk own v1 (SC.2.2.2.2.2.2.2.2.2.2.2.2.2.2.2.2.2.1) S.2)
    (hE : ∀ (M : Nat) (m w : MS) (p k : Nat) (l : List Nat) (v8 : Int32), RWI N m0 w0 K T nm Nk own mB wB p0 n0 sc m w p l → K p ≠ 26 → l.length = k → k ≤ 8 → PP R (fC m (I ((l.headD 0 : Nat) : Int))) (fb_M_rowPattern_151 N S (gg_M_rowPattern N S M) w v1 v2 v3 v4 v8 (I (k : Nat))))
    (hF : ∀ (m : MS) (p : Nat) (φ : Int32), CP m K T p → K p = 26 → RFS (fC m φ)) (hW : ∀ m k w r, FLW w → R m (.inr k) w r)
    (hB : ∀ (M : Nat) (w : MS) (p : Nat) (v8 k : Int32), WP w K T p → w.1 67 = 0 → K p = 45 → PK (fun w2 _ => FLW w2) (fb_M_rowPattern_151 N S (gg_M_rowPattern N S M) w v1 v2 v3 v4 v8 k)) : ∀ (j k M M' : Nat) (m w : MS) (p : Nat) (l : List Nat) (v8 : Int32), k + j = 8 → 1 ≤ k → l.length = k → RWI N m0 w0 K T nm Nk own mB wB p0 n0 sc m w p l → PP R (bTm (hg_Pa_row N SC M m 1 8 (I ((l.headD 0 : Nat) : Int)) (I ((l.getLastD 0 : Nat) : Int)) (I (k : Nat))) fC) (fb_M_rowPattern_112 N S (gg_M_rowPattern N S M') w v1 v2 v3 v4 (I ((k : Int) - 1)) v8) := by
  have out : ∀ (k M' : Nat) (w : MS) (p : Nat) (v8 : Int32), WP w K T p → w.1 67 = 0 → K p ≠ 26 → ∀ {a : Option (MS × (Int32 ⊕ Nat))}, (∀ M, PP R a (fb_M_rowPattern_151 N S (gg_M_rowPattern N S M) w v1 v2 v3 v4 v8 (I (k : Nat)))) → PP R a (fb_M_rowPattern_140 N S (gg_M_rowPattern N S M') w v1 v2 v3 v4 v8 (I (k : Nat))) := fun k M' w p v8 hw h0 hk a h => by
    unfold fb_M_rowPattern_140
    rw [tkS_e (k := 26) (s := 6) hw h0 (by decide) rfl, if_neg hk, bnd_s]
    cases M' with
    | zero => exact pp_nr
    | succ M' =>
      show PP R a (fb_M_rowPattern_66 N S (gg_M_rowPattern N S M') w v1 v2 v3 v4 v8 (I (k : Nat)) 0)
      unfold fb_M_rowPattern_66
      rw [show decide ((0 : Int32) = 0) = true from rfl, br_tq]
      exact h M'
  intro j
  induction j with
  | zero =>
    intro k M M' m w p l v8 hkj hk1 hlk hI
    have hk8 : k = 8 := by omega
    obtain ⟨n, sc1, X1, W1, b0, b1, -⟩ := id hI
    have hc := RLP_c c b1
    have hw := RLP_w c b1
    have h0 := b1.2.2.2.2.2.2
    cases M with
    | zero => exact pp_nl
    | succ M =>
      show PP R (bTm (hb_Pa_row_23 N SC (hg_Pa_row N SC M) m 1 8 (I ((l.headD 0 : Nat) : Int)) (I ((l.getLastD 0 : Nat) : Int)) (I (k : Nat))) fC) _
      unfold hb_Pa_row_23 hb_Pa_row_78
      rw [hk8, show decide ((8 : Int32) ≤ I ((8 : Nat) : Int)) = true from rfl, br_tq, bTm_l]
      unfold fb_M_rowPattern_112
      rw [show decide (I (((8 : Nat) : Int) - 1) + 1 = 8) = true from rfl, br_tq, isS_e (k := 26) (s := 6) hw (by decide) rfl, bnd_s, show I (((8 : Nat) : Int) - 1) + 1 = I ((8 : Nat) : Int) from rfl]
      by_cases k26 : K p = 26
      · rw [if_pos k26, show decide ((1 : Int32) = 0) = false from rfl, br_fq]
        refine pp_rf (hF m p _ hc k26) (fun m2 => ?_)
        refine pk_mo (Q := fun w2 _ => FLW w2) (pk_bnd (fun v r z => ?_)) (fun w2 r z => hW _ _ _ _ z)
        exact Kf_pk (yf_fb_M_rowPattern_140 (u0 := v) (wrong_s (u0 := v) (by decide) v r z) (hS0 v) (hS1 v) (gg_f hS0 hS1 M'))
      · rw [if_neg k26, show decide ((0 : Int32) = 0) = true from rfl, br_tq]
        exact out 8 M' w p v8 hw h0 k26 (fun M2 => hE M2 m w p 8 l v8 hI k26 (by omega) (by omega))
  | succ j ih =>
    intro k M M' m w p l v8 hkj hk1 hlk hI
    obtain ⟨n, sc1, X1, W1, b0, b1, b2, b3, b4, b5, b6, b7, b8, b9, b10, b11, b12, b13⟩ := id hI
    have hc := RLP_c c b1
    have hw := RLP_w c b1
    have h0 := b1.2.2.2.2.2.2
    have t4 := c.1.1.1
    have pT := hc.2.2
    obtain ⟨d1, d2, d3⟩ := PRW_hd b11 b0
    cases M with
    | zero => exact pp_nl
    | succ M =>
      show PP R (bTm (hb_Pa_row_23 N SC (hg_Pa_row N SC M) m 1 8 (I ((l.headD 0 : Nat) : Int)) (I ((l.getLastD 0 : Nat) : Int)) (I (k : Nat))) fC) _
      unfold hb_Pa_row_23 hb_Pa_row_78
      rw [show (8 : Int32) = I 8 from rfl, decI (by omega) (by omega) (by omega) (by omega), decide_eq_false (by omega), br_fq]
      unfold fb_M_rowPattern_112
      rw [show I ((k : Int) - 1) + 1 = I (k : Nat) by rw [lit1q, I_add]; congr 1; omega, show (8 : Int32) = I ((8 : Nat) : Int) from rfl, I_dn (a := k) (b := 8) (by omega) (by decide) rfl, decide_eq_false (p := k = 8) (by omega), br_fq]
      by_cases k45 : K p = 45
      · refine pp_rf (RFS_T (RFS_T (look_x hc k45))) (fun m2 => ?_)
        exact fun w2 r e => hW _ _ _ _ (by
          have e9 := e
          unfold fb_M_rowPattern_140 at e9
          rw [tkS_e (k := 26) (s := 6) hw h0 (by decide) rfl, if_neg (by omega), bnd_s] at e9
          cases M' with
          | zero => cases e9
          | succ M' =>
            have e9 : fb_M_rowPattern_66 N S (gg_M_rowPattern N S M') w v1 v2 v3 v4 v8 (I (k : Nat)) 0 = some (w2, r) := e9
            unfold fb_M_rowPattern_66 at e9
            rw [show decide ((0 : Int32) = 0) = true from rfl, br_tq] at e9
            exact hB M' w p v8 (I (k : Nat)) hw h0 k45 w2 r e9)
      · rw [look_e hc k45, bTm_l]
        by_cases k26 : K p = 26
        · rw [k26, show decide (I ((26 : Nat) : Int) = 26) = true from rfl, br_tq]
          unfold fb_M_rowPattern_140
          rw [tkS_e (k := 26) (s := 6) hw h0 (by decide) rfl, if_pos k26, bnd_s]
          cases M' with
          | zero => exact pp_nr
          | succ M' =>
            show PP R _ (fb_M_rowPattern_66 N S (gg_M_rowPattern N S M') (adv w p) v1 v2 v3 v4 v8 (I (k : Nat)) 1)
            unfold fb_M_rowPattern_66
            have h1 : (adv w p).1 67 = 0 := by unfold adv; rw [upI_ne (by decide)]; exact h0
            rw [show decide ((1 : Int32) = 0) = false from rfl, br_fq, decide_eq_true h1, br_tq, hc.2.1, i_suc]
            show PP R (bTm (br (decide ((1 : Int32) = 0)) _ _) fC) _
            rw [show decide ((1 : Int32) = 0) = false from rfl, br_fq, bTm_as]
            refine pp_bTn (RWI_next (N := N) c hn0 hI k26 hP) (fun m2 ε w2 r q => ?_) (fun m2 kk w2 r q => ?_)
            · obtain ⟨ν, p3, e1, q⟩ := q
              rw [e1]
              unfold hb_Pa_row_67 hm_Pa_chain hb_Pa_chain_0
              rw [bnd_as, tnI (n := l.getLastD 0) rfl (by omega), i_suc]
              refine l_bnd ?_
              refine pk_ck (fun _ => pk_lt (pk_some ?_))
              have nx : ∀ w3, WFP w2 w3 → w3.1 69 = w2.1 69 → w3.1 66 = w2.1 66 → (∀ k, 59 ≤ k → w3.2.2.1 k = w2.2.2.1 k) → PP R (bTm (hg_Pa_row N SC M (upA m2 21 (upd (m2.2.2.1 21) (l.getLastD 0) (I (ν : Nat)))) 1 (I 8) (I ((l.headD 0 : Nat) : Int)) (I (ν : Nat)) (I ((k + 1 : Nat) : Int))) fC) (fb_M_rowPattern_112 N S (gg_M_rowPattern N S M') w3 v1 v2 v3 v4 (I (k : Nat)) r) := fun w3 g1 g2 g3 g4 => by
                have := ih (k + 1) M M' _ w3 p3 (l ++ [ν]) r (by omega) (by omega) (by rw [List.length_append, List.length_singleton]; omega) (q w3 g1 g2 g3 g4)
                rw [headD_snoc b0, getLastD_snoc, show (((k + 1 : Nat) : Int) - 1) = (k : Int) by omega] at this
                exact this
              refine r_br (fun _ => r_ck (fun _ => r_lt ?_)) (fun _ => r_ck (fun _ => r_lt ?_))
              · exact nx _ ⟨fun _ _ => rfl, fun k hk => upA_no (by omega)⟩ rfl rfl (fun k hk => upA_no (by omega))
              · exact nx _ ⟨fun _ _ => rfl, fun k hk => upA_no (by omega)⟩ rfl rfl (fun k hk => upA_no (by omega))
            · have q : FLW w2 := q
              refine pk_mo (Q := fun w2 _ => FLW w2) (Kf_pk (u0 := w2) ?_) (fun w2 r z => hW _ _ _ _ z)
              refine Kf_br (Kf_ck (Kf_ltm (Kf_A q) (fun u h => ?_))) (Kf_ck (Kf_ltm (Kf_A q) (fun u h => ?_)))
              · exact yf_fb_M_rowPattern_112 h (hS0 w2) (hS1 w2) (gg_f hS0 hS1 M')
              · exact yf_fb_M_rowPattern_112 h (hS0 w2) (hS1 w2) (gg_f hS0 hS1 M')
        · have k46 := hc.1.1.k46 hc.2.2
          rw [I_dn (a := K p) (b := 26) (s := 26) (by omega) (by decide) rfl, decide_eq_false k26, br_fq, bTm_l]
          exact out k M' w p v8 hw h0 k26 (fun M2 => hE M2 m w p k l v8 hI k26 hlk (by omega))
end
