/-! what is PREDEFINED: names -/
set_option maxRecDepth 100000
section
variable {b : Int → Nat → Nat → Prop} {Fv Fv' : Int64 → Int64 → Prop} {P P' : Int64 → Prop} {N PR q r p i j0 j U B W Y a n : Nat} {m w m2 w2 : MS} {cur : Option Nat} {RR : Nat → MS → MS → Prop} {nb : Nat → Nat} {Hs Os : Nat → List Nat} {y : Option (Nat × Nat × Nat)} {z x1 x2 : Int} {k1 k2 : Nat}
theorem wi_cm (h : k1 ≠ k2) : wi (wi m k1 x1) k2 x2 = wi (wi m k2 x2) k1 x1 := by
  unfold wi upI
  refine Prod.ext (funext fun k => ?_) rfl
  show (if k = k2 then _ else if k = k1 then _ else m.1 k) = (if k = k1 then _ else if k = k2 then _ else m.1 k)
  by_cases c : k = k2
  · rw [if_pos c, if_neg (by omega), if_pos c]
  · rw [if_neg c, if_neg c]
theorem pq_ne2 {k l : Nat} (hk : k < 100) (hl : l < 100) (h : k ≠ l) : pq q k ≠ pq r l := fun c => h (pq_e hk hl c).2
theorem nm_m {k : Nat} (hk : k < 100) (h : k ≠ 12) : (wi m (pq q 12) z).1 (pq r k) = m.1 (pq r k) := wi_1 (pq_ne2 hk (by omega) h)
theorem nm_mr {d k : Nat} (hk : k < 100) (h : d ≠ q) : (wi m (pq q 12) z).1 (pq d k) = m.1 (pq d k) := wi_1 (fun c => h (pq_e hk (by omega) c).1)
theorem nm_f : FR [pq q 12] [] [] [] m (wi m (pq q 12) z) := FR.wi FR.rf (by simp)
theorem nm_g : FR [] [] [113] [] w (wa w 113 q z) := FR.wa FR.rf (by simp)
theorem nm_pg : PGs m w (wi m (pq q 12) z) (wa w 113 q z) := PGs_fr nm_f nm_g (fun k hk => by simp at hk; unfold pq at hk; omega) (by simp) (by simp) (by simp) (by simp [PRr]) (by simp)
theorem nm_n : EQn r m (wi m (pq q 12) z) := ⟨fun k hk h => nm_m hk (by simp at h; omega), fun _ _ _ => rfl, fun _ _ _ => rfl, rfl⟩
theorem nm_v : EQv r w (wa w 113 q z) := ⟨fun K k _ _ h => wa_at (by omega), rfl, fun K h => wa_21 (by unfold PRr at h; omega), rfl⟩
theorem RUs_nm (h : RUs m w p j nb Hs Os y a n) : RUs (wi m (pq q 12) z) (wa w 113 q z) p j nb Hs Os y a n := RUs_st h nm_n nm_v nm_pg
theorem PLs_nm (pl : PLs b r m w U B W Y) : PLs b r (wi m (pq q 12) z) (wa w 113 q z) U B W Y := PLs_cg pl (fun k hk => nm_m (by simp at hk; omega) (by simp at hk; omega)) (fun _ _ => rfl) (fun _ _ => rfl) (fun _ _ => rfl) (fun _ _ => rfl) (fun k hk => by rw [wa_21 (by simp at hk; omega)]) (fun _ _ => rfl) (fun _ _ => rfl) (fun _ _ => rfl) (fun _ _ => rfl)
theorem SCs_nm (s : SCs r m w) : SCs r (wi m (pq q 12) z) (wa w 113 q z) := by
  obtain ⟨s1, s2, s3, s4, s5, s6⟩ := s
  refine ⟨?_, by rw [nm_m (by omega) (by omega), wa_21 (by omega)]; exact s2, by rw [nm_m (by omega) (by omega), wa_21 (by omega)]; exact s3, by rw [nm_m (by omega) (by omega), wa_21 (by omega)]; exact s4, by rw [nm_m (by omega) (by omega), wa_21 (by omega)]; exact s5, fun i hi => ?_⟩
  · by_cases c : r = q
    · subst c
      rw [wi_s1, wa_s1]
    · rw [nm_mr (by omega) c, wa_at (by omega)]
      exact s1
  · rw [wa_21 (by omega)]
    refine s6 i ?_
    have : F (wi m (pq q 12) z) (pq r 15) = F m (pq r 15) := congrArg Int32.toInt (nm_m (by omega) (by omega))
    rw [← this]
    exact hi
theorem SFs_nm (sf : SFs Fv P Fv' P' PR m w) : SFs Fv P Fv' P' PR (wi m (pq q 12) z) (wa w 113 q z) := by
  obtain ⟨⟨d, cx⟩, ⟨dw, lk, wt⟩, pb⟩ := sf
  have g : FR [] [] [113] [] w (wa w 113 q z) := nm_g
  have f : FR ([12].map (pq q)) [] [] (([] : List Nat).map (pq q)) m (wi m (pq q 12) z) := nm_f
  have fc : FC q [] [] [] [12] [] [] [] m (wi m (pq q 12) z) := FC.ofq f (by simp) (by simp)
  have e : ∀ k, k < 2000 → F (wi m (pq q 12) z) k = F m k := fun k h => wi_ne (fun c => pq_n h c)
  have e2 : ∀ k, k < 100 → k ≠ 12 → F (wi m (pq q 12) z) (pq q k) = F m (pq q k) := fun k h1 h2 => congrArg Int32.toInt (nm_m h1 h2)
  refine ⟨⟨DWc_gl d fc (by simp) (by simp) (fun hq => ?_) (by simp) (by rw [e 950 (by omega)]; exact d.1.2.2.1) (by rw [e 956 (by omega)]; exact ⟨d.1.2.2.2.1.2.1, d.1.2.2.2.1.2.2⟩) (by simp), CTX_fr cx (wi_1 (fun c => pq_n (by omega) c)) rfl⟩, ⟨DW_fr dw g (by simp) (by simp) (by simp) (by simp) (by simp) (by simp) (by simp) (by simp) (by simp) (by simp) (by simp) (by simp) (by simp) (by simp) (by simp) (by simp) (by simp), LK_fr lk g (by simp) (by simp), WTQ_fr wt g (by simp) (by simp) (by simp)⟩, pb⟩
  have h := (d.2 q hq).1
  unfold SMQ at h ⊢
  rw [e2 15 (by omega) (by omega), e2 8 (by omega) (by omega), e2 9 (by omega) (by omega), e2 7 (by omega) (by omega)]
  exact h
/-- one that has not ENDED gets a name, or none -/
theorem WL_nm (W0 : WLs RR PR Fv P Fv' P' cur i j0 m w) (al : F m (pq q 9) ≠ 3) (alw : A w 109 q ≠ 3) : WLs RR PR Fv P Fv' P' cur i j0 (wi m (pq q 12) z) (wa w 113 q z) := by
  have f9 : ∀ d, F (wi m (pq q 12) z) (pq d 9) = F m (pq d 9) := fun d => congrArg Int32.toInt (nm_m (by omega) (by omega))
  have a9 : ∀ d, A (wa w 113 q z) 109 d = A w 109 d := fun d => wa_rne (by omega)
  have lm : ∀ d, d ≠ q → LOCm d m (wi m (pq q 12) z) := fun d h k hk => ⟨nm_mr hk h, rfl, rfl, rfl⟩
  have lw : ∀ d, d ≠ q → LOCw d w (wa w 113 q z) := fun d h => ⟨fun K k ho => wa_at (fun c => by
    obtain ⟨rfl, rfl⟩ := c
    rcases ho with ho | ho | ho | ho
    · exact h ho.2.symm
    · omega
    · omega
    · omega), fun K hK => by rw [wa_21 (by omega)], fun k _ _ => by rw [wa_21 (by omega)], rfl, fun _ _ _ => rfl, fun _ _ _ => rfl, fun _ _ _ => rfl, fun _ _ _ => rfl⟩
  have dq : ∀ d, F m (pq d 9) = 3 → d ≠ q := fun d hd c => al (by rw [← c]; exact hd)
  refine WL_gen W0 (SFs_nm W0.1) (fun d hd => ⟨by rw [f9]; exact hd, rfl, nm_m (by omega) (by omega), rfl⟩) (fun d _ => ⟨fun k _ => rfl, wa_rne (by omega)⟩) (fun d hd => by rw [a9]; exact hd) (fun d _ hd2 _ h => QEs_st h (lm d (dq d hd2)) (lw d (dq d hd2))) (fun d _ _ h => DEs_st h nm_pg.1 (lm d (dq d h.1)) (lw d (dq d h.1)) (fun d hd => ⟨by rw [f9]; exact hd, rfl⟩)) (fun d hd x1 x2 x3 => ?_) ?_
  · obtain ⟨b, U, B, W, Y, pl, sc, rr⟩ := x3
    exact Or.inl ⟨by rw [f9]; exact x1, by rw [a9]; exact x2, b, U, B, W, Y, PLs_nm pl, SCs_nm sc, W0.2.2.2 _ _ _ _ _ rr nm_n nm_v nm_pg⟩
  · obtain ⟨n, q1, q2, -⟩ := W0.2.1
    exact ⟨i + n, j0 + n, q1, q2, fun k _ => rfl, fun k _ => ⟨fun K hK => wa_rne (by omega), rfl⟩, Or.inl ⟨by rw [wi_ne (fun c => pq_n (by omega) c)]; exact q1, q2⟩⟩
theorem FGw_swA (g : FGw p j w w2) : FGw p j (wa w 113 q z) (wa w2 113 q z) := by
  obtain ⟨⟨g1, g2, g3, g4⟩, g5, g6, g7⟩ := g
  refine ⟨⟨g1, g2, fun K hK => ?_, g4⟩, fun k hk => ?_, fun k hk => by rw [wa_rne (by omega), wa_rne (by omega)]; exact g6 k hk, g7⟩
  · by_cases c : K = 113
    · subst c
      have e : ∀ u : MS, (wa u 113 q z).2.2.1 113 = upd (u.2.2.1 113) q (I z) := fun u => by
        show (if (113 : Nat) = 113 then upd (u.2.2.1 113) q (I z) else u.2.2.1 113) = _
        rw [if_pos rfl]
      rw [e, e, g3 113 hK]
    · rw [wa_21 c, wa_21 c]
      exact g3 K hK
  · rw [wa_rne (by omega), wa_rne (by omega), wa_rne (by omega), wa_rne (by omega), wa_21 (by omega), wa_21 (by omega)]
    exact g5 k hk
end
section
variable {N p : Nat} {u w : MS}
theorem pm12 : hm_Ma_predefined N u p (I 12) = bnd (hm_Ma_naming N u p (I 12)) (fun u6 _ => hb_Ma_predefined_146 N () u6 p) := rfl
theorem pm13 : hm_Ma_predefined N u p (I 13) = bnd (hm_Ma_naming N u p (I 13)) (fun u6 _ => hb_Ma_predefined_146 N () u6 p) := rfl
theorem pm14 : hm_Ma_predefined N u p (I 14) = bnd (hm_Ma_naming N u p (I 14)) (fun u6 _ => hb_Ma_predefined_146 N () u6 p) := rfl
theorem pr13 : fm_M_predefinedRun N w (I 13) = bnd (fm_M_nameRun N w (I 13)) (fun u _ => some (u, ())) := rfl
theorem pr14 : fm_M_predefinedRun N w (I 14) = bnd (fm_M_nameRun N w (I 14)) (fun u _ => some (u, ())) := rfl
theorem pr15 : fm_M_predefinedRun N w (I 15) = bnd (fm_M_nameRun N w (I 15)) (fun u _ => some (u, ())) := rfl
theorem nam12y : hm_Ma_naming N u p (I 12) = bnd (hm_Fr_below N u p 1) (fun u3 r3 => bnd (hm_Te_tag N u3 r3) (fun u5 r5 => br (decide (r5 = 1)) (bnd (hm_Wl_named N u5 (r3.toInt32)) (fun u7 r7 => bnd (hm_Ma_processAt N u7 p 0) (fun u9 r9 => br (decide (r9 = none)) (hb_Ma_naming_147 N () u9 p) (br (decide (r7 = none)) (bo r9 (fun j10 => br (decide ((u9.1 (pq j10 12)) = (-1))) (br (decide ((u9.1 (pq j10 9)) = 3)) (hb_Ma_naming_147 N () u9 p) (lt (upI u9 (pq j10 12) (r3.toInt32)) (fun w15 => bnd (hm_Ma_atom N w15 0) (fun u16 r16 => bnd (hm_Ma_answer N u16 p 2 r16) (fun u17 r17 => some (u17, ())))))) (hb_Ma_naming_147 N () u9 p))) (hb_Ma_naming_147 N () u9 p))))) (bnd (hm_Ma_wrong N u5 p 11) (fun u27 r27 => some (u27, ()))))) := rfl
theorem nam13y : hm_Ma_naming N u p (I 13) = bnd (hm_Fr_below N u p 0) (fun u3 r3 => bnd (hm_Te_tag N u3 r3) (fun u5 r5 => br (decide (r5 = 1)) (bnd (hm_Wl_named N u5 (r3.toInt32)) (fun u7 r7 => br (decide (r7 = none)) (bnd (hm_Ma_wrong N u7 p 11) (fun u22 r22 => some (u22, ()))) (bo r7 (fun j18 => lt (upI u7 (pq j18 12) (-1)) (fun w19 => bnd (hm_Ma_atom N w19 0) (fun u20 r20 => bnd (hm_Ma_answer N u20 p 1 r20) (fun u21 r21 => some (u21, ())))))))) (bnd (hm_Ma_wrong N u5 p 11) (fun u27 r27 => some (u27, ()))))) := rfl
theorem nam14y : hm_Ma_naming N u p (I 14) = bnd (hm_Fr_below N u p 0) (fun u3 r3 => bnd (hm_Te_tag N u3 r3) (fun u5 r5 => br (decide (r5 = 1)) (bnd (hm_Wl_named N u5 (r3.toInt32)) (fun u7 r7 => br (decide (r7 = none)) (bnd (hm_Ma_atom N u7 3) (fun u26 r26 => hb_Ma_naming_74 N () u26 p (1) (r26))) (bo r7 (fun j23 => bnd (hm_Te_make N u7 4 (Int32.ofNat j23)) (fun u25 r25 => hb_Ma_naming_74 N () u25 p (1) (r25)))))) (bnd (hm_Ma_wrong N u5 p 11) (fun u27 r27 => some (u27, ()))))) := rfl
/-- the reference: a name is looked up -/
def nmR (N : Nat) (u : MS) (K : MS → Int64 → Int32 → Int32 → Option (MS × Unit)) : Option (MS × Unit) := bnd (fm_M_take N u) (fun u14 r14 => bnd (fm_M_sortOf N u14 r14) (fun u15 r15 => br (decide (r15 = 1)) (bnd (fm_M_valueOf N u15 r14) (fun u16 r16 => bnd (fm_M_namedBy N u16 r16) (fun u17 r17 => bnd (fm_M_sortOf N u17 r14) (fun u13 r13 => br (decide (r13 = 1)) (K u13 r14 r17 1) (K u13 r14 r17 0))))) (bnd (fm_M_sortOf N u15 r14) (fun u13 r13 => br (decide (r13 = 1)) (K u13 r14 (-1) 1) (K u13 r14 (-1) 0)))))
theorem nar13 : fm_M_nameRun N w (I 13) = bnd (fm_M_take N w) (fun u18 r18 => nmR N u18 (fun u v4 v6 t0 => fb_M_nameRun_59 N () u (I 13) r18 v4 v6 t0)) := rfl
theorem nar14 : fm_M_nameRun N w (I 14) = nmR N w (fun u v4 v6 t0 => fb_M_nameRun_59 N () u (I 14) 0 v4 v6 t0) := rfl
theorem nar15 : fm_M_nameRun N w (I 15) = nmR N w (fun u v4 v6 t0 => fb_M_nameRun_59 N () u (I 15) 0 v4 v6 t0) := rfl
theorem n59_0 {k : Int} (hk : k = 13 ∨ k = 14 ∨ k = 15) {v2 v4 : Int64} {v6 : Int32} : fb_M_nameRun_59 N () w (I k) v2 v4 v6 0 = bnd (fr_M_error N w 11) (fun u9 _ => some (u9, ())) := by
  rcases hk with rfl | rfl | rfl <;> rfl
theorem n59_15 {v2 v4 : Int64} {v6 : Int32} : fb_M_nameRun_59 N () w (I 15) v2 v4 v6 1 = br (decide (v6 = (-1))) (bnd (fm_M_term N w 1 3) (fun u8 r8 => bnd (fm_M_put N u8 r8) (fun u5 _ => some (u5, ())))) (bnd (fm_M_term N w 4 v6) (fun u7 r7 => bnd (fm_M_put N u7 r7) (fun u5 _ => some (u5, ())))) := rfl
theorem n59_14 {v2 v4 : Int64} {v6 : Int32} : fb_M_nameRun_59 N () w (I 14) v2 v4 v6 1 = br (decide (v6 = (-1))) (bnd (fr_M_error N w 11) (fun u9 _ => some (u9, ()))) (fb_M_nameRun_227 N () w 113 v6 (-1)) := rfl
theorem n59_13 {v2 v4 : Int64} {v6 : Int32} : fb_M_nameRun_59 N () w (I 13) v2 v4 v6 1 = br (decide (v6 = (-1))) (bnd (fm_M_sortOf N w v2) (fun u10 r10 => br (decide (r10 = 4)) (bnd (fm_M_valueOf N u10 v2) (fun u11 r11 => ck (inb r11 (ln 109)) (br (decide ((u11.2.2.1 109 r11.toNatClampNeg) = 3)) (bnd (fr_M_error N u11 11) (fun u9 _ => some (u9, ()))) (bnd (fm_M_valueOf N u11 v2) (fun u12 r12 => ck (inb r12 (ln 113)) (br (decide ((u12.2.2.1 113 r12.toNatClampNeg) = (-1))) (bnd (fm_M_valueOf N u12 v2) (fun u6 r6 => bnd (fm_M_valueOf N u6 v4) (fun u4 r4 => fb_M_nameRun_227 N () u4 113 r6 r4))) (bnd (fr_M_error N u12 11) (fun u9 _ => some (u9, ()))))))))) (bnd (fr_M_error N u10 11) (fun u9 _ => some (u9, ()))))) (bnd (fr_M_error N w 11) (fun u9 _ => some (u9, ()))) := rfl
end
section
variable {α β : Type} {b : Int → Nat → Nat → Prop} {Fv Fv' : Int64 → Int64 → Prop} {P P' : Int64 → Prop} {N PR p U B W Y l j a n : Nat} {m w w1 : MS} {nb : Nat → Nat} {Hs Os : Nat → List Nat} {y : Option (Nat × Nat × Nat)} {Q : MS → α → MS → β → Prop} {K1 : MS → Option (MS × α)} {K2 : MS → Option (MS × β)}
/-- a name is given or taken, and it answers -/
theorem nm_ans {w3 : MS} {q c : Nat} {z : Int} (hp1 : p < 24) (hq : q < 24) (ru : RUs m w p j nb Hs Os y a n) (hW : W + c ≤ 46000) (hc : 0 < c) (hc2 : c < 100) (hl : F m (pq p 45) = ((l : Nat) : Int)) (hl2 : W + c ≤ l ∧ l ≤ 1000000) (hw26 : F m (pq p 26) = ((W + c : Nat) : Int)) (pd : PLs b p (wi m (pq p 26) ((W : Nat) : Int)) w3 U B W Y) (g3 : FGw p j w w3) (h98 : A w3 98 (60 * p + j) = ((n + 1 : Nat) : Int)) (cr : ∃ f, CRs (A m 23) (ROs w) (w.2.2.2 34) f y (a + 2) (n + 1) (Hs j) (Os j))
    (cN : ∀ m3 w3, PLs b p m3 w3 U B (W + 1) Y → RUs m3 w3 p j nb Hs Os y (a + 2) (n + 1) → FGm p (wi m (pq q 12) z) m3 → FGw p j (wa w 113 q z) w3 → PP Q (K1 m3) (K2 w3)) : PP Q (bnd (hm_Ma_answer N (wi m (pq q 12) z) p (I ((c : Nat) : Int)) (mk 1 0)) (fun u _ => bnd (hb_Ma_predefined_146 N () u p) (fun u _ => K1 u))) (bnd (fm_M_put N (wa w3 113 q z) (mk 1 0)) (fun u _ => K2 u)) := by
  obtain ⟨-, ⟨r2, -⟩, -⟩ := id ru
  have cb2 : a + 2 + 1 < 24000 := by
    obtain ⟨f9, cr9⟩ := cr
    exact (CR_b cr9).1
  have e26 : F (wi m (pq q 12) z) (pq p 26) = ((W + c : Nat) : Int) := by
    rw [← hw26]
    exact congrArg Int32.toInt (nm_m (by omega) (by omega))
  have e45 : F (wi m (pq q 12) z) (pq p 45) = ((l : Nat) : Int) := by
    rw [← hl]
    exact congrArg Int32.toInt (nm_m (by omega) (by omega))
  have pd2 := PLs_nm (q := q) (z := z) pd
  rw [wi_cm (pq_ne2 (by omega) (by omega) (by omega))] at pd2
  unfold hm_Ma_answer hb_Ma_answer_0
  rw [drop_e (W := W + c) (k := c) e26 rfl (by omega), bnd_so, Nat.add_sub_cancel]
  simp only [bb_e, bnd_so]
  have cr2 : ∃ f, CRs (A (wi m (pq q 12) z) 23) (ROs (wa w 113 q z)) ((wa w 113 q z).2.2.2 34) f y (a + 2) (n + 1) (Hs j) (Os j) := by
    rw [ROs_eq (w := w) (fun K h => wa_21 (by unfold PRr at h; omega))]
    exact cr
  exact pre_pp (l := l) hp1 (RUs_nm (q := q) (z := z) ru) (by omega) ⟨by omega, hl2.2⟩ (lit_b (b := b) (v := 1) (Or.inr (Or.inl rfl)) (z := 0) (fun h => by omega) ⟨by omega, by omega⟩) FGm.drop (FGw_swA g3) pd2 (by rw [wi_ne (pq_inj (by omega))]; exact e45) (by rw [wa_rne (by omega)]; exact h98) (by rw [wi_ne (pq_n (by omega)), wi_ne (pq_n (by omega))]; exact r2) (by omega) cr2 cN
/-- who bears a name; a name is taken -/
theorem op_named {d : Int} (hd : d = 13 ∨ d = 14) (hp1 : p < 24) (nd : NDs PR m w) (ru : RUs m w p j nb Hs Os y a n) (hW : W + 1 ≤ 46000) (hl : F m (pq p 45) = ((l : Nat) : Int)) (hl2 : W + 1 ≤ l ∧ l ≤ 1000000) (pl : PLs b p m w1 U B (W + 1) Y) (g1 : FGw p j w w1) (h98 : A w1 98 (60 * p + j) = ((n + 1 : Nat) : Int)) (cr : ∃ f, CRs (A m 23) (ROs w) (w.2.2.2 34) f y (a + 2) (n + 1) (Hs j) (Os j))
    (c : ∀ m3 w3, PLs b p m3 w3 U B (W + 1) Y → RUs m3 w3 p j nb Hs Os y (a + 2) (n + 1) → FGm p m m3 → FGw p j w w3 → PP Q (K1 m3) (K2 w3))
    (cN : ∀ q m3 w3, q < PR → F m (pq q 9) ≠ 3 → PLs b p m3 w3 U B (W + 1) Y → RUs m3 w3 p j nb Hs Os y (a + 2) (n + 1) → FGm p (wi m (pq q 12) (-1)) m3 → FGw p j (wa w 113 q (-1)) w3 → PP Q (K1 m3) (K2 w3))
    (kX : ∀ w3, PLs b p (wi m (pq p 26) ((W : Nat) : Int)) w3 U B W Y → FGw p j w w3 → (w3.2.2.2 88 = w1.2.2.2 88 ∧ w3.1 140 = w1.1 140) → PP Q (K1 (tld m 1 (-1) (mk 1 11))) (bnd (fr_M_error N w3 11) (fun u _ => K2 u))) : PP Q (bnd (hm_Ma_predefined N m p (I d)) (fun u _ => K1 u)) (bnd (fm_M_predefinedRun N w1 (I (d + 1))) (fun u _ => K2 u)) := by
  obtain ⟨⟨fa, -⟩, ⟨r2, -⟩, -, -, -, ⟨-, r9, -⟩, r11, -, -⟩ := id ru
  have p24 := nd.1.2.2
  have cb2 : a + 2 + 1 < 24000 := by
    obtain ⟨f9, cr9⟩ := cr
    exact (CR_b cr9).1
  have x33 : F w1 133 = ((p : Nat) : Int) := by rw [FR.F g1.1 (by simp)]; exact r11
  have rt := pl.2.2.1.2.2 W (by omega)
  have be : hm_Fr_below N m p 0 = some (m, m.2.2.2 (pq p 35) W) := by
    have := below_e (N := N) (x := 0) (k := 0) (W := W + 1) (l := l) pl.2.2.1.1 hl hl2.1 hl2.2 rfl (by omega)
    rw [show W + 1 - 1 - 0 = W by omega] at this
    exact this
  have pd := PLs_drop (k := 1) (W := W) pl (by omega)
  have g3 : FGw p j w (wa w1 92 p ((W : Nat) : Int)) := FGw.tr g1 FGw.w92
  have h983 : A (wa w1 92 p ((W : Nat) : Int)) 98 (60 * p + j) = ((n + 1 : Nat) : Int) := by rw [wa_rne (by omega)]; exact h98
  have nd3 : NDs PR m (wa w1 92 p ((W : Nat) : Int)) := NDs_w nd (g3.1.1 118 (by simp)) (g3.1.2.2.1 109 (by simp)) (g3.1.2.2.1 113 (by simp))
  generalize hw3 : wa w1 92 p ((W : Nat) : Int) = w3 at pd g3 h983 nd3
  have bad : PP Q (bnd (hm_Ma_wrong N m p 11) (fun u _ => bnd (hb_Ma_predefined_146 N () u p) (fun u _ => K1 u))) (bnd (fr_M_error N w3 11) (fun u _ => K2 u)) := by
    rw [wrong_e9, bnd_so, pre_tl ⟨by omega, by omega⟩ (by omega), bnd_so]
    exact kX w3 pd g3 ⟨by rw [← hw3]; rfl, by rw [← hw3]; rfl⟩
  have ans : ∀ t2 x2 : Int64, RTb b t2 x2 → PP Q (bnd (hm_Ma_answer N m p 1 t2) (fun u _ => bnd (hb_Ma_predefined_146 N () u p) (fun u _ => K1 u))) (bnd (fm_M_put N w3 x2) (fun u _ => K2 u)) := fun t2 x2 h => by
    unfold hm_Ma_answer hb_Ma_answer_0
    rw [show (1 : Int32) = I 1 from rfl, drop_e (W := W + 1) (k := 1) (x := 1) pl.2.2.1.1 rfl (by omega), bnd_so, Nat.add_sub_cancel]
    simp only [bb_e, bnd_so]
    exact pre_pp (l := l) hp1 ru (by omega) ⟨by omega, hl2.2⟩ h FGm.drop g3 pd (by rw [wi_ne (pq_inj (by omega))]; exact hl) h983 (by rw [wi_ne (pq_n (by omega))]; exact r2) (by omega) cr c
  have tk := take_r (N := N) (W := W) hp1 x33 pl.2.2.1.2.1 (by omega)
  generalize ht : m.2.2.2 (pq p 35) W = t at rt be
  have sx := RTb_so rt
  have dt : decide (I (so t) = 1) = decide (so t = 1) := by rw [lit1, decE (so_r _).1 (so_r _).2 (by omega) (by omega)]
  rcases hd with rfl | rfl
  · rw [pm13, show (13 : Int) + 1 = 14 from rfl, pr14, nam13y, nar14]
    unfold nmR
    dsimp only
    refine l_bb (r_bb ?_)
    refine rb_bnd (pk_mo tk (fun w4 r e => ?_))
    obtain ⟨rfl, rfl⟩ := e
    rw [hw3, be, bnd_so, e_tag, bnd_so, sortOf_e, bnd_so, sx, dt]
    by_cases e1 : so t = 1
    · have xt := RTb_n rt (by unfold isH; omega)
      rw [decide_eq_true e1, br_t, br_t, valueOf_e, bnd_so, xt, valI]
      refine l_bb (r_bb (pp_bb (pp_mo (named_pn (N := N) (v := I (va t)) nd3) (fun m4 o w4 r h => ?_))))
      obtain ⟨⟨rfl, rfl⟩, ⟨rfl, rfl⟩ | ⟨q, hq, rfl, rfl, qa, -⟩⟩ := h
      · rw [show decide ((none : Option Nat) = none) = true from rfl, br_t, sortOf_e, bnd_so, dt, decide_eq_true e1, br_t, n59_14, show decide (I (-1) = -1) = true from rfl, br_t]
        simp only [bb_e, bnd_so]
        exact bad
      · rw [show decide ((some q : Option Nat) = none) = false from rfl, br_f, sortOf_e, bnd_so, dt, decide_eq_true e1, br_t, n59_14, show decide (I ((q : Nat) : Int) = -1) = false from by rw [show (-1 : Int32) = I (-1) from rfl, decE (by omega) (by omega) (by omega) (by omega)]; exact decide_eq_false (by omega), br_f]
        unfold fb_M_nameRun_227 fb_M_nameRun_236
        refine rb_ck (fun _ => rb_ck (fun _ => ?_))
        rw [tnI (n := q) rfl (by omega), show (-1 : Int32) = I (-1) from rfl, wa_e, lt_e, truth1, bnd_so]
        show PP Q (bnd (lt (upI m4 (pq q 12) (I (-1))) (fun w19 => bnd (hm_Ma_atom N w19 0) (fun u20 r20 => bnd (hm_Ma_answer N u20 p 1 r20) (fun u21 r21 => some (u21, ()))))) _) _
        rw [wi_e, lt_e, show hm_Ma_atom N (wi m4 (pq q 12) (-1)) 0 = some (wi m4 (pq q 12) (-1), mk 1 0) from rfl, bnd_so]
        simp only [bb_e, bnd_so]
        exact nm_ans (c := 1) hp1 (by omega) ru (by omega) (by omega) (by omega) hl hl2 pl.2.2.1.1 pd g3 h983 cr (fun m3 w3 => cN q m3 w3 hq qa)
    · rw [decide_eq_false e1, br_f, br_f, sortOf_e, bnd_so, sx, dt, decide_eq_false e1, br_f, n59_0 (Or.inr (Or.inl rfl))]
      simp only [bb_e, bnd_so]
      exact bad
  · rw [pm14, show (14 : Int) + 1 = 15 from rfl, pr15, nam14y, nar15]
    unfold nmR
    dsimp only
    refine l_bb (r_bb ?_)
    refine rb_bnd (pk_mo tk (fun w4 r e => ?_))
    obtain ⟨rfl, rfl⟩ := e
    rw [hw3, be, bnd_so, e_tag, bnd_so, sortOf_e, bnd_so, sx, dt]
    by_cases e1 : so t = 1
    · have xt := RTb_n rt (by unfold isH; omega)
      rw [decide_eq_true e1, br_t, br_t, valueOf_e, bnd_so, xt, valI]
      refine l_bb (r_bb (pp_bb (pp_mo (named_pn (N := N) (v := I (va t)) nd3) (fun m4 o w4 r h => ?_))))
      obtain ⟨⟨rfl, rfl⟩, ⟨rfl, rfl⟩ | ⟨q, hq, rfl, rfl, qa, -⟩⟩ := h
      · rw [show decide ((none : Option Nat) = none) = true from rfl, br_t, sortOf_e, bnd_so, dt, decide_eq_true e1, br_t, n59_15, show decide (I (-1) = -1) = true from rfl, br_t, show hm_Ma_atom N m4 3 = some (m4, mk 1 3) from rfl, bnd_so, show (1 : Int32) = I 1 from rfl, show (3 : Int32) = I 3 from rfl, term_e, bnd_so]
        unfold hb_Ma_naming_74
        simp only [bb_e, bnd_so]
        exact ans _ _ (lit_b (v := 1) (Or.inr (Or.inl rfl)) (fun h => by omega) ⟨by omega, by omega⟩)
      · rw [show decide ((some q : Option Nat) = none) = false from rfl, br_f, sortOf_e, bnd_so, dt, decide_eq_true e1, br_t, n59_15, show decide (I ((q : Nat) : Int) = -1) = false from by rw [show (-1 : Int32) = I (-1) from rfl, decE (by omega) (by omega) (by omega) (by omega)]; exact decide_eq_false (by omega), br_f, show (4 : Int32) = I 4 from rfl, term_e, bnd_so]
        show PP Q (bnd (bnd (hm_Te_make N m4 (I 4) (Int32.ofNat q)) (fun u25 r25 => hb_Ma_naming_74 N () u25 p 1 r25)) _) _
        rw [oI, e_make, bnd_so]
        unfold hb_Ma_naming_74
        simp only [bb_e, bnd_so]
        exact ans _ _ (RTb_lit (nh_mk (by omega)) (fun c => by rw [so_mk (by omega) (by omega)] at c; omega))
    · rw [decide_eq_false e1, br_f, br_f, sortOf_e, bnd_so, sx, dt, decide_eq_false e1, br_f, n59_0 (Or.inr (Or.inr rfl))]
      simp only [bb_e, bnd_so]
      exact bad
/-- a name is given -/
theorem op_name2 (hp1 : p < 24) (nd : NDs PR m w) (dwc : DWc Fv P PR m) (hP4 : so (m.2.2.2 (pq p 35) (W + 1)) = 4 → 0 ≤ va (m.2.2.2 (pq p 35) (W + 1)) ∧ va (m.2.2.2 (pq p 35) (W + 1)) < ((PR : Nat) : Int)) (ru : RUs m w p j nb Hs Os y a n) (hW : W + 2 ≤ 46000) (hl : F m (pq p 45) = ((l : Nat) : Int)) (hl2 : W + 2 ≤ l ∧ l ≤ 1000000) (pl : PLs b p m w1 U B (W + 2) Y) (g1 : FGw p j w w1) (h98 : A w1 98 (60 * p + j) = ((n + 1 : Nat) : Int)) (cr : ∃ f, CRs (A m 23) (ROs w) (w.2.2.2 34) f y (a + 2) (n + 1) (Hs j) (Os j))
    (cN : ∀ q z m3 w3, q < PR → F m (pq q 9) ≠ 3 → RG z → PLs b p m3 w3 U B (W + 1) Y → RUs m3 w3 p j nb Hs Os y (a + 2) (n + 1) → FGm p (wi m (pq q 12) z) m3 → FGw p j (wa w 113 q z) w3 → PP Q (K1 m3) (K2 w3))
    (kX : ∀ w3, PLs b p (wi m (pq p 26) ((W : Nat) : Int)) w3 U B W Y → FGw p j w w3 → (w3.2.2.2 88 = w1.2.2.2 88 ∧ w3.1 140 = w1.1 140) → PP Q (K1 (tld m 1 (-1) (mk 1 11))) (bnd (fr_M_error N w3 11) (fun u _ => K2 u))) : PP Q (bnd (hm_Ma_predefined N m p (I 12)) (fun u _ => K1 u)) (bnd (fm_M_predefinedRun N w1 (I 13)) (fun u _ => K2 u)) := by
  obtain ⟨⟨fa, -⟩, ⟨r2, -⟩, -, -, -, ⟨-, r9, -⟩, r11, -, -⟩ := id ru
  have p24 := nd.1.2.2
  have x33 : F w1 133 = ((p : Nat) : Int) := by rw [FR.F g1.1 (by simp)]; exact r11
  have rt0 := pl.2.2.1.2.2 (W + 1) (by omega)
  have rt := pl.2.2.1.2.2 W (by omega)
  have be0 : hm_Fr_below N m p 0 = some (m, m.2.2.2 (pq p 35) (W + 1)) := by
    have := below_e (N := N) (x := 0) (k := 0) (W := W + 2) (l := l) pl.2.2.1.1 hl hl2.1 hl2.2 rfl (by omega)
    rw [show W + 2 - 1 - 0 = W + 1 by omega] at this
    exact this
  have be : hm_Fr_below N m p 1 = some (m, m.2.2.2 (pq p 35) W) := by
    have := below_e (N := N) (x := 1) (k := 1) (W := W + 2) (l := l) pl.2.2.1.1 hl hl2.1 hl2.2 rfl (by omega)
    rw [show W + 2 - 1 - 1 = W by omega] at this
    exact this
  have pd0 := PLs_drop (k := 2) (W := W) pl (by omega)
  have g3 : FGw p j w (wa (wa w1 92 p ((W + 1 : Nat) : Int)) 92 p ((W : Nat) : Int)) := FGw.tr (FGw.tr g1 FGw.w92) FGw.w92
  have h983 : A (wa (wa w1 92 p ((W + 1 : Nat) : Int)) 92 p ((W : Nat) : Int)) 98 (60 * p + j) = ((n + 1 : Nat) : Int) := by rw [wa_rne (by omega), wa_rne (by omega)]; exact h98
  have nd3 : NDs PR m (wa (wa w1 92 p ((W + 1 : Nat) : Int)) 92 p ((W : Nat) : Int)) := NDs_w nd (g3.1.1 118 (by simp)) (g3.1.2.2.1 109 (by simp)) (g3.1.2.2.1 113 (by simp))
  have pd : PLs b p (wi m (pq p 26) ((W : Nat) : Int)) (wa (wa w1 92 p ((W + 1 : Nat) : Int)) 92 p ((W : Nat) : Int)) U B W Y := PLs_cg pd0 (fun _ _ => rfl) (fun _ _ => rfl) (fun _ _ => rfl) (fun _ _ => rfl) (fun _ _ => rfl) (fun k hk => by
    by_cases c : k = 92
    · subst c
      rw [wa_s1, wa_s1]
    · rw [wa_at (by omega), wa_at (by omega), wa_at (by omega)]) (fun _ _ => rfl) (fun _ _ => rfl) (fun _ _ => rfl) (fun _ _ => rfl)
  have y33 : F (wa w1 92 p ((W + 1 : Nat) : Int)) 133 = ((p : Nat) : Int) := x33
  have y92 : A (wa w1 92 p ((W + 1 : Nat) : Int)) 92 p = ((W + 1 : Nat) : Int) := wa_sm (by omega) (by omega)
  have tk0 := take_r (N := N) (W := W + 1) hp1 x33 pl.2.2.1.2.1 (by omega)
  have tk := take_r (N := N) (W := W) hp1 y33 y92 (by omega)
  have j91 : (wa w1 92 p ((W + 1 : Nat) : Int)).2.2.2 91 (46000 * p + W) = w1.2.2.2 91 (46000 * p + W) := rfl
  generalize hw3 : wa (wa w1 92 p ((W + 1 : Nat) : Int)) 92 p ((W : Nat) : Int) = w3 at pd g3 h983 nd3 tk
  have bad : PP Q (bnd (hm_Ma_wrong N m p 11) (fun u _ => bnd (hb_Ma_predefined_146 N () u p) (fun u _ => K1 u))) (bnd (fr_M_error N w3 11) (fun u _ => K2 u)) := by
    rw [wrong_e9, bnd_so, pre_tl ⟨by omega, by omega⟩ (by omega), bnd_so]
    exact kX w3 pd g3 ⟨by rw [← hw3]; rfl, by rw [← hw3]; rfl⟩
  generalize ht : m.2.2.2 (pq p 35) W = t at rt be
  generalize hs : m.2.2.2 (pq p 35) (W + 1) = s at rt0 be0 hP4
  have sx := RTb_so rt
  have sx0 := RTb_so rt0
  have dt : decide (I (so t) = 1) = decide (so t = 1) := by rw [lit1, decE (so_r _).1 (so_r _).2 (by omega) (by omega)]
  have ds : decide (I (so s) = 4) = decide (so s = 4) := by rw [show (4 : Int32) = I 4 from rfl, decE (so_r _).1 (so_r _).2 (by omega) (by omega)]
  have n147 : hb_Ma_naming_147 N () m p = bnd (hm_Ma_wrong N m p 11) (fun u1 r1 => some (u1, ())) := rfl
  rw [pm12, pr13, nam12y, nar13]
  unfold nmR
  dsimp only
  refine l_bb (r_bb ?_)
  refine rb_bnd (pk_mo tk0 (fun w4 r e => ?_))
  obtain ⟨rfl, rfl⟩ := e
  generalize hx0 : w1.2.2.2 91 (46000 * p + (W + 1)) = x0 at rt0 sx0
  refine rb_bnd (pk_mo tk (fun w4 r e => ?_))
  obtain ⟨rfl, rfl⟩ := e
  rw [j91, be, bnd_so, e_tag, bnd_so, sortOf_e, bnd_so, sx, dt]
  by_cases e1 : so t = 1
  · have xt := RTb_n rt (by unfold isH; omega)
    rw [decide_eq_true e1, br_t, br_t, valueOf_e, bnd_so, xt, valI]
    refine l_bb (r_bb (pp_bb (pp_mo (named_pn (N := N) (v := I (va t)) nd3) (fun m4 o w4 r h => ?_))))
    have rest : ∀ r : Int32, bnd (fm_M_sortOf N w4 t) (fun u13 r13 => br (decide (r13 = 1)) (fb_M_nameRun_59 N () u13 (I 13) x0 t r 1) (fb_M_nameRun_59 N () u13 (I 13) x0 t r 0)) = fb_M_nameRun_59 N () w4 (I 13) x0 t r 1 := fun r => by
      rw [sortOf_e, bnd_so, dt, decide_eq_true e1, br_t]
    rw [rest, n59_13]
    have pa : hm_Ma_processAt N m p 0 = bnd (hm_Fr_below N m p 0) (fun u2 r2 => bnd (hm_Te_tag N u2 r2) (fun u4 r4 => br (decide (r4 = 4)) (bnd (hm_Wl_find N u4 (r2.toInt32)) (fun u6 r6 => some (u6, r6))) (some (u4, none)))) := rfl
    obtain ⟨⟨rfl, rfl⟩, h⟩ := h
    rw [pa, be0, bnd_so, e_tag, bnd_so, ds]
    by_cases e4 : so s = 4
    · have x0s := RTb_n rt0 (by unfold isH; omega)
      obtain ⟨v0, v1⟩ := hP4 e4
      obtain ⟨q, hq⟩ : ∃ q : Nat, va s = ((q : Nat) : Int) := ⟨(va s).toNat, by omega⟩
      rw [decide_eq_true e4, br_t, valI, hq, find_e (q := q) dwc (by omega), bnd_so, bnd_so, show decide ((some q : Option Nat) = none) = false from rfl, br_f]
      rcases h with ⟨rfl, rfl⟩ | ⟨q2, hq2, rfl, rfl, qa, -⟩
      · rw [show decide ((none : Option Nat) = none) = true from rfl, br_t, show decide (I (-1) = -1) = true from rfl, br_t, sortOf_e, bnd_so, sx0, ds, decide_eq_true e4, br_t, valueOf_e, bnd_so, x0s, hq, tnI (n := q) rfl (by omega)]
        refine rb_ck (fun _ => ?_)
        show PP Q (bnd (br (decide ((m4.1 (pq q 12)) = (-1))) (br (decide ((m4.1 (pq q 9)) = 3)) (hb_Ma_naming_147 N () m4 p) (lt (upI m4 (pq q 12) (I (va t))) (fun w15 => bnd (hm_Ma_atom N w15 0) (fun u16 r16 => bnd (hm_Ma_answer N u16 p 2 r16) (fun u17 r17 => some (u17, ())))))) (hb_Ma_naming_147 N () m4 p)) _) _
        have rr9 := F_r m4 (pq q 9)
        have rw9 := A_r w4 109 q
        rw [I_F (w := m4) (k := pq q 9), I_A (w := w4) (k := 109) (i := q), show (3 : Int32) = I 3 from rfl, decE rr9.1 rr9.2 (by omega) (by omega), decE rw9.1 rw9.2 (by omega) (by omega), n147]
        rcases nd3.2.2 q (by omega) with ⟨x1, x2, x3⟩ | ⟨x1, x2⟩
        · rw [decide_eq_false x1, decide_eq_false x2, br_f, br_f, valueOf_e, bnd_so, x3, hq, tnI (n := q) rfl (by omega)]
          refine rb_ck (fun _ => ?_)
          by_cases e5 : w4.2.2.1 113 q = -1
          · rw [decide_eq_true e5, br_t, br_t, valueOf_e, bnd_so, valueOf_e, bnd_so, hq]
            unfold fb_M_nameRun_227 fb_M_nameRun_236
            refine rb_ck (fun _ => rb_ck (fun _ => ?_))
            rw [tnI (n := q) rfl (by omega), wa_e, lt_e, lt_e, truth1, bnd_so, wi_e, show hm_Ma_atom N (wi m4 (pq q 12) (va t)) 0 = some (wi m4 (pq q 12) (va t), mk 1 0) from rfl, bnd_so]
            simp only [bb_e, bnd_so]
            exact nm_ans (c := 2) hp1 (by omega) ru (by omega) (by omega) (by omega) hl hl2 pl.2.2.1.1 pd g3 h983 cr (fun m3 w3 => cN q (va t) m3 w3 (by omega) x1 (va_r t))
          · rw [decide_eq_false e5, br_f, br_f]
            simp only [bb_e, bnd_so]
            exact bad
        · rw [decide_eq_true x1, decide_eq_true x2, br_t, br_t]
          refine lb_br (fun _ => ?_) (fun _ => ?_)
          · simp only [bb_e, bnd_so]
            exact bad
          · simp only [bb_e, bnd_so]
            exact bad
      · rw [show decide ((some q2 : Option Nat) = none) = false from rfl, br_f, show decide (I ((q2 : Nat) : Int) = -1) = false from by rw [show (-1 : Int32) = I (-1) from rfl, decE (by omega) (by omega) (by omega) (by omega)]; exact decide_eq_false (by omega), br_f, n147]
        simp only [bb_e, bnd_so]
        exact bad
    · rw [decide_eq_false e4, br_f, bnd_so, show decide ((none : Option Nat) = none) = true from rfl, br_t, n147, sortOf_e, bnd_so, sx0, ds, decide_eq_false e4, br_f]
      simp only [bb_e, bnd_so]
      refine rb_br (fun _ => ?_) (fun _ => ?_)
      · simp only [bb_e, bnd_so]
        exact bad
      · simp only [bb_e, bnd_so]
        exact bad
  · rw [decide_eq_false e1, br_f, br_f, sortOf_e, bnd_so, sx, dt, decide_eq_false e1, br_f, n59_0 (Or.inl rfl)]
    simp only [bb_e, bnd_so]
    exact bad
end
