/-! the one that goes ENDS by itself -/
set_option maxRecDepth 100000
section
variable {b : Int → Nat → Nat → Prop} {Fv Fv' : Int64 → Int64 → Prop} {P P' : Int64 → Prop} {N PR p i j e e' U o hm : Nat} {m w m1 w1 : MS} {t x : Int64} {wr : Int} {cur : Option Nat} {ow kd ow' kd' ow2 kd2 : Nat → Nat}
theorem WL_end2 (W : WLs (RRt p) PR Fv P Fv' P' cur i j m w) (hpp : p < PR) (hal : F m (pq p 9) ≠ 3 ∧ A w 109 p ≠ 3) (hc : some p ≠ cur) (g1 : GGm p m m1) (g2 : GGw p w w1) (sc : SCs p m1 w1) (b15 : 0 ≤ F m1 (pq p 15) ∧ F m1 (pq p 15) ≤ 24) (h5 : m1.1 (pq p 5) = w1.2.2.1 90 p) (he : F m 955 = ((e : Nat) : Int) ∧ e < 24) (he' : F w 150 = ((e' : Nat) : Int) ∧ e' < 4000) (hw : RG wr) (ho : o < 25) (s2 : SFs Fv P Fv' P' PR (enS m1 p t hm e) (enR w1 p wr ((o : Nat) : Int) x e')) (rq : RQs Fv P Fv' P' PR (enS m1 p t hm e) (enR w1 p wr ((o : Nat) : Int) x e') p wr o x) : WLs (RRt p) PR Fv P Fv' P' cur i j (enS m1 p t hm e) (enR w1 p wr ((o : Nat) : Int) x e') := by
  have p24 := W.1.2.1.1.1.2
  obtain ⟨L, l1, l2⟩ := LS_of sc b15
  have fr := enR_fr (w := w1) (q := p) (wr := wr) (o := o) (x := x) (e := e')
  obtain ⟨k1, k2⟩ := enS_q (m := m1) (t := t) (hm := hm) (show e < 1000 by omega) (show p < 1000 by omega)
  obtain ⟨r1, r2, r3, r4, r5⟩ := enR_q (w := w1) (x := x) (show e' < 10000 by omega) (show p < 1000 by omega) (show o < 1000 by omega) hw
  have v := enS_v (m := m1) (q := p) (t := t) (hm := hm) (e := e)
  have a9 := enR_9 (w := w1) (q := p) (wr := wr) (o := o) (x := x) (e := e')
  have n9 : ∀ k, k < 100 → k ≠ 9 → k ≠ 17 → (enS m1 p t hm e).1 (pq p k) = m1.1 (pq p k) := fun k h0 h4 h5 => enS_1 (pq_inj h4) (pq_inj h5) (fun c => pq_n (by omega) c.symm)
  have aw : ∀ K, K = 113 ∨ K = 114 ∨ K = 116 ∨ K = 117 → (enR w1 p wr ((o : Nat) : Int) x e').2.2.1 K = w1.2.2.1 K := fun K h => fr.2.2.1 K (by simp; omega)
  have qe : QEs (enS m1 p t hm e) (enR w1 p wr ((o : Nat) : Int) x e') p := ⟨by rw [n9 12 (by omega) (by omega) (by omega), aw 113 (by omega)]; exact sc.1, by rw [n9 13 (by omega) (by omega) (by omega), aw 114 (by omega)]; exact sc.2.1, by rw [n9 5 (by omega) (by omega) (by omega), fr.2.2.1 90 (by simp)]; exact h5, L, LSm_st l1 (n9 15 (by omega) (by omega) (by omega)) (enS_3 (fun c => pq_n (by omega) c.symm)), LSw_fr l2 (aw 116 (by omega)) (aw 117 (by omega))⟩
  have D : ∀ d, d ≠ p → LOCm d m (enS m1 p t hm e) ∧ LOCw d w (enR w1 p wr ((o : Nat) : Int) x e') := fun d hd => ⟨LOCm.tr (g1.1 d hd) (LOCm_en hd), LOCw.tr (g2.1 d hd) (LOCw_en hd)⟩
  have pg : PG0 m w (enS m1 p t hm e) (enR w1 p wr ((o : Nat) : Int) x e') := PG0.tr (PG0_gg g1 g2) PGs_en.1
  have dq : ∀ d, F m (pq d 9) = 3 → d ≠ p := fun d hd c => hal.1 (by rw [← c]; exact hd)
  have dq2 : ∀ d, d = 24 ∨ A w 109 d = 3 → d ≠ p := fun d hd c => by
    rcases hd with hd | hd
    · omega
    · exact hal.2 (by rw [← c]; exact hd)
  have f9 : ∀ d, d ≠ p → F (enS m1 p t hm e) (pq d 9) = F m (pq d 9) := fun d hd => congrArg Int32.toInt ((D d hd).1 9 (by omega)).1
  have a9' : ∀ d, d ≠ p → A (enR w1 p wr ((o : Nat) : Int) x e') 109 d = A w 109 d := fun d hd => congrArg Int32.toInt ((D d hd).2.1 109 d (Or.inl ⟨by omega, rfl⟩))
  have dm : ∀ d, F m (pq d 9) = 3 → F (enS m1 p t hm e) (pq d 9) = 3 ∧ (enS m1 p t hm e).2.2.2 (pq d 2) = m.2.2.2 (pq d 2) ∧ (enS m1 p t hm e).1 (pq d 17) = m.1 (pq d 17) ∧ (enS m1 p t hm e).2.1 (pq d 16) = m.2.1 (pq d 16) := fun d hd => ⟨by rw [f9 d (dq d hd)]; exact hd, ((D d (dq d hd)).1 2 (by omega)).2.2.2, ((D d (dq d hd)).1 17 (by omega)).1, ((D d (dq d hd)).1 16 (by omega)).2.1⟩
  refine WL_gen W s2 dm (fun d hd => ⟨fun i hi => (D d (dq2 d hd)).2.2.2.2.2.1 _ (by omega) (by omega), congrArg Int32.toInt ((D d (dq2 d hd)).2.2.1 89 (by omega))⟩) (fun d hd => by rw [a9' d (dq2 d (Or.inr hd))]; exact hd) (fun r _ hr _ h => QEs_st h (D r (dq r hr)).1 (D r (dq r hr)).2) (fun r _ _ h => DEs_st h pg (D r (dq r h.1)).1 (D r (dq r h.1)).2 (fun d hd => ⟨(dm d hd).1, (dm d hd).2.1⟩)) (fun r hr x1 x2 x3 => ?_) ⟨e, e', he.1, he'.1, fun k hk => ?_, fun k hk => ⟨fun K hK => ?_, ?_⟩, Or.inr ⟨k1, r1, ⟨p, wr, o, ⟨hpp, hc, v.1⟩, ?_, ?_, ?_, ?_, ?_, qe⟩, p, hal.1, ?_⟩⟩
  · by_cases rq : r = p
    · subst rq
      refine Or.inr ⟨v.1, by rw [a9, if_pos rfl], ?_, by rw [k1, he.1]; omega⟩
      rw [he.1, show ((e : Nat) : Int).toNat = e by omega, k2, if_pos rfl]
    · obtain ⟨b, U, B, W4, Y, pl, sc, rr⟩ := x3
      obtain ⟨-, -, ⟨b1, b2, b3⟩, b4⟩ := SF_al W.1 hr x1 pl
      have hU := pl.1.1.2.2
      obtain ⟨l1, l2⟩ := D r rq
      refine Or.inl ⟨by rw [f9 r rq]; exact x1, by rw [a9' r rq]; exact x2, b, U, B, W4, Y, PLs_cg pl (fun k hk => (l1 k (by simp at hk; omega)).1) (fun i _ => by rw [(l1 2 (by omega)).2.2.2]) (fun i _ => by rw [(l1 33 (by omega)).2.2.2]) (fun i _ => by rw [(l1 35 (by omega)).2.2.2]) (fun i _ => by rw [(l1 6 (by omega)).2.2.2]) (fun k hk => ?_) (fun i hi => l2.2.2.2.2.1 _ (by omega) (by omega)) (fun i hi => l2.2.2.2.2.2.2.1 _ (by omega) (by omega)) (fun i hi => l2.2.2.2.2.2.1 _ (by omega) (by omega)) (fun i hi => l2.2.2.2.2.2.2.2 _ (by omega) (by omega)), SC_eq sc b4.2 (EQm_loc pg l1) (EQw_loc pg l2), RRt_st rr (EQm_loc pg l1).n (EQw_loc pg l2).v⟩
      simp only [List.mem_cons, List.not_mem_nil, or_false] at hk
      rcases hk with rfl | rfl | rfl | rfl | rfl
      · exact l2.2.1 89 (by omega)
      · exact l2.2.1 90 (by omega)
      · exact l2.1 92 r (Or.inl ⟨by omega, rfl⟩)
      · exact l2.1 94 r (Or.inl ⟨by omega, rfl⟩)
      · exact l2.2.1 108 (by omega)
  · rw [k2, if_neg (by omega)]
    show (m1.2.2.1 54 k).toInt = _
    rw [g1.2.2.2.1]
    rfl
  · have eK : A w1 K k = A w K k := by
      show (w1.2.2.1 K k).toInt = _
      rw [g2.2.2.2.1 K hK]
      rfl
    rcases hK with rfl | rfl | rfl
    · rw [r2, if_neg (by omega)]; exact eK
    · rw [r3, if_neg (by omega)]; exact eK
    · rw [r4, if_neg (by omega)]; exact eK
  · rw [r5, if_neg (by omega), g2.2.2.2.2.1]
  · rw [k2, if_pos rfl]
  · rw [r2, if_pos rfl]
  · rw [r3, if_pos rfl]
  · rw [r4, if_pos rfl]
  · rw [r5, if_pos rfl]; exact rq
  · rw [k2, if_pos rfl]
theorem hp_enR : hp (enR w1 p wr ((o : Nat) : Int) x e') p = hp w1 p := by
  unfold hp
  rw [(enR_fr (w := w1) (q := p) (wr := wr) (o := o) (x := x) (e := e')).2.2.2 88 (by simp)]
theorem TE_own {B W Y : Nat} (hp' : p < PR) (p24 : p < 24) (cx : CX w p (hp w p) U ow' kd' Fv' P' W B Y) (h89 : A w 89 p = ((U : Nat) : Int)) (hU : U ≤ 500) (g' : GT U ow' kd' P' x) : TE Fv' P' (enR w p wr ((o : Nat) : Int) x e') PR p x := by
  have fr := enR_fr (w := w) (q := p) (wr := wr) (o := o) (x := x) (e := e')
  by_cases z : isH x
  · refine Or.inr ⟨z, Or.inr ⟨hp', by rw [enR_9, if_pos rfl]⟩, U, ow', kd', by rw [FR.A fr (by simp)]; exact h89, hU, by rw [hp_enR]; exact cx.2.1, g'⟩
  · refine Or.inl ⟨z, ?_⟩
    rcases g' with g | g
    · exact g.2
    · exact absurd g.1 z
/-- its REASON is a term of its own -/
theorem RQ_own {B W Y : Nat} (hp' : p < PR) (p24 : p < 24) (is : ISb b (m.2.2.2 (pq p 2)) U (hp w p) U) (hg : HPc (m.2.2.2 (pq p 2)) U ow kd Fv P) (cx : CX w p (hp w p) U ow' kd' Fv' P' W B Y) (h89 : A w 89 p = ((U : Nat) : Int)) (hU : U ≤ 500) (g : GT U ow kd P t) (g' : GT U ow' kd' P' x) (rt : RTb b t x) : RQs Fv P Fv' P' PR (enS m p t p e) (enR w p 0 ((p : Nat) : Int) x e') p 0 p x := by
  have v := enS_v (m := m) (q := p) (t := t) (hm := p) (e := e)
  obtain ⟨f, s, z⟩ := HP_szc hg g
  obtain ⟨f', s', z'⟩ := HP_sz cx.2.1 g'
  have es := SZ_iso is rt z z'
  subst es
  refine ⟨p, s, by rw [v.2.1]; exact rf_some p24, hp', v.1, Or.inr ⟨hp', by rw [enR_9, if_pos rfl]⟩, ⟨by omega, Or.inr ⟨p, b, U, ow, kd, f, U, ow', kd', f', rfl, ⟨hg, by omega, fun c => by omega⟩, ⟨by rw [hp_enR]; exact cx.2.1, hU, fun c => by omega⟩, by rw [hp_enR]; exact is.w, by rw [v.2.2]; exact z, Or.inl ⟨rfl, by rw [v.2.2]; exact rt, by rw [hp_enR]; exact z'⟩⟩⟩, TE_own hp' p24 cx h89 hU g'⟩
/-- its REASON is wrapped: a TUPLE there -/
theorem RQ_wrap {B W Y : Nat} (hp' : p < PR) (p24 : p < 24) (hwr : wr = 1 ∨ wr = 2) (is : ISb b (m.2.2.2 (pq p 2)) U (hp w p) U) (hh : ∀ i, i < U → m1.2.2.2 (pq p 2) i = m.2.2.2 (pq p 2) i) (c0 : m1.2.2.2 (pq p 2) U = mk 8 2) (c1 : m1.2.2.2 (pq p 2) (U + 1) = mk 1 (if wr = 1 then 7 else 19)) (c2 : m1.2.2.2 (pq p 2) (U + 2) = t) (hg : HPc (m1.2.2.2 (pq p 2)) (U + 3) ow2 kd2 Fv P) (gt : GT (U + 3) ow2 kd2 P (mk 5 ((U : Nat) : Int))) (cx : CX w p (hp w p) U ow' kd' Fv' P' W B Y) (h89 : A w 89 p = ((U : Nat) : Int)) (hU : U ≤ 500) (g' : GT U ow' kd' P' x) (rt : RTb b t x) : RQs Fv P Fv' P' PR (enS m1 p (mk 5 ((U : Nat) : Int)) p e) (enR w p wr ((p : Nat) : Int) x e') p wr p x := by
  have v := enS_v (m := m1) (q := p) (t := mk 5 ((U : Nat) : Int)) (hm := p) (e := e)
  have s5 : so (mk 5 ((U : Nat) : Int)) = 5 := so_mk (by omega) (by omega)
  have v5 : va (mk 5 ((U : Nat) : Int)) = ((U : Nat) : Int) := va_mk (by omega) (by omega)
  have n5 : vn (mk 5 ((U : Nat) : Int)) = U := by unfold vn; rw [v5]; omega
  have pr : prt (mk 5 ((U : Nat) : Int)) = 1 := by unfold prt; rw [s5, if_neg (by omega), if_pos rfl]
  have c8 : vn (mk 8 2) = 2 := by unfold vn; rw [va_mk (by omega) (by omega)]; rfl
  have bl : blk (m1.2.2.2 (pq p 2)) (mk 5 ((U : Nat) : Int)) = 3 := by unfold blk; rw [s5, if_neg (by omega), if_pos rfl, n5, c0, c8]
  have is1 : ISb b (m1.2.2.2 (pq p 2)) (U + 3) (hp w p) U := ISb_up (ISb_ag is hh (fun _ _ => rfl)) (by omega) (Nat.le_refl _)
  obtain ⟨f', z, z'⟩ := HP_sz cx.2.1 g'
  obtain ⟨f, s, zs⟩ := HP_szc hg gt
  have es : s = 3 + z := by
    match f, zs with
    | 0, zs => exact zs.elim
    | f + 1, zs =>
      rcases zs with ⟨z1, -⟩ | ⟨-, -, c, z3, z4⟩
      · exact absurd (isH_mk (by omega)) z1
      · have y1 := z3 1 (by rw [pr]; omega) (by rw [bl]; omega)
        have y2 := z3 2 (by rw [pr]; omega) (by rw [bl]; omega)
        rw [n5, c1] at y1
        rw [n5, c2] at y2
        have e1 : c 1 = 0 := by
          match f, y1 with
          | 0, y1 => exact y1.elim
          | f + 1, y1 =>
            rcases y1 with ⟨-, -, e⟩ | ⟨e, -⟩
            · exact e
            · exact absurd e (nh_mk (by omega))
        have e2 := SZ_iso is1 rt y2 z'
        have e3 : smm c 1 2 = c 1 + c 2 := by rw [smm_split, smm_split]; rfl
        rw [z4, bl, pr, e3, e1, e2]
        omega
  refine ⟨p, s, by rw [v.2.1]; exact rf_some p24, hp', v.1, Or.inr ⟨hp', by rw [enR_9, if_pos rfl]⟩, ⟨by omega, Or.inr ⟨p, b, U + 3, ow2, kd2, f, U, ow', kd', f', rfl, ⟨hg, by omega, fun c => by omega⟩, ⟨by rw [hp_enR]; exact cx.2.1, hU, fun c => by omega⟩, by rw [hp_enR]; exact is1.w, by rw [v.2.2]; exact zs, Or.inr ⟨z, hwr, es, by rw [v.2.2]; exact s5, by rw [v.2.2]; exact bl, ?_, ?_, by rw [hp_enR]; exact z'⟩⟩⟩, TE_own hp' p24 cx h89 hU g'⟩
  · rw [v.2.2, n5]; exact c1
  · rw [v.2.2, n5]
    show RTb b (m1.2.2.2 (pq p 2) (U + 2)) x
    rw [c2]; exact rt
end
