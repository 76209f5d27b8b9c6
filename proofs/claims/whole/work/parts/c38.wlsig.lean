/-! an end, a message, a signal while ends are told -/
set_option maxRecDepth 100000
section
variable {b : Int → Nat → Nat → Prop} {Fv Fv' : Int64 → Int64 → Prop} {P P' : Int64 → Prop} {N f PR q r o s U B W Y i j d e e' hm : Nat} {m w m1 w1 m2 w2 m3 w3 : MS} {t x : Int64} {wr v4 : Int} {cur src : Option Nat} {RR : Nat → MS → MS → Prop}
theorem lgc_eq (x y : Int64) : lg_cmp x y = 0 ↔ x = y := by
  unfold lg_cmp
  simp only [gt_iff_lt, Int64.lt_iff_toInt_lt, ← Int64.toInt_inj]
  repeat' split
  all_goals (constructor <;> intro h <;> first | omega | exact absurd h (by decide) | decide | rfl)
theorem LSw_fr {L : List Int} (s : LSw w r L) (h1 : w2.2.2.1 116 = w.2.2.1 116) (h2 : w2.2.2.1 117 = w.2.2.1 117) : LSw w2 r L := ⟨by show (w2.2.2.1 117 r).toInt = _; rw [h2]; exact s.1, s.2.1, fun i x hx => by show (w2.2.2.1 116 (24 * r + i)).toInt = _; rw [h1]; exact s.2.2 i x hx⟩
theorem WTQ_fr {is ls as js : List Nat} (l : WTQ w PR) (f : FR is ls as js w w2) (a0 : 125 ∉ is) (a1 : 123 ∉ as) (a2 : 124 ∉ as) : WTQ w2 PR := by
  obtain ⟨l1, l2, l3⟩ := l
  have e := FR.F f a0
  refine ⟨by rw [e]; exact l1, by rw [e]; exact l2, fun i hi => ?_⟩
  rw [e] at hi
  rw [FR.A f a1, FR.A f a2]
  exact l3 i hi
theorem SRs_lit (h1 : ¬ isH t) (h6 : so t = 6 → va t = 0) (hP : P t) (hP' : P' t) (ho : o < 25) (hh : hm < 99) : SRs Fv P Fv' P' m w 99 0 (some hm) t 0 o t 0 := by
  refine ⟨ho, Or.inr ⟨hm, fun _ _ _ => False, 0, fun _ => 1, fun _ => 0, 1, 0, fun _ => 1, fun _ => 0, 1, rfl, ⟨fun u hu g => ?_, by omega, fun c => by omega⟩, ⟨fun u hu g => ?_, by omega, fun c => by omega⟩, ⟨fun u y z q => ?_, trivial, fun k a c q => q.elim⟩, Or.inl ⟨h1, hP, rfl⟩, Or.inl ⟨rfl, RTb_lit h1 h6, Or.inl ⟨h1, hP', rfl⟩⟩⟩⟩
  · rcases g with ⟨z, -⟩ | ⟨-, -, z, -⟩
    · exact absurd hu z
    · omega
  · rcases g with ⟨z, -⟩ | ⟨-, -, z, -⟩
    · exact absurd hu z
    · omega
  · exact (RTb_h q z).2.elim
/-- process q ENDS -/
theorem wl_end (W : WLs RR PR Fv P Fv' P' cur i j m w) (hq : q < PR) (hal : F m (pq q 9) ≠ 3 ∧ A w 109 q ≠ 3) (hc : some q ≠ cur) (x1 : XMm q m m1) (x2 : XMr q w w1) (he : F m 955 = ((e : Nat) : Int) ∧ e < 24) (he' : F w 150 = ((e' : Nat) : Int) ∧ e' < 4000) (h5 : m1.1 (pq q 5) = w1.2.2.1 90 q) (hw : RG wr) (ho : o < 25) (s2 : SFs Fv P Fv' P' PR (enS m1 q t hm e) (enR w1 q wr ((o : Nat) : Int) x e')) (rq : RQs Fv P Fv' P' PR (enS m1 q t hm e) (enR w1 q wr ((o : Nat) : Int) x e') q wr o x) : WLs RR PR Fv P Fv' P' cur i j (enS m1 q t hm e) (enR w1 q wr ((o : Nat) : Int) x e') ∧ MVs m w (enS m1 q t hm e) (enR w1 q wr ((o : Nat) : Int) x e') ∧ ∀ d, d ≠ q → LOCm d m (enS m1 q t hm e) ∧ LOCw d w (enR w1 q wr ((o : Nat) : Int) x e') := by
  have p24 := W.1.2.1.1.1.2
  have W0 := W
  obtain ⟨sf, -, pr, hR⟩ := W
  obtain ⟨b, U, B, Wt, Y, pl, rs⟩ : ALr RR m w q := by
    rcases pr q hq with h | h
    · exact h.2.2
    · exact absurd h.1 hal.1
  obtain ⟨-, -, -, b4⟩ := SF_al sf hq hal.1 pl
  obtain ⟨L, l1, l2⟩ := LS_of rs.1 b4
  have fr := enR_fr (w := w1) (q := q) (wr := wr) (o := o) (x := x) (e := e')
  have n9 : ∀ k, k < 100 → k ≠ 4 → k ≠ 5 → k ≠ 7 → k ≠ 9 → k ≠ 17 → (enS m1 q t hm e).1 (pq q k) = m.1 (pq q k) := fun k h0 h1 h2 h3 h4 h5 => by
    rw [enS_1 (pq_inj h4) (pq_inj h5) (fun c => pq_n (by omega) c.symm)]
    exact x1.1 _ (by
      simp only [List.mem_cons, List.not_mem_nil, or_false]
      intro c
      rcases c with c | c | c
      · exact pq_inj h1 c
      · exact pq_inj h2 c
      · exact pq_inj h3 c)
  have aw : ∀ K, K = 113 ∨ K = 114 ∨ K = 116 ∨ K = 117 → (enR w1 q wr ((o : Nat) : Int) x e').2.2.1 K = w.2.2.1 K := fun K h => by rw [fr.2.2.1 K (by simp; omega), x2.1.2.2.1 K (by simp; omega)]
  have qe : QEs (enS m1 q t hm e) (enR w1 q wr ((o : Nat) : Int) x e') q := ⟨by rw [n9 12 (by omega) (by omega) (by omega) (by omega) (by omega) (by omega), aw 113 (by omega)]; exact rs.1.1, by rw [n9 13 (by omega) (by omega) (by omega) (by omega) (by omega) (by omega), aw 114 (by omega)]; exact rs.1.2.1, by rw [enS_1 (pq_inj (by omega)) (pq_inj (by omega)) (fun c => pq_n (by omega) c.symm), fr.2.2.1 90 (by simp)]; exact h5, L, LSm_st l1 (n9 15 (by omega) (by omega) (by omega) (by omega) (by omega) (by omega)) (by rw [enS_3 (fun c => pq_n (by omega) c.symm)]; exact x1.2.2.1 _ (by simp)), LSw_fr l2 (aw 116 (by omega)) (aw 117 (by omega))⟩
  obtain ⟨k1, k2⟩ := enS_q (m := m1) (t := t) (hm := hm) (show e < 1000 by omega) (show q < 1000 by omega)
  obtain ⟨r1, r2, r3, r4, r5⟩ := enR_q (w := w1) (x := x) (show e' < 10000 by omega) (show q < 1000 by omega) (show o < 1000 by omega) hw
  have v := enS_v (m := m1) (q := q) (t := t) (hm := hm) (e := e)
  have a9 := enR_9 (w := w1) (q := q) (wr := wr) (o := o) (x := x) (e := e')
  have pg : PGs m w (enS m1 q t hm e) (enR w1 q wr ((o : Nat) : Int) x e') := PGs.tr (PGs_xm x1 x2) PGs_en
  have D : ∀ d, d ≠ q → LOCm d m (enS m1 q t hm e) ∧ LOCw d w (enR w1 q wr ((o : Nat) : Int) x e') := fun d hd => ⟨LOCm.tr (LOCm_xm x1 hd) (LOCm_en hd), LOCw.tr (LOCw_xm x2 hd) (LOCw_en hd)⟩
  refine ⟨WL_move W0 s2 pg hq hal D ⟨e, e', he.1, he'.1, fun k hk => ?_, fun k hk => ⟨fun K hK => ?_, ?_⟩, Or.inr ⟨k1, r1, v.1, ?_, hc, ⟨q, wr, o, ⟨hq, hc, v.1⟩, ?_, ?_, ?_, ?_, ?_, qe⟩, ?_⟩⟩, ⟨pg, fun d hd => (D d (fun c => hal.1 (by rw [← c]; exact hd))).1, fun d hd => (D d (fun c => ?_)).2, ⟨fun k hk => ?_, ?_, ?_⟩, fun k hk => ?_, ?_, ?_⟩, D⟩
  · rw [k2, if_neg (by omega), FR.A x1 (by simp)]
  · rcases hK with rfl | rfl | rfl
    · rw [r2, if_neg (by omega), FR.A x2.1 (by simp)]
    · rw [r3, if_neg (by omega), FR.A x2.1 (by simp)]
    · rw [r4, if_neg (by omega), FR.A x2.1 (by simp)]
  · rw [r5, if_neg (by omega), x2.1.2.2.2 148 (by simp)]
  · rw [a9, if_pos rfl]
  · rw [k2, if_pos rfl]
  · rw [r2, if_pos rfl]
  · rw [r3, if_pos rfl]
  · rw [r4, if_pos rfl]
  · rw [r5, if_pos rfl]; exact rq
  · rw [k2, if_pos rfl]
  · rcases hd with hd | hd
    · omega
    · exact hal.2 (by rw [← c]; exact hd)
  · rw [enS_3 (by omega), x1.2.2.1 k (by simp)]
  · rw [enS_1 (pq_n (by omega)) (pq_n (by omega)) (by omega), x1.1 950 (by simp [pq_n])]
  · rw [enS_1 (pq_n (by omega)) (pq_n (by omega)) (by omega), x1.1 956 (by simp [pq_n])]
  · rw [fr.2.2.1 k (by simp; omega), x2.1.2.2.1 k (by simp; omega)]
  · rw [fr.1 125 (by simp), x2.1.1 125 (by simp)]
  · rw [fr.1 149 (by simp), x2.1.1 149 (by simp)]
/-- how many have ENDED -/
theorem SF_e (sf : SFs Fv P Fv' P' PR m w) (hq : q < PR) (hal : F m (pq q 9) ≠ 3) : (∃ e : Nat, F m 955 = ((e : Nat) : Int) ∧ e < 24) ∧ ∃ e' : Nat, F w 150 = ((e' : Nat) : Int) ∧ e' < 4000 := by
  obtain ⟨⟨d, cx⟩, ⟨dw, lk, wt⟩, pb⟩ := sf
  have p24 := dw.1.2
  refine ⟨⟨cEc m PR, d.1.2.2.2.1.1, ?_⟩, ?_⟩
  · have := cEc_lt (m := m) (q := q) PR hq hal
    omega
  · obtain ⟨eF, eM, h1, h2, h3, h4, -⟩ := dw.2.2.2.2.1
    have := cE_le w PR
    exact ⟨eM, h2, by omega⟩
theorem RQ_src (rq : RQs Fv P Fv' P' PR m w r wr o x) : ∃ hm s, rf (m.1 (pq r 17)) = some hm ∧ hm < PR ∧ F m (pq hm 9) = 3 ∧ (o = 24 ∨ (o < PR ∧ A w 109 o = 3)) ∧ SRs Fv P Fv' P' m w 99 0 (some hm) (m.2.1 (pq r 16)) wr o x s ∧ TE Fv' P' w PR o x ∧ (wr = 0 ∨ wr = 1 ∨ wr = 2) ∧ o < 25 ∧ ∃ n ow kd, n ≤ 512 ∧ HPc (m.2.2.2 (pq hm 2)) n ow kd Fv P ∧ GT n ow kd P (m.2.1 (pq r 16)) := by
  obtain ⟨hm, s, g1, g2, g3, g4, g5, g6⟩ := rq
  obtain ⟨z, n', owx, kdx, fx, y1, y2, y3, y4, y5⟩ := SRs_z g5
  refine ⟨hm, s, g1, g2, g3, g4, g5, g6, by omega, g5.1, ?_⟩
  obtain ⟨-, sr⟩ := g5
  rcases sr with ⟨y, -⟩ | ⟨j', bS, n, ow, kd, f, n', ow', kd', f', e, ⟨g1, g2, g3⟩, -, -, g8, -⟩
  · cases y
  · injection e with e
    subst e
    exact ⟨n, ow, kd, g2, g1, SZ_gtc g8⟩
/-- a message to one that lives: it comes, or there is no room, or its BOX is full -/
theorem wl_msg {a sort p U B Wt Y : Nat} {ow kd ow' kd' : Nat → Nat} (hz : (a = 0 ∧ sort = 2) ∨ (a = 4 ∧ sort = 0) ∨ (a = 5 ∧ sort = 1)) (W : WLs RR PR Fv P Fv' P' cur i j m w) (hq : q < PR) (hal : F m (pq q 9) ≠ 3) (h9 : A w 109 q ≠ 3) (qc : some q ≠ cur) (pl : PLs b q m w U B Wt Y) (rs : SCs q m w ∧ RR q m w) (pt : PTQ m q U ow kd Fv P B Wt Y) (cw : CX w q (hp w q) U ow' kd' Fv' P' Wt B Y) (hs : (SRs Fv P Fv' P' m w q U src t wr o x s ∧ src ≠ some q ∧ (src = none ∨ o ≠ q)) ∨ OWs b Fv P P' m q U Wt ow kd ow' kd' src t wr o x s) (sc : SRCc Fv P PR m q t src) (tm : TM Fv' P' w q o x) (hw : 0 ≤ wr ∧ wr ≤ 2) (hp1 : p < 1000000) (hp2 : sort < 2 → p < PR) (h4 : RG v4) (hN : 3000000 ≤ N) :
    PP (fun m2 (_ : Unit) w2 (_ : Unit) => WLs RR PR Fv P Fv' P' cur i j m2 w2 ∧ MVs m w m2 w2 ∧ ∀ d, d ≠ q → LOCm d m m2 ∧ LOCw d w w2) (hm_Wl_post N m q (I ((a : Nat) : Int)) (I ((p : Nat) : Int)) (I v4) t src) (fm_M_message N w (I q) (I ((sort : Nat) : Int)) (I v4) (I ((p : Nat) : Int)) (I wr) (I ((o : Nat) : Int)) x) := by
  have W0 := W
  obtain ⟨sf, -, pr, hR⟩ := W
  have sf0 := sf
  obtain ⟨⟨d, cx⟩, ⟨dw, lk, wt⟩, pb⟩ := sf
  have p24 := dw.1.2
  obtain ⟨-, -, -, b4⟩ := SF_al sf0 hq hal pl
  obtain ⟨⟨e, he⟩, e', he'⟩ := SF_e sf0 hq hal
  have hp := pp_pr (pp_pl (post_pp (N := N) (v3 := ((p : Nat) : Int)) (v4 := v4) hz (by omega) hal h9 pl pt cx cw hs he he' (by omega)) (pk_ok (post_ok (N := N) (v3 := ((p : Nat) : Int)) (v4 := v4) d cx hq (show a = 0 ∨ a = 4 ∨ a = 5 by omega) ⟨by omega, by omega⟩ h4 sc (by omega)))) (pk_ok (message_ok (N := N) (sort := sort) (p := p) dw hq pb (by omega) hp2 h4 (by omega) hw (fun _ => tm) (by omega)))
  refine pp_mo hp (fun m2 _ w2 _ h => ?_)
  obtain ⟨⟨mp, dc2, wf, e956, st⟩, mg⟩ := h
  have sf2 : SFs Fv P Fv' P' PR m2 w2 := ⟨⟨dc2, CTX_fr cx (wf.2.1 22 (by omega) (by simp)) (wf.2.2.2.1 3 (by omega) (by simp))⟩, ⟨mg.1, LK_fr lk mg.2.1 (by simp) (by simp), WTQ_fr wt mg.2.1 (by simp) (by simp) (by simp)⟩, pb⟩
  rcases mp with ⟨-, rfl, rfl⟩ | ⟨m1, w1, x1, x2, x5, rfl, rfl⟩ | ⟨hY, U2, ⟨b2, pl2⟩, x1, x2⟩
  · exact ⟨W0, MVs.rf, fun _ _ => ⟨LOCm.rf, LOCw.rf⟩⟩
  · have v := enS_v (m := m1) (q := q) (t := mk 1 20) (hm := q) (e := e)
    have a9 := enR_9 (w := w1) (q := q) (wr := 0) (o := q) (x := mk 1 20) (e := e')
    have p20 : P (mk 1 20) := cx.2.2.2.2.2.1 20 (by omega) (by have := cx.2.2.2.1; omega)
    have p20' : P' (mk 1 20) := pb.1 20 (by omega) (by omega)
    have so1 : so (mk 1 20) = 1 := so_mk (by omega) (by omega)
    refine wl_end W0 hq ⟨hal, h9⟩ qc x1 x2 he he' x5 ⟨by omega, by omega⟩ (by omega) sf2 ⟨q, 0, by rw [v.2.1]; exact rf_some (by omega), hq, v.1, Or.inr ⟨hq, by rw [a9, if_pos rfl]⟩, ?_, Or.inl ⟨nh_mk (by omega), p20'⟩⟩
    rw [v.2.2]
    exact SRs_lit (nh_mk (by omega)) (fun c => by omega) p20 p20' (by omega) (by omega)
  · have pg := PGs_xm x1 x2
    have D : ∀ d, d ≠ q → LOCm d m m2 ∧ LOCw d w w2 := fun d hd => ⟨LOCm_xm x1 hd, LOCw_xm x2 hd⟩
    refine ⟨WL_move W0 sf2 pg hq ⟨hal, h9⟩ D ⟨e, e', he.1, he'.1, fun k _ => FR.A x1 (by simp), fun k _ => ⟨fun K hK => FR.A x2.1 (by simp; omega), by rw [x2.1.2.2.2 148 (by simp)]⟩, Or.inl ⟨?_, ?_, ?_, ?_, b2, U2, B, Wt, Y + 1, pl2, SC_eq rs.1 b4.2 (EQm.xm x1 q) (EQw.xm x2 q), hR _ _ _ _ _ rs.2 (EQm.xm x1 q).n (EQw.xm x2 q).v pg⟩⟩, ⟨pg, fun d hd => (D d (fun c => hal (by rw [← c]; exact hd))).1, fun d hd => (D d (fun c => ?_)).2, ⟨fun k hk => x1.2.2.1 k (by simp), x1.1 950 (by simp [pq_n]), x1.1 956 (by simp [pq_n])⟩, fun k hk => x2.1.2.2.1 k (by simp; omega), x2.1.1 125 (by simp), x2.1.1 149 (by simp)⟩, D⟩
    · rw [FR.F x1 (by simp [pq_n])]; exact he.1
    · rw [FR.F x2.1 (by simp)]; exact he'.1
    · rw [FR.F x1 (by simp; exact ⟨pq_inj (by omega), pq_inj (by omega), pq_inj (by omega)⟩)]; exact hal
    · rw [FR.A x2.1 (by simp)]; exact h9
    · rcases hd with hd | hd
      · omega
      · exact h9 (by rw [← c]; exact hd)
/-- a message whose term lies with one that has ENDED -/
theorem wl_come {a sort : Nat} (hz : (a = 0 ∧ sort = 2) ∨ (a = 4 ∧ sort = 0) ∨ (a = 5 ∧ sort = 1)) (W : WLs RR PR Fv P Fv' P' cur i j m w) (hq : q < PR) (hr : r < PR) (hc : ∀ c, cur = some c → F m (pq c 9) = 3) (rq : RQs Fv P Fv' P' PR m w r wr o x) (h4 : RG v4) (hN : 3000000 ≤ N) :
    PP (fun m2 (_ : Unit) w2 (_ : Unit) => WLs RR PR Fv P Fv' P' cur i j m2 w2 ∧ MVs m w m2 w2) (hm_Wl_post N m q (I ((a : Nat) : Int)) (I ((r : Nat) : Int)) (I v4) (m.2.1 (pq r 16)) (rf (m.1 (pq r 17)))) (fm_M_message N w (I q) (I ((sort : Nat) : Int)) (I v4) (I ((r : Nat) : Int)) (I wr) (I ((o : Nat) : Int)) x) := by
  obtain ⟨hm, s, g1, g2, g3, g4, g5, g6, g7, g8, n9, ow9, kd9, g9, g10, g11⟩ := RQ_src rq
  have W0 := W
  obtain ⟨sf, -, pr, hR⟩ := W
  have p24 := sf.2.1.1.1.2
  rw [g1]
  by_cases hal : F m (pq q 9) = 3
  · have h9 : A w 109 q = 3 := by
      rcases pr q hq with h | h
      · exact absurd hal h.1
      · exact h.2.1
    rw [post_dead hal, message_dead (by omega) h9]
    exact pp_end ⟨W0, MVs.rf⟩
  · obtain ⟨h9, al⟩ : A w 109 q ≠ 3 ∧ ALr RR m w q := by
      rcases pr q hq with h | h
      · exact h.2
      · exact absurd h.1 hal
    obtain ⟨b, U, B, Wt, Y, pl, rs⟩ := al
    obtain ⟨⟨ow, kd, pt⟩, ⟨ow', kd', cw⟩, bd, b4⟩ := SF_al sf hq hal pl
    have hmq : hm ≠ q := fun c => hal (by rw [← c]; exact g3)
    have oq : o ≠ q := fun c => by
      rcases g4 with g | g
      · omega
      · exact h9 (by rw [← c]; exact g.2)
    have qc : some q ≠ cur := fun c => hal (hc q c.symm)
    have sc : SRCc Fv P PR m q (m.2.1 (pq r 16)) (some hm) := Or.inr ⟨hm, n9, ow9, kd9, rfl, g2, g9, g10, g11, fun c => absurd c hmq⟩
    have tm : TM Fv' P' w q o x := by
      rcases g6 with g | g
      · exact Or.inl ⟨g8, g.1, g.2⟩
      · exact Or.inr (Or.inl ⟨g8, oq, g.2.2⟩)
    exact pp_mo (wl_msg hz W0 hq hal h9 qc pl rs pt cw (Or.inl ⟨SRs_q g5 hmq oq, fun c => hmq (by injection c), Or.inr oq⟩) sc tm (by omega) (by omega) (fun _ => hr) h4 hN) (fun m2 _ w2 _ h => ⟨h.1, h.2.1⟩)
/-- a signal -/
theorem wl_sig (W : WLs RR PR Fv P Fv' P' cur i j m w) (hq : q < PR) (hr : r < PR) (hrd : F m (pq r 9) = 3) (hc : ∀ c, cur = some c → F m (pq c 9) = 3) (rq : RQs Fv P Fv' P' PR m w r wr o x) (hN : 3000000 ≤ N) :
    PP (fun m2 (_ : Unit) w2 (_ : Unit) => WLs RR PR Fv P Fv' P' cur i j m2 w2 ∧ MVs m w m2 w2) (hm_Wl_signal N m (I ((r : Nat) : Int)) q (m.2.1 (pq r 16)) (rf (m.1 (pq r 17)))) (fm_M_signal N w (I q) (I ((r : Nat) : Int)) (I wr) (I ((o : Nat) : Int)) x) := by
  obtain ⟨hm, s, g1, g2, g3, g4, g5, g6, g7, g8, n9, ow9, kd9, g9, g10, g11⟩ := RQ_src rq
  have W0 := W
  obtain ⟨sf, -, pr, hR⟩ := W
  have sf0 := sf
  obtain ⟨⟨d, cx⟩, ⟨dw, lk, wt⟩, pb⟩ := sf
  have p24 := dw.1.2
  by_cases hal : F m (pq q 9) = 3
  · have h9 : A w 109 q = 3 := by
      rcases pr q hq with h | h
      · exact absurd hal h.1
      · exact h.2.1
    unfold hm_Wl_signal hb_Wl_signal_0 fm_M_signal fb_M_signal_0
    refine r_ck (fun _ => ?_)
    rw [I_F' hal, tnI (n := q) rfl (by omega), I_A' h9, show decide (I 3 = 3) = true from rfl, br_t, br_t]
    exact pp_end ⟨W0, MVs.rf⟩
  · obtain ⟨h9, al⟩ : A w 109 q ≠ 3 ∧ ALr RR m w q := by
      rcases pr q hq with h | h
      · exact h.2
      · exact absurd h.1 hal
    obtain ⟨b, U, B, Wt, Y, pl, rs⟩ := al
    have hmq : hm ≠ q := fun c => hal (by rw [← c]; exact g3)
    have rq' : r ≠ q := fun c => hal (by rw [← c]; exact hrd)
    have oq : o ≠ q := fun c => by
      rcases g4 with g | g
      · omega
      · exact h9 (by rw [← c]; exact g.2)
    obtain ⟨⟨e, he⟩, e', he'⟩ := SF_e sf0 hq hal
    have qc : some q ≠ cur := fun c => hal (hc q c.symm)
    have sc : SRCc Fv P PR m q (m.2.1 (pq r 16)) (some hm) := Or.inr ⟨hm, n9, ow9, kd9, rfl, g2, g9, g10, g11, fun c => absurd c hmq⟩
    have raw : PP (fun m2 (_ : Unit) w2 (_ : Unit) => (WLs RR PR Fv P Fv' P' cur i j m2 w2 ∧ MVs m w m2 w2) ∨ (m2 = enS m q (m.2.1 (pq r 16)) hm e ∧ w2 = enR w q wr ((o : Nat) : Int) x e')) (hm_Wl_signal N m (I ((r : Nat) : Int)) q (m.2.1 (pq r 16)) (rf (m.1 (pq r 17)))) (fm_M_signal N w (I q) (I ((r : Nat) : Int)) (I wr) (I ((o : Nat) : Int)) x) := by
      have n3 : ¬ m.1 (pq q 9) = 3 := fun z => hal (by show (m.1 (pq q 9)).toInt = 3; rw [z]; rfl)
      have n3' : ¬ w.2.2.1 109 q = 3 := fun z => h9 (by show (w.2.2.1 109 q).toInt = 3; rw [z]; rfl)
      unfold hm_Wl_signal hb_Wl_signal_0 fm_M_signal fb_M_signal_0 fb_M_signal_61 fb_M_signal_51
      refine r_ck (fun _ => ?_)
      rw [tnI (n := q) rfl (by omega), decide_eq_false n3, br_f, decide_eq_false n3', br_f]
      refine r_ck (fun _ => ?_)
      rw [← rs.1.2.2.1]
      by_cases tr : m.1 (pq q 11) = 0
      · rw [decide_eq_true tr, br_t, br_t]
        -- it does not trap
        have en : PP (fun m2 (_ : Unit) w2 (_ : Unit) => (WLs RR PR Fv P Fv' P' cur i j m2 w2 ∧ MVs m w m2 w2) ∨ (m2 = enS m q (m.2.1 (pq r 16)) hm e ∧ w2 = enR w q wr ((o : Nat) : Int) x e')) (hb_Wl_signal_43 N () m (I ((r : Nat) : Int)) q (m.2.1 (pq r 16)) (rf (m.1 (pq r 17))) 0) (bnd (fm_M_willEnd N w (I q) (I wr) (I ((o : Nat) : Int)) x) (fun u1 _ => some (u1, ()))) := by
          unfold hb_Wl_signal_43 hb_Wl_signal_59 hb_Wl_signal_121
          rw [show decide ((0 : Int32) = 0) = true from rfl, br_t, g1, show decide ((some hm : Option Nat) = none) = false from rfl, br_f, decide_eq_false (show ¬ (some hm : Option Nat) = some q from fun c => hmq (by injection c)), br_f, bo_s, I_F' g3, show decide (I 3 = 3) = true from rfl, br_t, endsW_e (e := e) hal he.1 he.2, bnd_so, willE_e (e := e') (by omega) h9 he'.1 he'.2 (by omega), bnd_so]
          exact pp_end (Or.inr ⟨rfl, rfl⟩)
        have c43 : PP (fun m2 (_ : Unit) w2 (_ : Unit) => (WLs RR PR Fv P Fv' P' cur i j m2 w2 ∧ MVs m w m2 w2) ∨ (m2 = enS m q (m.2.1 (pq r 16)) hm e ∧ w2 = enR w q wr ((o : Nat) : Int) x e')) (hb_Wl_signal_43 N () m (I ((r : Nat) : Int)) q (m.2.1 (pq r 16)) (rf (m.1 (pq r 17))) 1) (some (w, ())) := by
          unfold hb_Wl_signal_43
          rw [show decide ((1 : Int32) = 0) = false from rfl, br_f, show Int32.ofNat q = I ((q : Nat) : Int) from rfl, decE (by omega) (by omega) (by omega) (by omega), decide_eq_false (by omega), br_f]
          exact pp_end (Or.inl ⟨W0, MVs.rf⟩)
        rw [lit1, show (4 : Int32) = I 4 from rfl, e_make, bnd_so, term_e, bnd_so, ← lit1]
        have d0 : ∀ y : Int64, decide (lg_cmp y (mk 1 4) = 0) = decide (y = mk 1 4) := fun y => decide_eq_decide.mpr (lgc_eq y _)
        rw [d0, d0, lit0, decE (by omega) (by omega) (by omega) (by omega), ← lit0]
        -- NORMAL there is NORMAL here
        have nm : (m.2.1 (pq r 16) = mk 1 4) ↔ (wr = 0 ∧ x = mk 1 4) := by
          have h4 : ¬ isH (mk 1 4) := nh_mk (by omega)
          obtain ⟨-, sr⟩ := g5
          rcases sr with ⟨y, -⟩ | ⟨j', bS, n, ow, kd, f, n', ow', kd', f', e, -, -, -, -, g9⟩
          · cases y
          · rcases g9 with ⟨y1, y2, -⟩ | ⟨z, y1, -, y3, -⟩
            · refine ⟨fun c => ⟨y1, ?_⟩, fun c => ?_⟩
              · rw [RTb_n y2 (by rw [c]; exact h4)]; exact c
              · have zt : ¬ isH (m.2.1 (pq r 16)) := fun z => h4 (by rw [← c.2]; exact (RTb_isH y2).mpr z)
                rw [← RTb_n y2 zt]; exact c.2
            · refine ⟨fun c => ?_, fun c => by omega⟩
              rw [c, so_mk (by omega) (by omega)] at y3
              omega
        by_cases c1 : m.2.1 (pq r 16) = mk 1 4
        · obtain ⟨c2, c3⟩ := nm.mp c1
          rw [decide_eq_true c1, br_t, decide_eq_true c2, br_t, decide_eq_true c3, br_t]
          exact c43
        · rw [decide_eq_false c1, br_f]
          by_cases c2 : wr = 0
          · rw [decide_eq_true c2, br_t, decide_eq_false (fun c3 => c1 (nm.mpr ⟨c2, c3⟩)), br_f]
            exact en
          · rw [decide_eq_false c2, br_f]
            exact en
      · rw [decide_eq_false tr, br_f, br_f]
        refine pp_bb (pp_mo (wl_come (a := 4) (sort := 0) (v4 := 0) (Or.inr (Or.inl ⟨rfl, rfl⟩)) W0 hq hr hc rq ⟨by omega, by omega⟩ hN) (fun m2 _ w2 _ h => pp_end (Or.inl h)))
    have hp := pp_pr (pp_pl raw (pk_ok (signalc_ok (N := N) (x := ((r : Nat) : Int)) d cx hq ⟨by omega, by omega⟩ (src := rf (m.1 (pq r 17))) (fun _ => by rw [g1]; exact sc) (fun _ jx ej hj => by rw [g1] at ej; injection ej with ej; subst ej; exact absurd g3 hj) (by omega)))) (pk_ok (signal_ok (N := N) (p := r) dw hq hr pb (show 0 ≤ wr ∧ wr ≤ 2 by omega) (show o ≤ 24 by omega) g6 (by omega)))
    refine pp_mo hp (fun m2 _ w2 _ h => ?_)
    obtain ⟨⟨h | ⟨rfl, rfl⟩, ⟨dc2, wf, st⟩, e956⟩, dw2, ev, kp⟩ := h
    · exact h
    · have sf2 : SFs Fv P Fv' P' PR (enS m q (m.2.1 (pq r 16)) hm e) (enR w q wr ((o : Nat) : Int) x e') := ⟨⟨dc2, CTX_fr cx (wf.2.1 22 (by omega) (by simp)) (wf.2.2.2.1 3 (by omega) (by simp))⟩, ⟨dw2, LK_fr lk ev.1 (by simp) (by simp), WTQ_fr wt ev.1 (by simp) (by simp) (by simp)⟩, pb⟩
      have v := enS_v (m := m) (q := q) (t := m.2.1 (pq r 16)) (hm := hm) (e := e)
      have a9 := enR_9 (w := w) (q := q) (wr := wr) (o := o) (x := x) (e := e')
      have l1 : LOCm hm m (enS m q (m.2.1 (pq r 16)) hm e) := LOCm_en hmq
      have l2 : LOCw o w (enR w q wr ((o : Nat) : Int) x e') := LOCw_en oq
      refine (fun h => ⟨h.1, h.2.1⟩) (wl_end W0 hq ⟨hal, h9⟩ qc FR.rf XMr.rf he he' pl.1.2.2 ⟨by omega, by omega⟩ g8 sf2 ⟨hm, s, by rw [v.2.1]; exact rf_some (by omega), g2, by show ((enS m q (m.2.1 (pq r 16)) hm e).1 (pq hm 9)).toInt = 3; rw [(l1 9 (by omega)).1]; exact g3, ?_, ?_, ?_⟩)
      · rcases g4 with g | g
        · exact Or.inl g
        · exact Or.inr ⟨g.1, by rw [a9, if_neg oq]; exact g.2⟩
      · rw [v.2.2]
        exact SRs_st g5 (fun jx ej => by injection ej with ej; subst ej; exact (l1 2 (by omega)).2.2.2) (fun _ i hi => l2.2.2.2.2.1 _ (by omega) (by omega)) (fun c => by omega) (fun c => by
          rcases c with c | c
          · injection c with c
            omega
          · omega)
      · rcases g6 with g | ⟨y1, y2, n, ow, kd, y3, y4, y5, y6⟩
        · exact Or.inl g
        · refine Or.inr ⟨y1, ?_, n, ow, kd, ?_, y4, HP_agr (fun i hi => l2.2.2.2.2.1 _ (by omega) (by omega)) y5, y6⟩
          · rcases y2 with y | y
            · exact Or.inl y
            · exact Or.inr ⟨y.1, by rw [a9, if_neg oq]; exact y.2⟩
          · show ((enR w q wr ((o : Nat) : Int) x e').2.2.1 89 o).toInt = _
            rw [l2.2.1 89 (by omega)]
            exact y3
end
