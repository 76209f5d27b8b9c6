/-! send: a literal, both sides -/
set_option maxRecDepth 100000
/-- what send leaves: nothing is told, or what is wrong -/
def RHs (Fv : Int64 → Int64 → Prop) (P : Int64 → Prop) (Fv' : Int64 → Int64 → Prop) (AN PR : Nat) (m w m2 : MS) (z : Unit ⊕ Nat) (w2 : MS) (_ : Unit) : Prop := (z = Sum.inl () ∧ F w2 3 = 0 ∧ FQs WTr PR Fv P Fv' (PWs AN) m2 w2 ∧ TBz m2 w2) ∨ ∃ k : Nat, z = Sum.inr k ∧ (k = 1 ∨ k = 2) ∧ m2 = m ∧ w2 = wi w 3 ((k : Nat) : Int)
section
variable {T : TYc} {Fv Fv' : Int64 → Int64 → Prop} {P : Int64 → Prop} {AN : Nat} {TT : TY} {CC : CY} {pM pE : Nat → Nat} {ND CN PN SN UN FN N PR p q : Nat} {m w m1 w1 m2 w2 : MS} {x : Int} {RR : Nat → MS → MS → Prop}
theorem TBz_k (h : TBz m w) (a : Kwac m m2) (b : Kwbc w w2) (h34 : w2.2.2.2 34 = w.2.2.2 34) : TBz m2 w2 := by
  obtain ⟨t1, t2, ⟨t3, t4, t5⟩, fa, na, t7⟩ := h
  exact ⟨TB_tab t1 ⟨a.1 442 (by omega), a.1 449 (by omega)⟩ (fun K h => a.2 K (by omega)) (fun K h => b.2 K (by unfold PRr at h; omega)) h34, PN_st t2 (a.1 953 (by omega)) (fun K h => a.2 K (by omega)) (b.1 128 (by omega)) (fun K h => b.2 K (by omega)), ⟨CLk_st t3 (a.1 944 (by omega)) (b.1 120 (by omega)), by rw [a.1 945 (by omega), b.1 121 (by omega)]; exact t4, by rw [a.1 946 (by omega), b.1 119 (by omega)]; exact t5⟩, fa, na, ATf_k t7 (a.1 22 (by omega)) (a.2 2 (by omega)) (a.2 3 (by omega)) (b.1 14 (by omega)) (b.2 12 (by omega)) (b.2 13 (by omega))⟩
/-- behind what has been told: ends come, both sides -/
theorem sd_fin (hN : 11000000 ≤ N) (W : WLs WTr PR Fv P Fv' (PWs AN) none q 0 m1 w1) (h956 : F m1 956 = ((q : Nat) : Int)) (h149 : F w1 149 = 0) (cn : CNq P (PWs AN) m1 w1) (wt : WTs PR m1 w1) (tb : TBz m w) (a : Kwac m m1) (b : Kwbc w w1) (h34 : w1.2.2.2 34 = w.2.2.2 34) (h3 : F w1 3 = 0) (es : ESI Fv' (PQ AN PR) PR w1) (per : PER Fv' AN TT CC pM pE ND CN PN SN UN FN w1) {m0 w0 : MS} : PP (RHs Fv P Fv' AN PR m0 w0) (hb_H_send_112 N () m1) (fb_M_send_238 N () w1) := by
  unfold hb_H_send_112 fb_M_send_238
  have st : STq WTr PR Fv P Fv' (PWs AN) m1 w1 := ⟨q, 0, W, ⟨h956, h149⟩, cn, wt⟩
  have pb := PQ_b per.2.2.2.2.1 es.1.1.2
  have ae := pk_ok (allEnds_ok (N := N) pb PQ_s hN es per.2.2.1 (PER_pa per))
  refine pp_bb (pp_mo (pp_pr (pp_pr (pp_pl (settle_pp st (by omega)) (show PK (fun u _ => Kwac m u) (hm_Wl_settle N m1) from ywa_hm_Wl_settle a)) (show PK (fun u _ => Kwbc w u ∧ F u 3 = F w1 3) (fm_M_allEnds N w1) from fun u r e => ⟨ywb_fm_M_allEnds b u r e, congrArg Int32.toInt ((ywb_fm_M_allEnds (u0 := w1) ⟨fun _ _ => rfl, fun _ _ => rfl⟩ u r e).1 3 (by omega))⟩)) ae) (fun m2 _ w2 _ h => ?_))
  obtain ⟨⟨⟨fq, ka⟩, kb, k3⟩, fr⟩ := h
  refine pp_2s (Or.inl ⟨rfl, by rw [k3]; exact h3, fq, TBz_k tb ka kb ?_⟩)
  rw [← h34]
  exact fr.2.1.2.2.2 34 (by simp)
/-- a literal is told -/
theorem sd_lit {s v : Int} (hN : 11000000 ≤ N) (hpr : p < PR) (rest : REST Fv' AN TT ND UN FN PR w) (per : PER Fv' AN TT CC pM pE ND CN PN SN UN FN w) (fq : FQs WTr PR Fv P Fv' (PWs AN) m w) (tb : TBz m w) (hs : s = 0 ∨ (s = 1 ∧ 0 ≤ v ∧ v < ((AN : Nat) : Int))) (hv : -2147483648 ≤ v ∧ v < 2147483648) (hP : P (mk s v)) {m0 w0 : MS} : PP (RHs Fv P Fv' AN PR m0 w0) (hb_H_send_91 N () m (I v) (some p) (I s)) (fb_M_send_76 N () (wi w 3 0) (I v) (I ((p : Nat) : Int)) 2 0 0 0 (I ((p : Nat) : Int)) (I s)) := by
  obtain ⟨i, W, ⟨h956, h955⟩, ⟨h149, h150⟩, cn, wt⟩ := fq
  have p24 : PR ≤ 24 := rest.1.1.2
  have g : FR [3] [] [] [] w (wi w 3 0) := FR.wi FR.rf (by simp)
  have W3 : WLs WTr PR Fv P Fv' (PWs AN) none i 0 m (wi w 3 0) := WL_w3 W
  have per3 : PER Fv' AN TT CC pM pE ND CN PN SN UN FN (wi w 3 0) := PER_fr per g (by decide) (by decide)
  have dw3 : DW Fv' (PQ AN PR) PR (wi w 3 0) := DW_fr rest.1 g (by simp) (by simp) (by simp) (by simp) (by simp) (by simp) (by simp) (by simp) (by simp) (by simp) (by simp) (by simp) (by simp) (by simp) (by simp) (by simp) (by simp)
  have lk3 : LK (wi w 3 0) PR := LK_fr rest.2.1.1 g (by simp) (by simp)
  have wq3 : WTQ (wi w 3 0) PR := WTQ_fr rest.2.1.2.1 g (by simp) (by simp) (by simp)
  have tb3 : TBz m (wi w 3 0) := by
    obtain ⟨t1, t2, ⟨t3, t4, t5⟩, fa, na, t7⟩ := tb
    exact ⟨TB_tab t1 ⟨rfl, rfl⟩ (fun _ _ => rfl) (fun _ _ => rfl) rfl, PN_st t2 rfl (fun _ _ => rfl) (g.1 128 (by simp)) (fun _ _ => rfl), ⟨CLk_st t3 rfl (g.1 120 (by simp)), by rw [g.1 121 (by simp)]; exact t4, by rw [g.1 119 (by simp)]; exact t5⟩, fa, na, ATf_k t7 rfl rfl rfl (g.1 14 (by simp)) rfl rfl⟩
  have cn3 : CNq P (PWs AN) m (wi w 3 0) := CN_pg cn (PG0_fr (m := m) (m2 := m) (is := []) (ls := []) (as := []) (js := []) FR.rf g (by simp) (by simp) (by simp) (by simp) (by simp)) per3.2.2.1
  have wt3 : WTs PR m (wi w 3 0) := WTs_st wt rfl (fun _ _ => rfl) (g.1 125 (by simp)) (fun _ _ => rfl)
  have e149 : F (wi w 3 0) 149 = 0 := by rw [FR.F g (by simp)]; exact h149
  have e3 : F (wi w 3 0) 3 = 0 := wi_sm (by omega) (by omega)
  clear rest per tb cn wt W h149 h150
  generalize wi w 3 0 = w3 at *
  unfold hb_H_send_91 fb_M_send_76
  rw [e_make, bnd_so, term_e, bnd_so, bo_s]
  have nh : ¬ isH (mk s v) := nh_mk (by omega)
  have so1 : so (mk s v) = s := so_mk (by omega) (by omega)
  have va1 : va (mk s v) = v := va_mk (by omega) (by omega)
  have hPq : PQ AN PR (mk s v) := by
    rcases hs with h | ⟨h, h1, h2⟩
    · exact Or.inl (by rw [so1]; exact h)
    · exact Or.inr (Or.inr (Or.inr (Or.inl ⟨by rw [so1]; exact h, by rw [va1]; exact h1, by rw [va1]; exact h2⟩)))
  by_cases hal : F m (pq p 9) = 3
  · have h9 : A w3 109 p = 3 := by
      rcases W3.2.2.1 p hpr with h | h
      · exact absurd hal h.1
      · exact h.2.1
    rw [post_dead hal, bnd_so, message_dead (by omega) h9, bnd_so]
    exact sd_fin hN W3 h956 e149 cn3 wt3 tb3 ⟨fun _ _ => rfl, fun _ _ => rfl⟩ ⟨fun _ _ => rfl, fun _ _ => rfl⟩ rfl e3 ⟨dw3, lk3, wq3⟩ per3
  · obtain ⟨h9, al⟩ : A w3 109 p ≠ 3 ∧ ALr WTr m w3 p := by
      rcases W3.2.2.1 p hpr with h | h
      · exact h.2
      · exact absurd h.1 hal
    obtain ⟨b, U, B, Wt, Y, pl, rs⟩ := al
    obtain ⟨⟨ow, kd, pt⟩, ⟨ow', kd', cw⟩, bd, b4⟩ := SF_al W3.1 hpr hal pl
    have pb := PQ_b per3.2.2.2.2.1 p24
    have key := wl_msg (N := N) (a := 0) (sort := 2) (p := 0) (o := p) (src := none) (wr := 0) (v4 := 0) (t := mk s v) (x := mk s v) (s := 0) (Or.inl ⟨rfl, rfl⟩) W3 hpr hal h9 (fun c => by cases c) pl rs pt cw (Or.inl ⟨⟨by omega, Or.inl ⟨rfl, rfl, nh, rfl, fun c => by omega, PW_q _ hPq, rfl⟩⟩, (fun c => by cases c), Or.inl rfl⟩) (Or.inl ⟨rfl, nh, hP⟩) (Or.inl ⟨by omega, nh, PW_q _ hPq⟩) ⟨by omega, by omega⟩ (by omega) (fun c => absurd c (by omega)) ⟨by omega, by omega⟩ (by omega)
    have mo := pk_ok (message_ok (N := N) (sort := 2) (p := 0) (o := p) (wr := 0) (r := 0) (t := mk s v) dw3 hpr pb (by omega) (fun c => absurd c (by omega)) ⟨by omega, by omega⟩ (by omega) ⟨by omega, by omega⟩ (fun _ => Or.inl ⟨by omega, nh, hPq⟩) (by omega))
    refine pp_bb (pp_mo (pp_pr (pp_pr (pp_pl key (show PK (fun u _ => Kwac m u) (hm_Wl_post N m p (I ((0 : Nat) : Int)) (I ((0 : Nat) : Int)) (I 0) (mk s v) none) from ywa_hm_Wl_post ⟨fun _ _ => rfl, fun _ _ => rfl⟩)) (show PK (fun u _ => Kwbc w3 u) (fm_M_message N w3 (I ((p : Nat) : Int)) (I ((2 : Nat) : Int)) (I 0) (I ((0 : Nat) : Int)) (I 0) (I ((p : Nat) : Int)) (mk s v)) from ywb_fm_M_message ⟨fun _ _ => rfl, fun _ _ => rfl⟩)) mo) (fun m4 _ w4 _ h => ?_))
    obtain ⟨⟨⟨⟨W4, mv, -⟩, ka⟩, kb⟩, d4, f4, -⟩ := h
    have per4 : PER Fv' AN TT CC pM pE ND CN PN SN UN FN w4 := PER_fr per3 f4 (by decide) (by decide)
    exact sd_fin hN W4 (by rw [← h956]; exact congrArg Int32.toInt mv.2.2.2.1.2.2) (by rw [← e149]; exact congrArg Int32.toInt mv.2.2.2.2.2.2) (CN_pg cn3 mv.1.1 per4.2.2.1) (WTs_st wt3 mv.2.2.2.1.2.1 mv.2.2.2.1.1 mv.2.2.2.2.2.1 mv.2.2.2.2.1) tb3 ka kb mv.1.1.2.2.1 (by rw [← e3]; exact congrArg Int32.toInt (kb.1 3 (by omega))) ⟨d4, LK_fr lk3 f4 (by simp) (by simp), WTQ_fr wq3 f4 (by simp) (by simp) (by simp)⟩ per4
end
