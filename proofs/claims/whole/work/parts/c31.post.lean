/-! a message comes: both sides -/
set_option maxRecDepth 100000
/-- what a message leaves as it was, there -/
def XMm (q : Nat) (m m2 : MS) : Prop := FR [pq q 4, pq q 5, pq q 7] [] [] [pq q 2, pq q 3, pq q 33, pq q 35, pq q 6, 45] m m2
/-- here -/
def XMr (q : Nat) (w w2 : MS) : Prop := FR [136, 138, 140] [139] [89, 90, 108, 135, 142] [88, 91, 93, 107, 134, 137, 141] w w2 ∧ (∀ r, r ≠ q → A w2 89 r = A w 89 r ∧ w2.2.2.1 90 r = w.2.2.1 90 r ∧ A w2 108 r = A w 108 r) ∧ (∀ i, ¬ (500 * q ≤ i ∧ i < 500 * q + 500) → w2.2.2.2 88 i = w.2.2.2 88 i) ∧ (∀ i, ¬ (46000 * q ≤ i ∧ i < 46000 * q + 46000) → w2.2.2.2 91 i = w.2.2.2 91 i) ∧ (∀ i, ¬ (2500 * q ≤ i ∧ i < 2500 * q + 2500) → w2.2.2.2 93 i = w.2.2.2 93 i) ∧ ∀ i, ¬ (30 * q ≤ i ∧ i < 30 * q + 30) → w2.2.2.2 107 i = w.2.2.2 107 i
/-- it has come -/
def PSTs (q U2 B W Y : Nat) (m w m2 w2 : MS) : Prop := (∃ b2, PLs b2 q m2 w2 U2 B W (Y + 1)) ∧ XMm q m m2 ∧ XMr q w w2
section
variable {b b2 : Int → Nat → Nat → Prop} {N n q U B W Y a s o e e' : Nat} {ow kd ow' kd' : Nat → Nat} {Fv Fv' : Int64 → Int64 → Prop} {P P' : Int64 → Prop} {m w m1 w1 m2 w2 m3 w3 : MS} {t x r r2 : Int64} {v3 v4 wr : Int} {L L' : List Int64} {src : Option Nat}
theorem XMm.tr (h1 : XMm q m m2) (h2 : XMm q m2 m3) : XMm q m m3 := FR.tr h1 h2
theorem XMr.rf : XMr q w w := ⟨FR.rf, fun _ _ => ⟨rfl, rfl, rfl⟩, fun _ _ => rfl, fun _ _ => rfl, fun _ _ => rfl, fun _ _ => rfl⟩
theorem XMr.tr (h1 : XMr q w w2) (h2 : XMr q w2 w3) : XMr q w w3 := by
  obtain ⟨a1, a2, a3, a4, a5, a6⟩ := h1
  obtain ⟨c1, c2, c3, c4, c5, c6⟩ := h2
  exact ⟨FR.tr a1 c1, fun r hr => ⟨(c2 r hr).1.trans (a2 r hr).1, (c2 r hr).2.1.trans (a2 r hr).2.1, (c2 r hr).2.2.trans (a2 r hr).2.2⟩, fun i hi => (c3 i hi).trans (a3 i hi), fun i hi => (c4 i hi).trans (a4 i hi), fun i hi => (c5 i hi).trans (a5 i hi), fun i hi => (c6 i hi).trans (a6 i hi)⟩
theorem XMm.want (f : XRm q m m2) : XMm q m m2 := FR.mo f (by simp) (by simp) (by simp) (by simp)
theorem XMr.want (f : XRr q w w2) : XMr q w w2 := by
  obtain ⟨a1, a2, a3, a4, a5, a6⟩ := f
  exact ⟨FR.mo a1 (by simp) (by simp) (by simp) (by simp), fun r hr => ⟨(a2 r hr).1, (a2 r hr).2, FR.A a1 (by simp)⟩, a3, a4, a5, a6⟩
theorem XMr.hand {z : Int} : XMr q w (wl (wi w 140 z) 139 t) := ⟨FR.wl (FR.wi FR.rf (by simp)) (by simp), fun _ _ => ⟨rfl, rfl, rfl⟩, fun _ _ => rfl, fun _ _ => rfl, fun _ _ => rfl, fun _ _ => rfl⟩
theorem XMr.sz (f : FR [] [] [] [141] w w2) : XMr q w w2 := ⟨FR.mo f (by simp) (by simp) (by simp) (by simp), fun r _ => ⟨FR.A f (by simp), by rw [f.2.2.1 90 (by simp)], FR.A f (by simp)⟩, fun i _ => by rw [f.2.2.2 88 (by simp)], fun i _ => by rw [f.2.2.2 91 (by simp)], fun i _ => by rw [f.2.2.2 93 (by simp)], fun i _ => by rw [f.2.2.2 107 (by simp)]⟩
theorem wrL_fr {K i : Nat} : FR [] [] [] [K] m (wrL K L i m) := ⟨fun k _ => by rw [(wrL_1 L i m).1], fun k _ => by rw [(wrL_1 L i m).2.1], fun k _ => by rw [(wrL_1 L i m).2.2], fun k hk => wrL_o L i m (by simpa using hk)⟩
/-- behind the copying: the message comes -/
theorem come_pl (hq : q < 24) (hY : Y < 30) (f1 : FR [pq q 4] [] [] [] m m1) (g1 : FR [] [] [89] [88] w w1) (g2 : ∀ r, r ≠ q → A w1 89 r = A w 89 r) (g3 : ∀ i, ¬ (500 * q ≤ i ∧ i < 500 * q + 500) → w1.2.2.2 88 i = w.2.2.2 88 i) (hin : INs b q (U + a) s m1 w1 m2 r w2 r2) (f3 : FR [] [] [] [pq q 2] m2 m3) (g4 : FR [] [] [] [88] w2 w3) (g5 : ∀ i, ¬ (500 * q ≤ i ∧ i < 500 * q + 500) → w3.2.2.2 88 i = w2.2.2.2 88 i) (pl : PLs b2 q m3 w3 (U + a + s) B W Y) (rt : RTb b2 t x) : PSTs q (U + a + s) B W Y m w (coS m3 q Y t) (coR w3 q Y x) := by
  obtain ⟨-, ⟨q5, q6, q7⟩, q8, q9, q10⟩ := hin
  refine ⟨⟨b2, PLs_comes pl rt hY⟩, ?_, ?_, fun r9 hr => ⟨?_, ?_, ?_⟩, fun i hi => ?_, fun i hi => ?_, fun i hi => ?_, fun i hi => ?_⟩
  · exact FR.wi (FR.wj (FR.tr (FR.tr (FR.mo f1 (by simp) (by simp) (by simp) (by simp)) (FR.mo q5 (by simp) (by simp) (by simp) (by simp))) (FR.mo f3 (by simp) (by simp) (by simp) (by simp))) (by simp)) (by simp)
  · exact FR.wa (FR.wj (FR.tr (FR.tr (FR.mo g1 (by simp) (by simp) (by simp) (by simp)) (FR.mo q8 (by simp) (by simp) (by simp) (by simp))) (FR.mo g4 (by simp) (by simp) (by simp) (by simp))) (by simp)) (by simp)
  · unfold coR
    rw [A_wa (by omega) (by omega), if_neg (by omega), A_wj, FR.A g4 (by simp), q9, if_neg hr, g2 _ hr]
  · show w3.2.2.1 90 r9 = _
    rw [g4.2.2.1 90 (by simp), q8.2.2.1 90 (by simp), g1.2.2.1 90 (by simp)]
  · unfold coR
    rw [A_wa (by omega) (by omega), if_pos rfl, if_neg hr, A_wj, FR.A g4 (by simp), FR.A q8 (by simp), FR.A g1 (by simp)]
  · show w3.2.2.2 88 i = _
    rw [g5 i hi, q10 i (by omega), g3 i hi]
  · show w3.2.2.2 91 i = _
    rw [g4.2.2.2 91 (by simp), q8.2.2.2 91 (by simp), g1.2.2.2 91 (by simp)]
  · show w3.2.2.2 93 i = _
    rw [g4.2.2.2 93 (by simp), q8.2.2.2 93 (by simp), g1.2.2.2 93 (by simp)]
  · show (wj w3 107 (30 * q + Y) x).2.2.2 107 i = _
    rw [wj_row, if_neg (by omega), g4.2.2.2 107 (by simp), q8.2.2.2 107 (by simp), g1.2.2.2 107 (by simp)]
/-- one with a head -/
theorem tailH_pp (hcl : ∀ (m2 : MS) (r : Int64) (D : Option (MS × Unit)), F m2 (pq q 7) = ((Y : Nat) : Int) → PP (fun m2 (_ : Unit) w2 (_ : Unit) => PSTs q (U + a + s) B W Y m w m2 w2) (some (coS (wrL (pq q 2) (L ++ [r]) U m2) q Y (mk 5 ((U : Nat) : Int)), ())) D → PP (fun m2 (_ : Unit) w2 (_ : Unit) => PSTs q (U + a + s) B W Y m w m2 w2) (hb_Wl_post_120 N () m2 q (I ((a : Nat) : Int)) (I v3) (I v4) (I ((U : Nat) : Int)) r) D) (ha : 2 ≤ a) (hL : L.length = a - 1) (hL' : L'.length = a - 1) {y0 y0' : Int64} (x0 : L[0]? = some y0 ∧ vn y0 = a - 1) (x0' : L'[0]? = some y0' ∧ vn y0' = a - 1) (xs : ∀ j, 1 ≤ j → j < a - 1 → ∃ y, L[j]? = some y ∧ L'[j]? = some y ∧ ¬ isH y ∧ so y ≠ 6)
    (pl : PLs b q m w U B W Y) (hY : Y < 30) (hq : q < 24) (hF : FVc Fv) (gm : HPc (m.2.2.2 (pq q 2)) U ow kd Fv P) (sr : SRs Fv P Fv' P' m w q U src t wr o x s) (hl : U + a + s ≤ 500) (hN : 3000 ≤ N) (f1 : FR [pq q 4] [] [] [] m m1) (j1 : m1.2.2.2 = m.2.2.2) (e1 : F m1 (pq q 4) = ((U + a : Nat) : Int)) :
    PP (fun m2 (_ : Unit) w2 (_ : Unit) => PSTs q (U + a + s) B W Y m w m2 w2) (match (generalizing := false) src with | none => hb_Wl_post_120 N () m1 q (I ((a : Nat) : Int)) (I v3) (I v4) (I ((U : Nat) : Int)) t | some j => bnd (hm_Pr_copyIn N m1 q (pq j 2) t) (fun u r => hb_Wl_post_120 N () u q (I ((a : Nat) : Int)) (I v3) (I v4) (I ((U : Nat) : Int)) r)) (fb_M_message_261 N () (wrL 88 L' (500 * q + U) (wa w 89 q ((U + a : Nat) : Int))) (I q) (I wr) (I o) x (mk 5 ((U : Nat) : Int)) (I ((U + (a - 1) : Nat) : Int))) := by
  generalize hw1 : wrL 88 L' (500 * q + U) (wa w 89 q ((U + a : Nat) : Int)) = w1
  have fr := wrL_fr (m := wa w 89 q ((U + a : Nat) : Int)) (L := L') (K := 88) (i := 500 * q + U)
  have g1 : FR [] [] [89] [88] w w1 := by rw [← hw1]; exact FR.tr (FR.wa FR.rf (by simp)) (FR.mo fr (by simp) (by simp) (by simp) (by simp))
  have a1 : ∀ r, A w1 89 r = if r = q then ((U + a : Nat) : Int) else A w 89 r := fun r => by rw [← hw1, FR.A fr (by simp), A_wa (by omega) (by omega), if_pos rfl]
  have n1 : ∀ i, ¬ (500 * q + U ≤ i ∧ i < 500 * q + U + (a - 1)) → w1.2.2.2 88 i = w.2.2.2 88 i := fun i hi => by rw [← hw1, wrL_n _ _ _ _ (by rw [hL']; exact hi)]; rfl
  have c1 : ∀ j y, L'[j]? = some y → hp w1 q (U + j) = y := fun j y hy => by
    show w1.2.2.2 88 (500 * q + (U + j)) = y
    rw [← hw1, show 500 * q + (U + j) = 500 * q + U + j by omega]
    exact wrL_c _ _ _ _ _ hy
  have sr1 : SRs Fv P Fv' P' m1 w1 q (U + a) src t wr o x s := SRs_st sr (fun j _ => by rw [j1]) (fun ho i hi => n1 _ (by omega)) (fun ho i hi => n1 _ (by subst ho; omega)) (fun _ => by omega)
  have sD : ISb b (m1.2.2.2 (pq q 2)) (U + a) (hp w1 q) (U + a) := ISb_up (ISb_ag pl.1.2.1 (fun i _ => by rw [j1]) (fun i hi => n1 _ (by omega))) (by omega) (by omega)
  have gd : HPc (m1.2.2.2 (pq q 2)) (U + a) (owH U ow) kd Fv P := by rw [j1]; exact HP_holec a gm (fun _ _ => rfl)
  refine inner_pp (K := fun u r => hb_Wl_post_120 N () u q (I ((a : Nat) : Int)) (I v3) (I v4) (I ((U : Nat) : Int)) r) sr1 hF hq e1 (by rw [a1, if_pos rfl]) sD gd hl hN (fun m2 r w2 r2 hin => ?_)
  have hin0 := hin
  obtain ⟨-, ⟨q5, q6, q7⟩, q8, q9, q10⟩ := hin
  have p7 : F m2 (pq q 7) = ((Y : Nat) : Int) := by
    rw [FR.F q5 (by simpa using pq_inj (by omega)), FR.F f1 (by simpa using pq_inj (by omega))]
    exact pl.2.2.2.1
  have p8 : A w2 108 q = ((Y : Nat) : Int) := by
    rw [FR.A q8 (by simp), FR.A g1 (by simp)]
    exact pl.2.2.2.2.1
  refine hcl m2 r _ p7 ?_
  unfold fb_M_message_378
  rw [litm1, decE (by omega) (by omega) (by omega) (by omega), decide_eq_false (by omega), br_f]
  refine r_ck (fun _ => r_lt ?_)
  rw [tn88 (by omega) (by omega), wj_e, box_e (Y := Y) hq (show A (wj w2 88 (500 * q + (U + (a - 1))) r2) 108 q = ((Y : Nat) : Int) from p8) hY]
  obtain ⟨b3, pl3, rt3⟩ := head_pl (L := L) pl f1 g1 hin0 hl ha hL x0 (by rw [show U = U + 0 from rfl, c1 0 y0' x0'.1]; exact x0'.2) (fun j h1 h2 => by
    obtain ⟨y, y1, y2, y3⟩ := xs j h1 h2
    exact ⟨y, y1, c1 j y y2, y3⟩)
  exact pp_end (come_pl hq hY f1 g1 (fun r hr => by rw [a1, if_neg hr]) (fun i hi => n1 i (by omega)) hin0 wrL_fr (FR.wj FR.rf (by simp)) (fun i hi => by rw [wj_row, if_neg (by omega)]) pl3 rt3)
theorem vn_hd {k : Nat} (h : k < 100) : vn ((I ((k : Nat) : Int)).toInt64) = k := by
  unfold vn
  rw [va_nat h]
  omega
theorem vn_mk8 {k : Nat} (h : k < 100) : vn (mk 8 ((k : Nat) : Int)) = k := by
  unfold vn
  rw [va_mk (by omega) (by omega)]
  omega
theorem so_n {k : Int} {z : Int} (hk : k = 1 ∨ k = 2 ∨ k = 4) : so (mk k z) ≠ 6 := by
  rw [so_mk (by omega) (by omega)]
  omega
/-- there is room: the message comes -/
theorem tail_pp {D : Option (MS × Unit)} (ha : (a = 0 ∧ D = fb_M_message_261 N () w (I q) (I wr) (I o) x 0 (-1)) ∨ (a = 4 ∧ D = fb_M_message_136 N () w (I q) (I ((0 : Nat) : Int)) (I v4) (I v3) (I wr) (I o) x (I ((U : Nat) : Int)) 3) ∨ (a = 5 ∧ D = fb_M_message_136 N () w (I q) (I ((1 : Nat) : Int)) (I v4) (I v3) (I wr) (I o) x (I ((U : Nat) : Int)) 4))
    (pl : PLs b q m w U B W Y) (hY : Y < 30) (hq : q < 24) (hF : FVc Fv) (gm : HPc (m.2.2.2 (pq q 2)) U ow kd Fv P) (sr : SRs Fv P Fv' P' m w q U src t wr o x s) (hl : U + a + s ≤ 500) (hN : 3000 ≤ N) : PP (fun m2 (_ : Unit) w2 (_ : Unit) => PSTs q (U + a + s) B W Y m w m2 w2) (hb_Wl_post_81 N () m q (I ((a : Nat) : Int)) (I v3) (I v4) src t) D := by
  have u0 := pl.1.1.1
  have u0' := pl.1.1.2.1
  unfold hb_Wl_post_81
  rw [I_F' u0, show I ((U : Nat) : Int) + I ((a : Nat) : Int) = I ((U + a : Nat) : Int) from addN, wi_e, lt_e]
  generalize hm1 : wi m (pq q 4) ((U + a : Nat) : Int) = m1
  have f1 : FR [pq q 4] [] [] [] m m1 := by rw [← hm1]; exact FR.wi FR.rf (by simp)
  have j1 : m1.2.2.2 = m.2.2.2 := by rw [← hm1]; rfl
  have e1 : F m1 (pq q 4) = ((U + a : Nat) : Int) := by rw [← hm1, F_wi (by omega) (by omega), if_pos rfl]
  have shp : ∀ a : Nat, br (decide (src = none)) (hb_Wl_post_120 N () m1 q (I ((a : Nat) : Int)) (I v3) (I v4) (I ((U : Nat) : Int)) t) (bo src (fun j => bnd (hm_Pr_copyIn N m1 q (pq j 2) t) (fun u r => hb_Wl_post_120 N () u q (I ((a : Nat) : Int)) (I v3) (I v4) (I ((U : Nat) : Int)) r))) = (match (generalizing := false) src with | none => hb_Wl_post_120 N () m1 q (I ((a : Nat) : Int)) (I v3) (I v4) (I ((U : Nat) : Int)) t | some j => bnd (hm_Pr_copyIn N m1 q (pq j 2) t) (fun u r => hb_Wl_post_120 N () u q (I ((a : Nat) : Int)) (I v3) (I v4) (I ((U : Nat) : Int)) r)) := fun a => by
    cases src with
    | none => rfl
    | some j => rfl
  rw [shp]
  rcases ha with ⟨rfl, rfl⟩ | ⟨rfl, rfl⟩ | ⟨rfl, rfl⟩
  · have sr1 : SRs Fv P Fv' P' m1 w q (U + 0) src t wr o x s := SRs_st sr (fun j _ => by rw [j1]) (fun _ _ _ => rfl) (fun _ _ _ => rfl) (fun _ => by omega)
    have sD : ISb b (m1.2.2.2 (pq q 2)) (U + 0) (hp w q) (U + 0) := by rw [j1]; exact pl.1.2.1
    have gd : HPc (m1.2.2.2 (pq q 2)) (U + 0) ow kd Fv P := by rw [j1]; exact gm
    refine inner_pp (K := fun u r => hb_Wl_post_120 N () u q (I ((0 : Nat) : Int)) (I v3) (I v4) (I ((U : Nat) : Int)) r) sr1 hF hq e1 u0' sD gd hl hN (fun m2 r w2 r2 hin => ?_)
    have hin0 := hin
    obtain ⟨⟨b2, q1, q2, q3, q4⟩, ⟨q5, q6, q7⟩, q8, q9, q10⟩ := hin
    have p7 : F m2 (pq q 7) = ((Y : Nat) : Int) := by
      rw [FR.F q5 (by simpa using pq_inj (by omega)), FR.F f1 (by simpa using pq_inj (by omega))]
      exact pl.2.2.2.1
    have p8 : A w2 108 q = ((Y : Nat) : Int) := by
      rw [FR.A q8 (by simp)]
      exact pl.2.2.2.2.1
    show PP _ (hb_Wl_post_120 N () m2 q (I ((0 : Nat) : Int)) (I v3) (I v4) (I ((U : Nat) : Int)) r) _
    unfold hb_Wl_post_120 fb_M_message_378
    rw [show decide (I ((0 : Nat) : Int) = 0) = true from rfl, br_t, comes_e (Y := Y) p7 hY, bnd_so, show decide ((-1 : Int32) = -1) = true from rfl, br_t, box_e (Y := Y) hq p8 hY]
    have g0 : FR [] [] [89] [88] w w := FR.rf
    exact pp_end (come_pl hq hY f1 g0 (fun _ _ => rfl) (fun _ _ => rfl) hin0 FR.rf FR.rf (fun _ _ => rfl) (INs_pl pl f1 g0 hin0 rfl (fun _ _ => rfl) rfl (fun _ _ => rfl) q1 hl q3) q4)
  · refine hd4_r hq u0' (by omega) (tailH_pp (a := 4) (L := [mk 8 3, mk 1 8, mk 4 v3]) (L' := [(I 3).toInt64, mk 1 8, mk 4 v3]) (fun m2 r D p7 k => hd4_l p7 hY (by omega) k) (by omega) rfl rfl ⟨rfl, vn_mk8 (k := 3) (by omega)⟩ ⟨rfl, vn_hd (k := 3) (by omega)⟩ (fun j h1 h2 => ?_) pl hY hq hF gm sr hl hN f1 j1 e1)
    have ej : j = 1 ∨ j = 2 := by omega
    rcases ej with rfl | rfl
    · exact ⟨mk 1 8, rfl, rfl, nh_mk (by omega), so_n (by omega)⟩
    · exact ⟨mk 4 v3, rfl, rfl, nh_mk (by omega), so_n (by omega)⟩
  · refine hd5_r hq u0' (by omega) (tailH_pp (a := 5) (L := [mk 8 4, mk 1 9, mk 2 v4, mk 4 v3]) (L' := [(I 4).toInt64, mk 1 9, mk 2 v4, mk 4 v3]) (fun m2 r D p7 k => hd5_l p7 hY (by omega) k) (by omega) rfl rfl ⟨rfl, vn_mk8 (k := 4) (by omega)⟩ ⟨rfl, vn_hd (k := 4) (by omega)⟩ (fun j h1 h2 => ?_) pl hY hq hF gm sr hl hN f1 j1 e1)
    have ej : j = 1 ∨ j = 2 ∨ j = 3 := by omega
    rcases ej with rfl | rfl | rfl
    · exact ⟨mk 1 9, rfl, rfl, nh_mk (by omega), so_n (by omega)⟩
    · exact ⟨mk 2 v4, rfl, rfl, nh_mk (by omega), so_n (by omega)⟩
    · exact ⟨mk 4 v3, rfl, rfl, nh_mk (by omega), so_n (by omega)⟩
end
