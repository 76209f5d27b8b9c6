section
variable {α : Type} {Q : MS → α → Prop} {u0 u v v2 w : MS} {N σ TN SN j : Nat} {bw : Nat → Nat} {p o o1 n q c f h s wt g x y k d p1 q1 p2 q2 l : Int} {r y1 y2 y3 y5 y6 : Int32} {S : SG_M_rowPattern}
theorem k_isSign2 {c : Int32} {f : MS → Int32 → Option (MS × α)} (hc : c = I x) (hs : RG x) (hp : 0 ≤ F u 69 ∧ F u 69 ≤ 4001) (a : ∀ b : Int32, (b = 1 ∧ IS u x) ∨ (b = 0 ∧ ¬ IS u x) → OK Q (f u b)) : OK Q (bnd (fm_M_isSign N u c) f) := by
  rw [hc]
  by_cases e : IS u x
  · rw [isSign_1 hp hs e, bnd_so]; exact a 1 (Or.inl ⟨rfl, e⟩)
  · rw [isSign_0 hp hs e, bnd_so]; exact a 0 (Or.inr ⟨rfl, e⟩)
def OPN (u w : MS) : Prop := (F u 70 < 25 ∧ w = op1 u) ∨ (25 ≤ F u 70 ∧ ∃ v, FR [67, 68] [] [] [] u v ∧ F v 67 ≠ 0 ∧ w = op1 v)
theorem k_opens2 {f : MS → Unit → Option (MS × α)} (hp : 0 ≤ F u 69 ∧ F u 69 ≤ 4001) (a : ∀ w, OPN u w → OK Q (f w ())) : OK Q (bnd (fm_M_opens N u) f) := k_opens hp (fun h => a _ (Or.inl ⟨h, rfl⟩)) (fun v h1 h2 h3 => a _ (Or.inr ⟨h1, v, h2, h3, rfl⟩))
theorem OPN_ST (hs : ST u0 σ p o n q c f h s wt g u) (ho : 0 ≤ o ∧ o ≤ 100) (a : OPN u w) : ST u0 σ p (o + 1) n q c f h s wt g w := by
  rcases a with ⟨-, a⟩ | ⟨-, v, a1, -, a⟩
  · rw [a]; exact ST_op hs ho
  · rw [a]; exact ST_op (ST_67 hs a1) ho
theorem OPN_KP (a : OPN u w) : KPR σ u w := by
  rcases a with ⟨-, a⟩ | ⟨-, v, a1, -, a⟩
  · rw [a]; exact KPR_w0 KPR_rf (by decide)
  · rw [a]; exact KPR_w0 (KPR_67 KPR_rf a1) (by decide)
theorem OPN_67 (hf : F u 67 = 0) (a : OPN u w) : (F w 67 = 0 ∧ F u 70 < 25 ∧ w = op1 u) ∨ (F w 67 ≠ 0 ∧ 25 ≤ F u 70) := by
  rcases a with ⟨a1, a⟩ | ⟨a0, v, a1, a2, a⟩
  · rw [a]; exact Or.inl ⟨(wi_ne (by decide)).trans hf, a1, rfl⟩
  · rw [a]; exact Or.inr ⟨by rw [show F (op1 v) 67 = F v 67 from wi_ne (by decide)]; exact a2, a0⟩
theorem OPN_A (a : OPN u w) {r i : Nat} : A w r i = A u r i := by
  rcases a with ⟨-, a⟩ | ⟨-, v, a1, -, a⟩
  · rw [a]; rfl
  · rw [a]; exact a1.A (by intro z; cases z)
theorem OPN_66 (a : OPN u w) : F w 66 = F u 66 := by
  rcases a with ⟨-, a⟩ | ⟨-, v, a1, -, a⟩
  · rw [a]; exact wi_ne (by decide)
  · rw [a]; exact (wi_ne (by decide)).trans (a1.F (by decide))
def RPSP (u0 : MS) (TN SN σ : Nat) (d : Int) (F1 : MS → Int32 → Option (MS × Int32)) (o : Int) : Prop := ∀ (u : MS) (b : Int32) (p n q c f h s wt g : Int), ST u0 σ p o n q c f h s wt g u → F u 67 = 0 → IS u 2 ∨ IS u 4 → (0 ≤ p ∧ p ≤ TN) → (0 ≤ q ∧ 2 * q + (TN - p) ≤ 8000 + 2 * o - 2) → (0 ≤ n ∧ n ≤ 12000 + d) → (0 ≤ h ∧ h + 60 * σ ≤ 23400) → OK (PPO u0 TN SN σ d p o n q c f h s wt g u) (F1 u b)
def RPFM (u0 : MS) (TN σ : Nat) (d : Int) (F1 : MS → Int32 → Option (MS × Int32)) : Prop := ∀ (u : MS) (b : Int32) (p o n q c f h s wt g : Int), ST u0 σ p o n q c f h s wt g u → F u 67 ≠ 0 → (0 ≤ p ∧ p ≤ TN) → (0 ≤ q ∧ q < 5000) → (0 ≤ n ∧ n ≤ 12000 + d) → (0 ≤ h ∧ h + 60 * σ ≤ 23400) → OK (FPA u0 TN σ d) (F1 u b)
theorem rowPat_F (hT : TN ≤ 4000) : RPFM u0 TN σ d (fm_M_rowPattern N S) := by
  intro u b p o n q c f h s wt g hs hf hp hq hn hh
  have e69 : F u 69 = p := hs.2.1.1
  have e39 : F u 39 = q := hs.2.1.2.2.2.1
  unfold fm_M_rowPattern fb_M_rowPattern_0 fb_M_rowPattern_15 fb_M_rowPattern_27
  have main : ∀ (t c2 : Int32) (k : Int), vp_nar .byte (t.toInt8.toInt32) = I k → 0 ≤ k ∧ k ≤ 31 → OK (FPA u0 TN σ d) (bnd (fm_M_pattern N u t) (fun u13 r13 => lt (upI u13 69 ((u13.1 69) + 1)) (fun w14 => br (decide ((w14.1 67) = 0)) (bnd (fm_M_isSign N w14 c2) (fun u15 r15 => br (decide (r15 = 0)) (gg_M_rowPattern N S N u15 b 0 c2 r13 (-1) 0 1) (fb_M_rowPattern_194 N S (gg_M_rowPattern N S N) u15 c2 r13 0))) (fb_M_rowPattern_194 N S (gg_M_rowPattern N S N) w14 c2 r13 0)))) := fun t c2 k h1 h2 => by
    refine k_pattern h1 h2 (by omega) (fun v hv => ok_lt.mpr ?_)
    rw [nx1_e, e39]
    have hs2 := ST_nx (ST_pt hs hv) (show 0 ≤ p ∧ p ≤ 4001 by omega)
    have f2 : F (nx1 v) 67 ≠ 0 := by rw [show F (nx1 v) 67 = F v 67 from wi_ne (by decide), hv.1.F (by decide)]; exact hf
    exact k_F (y := 0) rfl ⟨by decide, by decide⟩ (fun z => absurd z f2) (fun _ => row194_F (FSM_of hs2 (by omega) hn hh f2) hT hq)
  have main2 : ∀ (t c2 : Int32) (k : Int), vp_nar .byte (t.toInt8.toInt32) = I k → 0 ≤ k ∧ k ≤ 31 → OK (FPA u0 TN σ d) (bnd (fm_M_pattern N u t) (fun u13 r13 => lt (upI u13 69 ((u13.1 69) + 1)) (fun w14 => br (decide ((w14.1 67) = 0)) (bnd (fm_M_isSign N w14 c2) (fun u15 r15 => br (decide (r15 = 0)) (gg_M_rowPattern N S N u15 b 1 c2 r13 (-1) 0 1) (fb_M_rowPattern_194 N S (gg_M_rowPattern N S N) u15 c2 r13 0))) (fb_M_rowPattern_194 N S (gg_M_rowPattern N S N) w14 c2 r13 0)))) := fun t c2 k h1 h2 => by
    refine k_pattern h1 h2 (by omega) (fun v hv => ok_lt.mpr ?_)
    rw [nx1_e, e39]
    have hs2 := ST_nx (ST_pt hs hv) (show 0 ≤ p ∧ p ≤ 4001 by omega)
    have f2 : F (nx1 v) 67 ≠ 0 := by rw [show F (nx1 v) 67 = F v 67 from wi_ne (by decide), hv.1.F (by decide)]; exact hf
    exact k_F (y := 0) rfl ⟨by decide, by decide⟩ (fun z => absurd z f2) (fun _ => row194_F (FSM_of hs2 (by omega) hn hh f2) hT hq)
  refine k_isSign (s := 2) rfl ⟨by decide, by decide⟩ (by omega) (fun _ => ?_) (fun _ => ?_)
  · rw [br10]; exact main2 5 3 5 rfl (by decide)
  · rw [br00]; exact main 6 5 6 rfl (by decide)
theorem rowPat_N (tk : TKW u0 TN SN bw) (hN : 5000 ≤ N) (ho : 0 ≤ o ∧ o ≤ 25) (hS : PASP u0 TN SN σ d S.2 o) : RPSP u0 TN SN σ d (fm_M_rowPattern N S) o := by
  intro u b p n q c f h s wt g hs hf hi hp hq hn hh
  have hT := tk.1.1
  have e69 : F u 69 = p := hs.2.1.1
  have e39 : F u 39 = q := hs.2.1.2.2.2.1
  have lt : p < TN := by
    rcases hi with z | z
    · exact tok_lt tk hp (by have := (ST_IS hs z).1; omega)
    · exact tok_lt tk hp (by have := (ST_IS hs z).1; omega)
  have bk : brk u0 p.toNat = 1 := by
    unfold brk
    rcases hi with z | z
    · have z2 := ST_IS hs z
      rw [if_pos z2.1, if_pos (by omega)]
    · have z2 := ST_IS hs z
      rw [if_pos z2.1, if_pos (by omega)]
  unfold fm_M_rowPattern fb_M_rowPattern_0 fb_M_rowPattern_15
  have main : ∀ (t y2 y3 : Int32) (k x : Int), vp_nar .byte (t.toInt8.toInt32) = I k → (k = 5 ∧ y2 = 1 ∧ y3 = I 3) ∨ (k = 6 ∧ y2 = 0 ∧ y3 = I 5) → y3 = I x → x = 1 ∨ x = 3 ∨ x = 5 → OK (PPO u0 TN SN σ d p o n q c f h s wt g u) (fb_M_rowPattern_27 N S (gg_M_rowPattern N S N) u b y2 y3 t) := fun t y2 y3 k x h1 hk hx hx2 => by
    unfold fb_M_rowPattern_27
    refine k_pattern h1 (by omega) (by omega) (fun v hv => ok_lt.mpr ?_)
    rw [nx1_e, e39]
    have hs2 := ST_nx (ST_pt hs hv) (show 0 ≤ p ∧ p ≤ 4001 by omega)
    obtain ⟨v1, v2, ⟨v3, v4, v5, v6, v7⟩, v8⟩ := id hv
    rw [e39] at v3 v4 v5 v6 v7
    have f2 : F (nx1 v) 67 = 0 := by rw [show F (nx1 v) 67 = F v 67 from wi_ne (by decide), v1.F (by decide)]; exact hf
    have f66 : F (nx1 v) 66 = F u 66 := by rw [show F (nx1 v) 66 = F v 66 from wi_ne (by decide), v1.F (by decide)]
    have kp : KPR σ u (nx1 v) := KPR_w0 (KPR_pt KPR_rf hv (by omega)) (by decide)
    have a60 : A (nx1 v) 60 σ = A u 60 σ := v1.A (by decide)
    have a : RWL u0 SN σ u (nx1 v) p q k 0 (p + 1) (q + 1) (-1) := by
      refine ⟨fun _ => q.toNat + 1, fun _ => (A u 60 σ).toNat, ⟨rfl, by show q.toNat + 1 = (q + 1).toNat; omega, rfl, by rw [a60]⟩, fun i hi => by omega, ⟨fun i hi => by omega, fun hi => by omega⟩, Or.inl ⟨rfl, rfl⟩, ?_, ⟨v3, v7, v6, fun z => by omega, fun _ => v5⟩, fun _ => Or.inr a60⟩
      rw [show (p + 1).toNat = p.toNat + 1 from by omega]
      exact BIN2_0 bk
    refine k_F (y := 0) rfl ⟨by decide, by decide⟩ (fun _ => ?_) (fun z => absurd f2 z)
    have e69n : F (nx1 v) 69 = p + 1 := hs2.2.1.1
    refine k_isSign hx ⟨by omega, by omega⟩ (by omega) (fun z => ?_) (fun z => ?_)
    · rw [lit0q]
      exact row194_N (kd := k) (t := 0) (x := x) tk hs2 f2 kp e39 a (by rcases hk with hk | hk; exact Or.inl ⟨hk.1, rfl, by omega, rfl⟩; exact Or.inr (Or.inl ⟨hk.1, rfl, by omega, rfl⟩)) hx2 (by omega) (by omega) hn hh hx
    · rw [show (-1 : Int32) = I (-1) from rfl, lit0q]
      exact row_loop (kd := k) tk hS ho e39 hk (by omega) (by omega) hn hh N 0 (nx1 v) (p + 1) (q + 1) (-1) hs2 f2 kp a (by omega) (by omega) (by omega) (by omega)
  refine k_isSign (s := 2) rfl ⟨by decide, by decide⟩ (by omega) (fun _ => ?_) (fun _ => ?_)
  · rw [br10]; exact main 5 1 3 5 3 rfl (Or.inl ⟨rfl, rfl, rfl⟩) rfl (by omega)
  · rw [br00]; exact main 6 0 5 6 5 rfl (Or.inr ⟨rfl, rfl, rfl⟩) rfl (by omega)
theorem pat388_F (hs : FSM u0 TN σ d v) (hx : r = I x ∧ -1 ≤ x ∧ x < 5000) : OK (FPA u0 TN σ d) (fb_M_patternAt_388 N S () v r) := by
  unfold fb_M_patternAt_388
  rw [clo1_e]
  exact ok_lt.mpr (ok_some.mpr ⟨FSM_wi hs (by decide), x, hx⟩)
theorem PEND_i {i : Nat} (h : A u0 6 i ≠ 6) : PEND u0 i (i + 1) := Or.inl ⟨h, rfl⟩
def BEG (u0 u : MS) (i : Nat) : Prop := A u0 6 i = 2 ∨ A u0 6 i = 4 ∨ A u0 6 i = 1 ∨ A u0 6 i = 5 ∨ IS u 2 ∨ IS u 4 ∨ IS u 0 ∨ IS u 19
def MFL (u : MS) (b : Int32) : Prop := (b = 1 ∧ IS u 19) ∨ (b = 0 ∧ ¬ IS u 19)
def PGD (u0 : MS) (TN SN σ : Nat) (p q p2 q2 : Int) (u v : MS) : Prop := (p2 ≤ TN ∧ q < q2 ∧ 2 * (q2 - q) ≤ p2 - p + 1) ∧ PEND u0 p.toNat p2.toNat ∧ PTT v SN q.toNat q2.toNat (A u 60 σ).toNat (A v 60 σ).toNat (A v 63 σ).toNat ∧ A v 37 q.toNat = -1 ∧ (F v 66 = 0 → A v 60 σ ≤ 40 ∨ A v 60 σ = A u 60 σ)
theorem pat_fin (ho : 0 ≤ o ∧ o ≤ 25) (hq : 0 ≤ q ∧ q < 5000) (hn : 0 ≤ n ∧ n ≤ 12000 + d) (hh : 0 ≤ h ∧ h + 60 * σ ≤ 23400) (h1 : ST u0 σ p2 (o + 1) n q2 c f h s wt g v) (h2 : KPR σ u v) (h3 : 0 ≤ p2 ∧ p2 ≤ TN + 1) (h4 : F v 67 = 0 → PGD u0 TN SN σ p q p2 q2 u v) : OK (PPO u0 TN SN σ d p o n q c f h s wt g u) (fb_M_patternAt_388 N S () v (I q)) := by
  by_cases z : F v 67 = 0
  · obtain ⟨g1, g2, g3, g4, g5⟩ := h4 z
    unfold fb_M_patternAt_388
    rw [clo1_e]
    refine ok_lt.mpr (ok_some.mpr (Or.inl ⟨(wi_ne (by decide)).trans z, rfl, p2, q2, ?_, KPR_w0 h2 (by decide), g1, g2, g3, g4, ?_⟩))
    · have := ST_cl h1 (by omega)
      rwa [show o + 1 - 1 = o from by omega] at this
    · rw [show F (clo1 v) 66 = F v 66 from wi_ne (by decide)]; exact g5
  · exact ok_mono (pat388_F (FSM_of h1 (by omega) hn hh z) ⟨rfl, by omega, by omega⟩) (fun _ _ => Or.inr)
theorem pat_one (hT : TN ≤ 4000) (hp : 0 ≤ p ∧ p < TN) (ho : 0 ≤ o ∧ o ≤ 25) (hq : 0 ≤ q ∧ q < 5000) (hn : 0 ≤ n ∧ n ≤ 12000 + d) (hh : 0 ≤ h ∧ h + 60 * σ ≤ 23400) (e39w : F w 39 = q) (a60 : A w 60 σ = A u 60 σ) (hv : PTV w v k) (h1 : ∀ r i, r ∉ [35] → A v2 r i = A v r i) (h3 : ST u0 σ p (o + 1) n (q + 1) c f h s wt g v2) (h4 : KPR σ u v2) (h6 : A u0 6 p.toNat ≠ 6) (h5 : k = 3 ∨ (k = 4 ∧ 0 ≤ A v2 35 q.toNat ∧ A v2 35 q.toNat < SN)) : OK (PPO u0 TN SN σ d p o n q c f h s wt g u) (fb_M_patternAt_388 N S () (nx1 v2) (I q)) := by
  obtain ⟨v1, -, ⟨v3, v4, v5, v6, v7⟩, v8⟩ := id hv
  rw [e39w] at v3 v6
  have b60 : A v2 60 σ = A u 60 σ := by rw [h1 60 _ (by decide), v1.A (by decide)]; exact a60
  refine pat_fin ho hq hn hh (ST_nx h3 (by omega)) (KPR_w0 h4 (by decide)) (by omega) (fun z => ⟨by omega, ?_, ?_, ?_, fun _ => Or.inr b60⟩)
  · rw [show (p + 1).toNat = p.toNat + 1 from by omega]; exact PEND_i h6
  · rw [show (q + 1).toNat = q.toNat + 1 from by omega, show A (nx1 v2) 60 σ = A u 60 σ from b60]
    refine PTT_one ?_
    rcases h5 with h5 | h5
    · exact Or.inr (Or.inl ⟨by rw [show A (nx1 v2) 33 q.toNat = A v2 33 q.toNat from rfl, h1 33 _ (by decide), v3]; exact h5, rfl⟩)
    · exact Or.inr (Or.inr (Or.inr (Or.inr ⟨by rw [show A (nx1 v2) 33 q.toNat = A v2 33 q.toNat from rfl, h1 33 _ (by decide), v3]; exact h5.1, rfl, h5.2⟩)))
  · rw [show A (nx1 v2) 37 q.toNat = A v2 37 q.toNat from rfl, h1 37 _ (by decide)]; exact v6
theorem ST_wj (s5 : ST u0 σ p o n q c f h s wt g v) {i : Nat} {t : Int64} : ST u0 σ p o n q c f h s wt g (wj v 34 i t) := ⟨FR.wj s5.1 (by decide), s5.2.1, s5.2.2.1, s5.2.2.2.1, s5.2.2.2.2.1, s5.2.2.2.2.2⟩
theorem KPR_wj (k5 : KPR σ u v) {i : Nat} {t : Int64} : KPR σ u (wj v 34 i t) := ⟨FR.wj k5.1 (by decide), k5.2⟩
def NUM1 (u0 : MS) (p p1 : Int) : Prop := (p1 = p ∧ A u0 6 p.toNat = 4) ∨ (p1 = p + 1 ∧ A u0 6 p.toNat = 6 ∧ A u0 7 p.toNat = 19)
theorem pat_199 {mf : Int32} (tk : TKW u0 TN SN bw) (hp : 0 ≤ p ∧ p ≤ TN) (hp1 : 0 ≤ p1 ∧ p1 ≤ TN) (ho : 0 ≤ o ∧ o ≤ 25) (hq : 0 ≤ q ∧ q < 5000) (hn : 0 ≤ n ∧ n ≤ 12000 + d) (hh : 0 ≤ h ∧ h + 60 * σ ≤ 23400) (s4 : ST u0 σ p1 (o + 1) n q c f h s wt g v) (k4 : KPR σ u v) (b60 : A v 60 σ = A u 60 σ) (h4 : F v 67 = 0 → NUM1 u0 p p1 ∧ A u0 6 p1.toNat = 4) : OK (PPO u0 TN SN σ d p o n q c f h s wt g u) (fb_M_patternAt_199 N S () v mf) := by
  have hT := tk.1.1
  unfold fb_M_patternAt_199
  have e39v : F v 39 = q := s4.2.1.2.2.2.1
  refine k_pattern (k := 3) rfl (by decide) (by omega) (fun v5 hv5 => ?_)
  have s5 := ST_pt s4 hv5
  have k5 := KPR_pt k4 hv5 (by omega)
  obtain ⟨w1, w2, ⟨w3, w4, w5, w6, w7⟩, w8⟩ := id hv5
  rw [e39v] at w3 w6
  have e5 : F v5 69 = p1 := s5.2.1.1
  have t239 : ∀ t3 : Int32, OK (PPO u0 TN SN σ d p o n q c f h s wt g u) (fb_M_patternAt_239 N S () v5 (I (F v 39)) 34 (I (F v 39)) 0 t3) := fun t3 => by
    unfold fb_M_patternAt_239
    rw [show (0 : Int32) = I 0 from rfl, I_of t3, term_e, bnd_so, show isK 34 5 = true by decide, ck_t, e39v]
    refine k_in (k := 34) (n := 5000) rfl (by decide) (by omega) (ok_lt.mpr (ok_lt.mpr ?_))
    rw [I_tn (x := q) (by omega) (by omega), wj_e, nx1_e]
    generalize mk 0 t3.toInt = tt
    have c60 : A (wj v5 34 q.toNat tt) 60 σ = A u 60 σ := by rw [A_wj, w1.A (by decide)]; exact b60
    have f6 : F (wj v5 34 q.toNat tt) 67 = F v 67 := by rw [F_wj]; exact w1.F (by decide)
    refine pat_fin ho hq hn hh (ST_nx (ST_wj s5) (by omega)) (KPR_w0 (KPR_wj k5) (by decide)) (by omega) (fun z => ?_)
    have z2 : F v 67 = 0 := by rw [← f6, ← z]; exact (wi_ne (by decide)).symm
    obtain ⟨z3, z4⟩ := h4 z2
    have lt3 := tok_lt tk hp1 (show ¬ (A u0 6 (p1).toNat = 0 ∨ A u0 6 (p1).toNat = 7) by omega)
    have bnd3 : p ≤ p1 ∧ p1 ≤ p + 1 := by
      rcases z3 with ⟨z5, -⟩ | ⟨z5, -⟩
      · omega
      · omega
    refine ⟨by omega, ?_, ?_, w6, fun _ => Or.inr c60⟩
    · rcases z3 with ⟨z5, z6⟩ | ⟨z5, z6, z7⟩
      · rw [z5, show (p + 1).toNat = p.toNat + 1 from by omega]; exact PEND_i (by omega)
      · rw [z5] at z4
        refine Or.inr (Or.inl ⟨z6, z7, by omega, ?_⟩)
        unfold brk
        rw [show p.toNat + 1 = (p + 1).toNat from by omega, if_neg (by omega)]
    · rw [show (q + 1).toNat = q.toNat + 1 from by omega, show A (nx1 (wj v5 34 q.toNat tt)) 60 σ = A u 60 σ from c60]
      exact PTT_one (Or.inr (Or.inl ⟨w3, rfl⟩))
  refine ok_br.mpr ⟨fun _ => k_at (k := 7) (n := 4002) rfl (by decide) (by omega) (t239 _), fun _ => k_at (k := 7) (n := 4002) rfl (by decide) (by omega) (t239 _)⟩
theorem pat_178 {mf : Int32} (tk : TKW u0 TN SN bw) (hp : 0 ≤ p ∧ p ≤ TN) (hp1 : 0 ≤ p1 ∧ p1 ≤ TN) (ho : 0 ≤ o ∧ o ≤ 25) (hq : 0 ≤ q ∧ q < 5000) (hn : 0 ≤ n ∧ n ≤ 12000 + d) (hh : 0 ≤ h ∧ h + 60 * σ ≤ 23400) (s4 : ST u0 σ p2 (o + 1) n q c f h s wt g v) (k4 : KPR σ u v) (b60 : A v 60 σ = A u 60 σ) (h4 : NUM1 u0 p p1) (hy : y1 = I p1) : OK (PPO u0 TN SN σ d p o n q c f h s wt g u) (fb_M_patternAt_178 N S () v mf y1) := by
  have hT := tk.1.1
  unfold fb_M_patternAt_178
  rw [hy, wi_e]
  refine ok_lt.mpr ?_
  have s3 := ST_69 (x := p1) s4 ⟨by omega, by omega⟩
  have k3 : KPR σ u (wi v 69 p1) := KPR_w0 k4 (by decide)
  have e3 : F (wi v 69 p1) 69 = p1 := s3.2.1.1
  have a60v : A (wi v 69 p1) 60 σ = A u 60 σ := b60
  generalize wi v 69 p1 = x3 at *
  refine k_at (k := 6) (n := 4002) rfl (by decide) (by omega) ?_
  rw [tn_F, e3]
  have a6x : A x3 6 p1.toNat = A u0 6 p1.toNat := ST_A s3 (by decide)
  refine k_A (y := 4) rfl ⟨by decide, by decide⟩ (fun z => ?_) (fun z => ?_)
  · exact pat_199 tk hp hp1 ho hq hn hh s3 k3 a60v (fun z2 => ⟨h4, by rw [← a6x]; exact z⟩)
  · exact k_wrong (s := 2) rfl ⟨by decide, by decide⟩ (by decide) (by omega) (fun v4 h1 h2 => pat_199 tk hp hp1 ho hq hn hh (ST_67 s3 h1) (KPR_67 k3 h1) ((h1.A (by intro z; cases z)).trans a60v) (fun z2 => absurd z2 h2))
theorem pat_160 {mf : Int32} (tk : TKW u0 TN SN bw) (hu : ST u0 σ p o n q c f h s wt g u) (hp : 0 ≤ p ∧ p < TN) (ho : 0 ≤ o ∧ o ≤ 25) (hq : 0 ≤ q ∧ q < 5000) (hn : 0 ≤ n ∧ n ≤ 12000 + d) (hh : 0 ≤ h ∧ h + 60 * σ ≤ 23400) (s4 : ST u0 σ p (o + 1) n q c f h s wt g v) (k4 : KPR σ u v) (b60 : A v 60 σ = A u 60 σ) (hm : MFL u mf) (h4 : A u0 6 p.toNat = 4 ∨ IS u 19) : OK (PPO u0 TN SN σ d p o n q c f h s wt g u) (fb_M_patternAt_160 N S () v mf) := by
  have hT := tk.1.1
  have e69w : F v 69 = p := s4.2.1.1
  unfold fb_M_patternAt_160
  rcases hm with ⟨hm1, hm2⟩ | ⟨hm1, hm2⟩
  · have z := ST_IS hu hm2
    subst hm1
    rw [br10]
    exact pat_178 tk ⟨hp.1, by omega⟩ (p1 := p + 1) (by omega) ho hq hn hh s4 k4 b60 (Or.inr ⟨rfl, z⟩) (by rw [I_F' e69w, lit1q, I_add])
  · subst hm1
    rw [br00]
    exact pat_178 tk ⟨hp.1, by omega⟩ (p1 := p) (by omega) ho hq hn hh s4 k4 b60 (Or.inl ⟨rfl, h4.resolve_right hm2⟩) (I_F' e69w)
theorem pat_open (tk : TKW u0 TN SN bw) (hp : 0 ≤ p ∧ p < TN) (ho : 0 ≤ o ∧ o ≤ 24) (hq : 0 ≤ q ∧ 2 * q + (TN - p) ≤ 8000 + 2 * o) (hn : 0 ≤ n ∧ n ≤ 12000 + d) (hh : 0 ≤ h ∧ h + 60 * σ ≤ 23400) (s4 : ST u0 σ p (o + 1) n q c f h s wt g w) (k4 : KPR σ u w) (b60 : A w 60 σ = A u 60 σ) (f0 : F w 67 = 0) (z0 : IS w 0) (hS2 : PASP u0 TN SN σ d S.2 (o + 1)) : OK (PPO u0 TN SN σ d p o n q c f h s wt g u) (bnd (S.2 (nx1 w) y1) (fun u11 r11 => bnd (fm_M_needSign N u11 1) (fun u12 _ => fb_M_patternAt_388 N S () u12 (r11)))) := by
  have hT := tk.1.1
  have z2 := ST_IS s4 z0
  have s1 := ST_nx s4 (show 0 ≤ p ∧ p ≤ 4001 by omega)
  have kw1 : KPR σ u (nx1 w) := KPR_w0 k4 (by decide)
  refine ok_bnd.mpr (ok_mono (hS2 (nx1 w) y1 _ _ _ _ _ _ _ _ _ s1 ((wi_ne (by decide)).trans f0) (by omega) (by omega) hn hh) (fun v2 r2 hv2 => ?_))
  rcases hv2 with ⟨c1, c2, p3, q3, c3, c4, c5, c6, c7, c8, c9⟩ | ⟨hv2, x2, hx2⟩
  · have e3 : F v2 69 = p3 := c3.2.1.1
    have bs : BIN2 u0 p.toNat p3.toNat := by
      refine BIN2_p (b := p.toNat + 1) (BIN2_0 ?_) (by rw [show p.toNat + 1 = (p + 1).toNat from by omega]; exact c6)
      unfold brk
      rw [if_pos z2.1, if_pos (by omega)]
    have bl := (PEND_b c6).1
    have b60' : A (nx1 w) 60 σ = A u 60 σ := b60
    rw [b60'] at c7 c9
    rw [c2]
    refine k_needSign (s := 1) rfl ⟨by decide, by decide⟩ (by omega) (fun g0 zc => ?_) (fun v3 h3 h4 => ?_)
    · have zc2 := ST_IS c3 zc
      have lt3 := tok_lt tk (by omega) (show ¬ (A u0 6 (p3).toNat = 0 ∨ A u0 6 (p3).toNat = 7) by omega)
      refine pat_fin (by omega) (by omega) hn hh (ST_nx c3 (by omega)) (KPR_w0 (KPR_tr kw1 c4) (by decide)) (by omega) (fun _ => ⟨by omega, ?_, c7, c8, ?_⟩)
      · rw [show (p3 + 1).toNat = p3.toNat + 1 from by omega]
        exact BIN2_c bs (brk_c zc2.1 (by omega))
      · rw [show F (nx1 v2) 66 = F v2 66 from wi_ne (by decide)]
        exact c9
    · exact ok_mono (pat388_F (FSM_of (ST_67 c3 h3) (by omega) hn hh h4) ⟨rfl, by omega, by omega⟩) (fun _ _ => Or.inr)
  · refine k_needSign (s := 1) rfl ⟨by decide, by decide⟩ (FSM_p hv2 hT) (fun g0 => absurd g0 hv2.2.1) (fun v3 h3 h4 => ?_)
    exact ok_mono (pat388_F (FSM_67 hv2 h3 h4) hx2) (fun _ _ => Or.inr)
theorem IS_tr (hs : ST u0 σ p o n q c f h s wt g u) (sw : ST u0 σ p o1 n q c f h s wt g w) {t : Int} (ht : IS u t) : IS w t := by
  have := ST_IS hs ht
  have e69w : F w 69 = p := sw.2.1.1
  unfold IS
  rw [e69w, ST_A sw (by decide), ST_A sw (by decide)]
  exact this
theorem pat_main {mf : Int32} (tk : TKW u0 TN SN bw) (hN : 5000 ≤ N) (hσ : σ ≤ 26) (ho : 0 ≤ o ∧ o ≤ 25) (hS2 : o ≤ 24 → PASP u0 TN SN σ d S.2 (o + 1)) (hS1 : o ≤ 24 → RPSP u0 TN SN σ d S.1 (o + 1)) (hSF : RPFM u0 TN σ d S.1) (hs : ST u0 σ p o n q c f h s wt g u) (hf : F u 67 = 0) (hp : 0 ≤ p ∧ p < TN) (hq : 0 ≤ q ∧ 2 * q + (TN - p) ≤ 8000 + 2 * o) (hn : 0 ≤ n ∧ n ≤ 12000 + d) (hh : 0 ≤ h ∧ h + 60 * σ ≤ 23400) (hmf : MFL u mf) (hb : BEG u0 u p.toNat) : OK (PPO u0 TN SN σ d p o n q c f h s wt g u) (fb_M_patternAt_101 N S () u y1 mf 1) := by
  have hT := tk.1.1
  have e69 : F u 69 = p := hs.2.1.1
  have e70 : F u 70 = o := hs.2.1.2.1
  have q5 : 0 ≤ q ∧ q < 5000 := by omega
  unfold fb_M_patternAt_101
  rw [br10]
  refine k_opens2 (by omega) (fun w hw => ?_)
  have sw := OPN_ST hs (by omega) hw
  have kw : KPR σ u w := OPN_KP hw
  have o24 : F w 67 = 0 → o ≤ 24 := fun z => by
    rcases OPN_67 hf hw with fw | fw
    · omega
    · exact absurd z fw.1
  have e69w : F w 69 = p := sw.2.1.1
  have e39w : F w 39 = q := sw.2.1.2.2.2.1
  have tnw : (w.1 69).toNatClampNeg = p.toNat := by rw [tn_F, e69w]
  have a6w : A w 6 p.toNat = A u0 6 p.toNat := ST_A sw (by decide)
  have a60 : A w 60 σ = A u 60 σ := OPN_A hw
  clear hw
  have inw : ∀ (y : Option (MS × Int32)), OK (PPO u0 TN SN σ d p o n q c f h s wt g u) y → OK (PPO u0 TN SN σ d p o n q c f h s wt g u) (ck (inb (w.1 69) (ln 6)) y) := fun y hy => k_at (k := 6) (n := 4002) rfl (by decide) (by omega) hy
  refine inw _ ?_
  rw [tnw]
  refine k_A (y := 2) rfl ⟨by decide, by decide⟩ (fun z => ?_) (fun z => ?_)
  · rw [a6w] at z
    refine ok_bnd.mpr (ok_mono (namePattern_ok tk hN sw hσ (by omega) z (by omega)) (fun v r hv => ?_))
    obtain ⟨hr, h1, h2, h3, ⟨h4, h5, h6⟩, h7⟩ := hv
    rw [hr]
    refine pat_fin ho q5 hn hh h1 (KPR_tr kw h2) (by omega) (fun _ => ⟨by omega, ?_, ?_, h5, ?_⟩)
    · rw [show (p + 1).toNat = p.toNat + 1 from by omega]; exact PEND_i (by omega)
    · rw [show (q + 1).toNat = q.toNat + 1 from by omega]
      have sp := (sw.2.2.2.1 σ (Nat.le_refl σ)).1.1
      rw [a60] at h7 sp
      refine PTT_one ?_
      rcases h7 with ⟨h7, h8⟩ | ⟨h7, h8, -⟩ | ⟨h7, h8, h9⟩
      · exact Or.inl ⟨h7, by rw [h8]⟩
      · exact Or.inr (Or.inr (Or.inl ⟨h7, by rw [h8]; omega⟩))
      · exact Or.inr (Or.inr (Or.inr (Or.inl ⟨h7, by rw [h8], h9⟩)))
    · rw [a60] at h7
      intro y
      rcases h7 with ⟨-, h8⟩ | ⟨-, h8, h9⟩ | ⟨-, h8, -⟩
      · exact Or.inr h8
      · exact Or.inl (h9 y)
      · exact Or.inr h8
  · rw [a6w] at z
    rcases id hmf with ⟨hm1, hm2⟩ | ⟨hm1, hm2⟩
    · have := pat_160 (S := S) (N := N) tk hs hp ho q5 hn hh sw kw a60 hmf (Or.inr hm2)
      subst hm1
      rw [br10]
      exact this
    · have n160 : A u0 6 p.toNat = 4 → OK (PPO u0 TN SN σ d p o n q c f h s wt g u) (fb_M_patternAt_160 N S () w mf) := fun z4 => pat_160 (S := S) (N := N) tk hs hp ho q5 hn hh sw kw a60 hmf (Or.inl z4)
      clear hmf
      subst hm1
      rw [br00]
      refine inw _ (k_A (y := 4) rfl ⟨by decide, by decide⟩ (fun z4 => n160 (by rw [← a6w]; exact z4)) (fun z4 => ?_))
      refine inw _ (k_A (y := 1) rfl ⟨by decide, by decide⟩ (fun z1 => ?_) (fun z1 => ?_))
      · rw [a6w] at z1
        refine k_pattern (k := 3) rfl (by decide) (by omega) (fun v5 hv5 => ?_)
        have s5 := ST_pt sw hv5
        have k5 := KPR_pt kw hv5 (by omega)
        have e5 : F v5 69 = p := s5.2.1.1
        rw [e39w]
        refine k_at (k := 7) (n := 4002) rfl (by decide) (by omega) ?_
        rw [show (1 : Int32) = I 1 from rfl, I_A (w := v5) (k := 7), term_e, bnd_so]
        refine k_in (k := 34) (n := 5000) rfl (by decide) (by omega) (ok_lt.mpr (ok_lt.mpr ?_))
        rw [I_tn (x := q) (by omega) (by omega), wj_e, ← lit1q, nx1_e]
        generalize mk 1 _ = tt
        exact pat_one hT hp ho q5 hn hh e39w a60 hv5 (fun r i _ => rfl) (ST_wj s5) (KPR_wj k5) (by omega) (Or.inl rfl)
      · refine inw _ (k_A (y := 5) rfl ⟨by decide, by decide⟩ (fun z5 => ?_) (fun z5 => ?_))
        · rw [a6w] at z5
          have sv := (tk.2.1 p.toNat (by omega)).2.2.2.2.2 z5
          refine k_pattern (k := 4) rfl (by decide) (by omega) (fun v5 hv5 => ?_)
          have s5 := ST_pt sw hv5
          have k5 := KPR_pt kw hv5 (by omega)
          have e5 : F v5 69 = p := s5.2.1.1
          have hu39 : F u 39 = q := hs.2.1.2.2.2.1
          rw [e39w]
          refine k_at (k := 7) (n := 4002) rfl (by decide) (by omega) (k_in (k := 35) (n := 5000) rfl (by decide) (by omega) (ok_lt.mpr (ok_lt.mpr ?_)))
          rw [I_tn (x := q) (by omega) (by omega), tn_F, e5, I_A' (show A v5 7 p.toNat = A u0 7 p.toNat from ST_A s5 (by decide)), wa_e, nx1_e]
          refine pat_one hT hp ho q5 hn hh e39w a60 hv5 (fun r i hr => wa_rne (fun z => hr (by rw [z]; decide))) (ST_wa s5 (by decide)) (KPR_wp k5 (by decide) (by omega)) (by omega) (Or.inr ⟨rfl, ?_⟩)
          rw [wa_eq (ARG1 u0 7 _)]
          exact sv
        · rw [a6w] at z4 z1 z5
          refine k_takeSign (s := 0) rfl ⟨by decide, by decide⟩ (by omega) (fun f0 z0 => ?_) (fun z0 => ?_)
          · rw [br10]
            exact pat_open tk hp ⟨ho.1, o24 f0⟩ hq hn hh sw kw a60 f0 z0 (hS2 (o24 f0))
          · rw [br00]
            by_cases f0 : F w 67 = 0
            · have nz : ¬ IS w 0 := z0.resolve_left (fun y => y f0)
              have o24' := o24 f0
              have hi : IS w 2 ∨ IS w 4 := by
                rcases hb with h | h | h | h | h | h | h | h
                · exact absurd h z
                · exact absurd h z4
                · exact absurd h z1
                · exact absurd h z5
                · exact Or.inl (IS_tr hs sw h)
                · exact Or.inr (IS_tr hs sw h)
                · exact absurd (IS_tr hs sw h) nz
                · exact absurd h hm2
              refine ok_bnd.mpr (ok_mono (hS1 o24' w y1 _ _ _ _ _ _ _ _ _ sw f0 hi (by omega) (by omega) hn hh) (fun v2 r2 hv2 => ?_))
              rcases hv2 with ⟨c1, c2, p3, q3, c3, c4, c5, c6, c7, c8, c9⟩ | ⟨hv2, x2, hx2⟩
              · rw [c2]
                have bl := (PEND_b c6).1
                rw [a60] at c7 c9
                exact pat_fin ho q5 hn hh c3 (KPR_tr kw c4) (by omega) (fun _ => ⟨c5, c6, c7, c8, c9⟩)
              · exact ok_mono (pat388_F hv2 hx2) (fun _ _ => Or.inr)
            · refine ok_bnd.mpr (ok_mono (hSF w y1 _ _ _ _ _ _ _ _ _ _ sw f0 (by omega) (by omega) hn hh) (fun v2 r2 hv2 => ?_))
              obtain ⟨hv2, x2, hx2⟩ := hv2
              exact ok_mono (pat388_F hv2 hx2) (fun _ _ => Or.inr)
theorem patAt_ok (tk : TKW u0 TN SN bw) (hN : 5000 ≤ N) (hσ : σ ≤ 26) (ho : 0 ≤ o ∧ o ≤ 25) (hS2 : o ≤ 24 → PASP u0 TN SN σ d S.2 (o + 1)) (hS1 : o ≤ 24 → RPSP u0 TN SN σ d S.1 (o + 1)) (hSF : RPFM u0 TN σ d S.1) : PASP u0 TN SN σ d (fm_M_patternAt N S) o := by
  intro u b p n q c f h s wt g hs hf hp hq hn hh
  have hT := tk.1.1
  have e69 : F u 69 = p := hs.2.1.1
  have tn : (u.1 69).toNatClampNeg = p.toNat := by rw [tn_F, e69]
  have a6 : A u 6 p.toNat = A u0 6 p.toNat := ST_A hs (by decide)
  unfold fm_M_patternAt fb_M_patternAt_0
  refine k_F (y := 0) rfl ⟨by decide, by decide⟩ (fun _ => ?_) (fun z => absurd hf z)
  refine k_isSign2 (x := 19) rfl ⟨by decide, by decide⟩ (by omega) (fun mf hmf => ?_)
  have m96 : BEG u0 u p.toNat → OK (PPO u0 TN SN σ d p o n q c f h s wt g u) (fb_M_patternAt_96 N S () u b mf) := fun hb => by
    unfold fb_M_patternAt_96
    refine pat_main tk hN hσ ho hS2 hS1 hSF hs hf ⟨hp.1, tok_lt tk hp (fun z => ?_)⟩ hq hn hh hmf hb
    rcases hb with h | h | h | h | h | h | h | h
    · omega
    · omega
    · omega
    · omega
    all_goals (have := (ST_IS hs h).1; omega)
  have inu : ∀ (y : Option (MS × Int32)), OK (PPO u0 TN SN σ d p o n q c f h s wt g u) y → OK (PPO u0 TN SN σ d p o n q c f h s wt g u) (ck (inb (u.1 69) (ln 6)) y) := fun y hy => k_at (k := 6) (n := 4002) rfl (by decide) (by omega) hy
  have hp4 : 0 ≤ F u 69 ∧ F u 69 ≤ 4001 := by omega
  rw [tn]
  refine inu _ (k_A (y := 2) rfl ⟨by decide, by decide⟩ (fun z => m96 (Or.inl (by rw [← a6]; exact z))) (fun _ => ?_))
  refine inu _ (k_A (y := 4) rfl ⟨by decide, by decide⟩ (fun z => m96 (Or.inr (Or.inl (by rw [← a6]; exact z)))) (fun _ => ?_))
  refine inu _ (k_A (y := 1) rfl ⟨by decide, by decide⟩ (fun z => m96 (Or.inr (Or.inr (Or.inl (by rw [← a6]; exact z))))) (fun _ => ?_))
  refine inu _ (k_A (y := 5) rfl ⟨by decide, by decide⟩ (fun z => m96 (Or.inr (Or.inr (Or.inr (Or.inl (by rw [← a6]; exact z)))))) (fun _ => ?_))
  refine k_isSign (s := 2) rfl ⟨by decide, by decide⟩ hp4 (fun z => m96 (Or.inr (Or.inr (Or.inr (Or.inr (Or.inl z)))))) (fun _ => ?_)
  refine k_isSign (s := 4) rfl ⟨by decide, by decide⟩ hp4 (fun z => m96 (Or.inr (Or.inr (Or.inr (Or.inr (Or.inr (Or.inl z))))))) (fun _ => ?_)
  refine k_isSign (s := 0) rfl ⟨by decide, by decide⟩ hp4 (fun z => m96 (Or.inr (Or.inr (Or.inr (Or.inr (Or.inr (Or.inr (Or.inl z)))))))) (fun _ => ?_)
  rcases hmf with ⟨hm1, hm2⟩ | ⟨hm1, hm2⟩
  · have := m96 (Or.inr (Or.inr (Or.inr (Or.inr (Or.inr (Or.inr (Or.inr hm2)))))))
    subst hm1
    rw [br10]
    exact this
  · subst hm1
    rw [br00]
    unfold fb_M_patternAt_101
    rw [br00]
    exact k_wrong (s := 2) rfl ⟨by decide, by decide⟩ (by decide) hp4 (fun v4 h1 h2 => ok_some.mpr (Or.inr ⟨FSM_of (ST_67 hs h1) (by omega) hn hh h2, -1, rfl, by omega, by omega⟩))
theorem patternAt_all (tk : TKW u0 TN SN bw) (hN : 5000 ≤ N) (hσ : σ ≤ 26) : ∀ (m : Nat), (∀ o : Int, 0 ≤ o ∧ o ≤ 25 → 2 * (26 - o) ≤ m → PASP u0 TN SN σ d (rc_M_rowPattern N m).2 o) ∧ (∀ o : Int, 0 ≤ o ∧ o ≤ 25 → 2 * (26 - o) + 1 ≤ m → RPSP u0 TN SN σ d (rc_M_rowPattern N m).1 o) ∧ (1 ≤ m → RPFM u0 TN σ d (rc_M_rowPattern N m).1) := by
  intro m
  induction m with
  | zero => exact ⟨fun o h1 h2 => by omega, fun o h1 h2 => by omega, fun h => by omega⟩
  | succ m ih =>
    obtain ⟨i1, i2, i3⟩ := ih
    refine ⟨fun o h1 h2 => ?_, fun o h1 h2 => ?_, fun _ => ?_⟩
    · exact patAt_ok tk hN hσ h1 (fun h3 => i1 (o + 1) (by omega) (by omega)) (fun h3 => i2 (o + 1) (by omega) (by omega)) (i3 (by omega))
    · exact rowPat_N tk hN h1 (i1 o h1 (by omega))
    · exact rowPat_F tk.1.1
theorem patternAt_ok (tk : TKW u0 TN SN bw) (hN : 5000 ≤ N) (hσ : σ ≤ 26) (ho : 0 ≤ o ∧ o ≤ 25) : PASP u0 TN SN σ d (fr_M_patternAt N) o := (patternAt_all tk hN hσ 60).1 o ho (by omega)
theorem patternAt_F {b : Int32} (hf : F u 67 ≠ 0) : fr_M_patternAt N u b = some (u, -1) := by
  show fb_M_patternAt_0 N _ () u b = _
  unfold fb_M_patternAt_0
  rw [I_F (k := 67), lit0q, decE (F_r u 67).1 (F_r u 67).2 (by omega) (by omega), decide_eq_false hf, br_fq]
end
