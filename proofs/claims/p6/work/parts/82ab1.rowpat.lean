section
variable {u0 u v v2 w : MS} {N σ TN SN j : Nat} {bw : Nat → Nat} {p o n q c f h s wt g x y k d p1 q1 p2 q2 l : Int} {r y1 y2 y3 y5 y6 : Int32} {S : SG_M_rowPattern} {G : MS → Int32 → Int32 → Int32 → Int32 → Int32 → Int32 → Int32 → Option (MS × Int32)}
theorem KPR_wp {i : Nat} {r : Nat} (a : KPR σ u v) (hr : r ∈ [33, 35, 36, 37, 38]) (hi : F u 39 ≤ i) : KPR σ u (wa v r i x) := by
  have : ∀ r, r ∈ [33, 35, 36, 37, 38] → r ∈ [23, 24, 25, 26, 27, 28, 29, 30, 31, 33, 35, 36, 37, 38, 40, 41, 42, 43, 44, 45, 53, 54, 55, 57, 74, 76, 78, 79, 80, 81, 82] ∧ r ∉ [23, 24, 25, 26, 27, 28, 29, 30, 31] ∧ True ∧ r ∉ [40, 41, 42, 43, 45] ∧ r ∉ [53, 54, 55] ∧ r ≠ 57 ∧ r ≠ 74 ∧ r ≠ 76 ∧ r ∉ [79, 80, 81, 82] := by decide
  obtain ⟨b1, b2, b3, b4, b5, b6, b7, b8, b9⟩ := this r hr
  exact KPR_wa a b1 ⟨fun z => absurd z b2, fun _ => hi, fun z => absurd z b4, fun z => absurd z b5, fun z => absurd z b6, fun z => absurd z b7, fun z => absurd z b8, fun z => absurd z b9⟩
theorem KPR_wc {i : Nat} {r : Nat} (a : KPR σ u v) (hr : r ∈ [40, 41, 42, 43, 45]) (hi : F u 46 ≤ i) : KPR σ u (wa v r i x) := by
  have : ∀ r, r ∈ [40, 41, 42, 43, 45] → r ∈ [23, 24, 25, 26, 27, 28, 29, 30, 31, 33, 35, 36, 37, 38, 40, 41, 42, 43, 44, 45, 53, 54, 55, 57, 74, 76, 78, 79, 80, 81, 82] ∧ r ∉ [23, 24, 25, 26, 27, 28, 29, 30, 31] ∧ r ∉ [33, 35, 36, 37, 38] ∧ True ∧ r ∉ [53, 54, 55] ∧ r ≠ 57 ∧ r ≠ 74 ∧ r ≠ 76 ∧ r ∉ [79, 80, 81, 82] := by decide
  obtain ⟨b1, b2, b3, b4, b5, b6, b7, b8, b9⟩ := this r hr
  exact KPR_wa a b1 ⟨fun z => absurd z b2, fun z => absurd z b3, fun _ => hi, fun z => absurd z b5, fun z => absurd z b6, fun z => absurd z b7, fun z => absurd z b8, fun z => absurd z b9⟩
theorem KPR_wf {i : Nat} {r : Nat} (a : KPR σ u v) (hr : r ∈ [53, 54, 55]) (hi : F u 56 ≤ i) : KPR σ u (wa v r i x) := by
  have : ∀ r, r ∈ [53, 54, 55] → r ∈ [23, 24, 25, 26, 27, 28, 29, 30, 31, 33, 35, 36, 37, 38, 40, 41, 42, 43, 44, 45, 53, 54, 55, 57, 74, 76, 78, 79, 80, 81, 82] ∧ r ∉ [23, 24, 25, 26, 27, 28, 29, 30, 31] ∧ r ∉ [33, 35, 36, 37, 38] ∧ r ∉ [40, 41, 42, 43, 45] ∧ True ∧ r ≠ 57 ∧ r ≠ 74 ∧ r ≠ 76 ∧ r ∉ [79, 80, 81, 82] := by decide
  obtain ⟨b1, b2, b3, b4, b5, b6, b7, b8, b9⟩ := this r hr
  exact KPR_wa a b1 ⟨fun z => absurd z b2, fun z => absurd z b3, fun z => absurd z b4, fun _ => hi, fun z => absurd z b6, fun z => absurd z b7, fun z => absurd z b8, fun z => absurd z b9⟩
theorem KPR_ww {i : Nat} {r : Nat} (a : KPR σ u v) (hr : r ∈ [79, 80, 81, 82]) (hi : F u 83 ≤ i) : KPR σ u (wa v r i x) := by
  have : ∀ r, r ∈ [79, 80, 81, 82] → r ∈ [23, 24, 25, 26, 27, 28, 29, 30, 31, 33, 35, 36, 37, 38, 40, 41, 42, 43, 44, 45, 53, 54, 55, 57, 74, 76, 78, 79, 80, 81, 82] ∧ r ∉ [23, 24, 25, 26, 27, 28, 29, 30, 31] ∧ r ∉ [33, 35, 36, 37, 38] ∧ r ∉ [40, 41, 42, 43, 45] ∧ r ∉ [53, 54, 55] ∧ r ≠ 57 ∧ r ≠ 74 ∧ r ≠ 76 ∧ True := by decide
  obtain ⟨b1, b2, b3, b4, b5, b6, b7, b8, b9⟩ := this r hr
  exact KPR_wa a b1 ⟨fun z => absurd z b2, fun z => absurd z b3, fun z => absurd z b4, fun z => absurd z b5, fun z => absurd z b6, fun z => absurd z b7, fun z => absurd z b8, fun _ => hi⟩
theorem FSM_p (hs : FSM u0 TN σ d v) (hT : TN ≤ 4000) : 0 ≤ F v 69 ∧ F v 69 ≤ 4001 := by
  have := hs.2.2.1
  omega
theorem row194_F (hs : FSM u0 TN σ d v) (hT : TN ≤ 4000) (hq : 0 ≤ q ∧ q < 5000) : OK (FPA u0 TN σ d) (fb_M_rowPattern_194 N S G v y3 (I q) y6) := by
  unfold fb_M_rowPattern_194
  refine k_in (k := 35) (n := 5000) rfl (by decide) (by omega) (ok_lt.mpr ?_)
  rw [I_tn (by omega) (by omega), I_of y6, wa_e]
  have h2 : FSM u0 TN σ d (wa v 35 q.toNat y6.toInt) := FSM_wa hs (by decide)
  refine k_needSign (I_of y3) (ti_rng y3) (FSM_p h2 hT) (fun z => absurd z h2.2.1) (fun v3 h3 h4 => ok_some.mpr ⟨FSM_67 h2 h3 h4, q, rfl, by omega, by omega⟩)
theorem row151_F (hs : FSM u0 TN σ d v) (hT : TN ≤ 4000) (hq : 0 ≤ q ∧ q < 5000) : OK (FPA u0 TN σ d) (fb_M_rowPattern_151 N S G v y1 y2 y3 (I q) y5 y6) := by
  unfold fb_M_rowPattern_151
  refine ok_br.mpr ⟨fun _ => k_takeSign (s := 9) rfl ⟨by decide, by decide⟩ (FSM_p hs hT) (fun z => absurd z hs.2.1) (fun _ => ?_), fun _ => row194_F hs hT hq⟩
  rw [br00]
  exact row194_F hs hT hq
theorem row140_F (hs : FSM u0 TN σ d v) (hT : TN ≤ 4000) (hG : ∀ v, FSM u0 TN σ d v → OK (FPA u0 TN σ d) (G v y1 y2 y3 (I q) y5 y6 0)) : OK (FPA u0 TN σ d) (fb_M_rowPattern_140 N S G v y1 y2 y3 (I q) y5 y6) := by
  unfold fb_M_rowPattern_140
  exact k_takeSign (s := 6) rfl ⟨by decide, by decide⟩ (FSM_p hs hT) (fun z => absurd z hs.2.1) (fun _ => hG v hs)
theorem row112_F (hs : FSM u0 TN σ d v) (hT : TN ≤ 4000) (hG : ∀ v, FSM u0 TN σ d v → OK (FPA u0 TN σ d) (G v y1 y2 y3 (I q) y5 (y6 + 1) 0)) : OK (FPA u0 TN σ d) (fb_M_rowPattern_112 N S G v y1 y2 y3 (I q) y6 y5) := by
  unfold fb_M_rowPattern_112
  refine ok_br.mpr ⟨fun _ => k_isSign (s := 6) rfl ⟨by decide, by decide⟩ (FSM_p hs hT) (fun _ => ?_) (fun _ => row140_F hs hT hG), fun _ => row140_F hs hT hG⟩
  exact k_wrong (s := 2) rfl ⟨by decide, by decide⟩ (by decide) (FSM_p hs hT) (fun v h1 h2 => row140_F (FSM_67 hs h1 h2) hT hG)
theorem rowG_F {m : Nat} (hs : FSM u0 TN σ d v) (hT : TN ≤ 4000) (hq : 0 ≤ q ∧ q < 5000) : OK (FPA u0 TN σ d) (gg_M_rowPattern N S (m + 1) v y1 y2 y3 (I q) y5 y6 0) := by
  show OK _ (fb_M_rowPattern_66 N S (gg_M_rowPattern N S m) v y1 y2 y3 (I q) y5 y6 0)
  unfold fb_M_rowPattern_66
  rw [br00]
  exact row151_F hs hT hq
def PPO (u0 : MS) (TN SN σ : Nat) (d : Int) (p o n q c f h s wt g : Int) (u v : MS) (r : Int32) : Prop := PAQ u0 TN SN σ p o n q c f h s wt g u v r ∨ FPA u0 TN σ d v r
theorem brk_c {u0 : MS} {i : Nat} (h : A u0 6 i = 6) (h2 : A u0 7 i = 1 ∨ A u0 7 i = 3 ∨ A u0 7 i = 5) : brk u0 i = -1 := by
  unfold brk
  rw [if_pos h, if_neg (by omega), if_pos h2]
theorem brk_s {u0 : MS} {i : Nat} (h2 : A u0 6 i = 6 → A u0 7 i = 6 ∨ A u0 7 i = 9) : brk u0 i = 0 := by
  unfold brk
  by_cases e : A u0 6 i = 6
  · have := h2 e
    rw [if_pos e, if_neg (by omega), if_neg (by omega)]
  · rw [if_neg e]
theorem close_ok (tk : TKW u0 TN SN bw) (hs : ST u0 σ p1 o n q1 c f h s wt g w) (hf : F w 67 = 0) (kp : KPR σ u w) (hp : PTT w SN q.toNat q1.toNat (A u 60 σ).toNat (A w 60 σ).toNat (A w 63 σ).toNat ∧ A w 37 q.toNat = -1 ∧ (F w 66 = 0 → A w 60 σ ≤ 40 ∨ A w 60 σ = A u 60 σ) ∧ BIN2 u0 p.toNat p1.toNat) (hx : x = 1 ∨ x = 3 ∨ x = 5) (hq : 0 ≤ q ∧ q < q1 ∧ q < 5000 ∧ 2 * (q1 - q) ≤ p1 - p + 2) (hp1 : 0 ≤ p1 ∧ p1 ≤ TN) (hn : 0 ≤ n ∧ n ≤ 12000 + d) (hh : 0 ≤ h ∧ h + 60 * σ ≤ 23400) (hy : y3 = I x) : OK (PPO u0 TN SN σ d p o n q c f h s wt g u) (bnd (fm_M_needSign N w y3) (fun u2 _ => some (u2, I q))) := by
  have hT := tk.1.1
  have e69 : F w 69 = p1 := hs.2.1.1
  refine k_needSign hy ⟨by omega, by omega⟩ (by omega) (fun _ z => ok_some.mpr (Or.inl ?_)) (fun v h1 h2 => ok_some.mpr (Or.inr ⟨FSM_of (ST_67 hs h1) (by omega) hn hh h2, q, rfl, by omega, by omega⟩))
  have z2 := ST_IS hs z
  have lt := tok_lt tk hp1 (by omega)
  refine ⟨(wi_ne (by decide)).trans hf, rfl, p1 + 1, q1, ST_nx hs (by omega), KPR_w0 kp (by decide), ⟨by omega, hq.2.1, by omega⟩, ?_, hp.1, hp.2.1, hp.2.2.1⟩
  rw [show (p1 + 1).toNat = p1.toNat + 1 from by omega]
  exact BIN2_c hp.2.2.2 (brk_c z2.1 (by rw [z2.2]; exact hx))
theorem row194_N {kd t : Int} (tk : TKW u0 TN SN bw) (hs : ST u0 σ p1 o n q1 c f h s wt g v) (hf : F v 67 = 0) (kp : KPR σ u v) (hu : F u 39 = q) (a : RWL u0 SN σ u v p q kd j p1 q1 l) (hk : (kd = 5 ∧ t = j ∧ j ≤ 8 ∧ w = v) ∨ (kd = 6 ∧ t = j ∧ j ≤ 8 ∧ w = v) ∨ (kd = 6 ∧ 2 ≤ j ∧ t = ((j - 1 : Nat) : Int) ∧ j ≤ 9 ∧ w = wa v 38 q.toNat 1)) (hx : x = 1 ∨ x = 3 ∨ x = 5) (hq : 0 ≤ q ∧ q < q1 ∧ q < 5000 ∧ 2 * (q1 - q) ≤ p1 - p + 2) (hp1 : 0 ≤ p1 ∧ p1 ≤ TN) (hn : 0 ≤ n ∧ n ≤ 12000 + d) (hh : 0 ≤ h ∧ h + 60 * σ ≤ 23400) (hy : y3 = I x) : OK (PPO u0 TN SN σ d p o n q c f h s wt g u) (fb_M_rowPattern_194 N S G w y3 (I q) (I t)) := by
  unfold fb_M_rowPattern_194
  refine k_in (k := 35) (n := 5000) rfl (by decide) (by omega) (ok_lt.mpr ?_)
  rw [I_tn (by omega) (by omega), wa_e]
  have m38 : ∀ r, r ∈ [35, 38] → r ∉ [23, 24, 25, 26, 27, 28, 29, 30, 31] ∧ r ∉ [40, 41, 42, 43, 45] ∧ r ∉ [53, 54, 55] ∧ r ∉ [79, 80, 81, 82] := by decide
  have kw : ∀ {v2 : MS} {r : Nat} {z : Int}, r ∈ [35, 38] → KPR σ u v2 → KPR σ u (wa v2 r q.toNat z) := fun {v2 r z} hr hv => by
    have mm := m38 r hr
    have m2 : ∀ r, r ∈ [35, 38] → r ∈ [23, 24, 25, 26, 27, 28, 29, 30, 31, 33, 35, 36, 37, 38, 40, 41, 42, 43, 44, 45, 53, 54, 55, 57, 74, 76, 78, 79, 80, 81, 82] ∧ r ≠ 57 ∧ r ≠ 74 ∧ r ≠ 76 := by decide
    have m3 := m2 r hr
    exact KPR_wa hv m3.1 ⟨fun z => absurd z mm.1, fun _ => by omega, fun z => absurd z mm.2.1, fun z => absurd z mm.2.2.1, fun z => absurd z m3.2.1, fun z => absurd z m3.2.2.1, fun z => absurd z m3.2.2.2, fun z => absurd z mm.2.2.2⟩
  have hw : ST u0 σ p1 o n q1 c f h s wt g w ∧ F w 67 = 0 ∧ KPR σ u w := by
    rcases hk with ⟨-, -, -, hw⟩ | ⟨-, -, -, hw⟩ | ⟨-, -, -, -, hw⟩
    · rw [hw]; exact ⟨hs, hf, kp⟩
    · rw [hw]; exact ⟨hs, hf, kp⟩
    · rw [hw]; exact ⟨ST_wa hs (by decide), hf, kw (by decide) kp⟩
  refine close_ok tk (ST_wa hw.1 (by decide)) hw.2.1 (kw (by decide) hw.2.2) (RWL_fin (w := wa w 35 q.toNat t) (t := t) a ⟨hq.1, hq.2.1⟩ ?_) hx hq hp1 hn hh hy
  rcases hk with ⟨h1, h2, h3, hw⟩ | ⟨h1, h2, h3, hw⟩ | ⟨h1, h2, h3, h4, hw⟩
  · exact Or.inl ⟨h1, h2, h3, by rw [hw]⟩
  · exact Or.inr (Or.inl ⟨h1, h2, h3, by rw [hw]⟩)
  · exact Or.inr (Or.inr ⟨h1, h2, h3, h4, by rw [hw]⟩)
def PASP (u0 : MS) (TN SN σ : Nat) (d : Int) (F1 : MS → Int32 → Option (MS × Int32)) (o : Int) : Prop := ∀ (u : MS) (b : Int32) (p n q c f h s wt g : Int), ST u0 σ p o n q c f h s wt g u → F u 67 = 0 → (0 ≤ p ∧ p ≤ TN) → (0 ≤ q ∧ 2 * q + (TN - p) ≤ 8000 + 2 * o) → (0 ≤ n ∧ n ≤ 12000 + d) → (0 ≤ h ∧ h + 60 * σ ≤ 23400) → OK (PPO u0 TN SN σ d p o n q c f h s wt g u) (F1 u b)
theorem RWL_s {kd : Int} (a : RWL u0 SN σ u v p q kd j p1 q1 l) (hb : brk u0 p1.toNat = 0) (hp : 0 ≤ p1) : RWL u0 SN σ u (nx1 v) p q kd j (p1 + 1) q1 l := by
  obtain ⟨e, mm, a1, a2, a3, a4, a5, a6, a7⟩ := a
  refine ⟨e, mm, a1, a2, a3, a4, ?_, a6, ?_⟩
  · rw [show (p1 + 1).toNat = p1.toNat + 1 from by omega]; exact BIN2_s a5 hb
  · rw [show F (nx1 v) 66 = F v 66 from wi_ne (by decide)]; exact a7
theorem row151_N {kd : Int} (tk : TKW u0 TN SN bw) (hS : PASP u0 TN SN σ d S.2 o) (ho : 0 ≤ o ∧ o ≤ 25) (hs : ST u0 σ p1 o n q1 c f h s wt g v) (hf : F v 67 = 0) (kp : KPR σ u v) (hu : F u 39 = q) (a : RWL u0 SN σ u v p q kd j p1 q1 l) (hj : 0 < j ∧ j ≤ 8) (hk : (kd = 5 ∧ y2 = 1 ∧ y3 = I 3) ∨ (kd = 6 ∧ y2 = 0 ∧ y3 = I 5)) (hq : 0 ≤ q ∧ q < q1 ∧ q < 5000 ∧ 2 * (q1 - q) ≤ p1 - p + 2) (hp : 0 ≤ p ∧ 2 * q + (TN - p) ≤ 8000 + 2 * o - 2) (hp1 : 0 ≤ p1 ∧ p1 ≤ TN) (hn : 0 ≤ n ∧ n ≤ 12000 + d) (hh : 0 ≤ h ∧ h + 60 * σ ≤ 23400) : OK (PPO u0 TN SN σ d p o n q c f h s wt g u) (fb_M_rowPattern_151 N S G v y1 y2 y3 (I q) (I l) (I (j : Int))) := by
  have hT := tk.1.1
  have e69 : F v 69 = p1 := hs.2.1.1
  have e39 : F v 39 = q1 := hs.2.1.2.2.2.1
  have hl : 0 ≤ l ∧ l < q1 ∧ q < l := by
    obtain ⟨e, mm, ⟨a1, a2, -⟩, a3, a4, a5, -⟩ := a
    have t1 := PTT_e a3 (j - 1) (by omega)
    have t2 := (JND_le a3 (j - 1) (by omega)).1
    unfold LSTI at a5
    omega
  unfold fb_M_rowPattern_151
  rcases hk with ⟨k1, k2, k3⟩ | ⟨k1, k2, k3⟩
  · rw [k2, br10]
    exact row194_N tk hs hf kp hu a (Or.inl ⟨k1, rfl, hj.2, rfl⟩) (x := 3) (by omega) hq hp1 hn hh k3
  · rw [k2, br00]
    refine k_takeSign (s := 9) rfl ⟨by decide, by decide⟩ (by omega) (fun _ z => ?_) (fun _ => ?_)
    · rw [br10]
      have z2 := ST_IS hs z
      have lt := tok_lt tk hp1 (by omega)
      have b0 : brk u0 p1.toNat = 0 := brk_s (fun _ => by omega)
      have a2 := RWL_s a b0 hp1.1
      have hs2 := ST_nx hs (show 0 ≤ p1 ∧ p1 ≤ 4001 by omega)
      refine ok_bnd.mpr (ok_mono (hS _ y1 _ _ _ _ _ _ _ _ _ hs2 ((wi_ne (by decide)).trans hf) (by omega) (by omega) hn hh) (fun v2 r2 hv2 => ?_))
      rw [show (-1 : Int32) = I (-1) from rfl]
      refine k_eq ⟨by omega, by omega⟩ ⟨by decide, by decide⟩ (fun z => by omega) (fun _ => ?_)
      refine k_in (k := 37) (n := 5000) rfl (by decide) (by omega) (ok_lt.mpr ?_)
      rw [I_tn (x := l) (by omega) (by omega)]
      rcases hv2 with hv2 | ⟨hv2, x2, hx2, x3, x4⟩
      · rw [hv2.2.1, wa_e]
        have sc : 0 ≤ A v 60 σ := (hs.2.2.2.1 σ (Nat.le_refl σ)).1.1
        obtain ⟨p3, q3, c1, c2, c3, c4⟩ := RWL_add (w := wa v2 37 l.toNat q1) a2 hv2 ⟨hq.1, hq.2.1⟩ (show F (nx1 v) 39 = q1 from (wi_ne (by decide)).trans e39) ⟨by omega, by omega⟩ (Or.inr ⟨hj.1, rfl⟩) sc
        have kp3 : KPR σ u (wa v2 37 l.toNat q1) := by
          obtain ⟨-, -, -, -, -, kv2, -⟩ := hv2
          refine KPR_wp (KPR_tr (KPR_w0 kp (by decide)) kv2) (by decide) (by omega)
        unfold fb_M_rowPattern_186
        refine k_in (k := 38) (n := 5000) rfl (by decide) (by omega) (ok_lt.mpr ?_)
        rw [I_tn (x := q) (by omega) (by omega), nar1, wa_e]
        exact row194_N (j := j + 1) (t := j) tk c1 c4 kp3 hu c3 (Or.inr (Or.inr ⟨k1, by omega, by omega, by omega, rfl⟩)) (x := 5) (by omega) (by omega) (by omega) hn hh k3
      · rw [hx2, wa_e]
        unfold fb_M_rowPattern_186
        refine k_in (k := 38) (n := 5000) rfl (by decide) (by omega) (ok_lt.mpr ?_)
        rw [I_tn (x := q) (by omega) (by omega), nar1, wa_e]
        exact ok_mono (row194_F (FSM_wa (FSM_wa hv2 (by decide)) (by decide)) hT (by omega)) (fun _ _ => Or.inr)
    · rw [br00]
      exact row194_N tk hs hf kp hu a (Or.inr (Or.inl ⟨k1, rfl, hj.2, rfl⟩)) (x := 5) (by omega) hq hp1 hn hh k3
theorem row_loop {kd : Int} (tk : TKW u0 TN SN bw) (hS : PASP u0 TN SN σ d S.2 o) (ho : 0 ≤ o ∧ o ≤ 25) (hu : F u 39 = q) (hk : (kd = 5 ∧ y2 = 1 ∧ y3 = I 3) ∨ (kd = 6 ∧ y2 = 0 ∧ y3 = I 5)) (hp : 0 ≤ p ∧ 2 * q + (TN - p) ≤ 8000 + 2 * o - 2) (hq0 : 0 ≤ q ∧ q < 5000) (hn : 0 ≤ n ∧ n ≤ 12000 + d) (hh : 0 ≤ h ∧ h + 60 * σ ≤ 23400) : ∀ (m j : Nat) (v : MS) (p1 q1 l : Int), ST u0 σ p1 o n q1 c f h s wt g v → F v 67 = 0 → KPR σ u v → RWL u0 SN σ u v p q kd j p1 q1 l → j ≤ 7 → 10 - j < m → (q < q1 ∧ 2 * (q1 - q) ≤ p1 - p + 1) → (0 ≤ p1 ∧ p1 ≤ TN) → OK (PPO u0 TN SN σ d p o n q c f h s wt g u) (gg_M_rowPattern N S m v y1 y2 y3 (I q) (I l) (I (j : Int)) 1) := by
  have hT := tk.1.1
  intro m
  induction m with
  | zero => intro j v p1 q1 l _ _ _ _ _ z; exact absurd z (Nat.not_lt_zero _)
  | succ m ih =>
    intro j v p1 q1 l hs hf kp a hj hm hq hp1
    have e69 : F v 69 = p1 := hs.2.1.1
    have e39 : F v 39 = q1 := hs.2.1.2.2.2.1
    have sc : 0 ≤ A v 60 σ := (hs.2.2.2.1 σ (Nat.le_refl σ)).1.1
    obtain ⟨m', rfl⟩ : ∃ m', m = m' + 1 := ⟨m - 1, by omega⟩
    have hl : (j = 0 ∧ l = -1) ∨ (0 < j ∧ 0 ≤ l ∧ l < q1 ∧ q < l) := by
      obtain ⟨e, mm, ⟨a1, a2, -⟩, a3, a4, a5, -⟩ := a
      unfold LSTI at a5
      rcases Nat.eq_zero_or_pos j with z | z
      · omega
      · have t1 := PTT_e a3 (j - 1) (by omega)
        have t2 := (JND_le a3 (j - 1) (by omega)).1
        omega
    have q5 : q1 < 5000 := by omega
    show OK _ (fb_M_rowPattern_66 N S (gg_M_rowPattern N S (m' + 1)) v y1 y2 y3 (I q) (I l) (I (j : Int)) 1)
    unfold fb_M_rowPattern_66
    rw [br10, I_F' hf, show decide (I 0 = (0 : Int32)) = true from rfl, br_tq]
    refine ok_bnd.mpr (ok_mono (hS v y1 _ _ _ _ _ _ _ _ _ hs hf hp1 (by omega) hn hh) (fun v2 r2 hv2 => ?_))
    rw [show (-1 : Int32) = I (-1) from rfl]
    have tail : ∀ w : MS, (j = 0 ∧ w = wa v2 36 q.toNat q1) ∨ (0 < j ∧ w = wa v2 37 l.toNat q1) → PAQ u0 TN SN σ p1 o n q1 c f h s wt g v v2 r2 → OK (PPO u0 TN SN σ d p o n q c f h s wt g u) (fb_M_rowPattern_112 N S (gg_M_rowPattern N S (m' + 1)) w y1 y2 y3 (I q) (I (j : Int)) (I q1)) := fun w hw hv => by
      obtain ⟨p3, q3, c1, c2, c3, c4⟩ := RWL_add (w := w) a hv ⟨hq0.1, hq.1⟩ e39 ⟨by omega, by omega⟩ hw sc
      have kp3 : KPR σ u w := by
        obtain ⟨-, -, -, -, -, kv2, -⟩ := hv
        rcases hw with ⟨-, hw⟩ | ⟨hj0, hw⟩
        · rw [hw]
          exact KPR_wp (KPR_tr kp kv2) (by decide) (by omega)
        · rw [hw]
          exact KPR_wp (KPR_tr kp kv2) (by decide) (by omega)
      have e69w : F w 69 = p3 := c1.2.1.1
      have q3b : q3 < 5000 := by omega
      have n140 : j + 1 = 8 → ¬ IS w 6 → True := fun _ _ => trivial
      have go : (j + 1 ≤ 7 ∨ ¬ IS w 6) → OK (PPO u0 TN SN σ d p o n q c f h s wt g u) (fb_M_rowPattern_140 N S (gg_M_rowPattern N S (m' + 1)) w y1 y2 y3 (I q) (I q1) (I ((j + 1 : Nat) : Int))) := fun hz => by
        unfold fb_M_rowPattern_140
        refine k_takeSign (s := 6) rfl ⟨by decide, by decide⟩ (by omega) (fun _ z => ?_) (fun _ => ?_)
        · have z2 := ST_IS c1 z
          have lt := tok_lt tk (by omega) (show ¬ (A u0 6 (p3).toNat = 0 ∨ A u0 6 (p3).toNat = 7) by omega)
          have b0 : brk u0 p3.toNat = 0 := brk_s (fun _ => by omega)
          have hj7 : j + 1 ≤ 7 := by
            rcases hz with hz | hz
            · exact hz
            · exact absurd z hz
          exact ih (j + 1) (nx1 w) (p3 + 1) q3 q1 (ST_nx c1 (by omega)) ((wi_ne (by decide)).trans c4) (KPR_w0 kp3 (by decide)) (RWL_s c3 b0 (by omega)) hj7 (by omega) (by omega) (by omega)
        · show OK _ (fb_M_rowPattern_66 N S (gg_M_rowPattern N S m') w y1 y2 y3 (I q) (I q1) (I ((j + 1 : Nat) : Int)) 0)
          unfold fb_M_rowPattern_66
          rw [br00]
          exact row151_N tk hS ho c1 c4 kp3 hu c3 (by omega) hk (by omega) hp (by omega) hn hh
      unfold fb_M_rowPattern_112
      rw [lit1q, I_add, show (j : Int) + 1 = ((j + 1 : Nat) : Int) from by omega, show (8 : Int32) = I 8 from rfl]
      refine k_eq ⟨by omega, by omega⟩ ⟨by decide, by decide⟩ (fun e8 => ?_) (fun e8 => go (Or.inl (by omega)))
      refine k_isSign (s := 6) rfl ⟨by decide, by decide⟩ (by omega) (fun z => ?_) (fun z => go (Or.inr z))
      refine k_wrong (s := 2) rfl ⟨by decide, by decide⟩ (by decide) (by omega) (fun v4 h4 h5 => ?_)
      exact ok_mono (row140_F (FSM_of (ST_67 c1 h4) (by omega) hn hh h5) hT (fun v hv => rowG_F hv hT hq0)) (fun _ _ => Or.inr)
    have tailF : ∀ w : MS, FSM u0 TN σ d w → ∀ x2 : Int, OK (PPO u0 TN SN σ d p o n q c f h s wt g u) (fb_M_rowPattern_112 N S (gg_M_rowPattern N S (m' + 1)) w y1 y2 y3 (I q) (I (j : Int)) (I x2)) := fun w hw x2 => ok_mono (row112_F hw hT (fun v hv => rowG_F hv hT hq0)) (fun _ _ => Or.inr)
    refine k_eq ⟨by omega, by omega⟩ ⟨by decide, by decide⟩ (fun z => ?_) (fun z => ?_)
    · refine k_in (k := 36) (n := 5000) rfl (by decide) (by omega) (ok_lt.mpr ?_)
      rw [I_tn (x := q) (by omega) (by omega)]
      rcases hv2 with hv2 | ⟨hv2, x2, hx2, x3, x4⟩
      · rw [hv2.2.1, wa_e]
        exact tail _ (Or.inl ⟨by omega, rfl⟩) hv2
      · rw [hx2, wa_e]
        exact tailF _ (FSM_wa hv2 (by decide)) x2
    · refine k_in (k := 37) (n := 5000) rfl (by decide) (by omega) (ok_lt.mpr ?_)
      rw [I_tn (x := l) (by omega) (by omega)]
      rcases hv2 with hv2 | ⟨hv2, x2, hx2, x3, x4⟩
      · rw [hv2.2.1, wa_e]
        exact tail _ (Or.inr ⟨by omega, rfl⟩) hv2
      · rw [hx2, wa_e]
        exact tailF _ (FSM_wa hv2 (by decide)) x2
end
