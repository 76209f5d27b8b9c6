/-! MATCH, both -/
set_option maxRecDepth 100000
section
variable {α β : Type} {m0 w0 m w m2 w2 m3 w3 v u w1 mS wS x1 x2 y1 : MS} {K nm Nk W WE W1 W2 : Nat → Nat} {N T D d o a a0 b b0 b5 b7 c cm cm0 cm2 cm3 cm5 cm7 q q0 r s lo lo0 mid hi i j f f2 n k kk p p2 σ tk x y xa xb xc M L pi pj pn : Nat} {Q Q0 Q2 Q3 Q4 Q5 : Nat → Nat} {sc sc0 sc2 sc3 sc5 sc7 t t1 t2 : SCT} {e e1 e2 : List Nat × List Nat × Nat} {g lst : Bool} {idc fof cvr : Int → Int → Int} {z : Unit} {rt v1 v2 v3 v4 v5 xx : Int32} {A' : Option (MS × α)} {RR : MS → α → MS → β → Prop} {RX : MS → α → MS → Int32 → Prop}
/-- the reader, when names are taken back -/
theorem tb_P (hT : TKbk w u x1 L) (hU : PRd w0 T u p pj sc2) (hn : RNs x1 sc) (hf : HFl x1 sc) (h39 : w.1 39 = I (pi : Nat) ∧ pi ≤ 5000) : PRd w0 T x1 p pi sc := by
  obtain ⟨h1, ⟨h2, -⟩, h3⟩ := hT
  obtain ⟨-, i1, r1, -, -⟩ := h1
  refine ⟨⟨fun k hk => ?_, fun k hk => ?_⟩, ⟨by rw [i1 69 (by decide)]; exact hU.2.1.1, hU.2.1.2⟩, by rw [i1 67 (by decide)]; exact hU.2.2.1, hn, hf, by rw [h2]; exact h39.1, h39.2⟩
  · rw [i1 k (by
      unfold TIN at hk
      simp only [List.mem_cons, List.not_mem_nil, or_false] at hk ⊢
      omega)]
    exact hU.1.1 k hk
  · have : k < 33 := by unfold TRW at hk; simp only [List.mem_cons, List.not_mem_nil, or_false] at hk; omega
    rw [r1 k (by omega) (by omega)]; exact hU.1.2 k hk
theorem PRd_to (h : PRd w0 T w p pi sc) (hl : lo ≤ T) : PRd w0 T (upI w 69 (I (lo : Nat))) lo pi sc := PRS_k h (fun k h1 h2 h3 => upI_ne h3) (fun _ _ => rfl) upI_at hl (by rw [upI_ne (by decide)]; exact h.2.2.2.2.2.1) h.2.2.2.2.2.2
/-- the reading of a MATCH, as far as its E -/
theorem mt_rd (c : CTZ m0 w0 K T nm Nk) (hx : PAcK m0 f x lo mid xa xc q q) (hR : XRS w0 T w lo Q (e :: t)) (hX2 : XRS w0 T w2 mid Q2 sc2) (hQv : QRR Q w v) (s8 : ∀ k, k ≠ 74 → k ≠ 76 → v.2.2.1 k = w.2.2.1 k) (hF2 : XRF v w2 (QSV Q) Q2) (hL2 : HLp (e :: t) sc2) (h62 : H62 v w2 (e :: t)) (hSV : SVd w v Q (t.length + 1)) (km : K mid = 30)
    (h : ∀ (x4 : MS) (e1 : List Nat × List Nat × Nat) (t1 : SCT) (W1 : Nat → Nat), XRS w0 T x4 (mid + 1) (QSV Q) ((e.1, e1.2.1, e1.2.2) :: t1) → QRR (QSV Q) v x4 → e.1 <+: e1.1 → BDs t t1 → HDo Nk K W1 lo mid (e :: t) ((e.1, e1.2.1, e1.2.2) :: t1) → WCN Nk K nm W1 lo mid (e :: t) → PP RX A' (bnd ((krc_M_behind N d).1 x4) (fun u2 r2 => br (decide ((u2.1 67) = 0)) (lt (upI u2 69 (I (lo : Nat))) (fun w3 => lt (upI w3 70 ((w3.1 70) - 1)) (fun w4 => bnd (kr_M_patternAt N w4 0) (fun u5 r5 => lt (upI u5 70 ((u5.1 70) + 1)) (fun w6 => lt (upI w6 69 (u2.1 69)) (fun w7 => bnd (fm_M_node N w7 16 (I (mid : Nat))) (fun u8 r8 => ck (inb r8 (ln 25)) (lt (upA u8 25 (upd (u8.2.2.1 25) r8.toNatClampNeg r5)) (fun w9 => some (w9, r8)))))))))) (some (u2, (-1)))))) : PP RX A' (km_M_matched N (krc_M_behind N d) w2 (I (lo : Nat))) := by
  have t4 := c.2.1.1.1
  have hdx := PA_bdK _ _ _ _ _ _ _ _ hx
  unfold HDc at hdx
  have hn := hR.1.2.2.2.1
  have hl27 : t.length + 1 ≤ 27 := hn.2.1.2
  have hn2 := hX2.1.2.2.2.1
  have len2 := HLp_len hL2
  have el : (e :: t).length = t.length + 1 := rfl
  have u65 : w2.1 65 = I (t.length : Nat) := by rw [hn2.1, len2]; rfl
  have m75 : w2.1 75 = I ((Q 75 + 8 : Nat) : Int) := by
    have h1 := (hX2.2 75 (by decide)).1
    rw [hF2.2.2.1, QSV_75] at h1
    exact h1
  have m77 : w2.1 77 = I ((Q 77 + 54 : Nat) : Int) := by
    have h1 := (hX2.2 77 (by decide)).1
    rw [hF2.2.2.2.1, QSV_77] at h1
    exact h1
  have m83 : w2.1 83 = I (Q 83 : Nat) := by
    have h1 := (hX2.2 83 (by decide)).1
    rw [hF2.2.2.2.2, QSV_n (by decide) (by decide)] at h1
    exact h1
  have hS2 : SVd w w2 Q (t.length + 1) := SVd_fr hSV (fun j hj => hF2.1.2.1 74 j (by decide) (by show j < QSV Q 75; rw [QSV_75]; exact hj)) (fun j hj => hF2.1.2.1 76 j (by decide) (by show j < QSV Q 77; rw [QSV_77]; exact hj)) hl27
  have ok := hn.2.2.2
  unfold km_M_matched kb_M_matched_0
  refine tb_x u65 (by omega) m75 m77 hS2 (fun x1 hx1 => ?_)
  have hT := hx1.1
  have r1 : ∀ k, k ≠ 60 → k ≠ 63 → x1.2.2.1 k = w2.2.2.1 k := hT.2.2.1
  have n1 : RNs x1 (e :: t) := ⟨by rw [hT.2.1 65 (by decide), u65]; rfl, hn.2.1, RNl_b1 hn.2.2.1 hn2.2.2.1 hL2 (fun i hi => hT.2.2.2.1 i hi) (r1 59 (by decide) (by decide)) (r1 61 (by decide) (by decide)) (r1 64 (by decide) (by decide)), ok⟩
  have f1 : HFl x1 (e :: t) := HFl_62 hR.1.2.2.2.2.1 (fun s j h1 h2 => by rw [r1 62 (by decide) (by decide), h62 s j h1 h2, s8 62 (by decide) (by decide)])
  have p1 := tb_P hx1 hX2.1 n1 f1 hR.1.2.2.2.2.2
  rw [lt_e, lt_e]
  have p2 : PRd w0 T (upI (upI x1 69 (I (lo : Nat))) 70 ((upI x1 69 (I (lo : Nat))).1 70 - 1)) lo (Q 39) (e :: t) := PRS_70 (PRd_to p1 hR.1.2.1.2)
  have i2 : ∀ k, k ≠ 69 → k ≠ 70 → (upI (upI x1 69 (I (lo : Nat))) 70 ((upI x1 69 (I (lo : Nat))).1 70 - 1)).1 k = x1.1 k := fun k k1 k2 => by rw [upI_ne k2, upI_ne k1]
  have r2 : (upI (upI x1 69 (I (lo : Nat))) 70 ((upI x1 69 (I (lo : Nat))).1 70 - 1)).2 = x1.2 := rfl
  generalize upI (upI x1 69 (I (lo : Nat))) 70 ((upI x1 69 (I (lo : Nat))).1 70 - 1) = xs at p2 i2 r2
  unfold kr_M_patternAt
  refine r_bnd (pk_mo (rpu_all c f _ x lo mid xa xc q q xs (Q 39) (e :: t) hx p2) (fun y rr hz => ?_))
  obtain ⟨pn1, pj1, sc1, W1, rfl, -, p3, ⟨hd1, hw1⟩, rf1⟩ := hz
  obtain ⟨wc1, nw1⟩ := hw1 rfl
  rw [lt_e]
  have p4 := PRS_70 (x := y.1 70 + 1) p3
  have i4 : ∀ k, k ≠ 70 → (upI y 70 (y.1 70 + 1)).1 k = y.1 k := fun k hk => upI_ne hk
  have r4 : (upI y 70 (y.1 70 + 1)).2 = y.2 := rfl
  generalize upI y 70 (y.1 70 + 1) = ys at p4 i4 r4
  rw [decide_eq_true p4.2.2.1, br_t, show decide (ys.1 69 = w2.1 69) = true from decide_eq_true (p4.2.1.1.trans hX2.1.2.1.1.symm), br_t]
  obtain ⟨e1, t1, rfl⟩ := PRS_ne p4
  have bd := nw1.2.1
  have len1 := (BDs_len bd).1
  have iy : ∀ k, k ∉ [32, 39, 46, 56, 58, 66, 69, 70, 71, 72] → ys.1 k = w2.1 k := fun k hk => by
    simp only [List.mem_cons, List.not_mem_nil, or_false] at hk
    rw [i4 k (by omega), rf1.1 k (by omega) (by omega) (by omega), i2 k (by omega) (by omega), hT.2.1 k (by simp only [List.mem_cons, List.not_mem_nil, or_false]; omega)]
  have ry : ∀ k, k < 33 ∨ (38 < k ∧ k < 59) ∨ 64 < k → ys.2.2.1 k = w2.2.2.1 k := fun k hk => by
    rw [r4, rf1.2.1 k hk, r2, r1 k (by omega) (by omega)]
  have y65 : ys.1 65 = I (t.length : Nat) := (iy 65 (by decide)).trans u65
  rw [hX2.1.2.1.1]
  refine mt_75 (u := ys) y65 (by omega) (fun u2 M a1 a2 a3 a4 => ?_) N 0 ys (by omega) rfl (fun _ _ => rfl) rfl (fun j hj => absurd hj (by omega))
  have hS3 : SVd w u2 Q (t.length + 1) := SVd_fr hS2 (fun j _ => by rw [a2 74 (by decide), ry 74 (by omega)]) (fun j _ => by rw [a2 76 (by decide), ry 76 (by omega)]) hl27
  refine tb_x (by rw [a1]; exact y65) (by omega) (by rw [a1, iy 75 (by decide)]; exact m75) (by rw [a1, iy 77 (by decide)]; exact m77) hS3 (fun x2 hx2 => ?_)
  have hT2 := hx2.1
  have r5 : ∀ k, k ≠ 60 → k ≠ 63 → x2.2.2.1 k = u2.2.2.1 k := hT2.2.2.1
  have x65 : x2.1 65 = I (t.length : Nat) := by rw [hT2.2.1 65 (by decide), a1]; exact y65
  refine mt_111 (u := x2) x65 (by omega) (fun u3 G b1 b2 b3 b4 => ?_) M 0 x2 (by omega) rfl (fun _ _ => rfl) rfl (fun j hj => absurd hj (by omega))
  have i3 : ∀ k, k ∉ [32, 39, 46, 56, 58, 66, 71, 72] → u3.1 k = ys.1 k := fun k hk => by rw [b1, hT2.2.1 k hk, a1]
  have r3 : ∀ k, k ≠ 60 → k ≠ 63 → k ≠ 78 → u3.2.2.1 k = ys.2.2.1 k := fun k k1 k2 k3 => by rw [b2 k k2, r5 k k1 k2, a2 k k3]
  have h63 : ∀ i, i < t.length + 1 → u3.2.2.1 63 i = ys.2.2.1 63 i := fun i hi => by rw [b4 i (by omega), r5 78 (by decide) (by decide), a4 i (by omega)]
  have h60 : ∀ i, i < t.length + 1 → u3.2.2.1 60 i = w.2.2.1 60 i := fun i hi => by rw [b2 60 (by decide)]; exact (hT2.2.2.2.1 i hi).1
  have n4 := p4.2.2.2.1
  obtain ⟨y59, y61, y64, y62⟩ : u3.2.2.1 59 = ys.2.2.1 59 ∧ u3.2.2.1 61 = ys.2.2.1 61 ∧ u3.2.2.1 64 = ys.2.2.1 64 ∧ u3.2.2.1 62 = ys.2.2.1 62 := ⟨r3 59 (by decide) (by decide) (by decide), r3 61 (by decide) (by decide) (by decide), r3 64 (by decide) (by decide) (by decide), r3 62 (by decide) (by decide) (by decide)⟩
  have nM : RNs u3 ((e.1, e1.2.1, e1.2.2) :: t1) := by
    refine ⟨?_, ⟨by show 1 ≤ t1.length + 1; omega, by show t1.length + 1 ≤ 27; omega⟩, ⟨?_, RNl_b2 hn.2.2.1.2 n4.2.2.1.2 bd (fun i hi => ⟨h60 i (by omega), h63 i (by omega)⟩) y59 y61 y64⟩, SOK_b2 ok n4.2.2.2 nw1.1⟩
    · show u3.1 65 = I ((t1.length + 1 - 1 : Nat) : Int)
      rw [b1, x65, show t1.length + 1 - 1 = t.length by omega]
    · obtain ⟨c1, c2, c3, c4, c5⟩ := n4.2.2.1.1
      obtain ⟨d1, d2, -⟩ := hn.2.2.1.1
      rw [len1] at c1 c2 c3 c4 c5 ⊢
      exact ⟨by rw [h60 _ (by omega)]; exact d1, fun k y hk => by rw [y59]; exact c2 k y (pre_get nw1.1 hk), by rw [h63 _ (by omega)]; exact c3, fun k y hk => by rw [y61]; exact c4 k y hk, by rw [y64]; exact c5⟩
  have fM : HFl u3 ((e.1, e1.2.1, e1.2.2) :: t1) := by
    have := HFl_fr (v := u3) n4.2.2.2 p4.2.2.2.2.1 (fun j _ => by rw [y62])
    exact ⟨this.1, this.2⟩
  have hm39 : u3.1 39 = I (Q 39 : Nat) ∧ Q 39 ≤ 5000 := ⟨by rw [b1, hx2.2.1.1]; exact hR.1.2.2.2.2.2.1, hR.1.2.2.2.2.2.2⟩
  have pM : PRd w0 T u3 mid (Q 39) ((e.1, e1.2.1, e1.2.2) :: t1) := by
    refine ⟨⟨fun k hk => ?_, fun k hk => ?_⟩, ⟨by rw [i3 69 (by decide)]; exact p4.2.1.1, p4.2.1.2⟩, by rw [i3 67 (by decide)]; exact p4.2.2.1, nM, fM, hm39⟩
    · rw [i3 k (by
        unfold TIN at hk
        simp only [List.mem_cons, List.not_mem_nil, or_false] at hk ⊢
        omega)]
      exact p4.1.1 k hk
    · have : k < 33 := by unfold TRW at hk; simp only [List.mem_cons, List.not_mem_nil, or_false] at hk; omega
      rw [r3 k (by omega) (by omega) (by omega)]; exact p4.1.2 k hk
  have xM : XRS w0 T u3 mid (QSV Q) ((e.1, e1.2.1, e1.2.2) :: t1) := by
    refine ⟨by rw [QSV_n (by decide) (by decide)]; exact pM, fun k hk => ?_⟩
    have kc : k = 32 ∨ k = 39 ∨ k = 46 ∨ k = 56 ∨ k = 58 ∨ k = 75 ∨ k = 77 ∨ k = 83 := by
      unfold MKs at hk
      simp only [List.mem_cons, List.not_mem_nil, or_false] at hk
      exact hk
    have q75 := (hR.2 75 (by decide)).2
    have b400 := hSV.1
    have old : ∀ k, k ∈ MKs → k ≠ 75 → k ≠ 77 → u3.1 k = w.1 k → u3.1 k = I (QSV Q k : Nat) ∧ QSV Q k ≤ 24000 := fun k hk k1 k2 he => by
      rw [QSV_n k1 k2, he]; exact hR.2 k hk
    rcases kc with rfl | rfl | rfl | rfl | rfl | rfl | rfl | rfl
    · exact old 32 hk (by decide) (by decide) (by rw [b1]; exact hT2.1.1)
    · exact old 39 hk (by decide) (by decide) (by rw [b1]; exact hx2.2.1.1)
    · exact old 46 hk (by decide) (by decide) (by rw [b1]; exact hx2.2.1.2.1)
    · exact old 56 hk (by decide) (by decide) (by rw [b1]; exact hx2.2.1.2.2.1)
    · exact old 58 hk (by decide) (by decide) (by rw [b1]; exact hx2.2.1.2.2.2.1)
    · rw [QSV_75, i3 75 (by decide), iy 75 (by decide)]; exact ⟨m75, by omega⟩
    · rw [QSV_77, i3 77 (by decide), iy 77 (by decide)]; exact ⟨m77, by omega⟩
    · rw [QSV_n (by decide) (by decide), i3 83 (by decide), iy 83 (by decide)]; exact ⟨m83, (hR.2 83 (by decide)).2⟩
  have qM : QRR (QSV Q) v u3 := by
    have q1 : QRR (QSV Q) w2 x1 := QRR_n (fun k k1 k2 _ => r1 k k1 k2) hx1.2.2
    have q2 : QRR (QSV Q) xs y := QRR_P rf1 (by rw [QSV_n (by decide) (by decide)]; exact Nat.le_refl _)
    have q3 : QRR (QSV Q) ys u3 := QRR_n r3 (by rw [b3, hx2.2.2, a3])
    have q12 : QRR (QSV Q) v xs := QRR_e (QRR_tr hF2.1 q1 QLE_rf) (by rw [r2]) (by rw [r2])
    have q13 : QRR (QSV Q) v ys := QRR_e (QRR_tr q12 q2 QLE_rf) (by rw [r4]) (by rw [r4])
    exact QRR_tr q13 q3 QLE_rf
  have hdM : HDo Nk K W1 lo mid (e :: t) ((e.1, e1.2.1, e1.2.2) :: t1) := ⟨hd1.1, hd1.2⟩
  have hmT : mid < T := c.2.1.1.lt hX2.1.2.1.2 (by omega) (by omega)
  have e154 : ∀ u4, RULd u3 u4 → PP RX A' (kb_M_matched_154 N (krc_M_behind N d) G u4 (I (lo : Nat)) (I (mid : Nat))) := fun u4 hu => by
    have X4 := XRS_ad (RUL_x hu xM) hmT
    unfold kb_M_matched_154
    rw [i_suc, lt_e]
    exact h (adv u4 mid) e1 t1 W1 X4 (QRR_e qM (by show u4.2.2.1 = _; rw [hu.2]) (by show u4.2.2.2 = _; rw [hu.2])) nw1.1 bd hdM wc1
  exact r_br (fun _ => e154 u3 RUL_rf) (fun _ => r_rul (fun u4 hu => e154 u4 hu))
end
