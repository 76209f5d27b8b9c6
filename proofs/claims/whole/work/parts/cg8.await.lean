/-! steps: AWAIT with after -/
set_option maxRecDepth 100000
section
variable {T : TYc} {Fv Fv' : Int64 → Int64 → Prop} {P : Int64 → Prop} {AN : Nat} {TT : TY} {CC : CY} {pM pE : Nat → Nat} {ND CN PN SN UN FN N PR p i v mu M1 M2 f U B W Y l j a n : Nat} {m w : MS} {Q : MS → Int32 → MS → Int32 → Prop} {b : Int → Nat → Nat → Prop} {ow kw ow' kd' : Nat → Nat} {nb : Nat → Nat} {Hs Os : Nat → List Nat} {y : Option (Nat × Nat × Nat)}
theorem sk_ca {W2 : Nat} (s : STx T Fv P Fv' AN TT CC pM pE ND CN PN SN UN FN N PR p i v f b U B W Y l ow kw ow' kd' j nb Hs Os y a n m w) (hT : W + tB TT n ≤ W2 + tH TT n) : CTa m w p W2 := fun c hc => by
  obtain ⟨-, -, -, -, -, ru, -, -, -, -, -, rb, rm, ⟨eW, -, -⟩, rct, -⟩ := s
  obtain ⟨y1, -⟩ := ct_mon2 ru.1.2 hc (Nat.lt_succ_self c)
  obtain ⟨W0, B0, z1, z2, -⟩ := rct c y1
  have r3 := A_r w 103 (1600 * p + c)
  obtain ⟨nn, c1, -, c3, -⟩ := ru.1.2
  exact ⟨by omega, ⟨W0, z1, by omega⟩, fun nd hnd => by omega⟩
/-- AWAIT with after: nodes 28 and 27 -/
theorem sk_28 {r k a2 : Nat} (ih : ∀ M1 v m w, SIA T Fv P Fv' AN TT CC pM pE ND CN PN SN UN FN p v m w → PP Q (qgo (SAf T Fv P p) N M1 m p (I ((v : Nat) : Int))) (gg_M_go N M2 w (I ((p : Nat) : Int)))) (ih1 : ∀ M1 v m w, SIA T Fv P Fv' AN TT CC pM pE ND CN PN SN UN FN p v m w → PP Q (qgo (SAf T Fv P p) N M1 m p (I ((v : Nat) : Int))) (gg_M_go N (M2 + 1) w (I ((p : Nat) : Int)))) (s : STx T Fv P Fv' AN TT CC pM pE ND CN PN SN UN FN N PR p i v f b U B W Y l ow kw ow' kd' j nb Hs Os none a n m w) (h23 : A w 23 n = 28) (h25 : A w 25 n = ((r : Nat) : Int)) (hr : r < 100000) (h27 : A w 27 n = ((k : Nat) : Int)) (hk : k ≤ (Os j).length) (hh : (k = (Os j).length ∧ a2 = a) ∨ (k < (Os j).length ∧ A m 23 a = 16 ∧ A m 23 (a + 1) = (((Os j).length - k : Nat) : Int) ∧ a2 = a + 2)) (c31 : A m 23 a2 = 31) (c1 : A m 23 (a2 + 1) = 1) (ha2 : a2 + 1 < 24000) (r23 : A w 23 r = 27) (r31 : A w 31 r = ((n : Nat) : Int)) (r27 : A w 27 r = ((k : Nat) : Int)) (rc : ∃ g, RCs (A m 23) (ROs w) (w.2.2.2 34) (CRs (A m 23) (ROs w) (w.2.2.2 34) g) g (a2 + 2) r (Hs j) ((Os j).take k)) : PP Q (q67 (SAf T Fv P p) N (qgo (SAf T Fv P p) N M1) m p (I ((v : Nat) : Int))) (bnd (fm_M_one N w (I ((n : Nat) : Int)) (I 28)) (fun u _ => KRs Fv' AN TT CC ND CN UN FN N p mu (M2 + 1) w u)) := by
  obtain ⟨⟨r5, r8, r2⟩, ⟨ha, hn, hv, hpp, hj⟩, nd, ⟨pl, ru, bd⟩, ⟨n1, n2, n3⟩, bH, bW, bB, bY, nND, hN⟩ := st_b s
  obtain ⟨bd1, bd2, bd3, bd4⟩ := bd
  obtain ⟨-, k1, c9, k2, k3, k4, -⟩ := n2.2.2.2.2.2.2.2.2.2.2.2.2.1 h23
  have ek : c9 = k := by omega
  subst ek
  obtain ⟨W1, rfl⟩ : ∃ W1, W = W1 + 1 := ⟨W - 1, by omega⟩
  obtain ⟨⟨-, hpr, pr24, hi, hf⟩, ⟨per, hAN⟩, ba, lp, -, -, ⟨pt, xc, h140⟩, -, -, -, wl, -⟩ := id s
  obtain ⟨-, -, ⟨h955, h956⟩, ⟨h149, h150⟩, -, -, tb, -⟩ := id ba
  obtain ⟨hcl, hc0⟩ := tb.2.2.1.1
  obtain ⟨i2, h, mm, L, g2, x2, j2, wb, nb2, cb2, rk, M⟩ := cl_any lp r5 r8
  have lb : LNB m p := GEN_ln M.1 hpr
  have cx : CTX Fv P m := (LPQ_dc lp).2
  have pb : PB (PWs AN) PR := wl.1.2.2
  have ca : CTa m w p W1 := sk_ca s (by omega)
  have hK0 : ∀ (u : MS) (Z : Option (MS × Int32)), GGw p w u → A u 98 (60 * p + j) = ((r : Nat) : Int) → A u 109 p = 0 → F u 151 = 0 → F u 133 = ((p : Nat) : Int) → A u 95 p = ((j + 1 : Nat) : Int) → F u 149 = 0 → F u 150 = 0 → A u 23 r = 27 → PP Q Z (bnd (fm_M_one N u (I ((r : Nat) : Int)) (I 27)) (fun u3 _ => KRs Fv' AN TT CC ND CN UN FN N p mu M2 w u3)) → PP Q Z (KRs Fv' AN TT CC ND CN UN FN N p mu (M2 + 1) w u) := fun u Z _ h98 h109 h151 h133 h95 h149 h150 h23 k => st_k0 s hr u Z h98 h109 h151 h133 h95 h149 h150 (by rw [h23]; exact k)
  have ke : ∀ M' vk' m3 w3 wr t3 x3, vk' ≤ v + 1 → GGm p m m3 → GGw p w w3 → (SCs p m w → SCs p m3 w3) → m3.1 (pq p 5) = w3.2.2.1 90 p → (wr = 0 ∨ wr = 1 ∨ wr = 2) → RQs Fv P Fv' (PWs AN) PR (enS m3 p t3 p i) (enR w3 p wr ((p : Nat) : Int) x3 0) p wr p x3 → PP Q (q206 (SAf T Fv P p) N (qgo (SAf T Fv P p) N M') (enS m3 p t3 p i) p (I ((vk' : Nat) : Int))) (KRs Fv' AN TT CC ND CN UN FN N p mu (M2 + 1) w (wi (enR w3 p wr ((p : Nat) : Int) x3 0) 151 1)) := fun M' vk' m3 w3 wr t3 x3 q a1 a2 a3 a4 a5 a6 => (aft_end hN per h149 ih1 ba (by omega) a1 a2 a3 a4 ⟨h955, hi⟩ (show F w 150 = ((0 : Nat) : Int) ∧ 0 < 4000 from ⟨h150, by decide⟩) a5 a6).2
  rcases hh with ⟨rfl, rfl⟩ | ⟨hk2, c16, cf, rfl⟩
  · rw [go_fl r5 r8 (by omega) r2 (by omega) c31 ⟨by omega, by omega⟩]
    rw [List.take_length] at rc
    refine awa_pp (K0 := fun u => KRs Fv' AN TT CC ND CN UN FN N p mu (M2 + 1) w u) (K2 := fun u => KRs Fv' AN TT CC ND CN UN FN N p mu M2 w u) (B0 := B) hpp hpr (PLs_94 pl (by omega)) (RUs_b ru) r2 (by omega) ⟨by omega, by omega⟩ bY (by omega) (by omega) h149 h150 hcl hc0 c1 (by omega) hr h25 h27 r23 r31 r27 nd rc bd2 ⟨bd3, bd4⟩ lb pt cx xc (Nat.le_refl _) pb ca ⟨h955, hi⟩ (by omega) hK0 (fun M' vk' m3 w3 q1 q2 a1 a2 a3 a4 a5 => st_wn ih s (by omega) a1 a2 a3 a4 a5) (fun M' vk' m3 w3 l q q1 q2 a1 a2 a3 a4 a5 => st_rv ih s (by omega) a2 a1 a3 a4 a5) (fun M' vk' m3 w3 k q1 q2 q3 a1 a2 a3 a4 a5 a6 a7 => st_ta ih s (by omega) a1 a2 (by omega) a4 a5 a6 a7) (fun b3 U3 W3 r k a0 nn m3 w3 a1 a2 a3 a4 a5 => (st_ru ih1 s a1 a2 a3 a4 a5).2) (fun m3 w3 wr t3 x3 a1 a2 a3 a4 a5 a6 => ke M1 v m3 w3 wr t3 x3 (by omega) a1 a2 a3 a4 a5 a6)
  · rw [go_vl r5 r8 (by omega) r2 (by omega) c16 ⟨by omega, by omega⟩]
    refine op_28b (K0 := fun u => KRs Fv' AN TT CC ND CN UN FN N p mu (M2 + 1) w u) (K2 := fun u => KRs Fv' AN TT CC ND CN UN FN N p mu M2 w u) hpp hpr pl ru (by omega) ⟨by omega, by omega⟩ bY (by omega) (by omega) h149 h150 hcl hc0 hk cf c31 c1 hr h25 h27 r23 r31 r27 rc (sk_105 s k3) bd2 ⟨bd3, bd4⟩ lb pt cx xc pb ca ⟨h955, hi⟩ (by omega) hK0 (fun M' vk' m3 w3 q1 q2 a1 a2 a3 a4 a5 => st_wn ih s (by omega) a1 a2 a3 a4 a5) (fun M' vk' m3 w3 l q q1 q2 a1 a2 a3 a4 a5 => st_rv ih s (by omega) a2 a1 a3 a4 a5) (fun M' vk' m3 w3 k q1 q2 q3 a1 a2 a3 a4 a5 a6 a7 => st_ta ih s (by omega) a1 a2 (by omega) a4 a5 a6 a7) (fun M' vk' b3 U3 W3 r k a0 nn m3 w3 q1 q2 a1 a2 a3 a4 a5 => ?_) (fun M' vk' m3 w3 wr t3 x3 q1 q2 a1 a2 a3 a4 a5 a6 => ke M' vk' m3 w3 wr t3 x3 (by omega) a1 a2 a3 a4 a5 a6)
    have r5 := a2.2.2.2.1
    exact (aft_gg hN per h149 ih1 ba (by omega) a3 a4 a1 a5 (Or.inl ⟨r, nb, Hs, _, none, a0, nn, a2⟩) (by omega) a2.2.2.2.2.2.1.2.1).2
end
