/-! names are forgotten, then AWAIT with after: nodes 28 and 27 here -/
set_option maxRecDepth 100000
section
variable {Sf : MS → Int32 → Prop} {b : Int → Nat → Nat → Prop} {N p PR U B W Y j a n r M1 M2 vk ee l kn : Nat} {m w : MS} {nb : Nat → Nat} {Hs Os : Nat → List Nat} {Q : MS → Int32 → MS → Int32 → Prop} {ow kw ow' kd' : Nat → Nat} {Fv Fv' : Int64 → Int64 → Prop} {P P' : Int64 → Prop}
theorem op_28b {K0 K2 : MS → Option (MS × Int32)} (hpp : p < 24) (hpr : p < PR) (pl : PLs b p m w U B (W + 1) Y) (ru : RUs m w p j nb Hs Os none a n) (ha : a + 3 < 24000) (bd : B ≤ 2500 ∧ W < 46000) (hY : Y ≤ 30) (hvk : vk + 300 < 1000000000) (h956 : F m 955 ≤ F m 956) (q149 : F w 149 = 0) (q150 : F w 150 = 0) (hcl : m.1 944 = w.1 120) (hc0 : 0 ≤ F w 120) (hk : kn ≤ (Os j).length) (cf : A m 23 (a + 1) = (((Os j).length - kn : Nat) : Int)) (c31 : A m 23 (a + 2) = 31) (c1 : A m 23 (a + 3) = 1) (hr : r < 100000) (h25 : A w 25 n = ((r : Nat) : Int)) (h27 : A w 27 n = ((kn : Nat) : Int)) (r23 : A w 23 r = 27) (r31 : A w 31 r = ((n : Nat) : Int)) (r27 : A w 27 r = ((kn : Nat) : Int)) (rc : ∃ g, RCs (A m 23) (ROs w) (w.2.2.2 34) (CRs (A m 23) (ROs w) (w.2.2.2 34) g) g (a + 4) r (Hs j) ((Os j).take kn)) (hct : ∀ nC c : Nat, F m (pq p 28) = ((nC : Nat) : Int) → c < nC → A w 105 (1600 * p + c) ≤ ((nb j + (Hs j).length + kn : Nat) : Int)) (hl : F m (pq p 45) = ((l : Nat) : Int)) (hl2 : W + 1 ≤ l ∧ l ≤ 1000000)
    (lb : LNB m p) (pt : PTQ m p U ow kw Fv P B (W + 1) Y) (cx : CTX Fv P m) (xc : CX w p (hp w p) U ow' kd' Fv' P' (W + 1) B Y) (pb : PB P' PR) (ca : CTa m w p W) (hee : F m 955 = ((ee : Nat) : Int) ∧ ee < 24) (hN : 2200000 ≤ N)
    (hK0 : ∀ (u : MS) (Z : Option (MS × Int32)), GGw p w u → A u 98 (60 * p + j) = ((r : Nat) : Int) → A u 109 p = 0 → F u 151 = 0 → F u 133 = ((p : Nat) : Int) → A u 95 p = ((j + 1 : Nat) : Int) → F u 149 = 0 → F u 150 = 0 → A u 23 r = 27 → PP Q Z (bnd (fm_M_one N u (I ((r : Nat) : Int)) (I 27)) (fun u3 _ => K2 u3)) → PP Q Z (K0 u))
    (kW : ∀ M' vk' m3 w3, M' ≤ M1 → vk' ≤ vk + 62 → WTn m3 w3 p j nb Hs (tkO Os j kn) (a + 4) → PLs b p m3 w3 U (nb j + (Hs j).length + kn) W Y → GGm p m m3 → GGw p w w3 → (SCs p m w → SCs p m3 w3) → PP Q (q195 Sf N (qgo Sf N M') m3 p (I ((vk' : Nat) : Int))) (K2 w3))
    (kR : ∀ M' vk' m3 w3 l q, M' ≤ M1 → vk' ≤ vk + 62 → RUs m3 w3 p j nb Hs (tkO Os j kn) none l q → PLs b p m3 w3 U (nb j + (Hs j).length + kn) W Y → GGm p m m3 → GGw p w w3 → (SCs p m w → SCs p m3 w3) → PP Q (q195 Sf N (qgo Sf N M') m3 p (I ((vk' : Nat) : Int))) (K2 w3))
    (kT : ∀ M' vk' m3 w3 k, M' ≤ M1 → vk' ≤ vk + 2 → 0 < Y → TRs m3 w3 p j nb Hs (tkO Os j kn) 3 (a + 4) (a + 4 + 2) k → PLs b p m3 (wa w3 94 p ((nb j + (Hs j).length + kn : Nat) : Int)) U (nb j + (Hs j).length + kn) W Y → F m3 (pq p 8) = ((0 : Nat) : Int) → GGm p m m3 → GGw p w w3 → (SCs p m w → SCs p m3 w3) → (w3.2.2.2 88 = w.2.2.2 88 ∧ w3.1 140 = w.1 140) → PP Q (q195 Sf N (qgo Sf N M') m3 p (I ((vk' : Nat) : Int))) (bnd (gg_M_choose N (rc_M_error N 19) N w3 1) (fun u _ => K2 u)))
    (kk : ∀ M' vk' b3 U3 W3 r k a0 nn m3 w3, M' ≤ M1 → vk' ≤ vk + 1 → PLs b3 p m3 w3 U3 (nb r + (Hs r).length + k) (W3 + 1) Y → RUs m3 w3 p r nb Hs (tkO (tkO Os j kn) r k) none a0 nn → GGm p m m3 → GGw p w w3 → (SCs p m w → SCs p m3 w3) → PP Q (q206 Sf N (qgo Sf N M') m3 p (I ((vk' : Nat) : Int))) (K0 w3))
    (ke : ∀ M' vk' m3 w3 wr t3 x3, M' ≤ M1 → vk' ≤ vk + 1 → GGm p m m3 → GGw p w w3 → (SCs p m w → SCs p m3 w3) → m3.1 (pq p 5) = w3.2.2.1 90 p → (wr = 0 ∨ wr = 1 ∨ wr = 2) → RQs Fv P Fv' P' PR (enS m3 p t3 p ee) (enR w3 p wr ((p : Nat) : Int) x3 0) p wr p x3 → PP Q (q206 Sf N (qgo Sf N M') (enS m3 p t3 p ee) p (I ((vk' : Nat) : Int))) (K0 (wi (enR w3 p wr ((p : Nat) : Int) x3 0) 151 1))) : PP Q (bnd (hm_Ma_value N m p (I 16)) (fun u _ => q195 Sf N (qgo Sf N M1) u p (I ((vk : Nat) : Int)))) (bnd (fm_M_one N w (I ((n : Nat) : Int)) (I 28)) (fun u _ => K0 u)) := by
  obtain ⟨⟨fa, ct⟩, ⟨r2, r3⟩, ⟨f0, cr0⟩, ⟨r5, r6⟩, r7, ⟨r8, r9, r10⟩, r11, r12, r13⟩ := id ru
  obtain ⟨h12, h152⟩ : F m 1112 = 0 ∧ F w 152 = 0 := by
    rcases r7 with ⟨_, c3, c4⟩ | ⟨_, _, _, c, _⟩
    · exact ⟨c3, c4⟩
    · cases c
  have cb := CR_b cr0
  have nd := CR_n cr0
  have eB : B = nb j + (Hs j).length + (Os j).length := by
    have := fa.2.2.2
    rw [pl.2.1.1, List.length_append] at this
    omega
  have eB2 : B - ((Os j).length - kn) = nb j + (Hs j).length + kn := by omega
  rw [val16, I_F' r2, show I ((a : Nat) : Int) + 1 = I ((a + 1 : Nat) : Int) from addN, Co_e (k := a + 1) rfl (by omega), bnd_so, cf, forgetc_e (B := B) (k := (Os j).length - kn) pl.2.1.1 rfl (by omega), bnd_so, eB2]
  have e5 : F (wi m (pq p 24) ((nb j + (Hs j).length + kn : Nat) : Int)) 1105 = ((a : Nat) : Int) := by rw [wi_ne (pq_n (by omega))]; exact r2
  rw [I_F' e5, show I ((a : Nat) : Int) + 2 = I ((a + 2 : Nat) : Int) from addN, wi_e]
  show PP Q (q195 Sf N (qgo Sf N M1) (wi (wi m (pq p 24) ((nb j + (Hs j).length + kn : Nat) : Int)) 1105 ((a + 2 : Nat) : Int)) p (I ((vk : Nat) : Int))) _
  generalize hm1 : wi (wi m (pq p 24) ((nb j + (Hs j).length + kn : Nat) : Int)) 1105 ((a + 2 : Nat) : Int) = m1
  have i1 : ∀ k, k ≠ 24 → m1.1 (pq p k) = m.1 (pq p k) := fun k h2 => by rw [← hm1]; exact (if_neg (fun c => pq_n (by omega) c.symm)).trans (if_neg (pq_inj h2))
  have ig : ∀ k, k < 2000 → k ≠ 1105 → m1.1 k = m.1 k := fun k h0 h1 => by rw [← hm1]; exact (if_neg h1).trans (if_neg (pq_n h0))
  have iF : ∀ k, k < 2000 → k ≠ 1105 → F m1 k = F m k := fun k h0 h1 => congrArg Int32.toInt (ig k h0 h1)
  have fq : ∀ k, k ≠ 24 → F m1 (pq p k) = F m (pq p k) := fun k h => congrArg Int32.toInt (i1 k h)
  have i2 : m1.2 = m.2 := by rw [← hm1]; rfl
  have e24 : F m1 (pq p 24) = ((nb j + (Hs j).length + kn : Nat) : Int) := by rw [← hm1, wi_ne (fun c => pq_n (by omega) c.symm), wi_sm (by omega) (by omega)]
  have epc : F m1 1105 = ((a + 2 : Nat) : Int) := by rw [← hm1, wi_sm (by omega) (by omega)]
  have gm : GGm p m m1 := by rw [← hm1]; exact GGm.tr (GGm_own (by omega)) (GGm_reg (by omega))
  have h23 : A m1 23 = A m 23 := by funext i; show (m1.2.2.1 23 i).toInt = _; rw [i2]; rfl
  have fa2 : FAs m1 w p j nb Hs (tkO Os j kn) := FA_less fa hk (i1 21 (by omega)) e24 (fun _ _ => by rw [i2]) (by rw [i2]) rfl (fun _ _ _ _ _ _ => rfl) (fun _ _ => rfl) rfl
  have ct2 : CTs m1 w p j nb Hs (tkO Os j kn) := CT_less ct hct hk (i1 28 (by omega)) (by rw [i2]) (by rw [i2]) rfl (fun _ _ _ => rfl) (fun _ _ => rfl) rfl
  have ru1 : RUb m1 w p j nb Hs (tkO Os j kn) none := ⟨⟨fa2, ct2⟩, ⟨(fq 9 (by omega)).trans r5, r6⟩, Or.inl ⟨rfl, (iF 1112 (by omega) (by omega)).trans h12, h152⟩, ⟨(iF 1108 (by omega) (by omega)).trans r8, (iF 1109 (by omega) (by omega)).trans r9, r10⟩, r11, by rw [ig 1106 (by omega) (by omega)]; exact r12, by rw [ig 1107 (by omega) (by omega)]; exact r13⟩
  have pl1 : PLs b p m1 (wa w 94 p ((nb j + (Hs j).length + kn : Nat) : Int)) U (nb j + (Hs j).length + kn) (W + 1) Y := by
    have pl2 : PLs b p m w U (nb j + (Hs j).length + kn + ((Os j).length - kn)) (W + 1) Y := by
      rw [show nb j + (Hs j).length + kn + ((Os j).length - kn) = B by omega]
      exact pl
    rw [← hm1]
    exact PLs_pc (PLs_forget pl2 (by omega))
  have tl : (tkO Os j kn j).length = kn := by rw [tkO_j, List.length_take]; omega
  have lb1 : LNB m1 p := by
    obtain ⟨l1, l2, l3⟩ := lb
    refine ⟨by rw [fq 45 (by omega)]; exact l1, by rw [fq 43 (by omega), fq 42 (by omega)]; exact l2, by rw [fq 47 (by omega), fq 28 (by omega)]; exact l3⟩
  have pt1 : PTQ m1 p U ow kw Fv P (nb j + (Hs j).length + kn) (W + 1) Y := by
    obtain ⟨⟨p1, p2, p3⟩, ⟨p4, p5⟩, ⟨p6, p7⟩, ⟨p8, p9⟩, ⟨l1, z1, z2, z3⟩, ⟨l2, y1, y2, y3⟩, p10⟩ := pt
    refine ⟨⟨(fq 4 (by omega)).trans p1, p2, by rw [i2]; exact p3⟩, ⟨e24, fun i hi => by rw [i2]; exact p5 i (by omega)⟩, ⟨(fq 26 (by omega)).trans p6, fun i hi => by rw [i2]; exact p7 i hi⟩, ⟨(fq 7 (by omega)).trans p8, fun i hi => by rw [i2]; exact p9 i hi⟩, ⟨l1, (fq 43 (by omega)).trans z1, by omega, z3⟩, ⟨l2, (fq 45 (by omega)).trans y1, y2, y3⟩, p10⟩
  have cx1 : CTX Fv P m1 := CTX_fr cx (ig 22 (by omega) (by omega)) (by rw [i2])
  have ca1 : CTa m1 w p W := fun c h => ca c ((fq 28 (by omega)).symm.trans h)
  have sc1 : SCs p m w → SCs p m1 w := fun s => SC_ow s (fun l hl => i1 l (by omega)) (by rw [i2]) (fun _ _ _ => rfl)
  refine go195 ((iF 1109 (by omega) (by omega)).trans r9) (by rw [iF 955 (by omega) (by omega), iF 956 (by omega) (by omega)]; exact h956) (fun hsf => ?_)
  cases M1 with
  | zero => exact pp_nl
  | succ M1 =>
  show PP Q (q67 Sf N (qgo Sf N M1) m1 p (I ((vk + 1 : Nat) : Int))) _
  rw [go_fl (v := 31) (a := a + 2) ((fq 9 (by omega)).trans r5) ((iF 1108 (by omega) (by omega)).trans r8) (by omega) epc (by omega) (by rw [h23]; exact c31) (by omega)]
  obtain ⟨g, rc⟩ := rc
  exact awa_pp (r := r) (B0 := B) (Os := tkO Os j kn) hpp hpr pl1 ru1 epc (by omega) ⟨by omega, bd.2⟩ hY (by omega) (by rw [iF 955 (by omega) (by omega), iF 956 (by omega) (by omega)]; exact h956) q149 q150 (by rw [ig 944 (by omega) (by omega)]; exact hcl) hc0 (by rw [h23]; exact c1) (by omega) hr h25 (by rw [tl]; exact h27) r23 r31 (by rw [tl]; exact r27) ⟨by rw [tkO_j]; exact List.Nodup.sublist (List.take_sublist _ _) nd.1, nd.2⟩ ⟨g, by rw [h23, tkO_j]; exact rc⟩ ((fq 45 (by omega)).trans hl) hl2 lb1 pt1 cx1 xc (by omega) pb ca1 ⟨(iF 955 (by omega) (by omega)).trans hee.1, hee.2⟩ hN hK0 (fun M' vk' m3 w3 q1 q2 a1 a2 a3 a4 a5 => kW M' vk' m3 w3 (by omega) (by omega) a1 a2 (GGm.tr gm a3) a4 (fun s => a5 (sc1 s))) (fun M' vk' m3 w3 l q q1 q2 a1 a2 a3 a4 a5 => kR M' vk' m3 w3 l q (by omega) (by omega) a1 a2 (GGm.tr gm a3) a4 (fun s => a5 (sc1 s))) (fun M' vk' m3 w3 k q1 q2 q3 a1 a2 a3 a4 a5 a6 a7 => kT M' vk' m3 w3 k (by omega) (by omega) q3 a1 a2 a3 (GGm.tr gm a4) a5 (fun s => a6 (sc1 s)) a7) (fun b3 U3 W3 r k a0 nn m3 w3 b1 b2 b3' b4 b5 => kk M1 (vk + 1) b3 U3 W3 r k a0 nn m3 w3 (by omega) (by omega) b1 b2 (GGm.tr gm b3') b4 (fun s => b5 (sc1 s))) (fun m3 w3 wr t3 x3 b1 b2 b3 b4 b5 b6 => ke M1 (vk + 1) m3 w3 wr t3 x3 (by omega) (by omega) (GGm.tr gm b1) b2 (fun s => b3 (sc1 s)) b4 b5 b6)
end
