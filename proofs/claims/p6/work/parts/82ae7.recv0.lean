def RHT (TN SN σ R0 : Nat) (o xb : Int) (c : Int) (u V : MS) (k : Nat) : Prop := F V 72 = 0 → F V 66 = 0 → TN ≤ 1500 → ∃ (μ : Nat → Nat → Nat) (r : Nat → Nat) (a1 : Nat → Nat) (mm X Y : Nat), CHD V SN false ((R0 + 1 : Nat) : Int) k μ r 1 (nmo σ u) mm X Y (hlo σ V) ∧ (ONE (mks u) a1 R0 ∧ ONE a1 (μ 0) (R0 + 1) ∧ μ k = mks V ∧ μ 0 1 = c.toNat) ∧ RLS V k r ∧ (0 < k → A V 28 (R0 + 1) = ((r (k - 1) : Nat) : Int)) ∧ (mm ≤ 40 ∧ nmo σ u ≤ mm) ∧ (mm : Int) ≤ A V 64 σ ∧ (2 * (X : Int) ≤ xb ∧ 1 ≤ X) ∧ (Y : Int) + o ≤ 25
def RHV (u0 : MS) (TN SN : Nat) (bw : Nat → Nat) (σ j : Nat) (p o n q c f h s wt : Int) (u V : MS) (k : Nat) (p1 n1 q1 c1 f1 h1 : Int) : Prop := F V 67 = 0 ∧ ST u0 σ p1 o n1 q1 c1 f1 h1 s wt 0 V ∧ KPR σ u V ∧ (p1 ≤ TN ∧ (j : Int) = n) ∧ DLT bw 0 0 0 p (n + 2) q c f h p1 n1 q1 c1 f1 h1 ∧ RTL V o (n + 2) (j + 1) ∧ (A V 60 σ = A u 60 σ ∧ 0 ≤ A u 60 σ) ∧ (KND V j 26 ∧ (A V 23 (j + 1) = 27 ∧ 0 ≤ A V 24 (j + 1) ∧ A V 24 (j + 1) < 4002 ∧ A V 29 (j + 1) = -1) ∧ A V 27 (j + 1) = A u 60 σ ∧ A V 31 (j + 1) = -1) ∧ ((k = 0 ∧ A V 25 (j + 1) = -1 ∧ A V 28 (j + 1) = -1) ∨ (0 < k ∧ A V 25 (j + 1) = c ∧ n1 - (n + 2) + 3 ≤ 3 * (p1 - p) ∧ p + 3 ≤ p1)) ∧ RHT TN SN σ j o (p1 - p + 2) c u V k
section
variable {Q : MS → Int32 → Prop} {u0 u v w x V : MS} {N σ TN SN e j k : Nat} {bw : Nat → Nat} {p o n q c f h s wt g D d B l z t p1 n1 q1 c1 f1 h1 : Int} {r v2 v3 v4 : Int32} {S : SG_M_behind}
theorem r98_F (hT : TN ≤ 4000) (hD : D ≤ 3000) (hs : FSM u0 TN σ D V) (hj : j + 1 < 16000) : OK (fun x _ => FSM u0 TN σ (D + 1) x) (fb_M_receive_98 N S () V v2 (I j) (I ((j + 1 : Nat) : Int))) := by
  unfold fb_M_receive_98
  refine k_takeWord (s := 0) rfl ⟨by decide, by decide⟩ (FSM_p hs hT) (fun z _ => absurd z hs.2.1) (fun _ => ?_)
  rw [br00]
  refine k_needWord (s := 6) rfl ⟨by decide, by decide⟩ (FSM_p hs hT) (fun z _ => absurd z hs.2.1) (fun v2 h3 h4 => ?_)
  have s3 := FSM_67 hs h3 h4
  refine k_in (k := 25) (n := 16000) rfl (by decide) (by omega) (ok_lt.mpr ?_)
  rw [wa_e]
  exact join_F hT hD (FSM_wa s3 (by decide)) hj
theorem ONE_jn (hj : JNV u x e) (h0 : 0 ≤ F u 32) : ONE (mks u) (mks x) (F u 32).toNat := by
  obtain ⟨j1, j2, -⟩ := hj
  have xF : ∀ t, t ≠ 32 → F x t = F u t := fun t h1 => j1.F (by simpa using h1)
  refine ⟨rfl, ?_, ?_, ?_, fun i => ?_⟩
  · show (F x 32).toNat = _; omega
  · show (F x 46).toNat = (F u 46).toNat; rw [xF 46 (by decide)]
  · show (F x 56).toNat = (F u 56).toNat; rw [xF 56 (by decide)]
  · unfold mks
    split
    · omega
    · split
      · rw [xF 46 (by decide)]; exact Nat.le_refl _
      · split
        · rw [xF 39 (by decide)]; exact Nat.le_refl _
        · split
          · rw [xF 56 (by decide)]; exact Nat.le_refl _
          · rw [xF 58 (by decide)]; exact Nat.le_refl _
theorem EQX_jn {n0 : Nat} (hj : JNV u x e) (he : e < n0) (h0 : 0 ≤ F u 32) : EQX σ n0 u x := by
  obtain ⟨j1, j2, -, -, j8⟩ := hj
  have xF : ∀ t, t ≠ 32 → F x t = F u t := fun t h1 => j1.F (by simpa using h1)
  have m9 : ∀ t, t ∈ [40, 41, 42, 43, 45] → t ∉ [23, 24, 25, 26, 27, 28, 29, 30, 31] := by decide
  have m10 : ∀ t, t ∈ [33, 35, 36, 37, 38] → t ∉ [23, 24, 25, 26, 27, 28, 29, 30, 31] := by decide
  have m11 : ∀ t, t ∈ [53, 54, 55] → t ∉ [23, 24, 25, 26, 27, 28, 29, 30, 31] := by decide
  refine ⟨xF 14 (by decide), fun r i _ h1 h2 => j8 r i (by omega) (fun _ => by omega), fun r i hr _ => j1.A (m9 r hr), fun r i hr _ => j1.A (m10 r hr), fun r i hr _ => j1.A (m11 r hr), fun i _ => j1.A (by decide), ⟨?_, ?_⟩, ?_, fun z => by rw [← xF 72 (by decide)]; exact z, fun z => by rw [← xF 66 (by decide)]; exact z⟩
  · unfold hlo; rw [j1.A (by decide)]; exact Nat.le_refl _
  · rw [j1.A (by decide)]; exact Int.le_refl _
  · rw [xF 46 (by decide), xF 39 (by decide), xF 56 (by decide), xF 58 (by decide)]; omega
set_option maxRecDepth 100000 in
theorem recv0_ok (tk : TKW u0 TN SN bw) (hD : 0 ≤ D ∧ D ≤ 2900) (ho : 0 ≤ o ∧ o ≤ 25) (hm : NM TN bw 0 0 0 σ p o (n + 2) q c f h s wt) (hu : F u 32 = n ∧ 0 ≤ n) (hv : RHV u0 TN SN bw σ j p o n q c f h s wt u V k p1 n1 q1 c1 f1 h1) (hk : 0 < k) : OK (fun x r => CHQ u0 TN SN bw σ 0 p o n q c f h s wt u x r ∨ FSM u0 TN σ (D + 2) x) (bnd (fm_M_needWord N V 6) (fun u5 _ => ck (inb (I j) (ln 25)) (lt (upA u5 25 (upd (u5.2.2.1 25) (I j).toNatClampNeg (I ((j + 1 : Nat) : Int)))) (fun w6 => fb_M_receive_237 N S () w6 (I ((j + 1 : Nat) : Int)))))) := by
  have hT := tk.1.1
  obtain ⟨b0, b1, b2, ⟨b3, bj⟩, b4, b5, ⟨b6, b60⟩, ⟨b7, b8, b9, b10⟩, b11, b12⟩ := hv
  have b13 : A V 25 (j + 1) = c ∧ n1 - (n + 2) + 3 ≤ 3 * (p1 - p) ∧ p + 3 ≤ p1 := by
    rcases b11 with z | z
    · omega
    · exact z.2
  clear b11
  have nm1 := NM_dlt tk hm b4 (by omega) (by omega) b3
  have fs1 := NM_fs nm1 (by omega)
  have hc : 0 ≤ c := by unfold NM at hm; omega
  have e69 : F V 69 = p1 := b1.2.1.1
  have e32 : F V 32 = n1 := b1.2.1.2.2.1
  have hn1 : n + 2 ≤ n1 ∧ p ≤ p1 := by unfold DLT at b4; omega
  refine k_needWord (s := 6) rfl ⟨by decide, by decide⟩ (by omega) (fun _ z => ?_) (fun v2 h3 h4 => ?_)
  · have z2 := ST_IW b1 z
    have ltp := tok_lt tk (by omega) (show ¬ (A u0 6 (p1).toNat = 0 ∨ A u0 6 (p1).toNat = 7) by omega)
    have dn := DLT_1 (n := n1) (q := q1) (c := c1) (f := f1) (h := h1) (m := 0) tk ⟨by omega, ltp⟩ (by omega)
    rw [show n1 + 0 = n1 by omega] at dn
    have s2 := ST_nx b1 (by omega)
    have kc : KPR σ V (nx1 V) := KPR_w0 KPR_rf (by decide)
    refine k_in (k := 25) (n := 16000) rfl (by decide) (by omega) (ok_lt.mpr ?_)
    rw [I_tn (x := (j : Int)) (by omega) (by omega), wa_e, show ((j : Nat) : Int).toNat = j by omega]
    have s3 : ST u0 σ (p1 + 1) o n1 q1 c1 f1 h1 s wt 0 (wa (nx1 V) 25 j ((j + 1 : Nat) : Int)) := ST_wa25 s2 (by
      show A V 23 j ≠ 12
      rw [b7.1]; decide)
    have k3 : KPR σ u (wa (nx1 V) 25 j ((j + 1 : Nat) : Int)) := KPR_wn (KPR_tr b2 kc) (by decide) (by omega)
    have eq3 : EQX σ (j + 2) V (wa (nx1 V) 25 j ((j + 1 : Nat) : Int)) := EQX_tr (EQX_kp kc) (EQX_wa (by decide) (Or.inl (by omega)))
    have g3 : ∀ r i, (r = 25 → i ≠ j) → A (wa (nx1 V) 25 j ((j + 1 : Nat) : Int)) r i = A V r i := fun r i hr => by
      by_cases z : r = 25
      · rw [wa_ne (hr z)]; rfl
      · rw [wa_rne z]; rfl
    have g25 : A (wa (nx1 V) 25 j ((j + 1 : Nat) : Int)) 25 j = ((j + 1 : Nat) : Int) := wa_eq ⟨by omega, by omega⟩
    have f3 : ∀ t, t ≠ 69 → F (wa (nx1 V) 25 j ((j + 1 : Nat) : Int)) t = F V t := fun t ht => by rw [F_wa]; exact wi_ne ht
    have mk3 : mks (wa (nx1 V) 25 j ((j + 1 : Nat) : Int)) = mks V := mks_c (fun t ht => f3 t (by
      have : ∀ t, t ∈ [32, 39, 46, 56, 58] → t ≠ 69 := by decide
      exact this t ht))
    generalize wa (nx1 V) 25 j ((j + 1 : Nat) : Int) = W at *
    have e69w : F W 69 = p1 + 1 := s3.2.1.1
    have e32w : F W 32 = n1 := s3.2.1.2.2.1
    refine join_ok (u := W) (R0 := j + 1) (by omega) (by omega) (by omega) (fun v2 hv2 => Or.inl ?_)
    have sx := ST_jn s3 (by omega) (by omega) hv2
    have kx := KPR_jn k3 (by omega) hv2
    have jn := JNV_of (R0 := j + 1) (by omega) (by omega) hv2
    generalize wa v2 28 (F W 32).toNat (A W 28 (j + 1)) = X at *
    have eqx : EQX σ (j + 2) V X := EQX_tr eq3 (EQX_jn jn (by omega) (by omega))
    have on2 := ONE_jn jn (by omega)
    obtain ⟨j1, j2, ⟨j3, j4, j5, j6⟩, j7, j8⟩ := jn
    rw [e32w] at j2 j3 j4 j5 j6 j7 j8 on2
    rw [e32w]
    have xo : ∀ r i, r ∉ [23, 24, 25, 26, 27, 28, 29, 30, 31] → A X r i = A V r i := fun r i hr => by
      have h25 : r ≠ 25 := fun z => hr (by rw [z]; decide)
      rw [j1.A hr, g3 r i (fun z => absurd z h25)]
    have x28 : A X 28 n1.toNat = A V 28 (j + 1) := by rw [j5, g3 28 _ (fun z => by omega)]
    have xF : ∀ t, t ≠ 32 → t ≠ 69 → F X t = F V t := fun t h1 h2 => (j1.F (by simpa using h1)).trans (f3 t h2)
    have a29x : ∀ i : Nat, i < n1.toNat → A X 29 i = A V 29 i := fun i hi => by rw [j8 29 i (by omega) (fun z => by omega), g3 29 i (fun z => by omega)]
    have rt : RTD X (26 - o).toNat n.toNat n1.toNat := RTD_dn (a := (n + 2).toNat) (by omega) _ _ (RTL_join b5 ⟨by omega, by omega, e32⟩ ho.2 x28 (fun r i hr h1 h2 => by
      rw [j8 r i (by omega) (fun _ => by omega), g3 r i (fun _ => by omega)]) a29x)
    refine ⟨(xF 67 (by decide) (by decide)).trans b0, p1 + 1, n1 + 1, q1, c1, f1, h1, n1.toNat, by rw [show ((n1.toNat : Nat) : Int) = n1 by omega], sx, kx, ⟨by omega, by omega, ?_⟩, ?_, ⟨by omega, by omega, rt, j6⟩, (xo 60 σ (by decide)).trans b6, fun y1 y2 y3 => ?_⟩
    · exact nu_wd (Or.inl z2.1) (by omega)
    · unfold DLT at b4 dn ⊢; omega
    · obtain ⟨μ, rr, a1, mm, X1, Y, ch, ⟨o1, o2, mk, m1⟩, rl, lk, g1, g2, g4, g5⟩ := b12 (by rw [← xF 72 (by decide) (by decide)]; exact y1) (by rw [← xF 66 (by decide) (by decide)]; exact y2) y3
      have m00 : μ 0 0 = j + 2 := o2.2.1
      have chx := CHD_eqx ch eqx (by omega) (fun i => by rw [mk]; exact Nat.le_refl _)
      have rlx := RLS_eqx ch rl eqx (by omega) (fun i => by rw [mk]; exact Nat.le_refl _)
      have mk0 : μ k 0 = n1.toNat := by rw [mk]; show (F V 32).toNat = _; rw [e32]
      have hlx : hlo σ X = hlo σ V := by unfold hlo; rw [xo 63 σ (by decide)]
      have a4 : ∀ r i, r ≠ 25 → r ≠ 26 → i < n1.toNat → A X r i = A V r i := fun r i h1 h2 h3 => by rw [j8 r i (by omega) (fun z => absurd z h2), g3 r i (fun z => absurd z h1)]
      have kjx : KND X j 26 := by
        unfold KND at b7 ⊢
        rw [a4 23 j (by decide) (by decide) (by omega), a4 24 j (by decide) (by decide) (by omega), a4 28 j (by decide) (by decide) (by omega), a4 29 j (by decide) (by decide) (by omega)]
        exact b7
      have lk' := lk hk
      have nmu : A u 60 σ = ((nmo σ u : Nat) : Int) := by unfold nmo; omega
      have on2' : ONE (μ k) (mks X) (μ k 0) := by rw [mk0, mk, ← mk3]; exact on2
      have sq := SEQ_recv0 (w := X) (n := j + 1) (a := mks u) (z := mks X) (lo := nmo σ u) o1 o2 chx hk on2' kjx (by rw [j8 25 j (by omega) (fun z => by omega)]; exact g25) (by
        rw [a4 23 _ (by decide) (by decide) (by omega), a4 24 _ (by decide) (by decide) (by omega), a4 29 _ (by decide) (by decide) (by omega)]
        exact b8) (by rw [j8 25 _ (by omega) (fun z => by omega), g3 25 _ (fun _ => by omega), m1]; omega) (by rw [j7, mk0]; omega) (by rw [a4 27 _ (by decide) (by decide) (by omega), b9]; exact nmu) (by rw [a4 31 _ (by decide) (by decide) (by omega)]; exact b10) (by rw [a4 28 _ (by decide) (by decide) (by omega)]; exact lk') (by rw [mk0]; exact ⟨j3, by omega, by omega, j6⟩) (by rw [mk0, x28]; exact lk') rlx (Nat.le_refl _)
      rw [mk0] at sq
      refine ⟨mm, X1, Y, ?_, g1.1, ?_, by omega, g5⟩
      · rw [hlx]; exact sq
      · rw [xo 64 σ (by decide)]; exact g2
  · have s3 : FSM u0 TN σ D v2 := FSM_of (ST_67 b1 h3) (by omega) (by omega) fs1.1 h4
    refine k_in (k := 25) (n := 16000) rfl (by decide) (by omega) (ok_lt.mpr ?_)
    rw [wa_e]
    exact ok_mono (join_F (N := N) (S := S) (R0 := j + 1) hT (by omega) (FSM_wa s3 (by decide)) (by omega)) (fun x t hx => Or.inr (FSM_mo hx (by omega)))
end
