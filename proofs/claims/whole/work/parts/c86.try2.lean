/-! a part is tried, both sides, to its end -/
set_option maxRecDepth 100000
section
variable {Sf : MS → Int32 → Prop} {C : Nat → Int} {R : Nat → Nat → Int} {J : Nat → Int64} {H : List Nat}
theorem PTr_pre {f n i j : Nat} {q : Int} {O O2 : List Nat} (h : PTr C R J H f n i q O j O2) : ∃ X, O2 = O ++ X := by
  obtain ⟨ci, cp, co, -, -, o0, on, -, z8⟩ := h
  have lp : ∀ k, k ≤ n → ∃ X, co k = co 0 ++ X := by
    intro k
    induction k with
    | zero => exact fun _ => ⟨[], by simp⟩
    | succ k ih =>
      intro hk
      obtain ⟨X, hX⟩ := ih (by omega)
      obtain ⟨X2, hX2⟩ := PTs_pre (z8 k (by omega)).1
      exact ⟨X ++ X2, by rw [hX2, hX, List.append_assoc]⟩
  obtain ⟨X, hX⟩ := lp n (Nat.le_refl _)
  exact ⟨X, by rw [← on, hX, o0]⟩
end
section
variable {Sf : MS → Int32 → Prop} {β : Type} {b : Int → Nat → Nat → Prop} {Fv Fv' : Int64 → Int64 → Prop} {P P' : Int64 → Prop} {ow kw ow' kd' fa' : Nat → Nat} {N p U W Y j a na k0 kd sc M M1 vk : Nat} {m w : MS} {nb : Nat → Nat} {Hs Os : Nat → List Nat} {Q : MS → Int32 → MS → β → Prop} {K : MS → Unit → Option (MS × β)} {S : SG_M_error}
theorem SC_94 {v : Int} (s : SCs p m w) : SCs p m (wa w 94 p v) := SC_ow s (fun _ _ => rfl) rfl (fun K h1 h2 => wa_21 (by omega))
theorem GGw_94 {v : Int} : GGw p w (wa w 94 p v) := GGw_own (Or.inl ⟨by omega, rfl⟩)
theorem ROs_94 {v : Int} : ROs (wa w 94 p v) = ROs w := ROs_eq (fun K h => wa_21 (by unfold PRr at h; omega))
/-- a part is tried -/
theorem try_pp (hpp : p < 24) (t : TRs m w p j nb Hs Os kd sc a ((k0 : Nat) : Int)) (pl : PLs b p m (wa w 94 p ((nb j + (Hs j ++ Os j).length : Nat) : Int)) U (nb j + (Hs j ++ Os j).length) W Y) (bB : nb j + (Hs j ++ Os j).length ≤ 2440) (hW : W < 46000) (hvk : vk + 1 < 1000000000) (h956 : F m 955 ≤ F m 956)
    (ft : FTx b Fv P Fv' P' ow kw ow' kd' p j (nb j) U na fa' (Hs j) m (wa w 94 p ((nb j + (Hs j ++ Os j).length : Nat) : Int))) (pt : PTQ m p U ow kw Fv P (nb j + (Hs j ++ Os j).length) W Y) (xc : CXf (wa w 94 p ((nb j + (Hs j ++ Os j).length : Nat) : Int)) p (hp (wa w 94 p ((nb j + (Hs j ++ Os j).length : Nat) : Int)) p) U ow' kd' Fv' P' W (nb j + (Hs j ++ Os j).length) Y) (h42 : ((nb j + (Hs j ++ Os j).length : Nat) : Int) ≤ F m (pq p 42)) (hN : 200000 ≤ N)
    (b0 : kd = 0 → ∃ n0 : Nat, A w 41 k0 = ((n0 : Nat) : Int) ∧ n0 ≤ W ∧ n0 ≤ 100) (b1 : kd = 1 → 1 ≤ W) (b3 : kd = 3 → Y ≤ 30 ∧ ∃ t : Nat, F m (pq p 8) = ((t : Nat) : Int) ∧ t < Y)
    (kT : ∀ m4 w4 fl, TRs m4 w4 p j nb Hs Os kd sc fl (A w 45 k0) → PLs b p m4 (wa w4 94 p ((nb j + (Hs j ++ Os j).length : Nat) : Int)) U (nb j + (Hs j ++ Os j).length) W Y → GGm p m m4 → GGw p w w4 → (SCs p m w → SCs p m4 w4) → (w4.2.2.2 88 = w.2.2.2 88 ∧ w4.1 140 = w.1 140) → PP Q (q195 Sf N (qgo Sf N M1) m4 p (I ((vk : Nat) : Int))) (bnd (gg_M_choose N S M w4 1) K))
    (kC : ∀ M' vk' m3 w3 B3 W3 Y3 O2 y a n, M' ≤ M1 → vk' ≤ vk + 1 → PLs b p m3 w3 U B3 W3 Y3 → RUs m3 w3 p j nb Hs (exO Os j O2) y a n → GGm p m m3 → GGw p w w3 → (SCs p m w → SCs p m3 w3) → PP Q (q195 Sf N (qgo Sf N M') m3 p (I ((vk' : Nat) : Int))) (K w3 ()))
    (kD : ∀ M' vk' m3 w3 B3 W3 Y3 O2 a n, M' ≤ M1 → vk' ≤ vk + 1 → PLs b p m3 w3 U B3 W3 Y3 → RUs m3 w3 p j nb Hs (exO Os j O2) none a n → GGm p m m3 → GGw p w w3 → (SCs p m w → SCs p m3 w3) → ((m3 = m ∧ vk' = vk) ∨ ∃ k : Nat, vk' = k + 1 ∧ Sf m3 (I ((k : Nat) : Int))) → PP Q (q67 Sf N (qgo Sf N M') m3 p (I ((vk' : Nat) : Int))) (K w3 ())) : PP Q (q67 Sf N (qgo Sf N M1) m p (I ((vk : Nat) : Int))) (bnd (gg_M_choose N S (M + 1) w 1) K) := by
  obtain ⟨ru, hpc, ⟨h153, h154, h156⟩, tr, nd, f, g, zr⟩ := t
  obtain ⟨⟨fa, -⟩, ⟨r5, -⟩, -, ⟨r8, r9, -⟩, r11, -⟩ := id ru
  have hB3 : nb j + (Hs j).length + (Os j).length = nb j + (Hs j ++ Os j).length := by rw [List.length_append]; omega
  have h156' : F w 156 = ((nb j + (Hs j ++ Os j).length : Nat) : Int) := by rw [h156, hB3]
  cases g with
  | zero => exact zr.elim
  | succ g =>
  obtain ⟨za, zr⟩ := zr
  rcases zr with ⟨c, -⟩ | ⟨k1, ⟨c, hk⟩, e, O2, z1, z2⟩
  · omega
  have ek : k1 = k0 := by omega
  subst ek
  refine cho_p hpp r11 h156' h154 ?_
  generalize hw' : wa w 94 p ((nb j + (Hs j ++ Os j).length : Nat) : Int) = w' at *
  have ro' : ROs w' = ROs w := by rw [← hw']; exact ROs_94
  have j' : w'.2.2.2 34 = w.2.2.2 34 := by rw [← hw']; rfl
  have F' : ∀ l, F w' l = F w l := fun l => by rw [← hw']; rfl
  have A' : ∀ K i, K ≠ 94 → A w' K i = A w K i := fun K i h => by rw [← hw', wa_rne h]
  have ru' : RUb m w' p j nb Hs Os none := by rw [← hw']; exact RUb_94 ru
  have tr' : TRr kd sc m w' p (Hs j) (Os j) := by rw [← hw']; exact TRr_94 tr
  have gw' : GGw p w w' := by rw [← hw']; exact GGw_94
  have sc' : SCs p m w → SCs p m w' := fun s => by rw [← hw']; exact SC_94 s
  rcases z1 with ⟨z1, rfl, rfl⟩ | ⟨x19, ⟨fl, x2, zf⟩, n, e2, hn, ptr, x8, rfl⟩
  · -- nothing to fit
    refine fits_no ?_ ?_
    · rcases z1 with rfl | ⟨rfl, z1⟩
      · exact Or.inl (by rw [F']; exact h153)
      · exact Or.inr ⟨by rw [F']; exact h153, k1, by rw [F']; exact h154, hk, by rw [A' 41 _ (by omega)]; rw [ro_e (by unfold PRr; omega)] at z1; exact z1⟩
    · refine chos_pp (O0 := Os j) (X := []) (sc := sc) hpp pl ru' hW (by omega) (by simp) hpc (by rw [F']; exact h153) (by rw [F']; exact h154) hk (by rw [F']; exact h156) tr' (fun c => ?_) b1 b3 ⟨f, g, by rw [ro', j']; exact z2⟩ (fun m3 w3 W3 Y3 y a n a1 a2 a3 a4 a5 => ?_) (fun w3 a n a1 a2 a3 a4 => ?_)
      · obtain ⟨n0, q1, q2, -⟩ := b0 c
        exact ⟨n0, by rw [A' 41 _ (by omega)]; exact q1, q2⟩
      · exact kC M1 vk m3 w3 _ W3 Y3 (Os j) y a n (Nat.le_refl _) (by omega) a1 (by rw [exO_id]; exact a2) a3 (GGw.tr gw' a4) (fun s => a5 (sc' s))
      · exact kD M1 vk m w3 _ W Y (Os j) a n (Nat.le_refl _) (by omega) a1 (by rw [exO_id]; exact a2) GGm.rf (GGw.tr gw' a3) (fun s => a4 (sc' s)) (Or.inl ⟨rfl, rfl⟩)
  · -- FIT
    have hX := PTr_pre ptr
    have b2 : e2 + 3 < 24000 ∧ (Hs j).length + O2.length ≤ 40 := by
      rcases z2 with ⟨-, n', -, z2⟩ | ⟨_, _, -, -, -, -, -, -, z2⟩
      · rcases z2 with ⟨_, _, _, _, z2⟩ | ⟨_, _, z2⟩ | ⟨c2, _⟩ | ⟨_, _, z2⟩
        · have := CR_b z2; omega
        · have := CR_b z2; omega
        · omega
        · have := CR_b z2; omega
      · have := CR_b z2; omega
    have ae : a + 3 < e2 := by
      obtain ⟨ci, cp, co, y0, yn, -, -, -, y8⟩ := id ptr
      have n1 : 0 < n := by omega
      have := up_le (c := ci) (n := n) (fun k hk => Nat.le_of_lt (PTs_lt (y8 k hk).1)) (n - 1) 1 (by omega)
      rw [show 1 + (n - 1) = n by omega, yn] at this
      have h01 : ci 0 < ci 1 := PTs_lt (y8 0 n1).1
      rw [y0] at h01
      omega
    have hfl := A_r m 23 (a + 2)
    rw [x2] at hfl
    rw [go_fl r5 r8 (by omega) hpc (by omega) x19 ⟨by omega, by omega⟩, flo19, I_F' hpc, show I ((a : Nat) : Int) + 1 = I ((a + 1 : Nat) : Int) from addN, Co_e (k := a + 1) rfl (by omega), bnd_so]
    refine l_bb ?_
    have nms : NMs m p (nb j) (Hs j ++ Os j) := (fa.2.1 j (Nat.le_refl _)).2.2.2.2.2
    refine fit_op (K1 := fun u => q195 Sf N (qgo Sf N M1) u p (I ((vk : Nat) : Int))) (K := fun u2 r2 => bnd (chC N S M u2 r2) K) (n := n) (e := e2) (fl := fl) (k0 := k1) (kn := kd) (O2 := O2) ft pl nms nd.1 pt xc h42 hpc x2 (by rw [F']; exact h153) (by rw [F']; exact h154) hk ?_ ?_ x8 (by omega) ?_ hN (fun m3 w3 nf fw => ?_) (fun m3 w3 fs => ?_)
    · rcases hn with ⟨rfl, n1, n2, n3⟩ | ⟨rfl, rfl, n3⟩ | ⟨rfl, rfl, n3⟩
      · rw [ro_e (by unfold PRr; omega)] at n2
        obtain ⟨n0, q1, q2, q3⟩ := b0 rfl
        exact Or.inl ⟨rfl, n1.1, by omega, by omega, by rw [A' 41 _ (by omega)]; exact n2, n3⟩
      · exact Or.inr (Or.inl ⟨rfl, rfl, b1 rfl, n3⟩)
      · obtain ⟨-, t, t1, t2⟩ := b3 rfl
        obtain ⟨d1, -⟩ := tr' rfl
        exact Or.inr (Or.inr ⟨rfl, rfl, n3, t, t1, t2, d1.1.trans t1⟩)
    · rw [ro', j', A' 40 _ (by omega)]
      rw [ro_e (k := 40) (by unfold PRr; omega)] at ptr
      exact ptr
    · rw [List.length_append] at bB ⊢
      omega
    · have w3F : ∀ l, F w3 l = F w' l := fun l => FR.F fw.1 (by simp)
      refine cho_f (k := k1) (by rw [w3F, F']; exact h154) hk ?_
      have zf' : ∃ f g, ZRs (A m 23) (ROs w) (w.2.2.2 34) (CRs (A m 23) (ROs w) (w.2.2.2 34) f) kd sc (Hs j) (Os j) g fl (A w 45 k1) := ⟨f, g, by rw [ro_e (k := 45) (by unfold PRr; omega)] at zf; exact zf⟩
      have fl1 : fl < 100000 := by
        obtain ⟨f9, g9, z9⟩ := zf'
        cases g9 with
        | zero => exact z9.elim
        | succ g9 => have := z9.1; omega
      have fw2 := fw
      rw [← hw'] at fw2
      refine kT _ _ fl (TR_next ru h153 h156 tr nd zf' nf fw2 rfl (by omega) fl1) ?_ (GGm.tr (GGm.tr (GGm_nf nf) (GGm_own (by omega))) (GGm_reg (by omega))) (GGw.tr (GGw.tr gw' (GGw_fw fw)) (GGw_reg (by omega) (by omega))) (fun s => SC_ow (sc' s) (fun l hl => ?_) ?_ (fun K h1 h2 => fw.1.2.2.1 K (by simp; omega))) ⟨(fw.1.2.2.2 88 (by simp)).trans (by rw [← hw']; rfl), (wi_1 (by omega)).trans ((fw.1.1 140 (by simp)).trans (by rw [← hw']; rfl))⟩
      · exact PLs_cg (PLs_fail pl nf fw (by omega)) (fun l _ => if_neg (fun c => pq_n (by omega) c.symm)) (fun _ _ => rfl) (fun _ _ => rfl) (fun _ _ => rfl) (fun _ _ => rfl) (fun _ _ => rfl) (fun _ _ => rfl) (fun _ _ => rfl) (fun _ _ => rfl) (fun _ _ => rfl)
      · rw [wi_1 (fun c => pq_n (by omega) c.symm), wi_1 (pq_inj (by omega))]
        exact NF_q nf (by omega) (by omega) (by omega) (by omega)
      · show m3.2.2.1 (pq p 14) = _
        exact nf.1.2.2.2.2.2.2.1 p 14 (by omega) (fun _ => by simp)
    · obtain ⟨nf, fw, pl3, nms3, ⟨hle, nd3⟩, -⟩ := fs
      have w3F : ∀ l, F w3 l = F w' l := fun l => FR.F fw.1 (by simp)
      have m3F : ∀ l, l < 2000 → F m3 l = F m l := fun l h => congrArg Int32.toInt (NF_1 nf h)
      have q9 : F (wi m3 1105 ((e2 + 1 : Nat) : Int)) 1109 = 0 := by rw [wi_ne (by omega), m3F 1109 (by omega)]; exact r9
      have q5 : F (wi m3 1105 ((e2 + 1 : Nat) : Int)) 955 ≤ F (wi m3 1105 ((e2 + 1 : Nat) : Int)) 956 := by rw [wi_ne (by omega), wi_ne (by omega), m3F 955 (by omega), m3F 956 (by omega)]; exact h956
      have e3 : A m3 23 = A m 23 := nf.c
      have pr : ∀ K, PRr K → w3.2.2.1 K = w'.2.2.1 K := fun K h => fw.1.2.2.1 K (by unfold PRr at h; simp; omega)
      have ro3 : ROs w3 = ROs w := (ROs_eq pr).trans ro'
      have j3 : w3.2.2.2 34 = w.2.2.2 34 := (fw.1.2.2.2 34 (by simp)).trans j'
      have hP : ∀ K i, PRr K → A w3 K i = A w' K i := fun K i a => by show (w3.2.2.1 K i).toInt = _; rw [pr K a]; rfl
      have gm3 : GGm p m (wi m3 1105 ((e2 + 1 : Nat) : Int)) := GGm.tr (GGm_nf nf) (GGm_reg (by omega))
      have gw3 : GGw p w w3 := GGw.tr gw' (GGw_fw fw)
      have sc3 : SCs p m w → SCs p (wi m3 1105 ((e2 + 1 : Nat) : Int)) w3 := fun s => SC_ow (sc' s) (fun l hl => by
        rw [wi_1 (fun c => pq_n (by omega) c.symm)]
        exact NF_q nf (by omega) (by omega) (by omega) (by omega)) (by
        show m3.2.2.1 (pq p 14) = _
        exact nf.1.2.2.2.2.2.2.1 p 14 (by omega) (fun _ => by simp)) (fun K h1 h2 => fw.1.2.2.1 K (by simp; omega))
      show PP Q (q195 Sf N (qgo Sf N M1) (wi m3 1105 ((e2 + 1 : Nat) : Int)) p (I ((vk : Nat) : Int))) (bnd (chC N S M w3 1) K)
      refine go195 q9 q5 (fun hsf => ?_)
      cases M1 with
      | zero => exact pp_nl
      | succ M1 =>
      show PP Q (q67 Sf N (qgo Sf N M1) (wi m3 1105 ((e2 + 1 : Nat) : Int)) p (I ((vk + 1 : Nat) : Int))) _
      obtain ⟨X, hX⟩ := hX
      have ru3 : RUb (wi m3 1105 ((e2 + 1 : Nat) : Int)) w3 p j nb Hs (exO Os j O2) none := RUb_pm (RUb_nf ru' ⟨X, hX⟩ nf fw nms3 pl3.2.1.1 rfl)
      refine chos_pp (Os := exO Os j O2) (O0 := Os j) (X := X) (e := e2 + 1) (sc := sc) (kd := kd) (k0 := k1) hpp (PLs_pc pl3) ru3 hW (by omega) (by rw [exO_j]; exact hX) (wi_sm (by omega) (by omega)) (by rw [w3F, F']; exact h153) (by rw [w3F, F']; exact h154) hk (by rw [w3F, F']; exact h156) ?_ (fun c => ?_) b1 (fun c => ?_) ⟨f, g, ?_⟩ (fun m4 w4 W3 Y3 y a n a1 a2 a3 a4 a5 => ?_) (fun w4 a n a1 a2 a3 a4 => ?_)
      · refine TRr_w tr' ?_ (nf.1.2.2.2.2.2.1 p 10 (by omega) (fun _ => by simp)) (by rw [fw.1.2.2.2 111 (by simp)]) (fun l hl => fw.1.1 l (by simp)) ?_ pr (fw.1.2.2.2 34 (by simp))
        · rw [wi_1 (fun c => pq_n (by omega) c.symm)]
          exact NF_q nf (by omega) (by omega) (by omega) (by omega)
        · exact nf.1.2.2.1 23 (by omega) (by simp)
      · obtain ⟨n0, q1, q2, -⟩ := b0 c
        exact ⟨n0, by rw [hP 41 _ (by unfold PRr; omega), A' 41 _ (by omega)]; exact q1, q2⟩
      · obtain ⟨y1, t, t1, t2⟩ := b3 c
        exact ⟨y1, t, by rw [wi_ne (fun c => pq_n (by omega) c.symm)]; exact (congrArg Int32.toInt (NF_q nf (by omega) (by omega) (by omega) (by omega))).trans t1, t2⟩
      · rw [show A (wi m3 1105 ((e2 + 1 : Nat) : Int)) 23 = A m3 23 from rfl, e3, ro3, j3, exO_j]
        exact z2
      · exact kC M1 (vk + 1) m4 w4 _ W3 Y3 O2 y a n (by omega) (by omega) a1 a2 (GGm.tr gm3 a3) (GGw.tr gw3 a4) (fun s => a5 (sc3 s))
      · exact kD M1 (vk + 1) _ w4 _ W Y O2 a n (by omega) (by omega) a1 a2 gm3 (GGw.tr gw3 a3) (fun s => a4 (sc3 s)) (Or.inr ⟨vk, rfl, hsf⟩)
end
