/-! patterns one behind another, both sides -/
set_option maxRecDepth 100000
section
variable {α β : Type} {N M p i top cnt : Nat} {m w : MS} {Q : MS → Int32 → MS → β → Prop} {Z : Option (MS × β)} {K : MS → Int32 → Option (MS × β)}
/-- all patterns have fitted, there -/
theorem fitc_8 (hv : A m 23 i = 8) (hi : i < 24000) (hc : cnt < 1000000000) (h : PP Q (some (m, I ((i + 1 : Nat) : Int))) Z) : PP Q ((hg_Ma_fit N M).1 m p (I ((i : Nat) : Int)) (I ((top : Nat) : Int)) (I ((cnt : Nat) : Int))) Z := by
  cases M with
  | zero => exact pp_nl
  | succ M =>
  show PP Q (hb_Ma_fit_17 N (hg_Ma_fit N M) m p (I ((i : Nat) : Int)) (I ((top : Nat) : Int)) (I ((cnt : Nat) : Int))) Z
  unfold hb_Ma_fit_17 hb_Ma_fit_370
  rw [show (1000000000 : Int32) = I 1000000000 from rfl, decI (by omega) (by omega) (by omega) (by omega), decide_eq_false (by omega), br_f, Co_e (k := i) rfl (by omega), bnd_so, hv, show decide (I 8 = 8) = true from rfl, br_t, show I ((i : Nat) : Int) + 1 = I ((i + 1 : Nat) : Int) from addN]
  exact h
/-- nothing is left to be tried, here -/
theorem fits_end {Q2 : MS → α → MS → β → Prop} {Z2 : Option (MS × α)} (h : PP Q2 Z2 (K w 1)) : PP Q2 Z2 (bnd (gg_M_fits N M w (I ((0 : Nat) : Int))) K) := by
  cases M with
  | zero => exact pp_nr
  | succ M =>
  show PP Q2 Z2 (bnd (fb_M_fits_17 N (gg_M_fits N M) w (I ((0 : Nat) : Int))) K)
  unfold fb_M_fits_17
  rw [show decide (I ((0 : Nat) : Int) ≤ 0) = true from rfl, br_t]
  exact h
end
section
variable {β : Type} {b : Int → Nat → Nat → Prop} {Fv Fv' : Int64 → Int64 → Prop} {P P' : Int64 → Prop} {ow kd ow' kd' fa' : Nat → Nat} {N p B0 jf nbj U W Y na f i pp j : Nat} {H O O2 : List Nat} {m0 w0 m w : MS} {t x : Int64} {Q : MS → Int32 → MS → β → Prop} {K : MS → Int32 → Option (MS × β)}
/-- a pattern begins, here -/
theorem fits_0w {α2 : Type} {Q2 : MS → α2 → MS → β → Prop} {Z2 : Option (MS × α2)} (rp : pp < 2147483648) (h : PP Q2 Z2 (bnd (gg_M_fits N N (wj (wa w 160 0 ((pp : Nat) : Int)) 161 0 x) (I ((0 + 1 : Nat) : Int))) K)) : PP Q2 Z2 (bnd (fm_M_fits N w (I ((pp : Nat) : Int)) x) K) := by
  unfold fm_M_fits fb_M_fits_0
  refine rb_ck (fun _ => rb_lt (rb_ck (fun _ => rb_lt ?_)))
  rw [show (0 : Int32).toNatClampNeg = 0 from rfl, wa_e, wj_e]
  exact h
theorem w0_160 (rp : pp < 2147483648) : A (wj (wa w 160 0 ((pp : Nat) : Int)) 161 0 x) 160 0 = ((pp : Nat) : Int) := by rw [A_wj, wa_sm (by omega) (by omega)]
theorem w0_161 : (wj (wa w 160 0 ((pp : Nat) : Int)) 161 0 x).2.2.2 161 0 = x := by rw [wj_row, if_pos rfl]
theorem w0_fr : FR [] [] [160, 162] [141, 161, 163] w (wj (wa w 160 0 ((pp : Nat) : Int)) 161 0 x) := FR.wj (FR.wa FR.rf (by simp)) (by simp)
/-- one pattern alone -/
theorem fit_1p (ft : FTx b Fv P Fv' P' ow kd ow' kd' p jf nbj U na fa' H m0 w0) (pt : PTs (A m0 23) (ROs w0) (w0.2.2.2 34) H f i pp O j O2) (h8 : A m0 23 j = 8) (fs : FSt b P P' ow kd ow' kd' p B0 nbj U W Y H O m0 w0 m w) (ht : m.2.2.2 44 0 = t) (q : TPb b U ow kd P U ow' kd' P' t x) (rp : pp < 2147483648) (hj : j + 3 < 24000) (hf : f ≤ 230) (hlen : nbj + (H ++ O2).length ≤ 2500) (hN : 200000 ≤ N) (kf : ∀ m3 w3, NFx p B0 m0 m3 → FWx p B0 w0 w3 → PP Q (some (m3, -1)) (K w3 0)) (ks : ∀ m3 w3, FSt b P P' ow kd ow' kd' p B0 nbj U W Y H O2 m0 w0 m3 w3 → PP Q (some (m3, I ((j + 1 : Nat) : Int))) (K w3 1)) : PP Q (hm_Ma_fit N m p (I ((i : Nat) : Int)) (I ((0 + 1 : Nat) : Int))) (bnd (fm_M_fits N w (I ((pp : Nat) : Int)) x) K) := by
  unfold hm_Ma_fit hb_Ma_fit_0
  refine fits_0w rp ?_
  refine fit_one ft kf hN pt N N 0 0 0 (fun _ => 0) (fun _ => 0) (fun _ => 0) m _ t x (FSt_w fs w0_fr) (fun k hk => by omega) ht (fun k hk => by omega) (w0_160 rp) w0_161 q hj (by omega) (by omega) (by omega) hlen (fun M3 M4 cnt3 m3 w3 fs3 _ _ hc3 => ?_)
  exact fits_end (fitc_8 (by rw [congrFun fs3.1.c]; exact h8) (by omega) (by omega) (ks m3 w3 fs3))
/-- the patterns of a CLAUSE -/
theorem fit_row {n : Nat} {p0 : Int} (ft : FTx b Fv P Fv' P' ow kd ow' kd' p jf nbj U na fa' H m0 w0) (pt : PTr (A m0 23) (ROs w0) (w0.2.2.2 34) H f n i p0 O j O2) (h8 : A m0 23 j = 8) (fs : FSt b P P' ow kd ow' kd' p B0 nbj U W Y H O m0 w0 m w) (s : Nat → Int64) (hst : ∀ k, k < n → m.2.2.2 44 k = s k) (hWn : n ≤ W) (hW : W ≤ 46000) (tp : ∀ k, k < n → TPb b U ow kd P U ow' kd' P' (s k) (w0.2.2.2 91 (46000 * p + (W - 1 - k)))) (rp : RG p0) (hj : j + 3 < 24000) (hn : n ≤ 100) (hf : f ≤ 230) (hlen : nbj + (H ++ O2).length ≤ 2500) (hN : 200000 ≤ N) (kf : ∀ m3 w3, NFx p B0 m0 m3 → FWx p B0 w0 w3 → PP Q (some (m3, -1)) (K w3 0)) (ks : ∀ m3 w3, FSt b P P' ow kd ow' kd' p B0 nbj U W Y H O2 m0 w0 m3 w3 → PP Q (some (m3, I ((j + 1 : Nat) : Int))) (K w3 1)) : PP Q (hm_Ma_fit N m p (I ((i : Nat) : Int)) (I ((n : Nat) : Int))) (bnd (gg_M_fitsPart N N w (I p0) (I (((n : Nat) : Int) - 1))) K) := by
  obtain ⟨ci, cp, co, c0, cn, o0, on, e0, z8⟩ := pt
  obtain ⟨⟨hp1, h133⟩, -⟩ := id ft
  have cpb : ∀ k, k < n → cp k < 2147483648 := fun k hk => by
    cases k with
    | zero => have := rp.2; omega
    | succ k =>
      have e := (z8 k (by omega)).2 hk
      rw [pr_row (by omega)] at e
      have := A_r w0 37 (cp k)
      rw [e] at this
      omega
  have cil : ∀ k, k ≤ n → ci k ≤ j := fun k hk => by
    have := up_le (c := ci) (n := n) (fun k hk => Nat.le_of_lt (PTs_lt (z8 k hk).1)) (n - k) k (by omega)
    rw [show k + (n - k) = n by omega, cn] at this
    exact this
  have col : ∀ k, k ≤ n → (H ++ co k).length ≤ (H ++ O2).length := fun k hk => by
    have := up_le (c := fun k => (H ++ co k).length) (n := n) (fun k hk => pre_le (PTs_pre (z8 k hk).1)) (n - k) k (by omega)
    rw [show k + (n - k) = n by omega, on] at this
    exact this
  have inn : ∀ (d M6 M7 cnt6 : Nat) (m6 w6 : MS) (v : Int), d ≤ n → (0 < d → v = ((cp (n - d) : Nat) : Int)) → FSt b P P' ow kd ow' kd' p B0 nbj U W Y H (co (n - d)) m0 w0 m6 w6 → (∀ k, k < d → m6.2.2.2 44 k = s k) → cnt6 ≤ ci (n - d) → PP Q ((hg_Ma_fit N M6).1 m6 p (I ((ci (n - d) : Nat) : Int)) (I ((d : Nat) : Int)) (I ((cnt6 : Nat) : Int))) (bnd (gg_M_fitsPart N M7 w6 (I v) (I (((d : Nat) : Int) - 1))) K) := by
    intro d
    induction d with
    | zero =>
      intro M6 M7 cnt6 m6 w6 v _ _ fs6 _ hc6
      cases M7 with
      | zero => exact pp_nr
      | succ M7 =>
      show PP Q _ (bnd (fb_M_fitsPart_85 N (gg_M_fitsPart N M7) w6 (I v) (I (((0 : Nat) : Int) - 1))) K)
      unfold fb_M_fitsPart_85
      rw [show decide (I (((0 : Nat) : Int) - 1) < 0) = true from rfl, br_t]
      rw [Nat.sub_zero, cn] at hc6 ⊢
      rw [Nat.sub_zero, on] at fs6
      exact fitc_8 (by rw [congrFun fs6.1.c]; exact h8) (by omega) (by omega) (ks m6 w6 fs6)
    | succ d ih =>
      intro M6 M7 cnt6 m6 w6 v hd hv fs6 st6 hc6
      have ev := hv (by omega)
      subst ev
      cases M7 with
      | zero => exact pp_nr
      | succ M7 =>
      show PP Q _ (bnd (fb_M_fitsPart_85 N (gg_M_fitsPart N M7) w6 (I ((cp (n - (d + 1)) : Nat) : Int)) (I (((d + 1 : Nat) : Int) - 1))) K)
      unfold fb_M_fitsPart_85
      have cb := cpb (n - (d + 1)) (by omega)
      rw [show ((d + 1 : Nat) : Int) - 1 = ((d : Nat) : Int) by omega, d_lt0 (by omega), br_f]
      have w6F : F w6 133 = ((p : Nat) : Int) := by rw [FR.F fs6.2.1.1 (by simp)]; exact h133
      refine rb_bnd (pk_mo (top_r (N := N) (k := d) hp1 w6F fs6.2.2.1.2.2.1.2.1 hW (by omega)) (fun w7 r7 h => ?_))
      obtain ⟨rfl, rfl⟩ := h
      refine r_bb ?_
      refine fits_0w (x := w7.2.2.2 91 (46000 * p + (W - 1 - d))) cb ?_
      obtain ⟨p8, nx⟩ := z8 (n - (d + 1)) (by omega)
      rw [show n - (d + 1) + 1 = n - d by omega] at p8 nx
      have cd := cil (n - d) (by omega)
      have ld := col (n - d) (by omega)
      have e91 : w7.2.2.2 91 = w0.2.2.2 91 := fs6.2.1.1.2.2.2 91 (by simp)
      refine fit_one ft (fun m3 w3 a1 a2 => ?_) hN p8 M6 N d cnt6 0 s (fun _ => 0) (fun _ => 0) m6 _ (s d) _ (FSt_w fs6 w0_fr) (fun k hk => st6 k (by omega)) (st6 d (by omega)) (fun k hk => by omega) (w0_160 cb) w0_161 ?_ (by omega) hc6 (by omega) (by omega) (by omega) (fun M8 M9 cnt8 m8 w8 fs8 st8 _ hc8 => ?_)
      · rw [show decide ((0 : Int32) = 0) = true from rfl, br_t]
        exact kf m3 w3 a1 a2
      · rw [e91]
        exact tp d (by omega)
      · refine fits_end ?_
        rw [show decide ((1 : Int32) = 0) = false from rfl, br_f]
        refine rb_ck (fun _ => ?_)
        have e37 : A w8 37 (cp (n - (d + 1))) = A w0 37 (cp (n - (d + 1))) := FR.A fs8.2.1.1 (by simp)
        rw [tnI (n := cp (n - (d + 1))) rfl cb, I_A' e37, show I ((d : Nat) : Int) + (-1) = I (((d : Nat) : Int) - 1) by rw [m1I, I_add]; congr 1]
        refine ih M8 M7 cnt8 m8 w8 _ (by omega) (fun h0 => ?_) fs8 st8 hc8
        have := nx (by omega)
        rw [pr_row (by omega)] at this
        exact this
  unfold hm_Ma_fit hb_Ma_fit_0
  have fin := inn n N N 0 m w p0 (Nat.le_refl _) (fun h => by rw [Nat.sub_self]; exact e0) (by rw [Nat.sub_self, o0]; exact fs) hst (by omega)
  rw [Nat.sub_self, c0] at fin
  exact fin
end
