/-! what goes up, a catch is there -/
set_option maxRecDepth 100000
/-- the one that goes, wherever it stands -/
def RUb (m w : MS) (p j : Nat) (nb : Nat → Nat) (Hs Os : Nat → List Nat) (y : Option (Nat × Nat × Nat)) : Prop :=
  (FAs m w p j nb Hs Os ∧ CTs m w p j nb Hs Os) ∧ (F m (pq p 9) = 0 ∧ A w 109 p = 0) ∧ GDr y m w p (nb j) (Hs j) (Os j) ∧ (F m 1108 = 0 ∧ F m 1109 = 0 ∧ F w 151 = 0) ∧ F w 133 = ((p : Nat) : Int) ∧ m.1 1106 = w.1 165 ∧ m.1 1107 = w.1 164
section
variable {p j a n a2 n2 c r B0 W0 k d : Nat} {m w m2 w2 m3 w3 : MS} {nb : Nat → Nat} {Hs Os : Nat → List Nat} {y : Option (Nat × Nat × Nat)}
theorem RUs_mk (r1 : FAs m w p j nb Hs Os ∧ CTs m w p j nb Hs Os) (r5 : F m (pq p 9) = 0) (r6 : A w 109 p = 0) (r7 : GDr y m w p (nb j) (Hs j) (Os j)) (r8 : F m 1108 = 0) (r9 : F m 1109 = 0) (r10 : F w 151 = 0) (r11 : F w 133 = ((p : Nat) : Int)) (r12 : m.1 1106 = w.1 165) (r13 : m.1 1107 = w.1 164) (f : FGm p m m2) (g : FGw p j w w2) (h1 : F m2 1105 = ((a2 : Nat) : Int)) (h2 : A w2 98 (60 * p + j) = ((n2 : Nat) : Int)) (c : ∃ f, CRs (A m 23) (ROs w) (w.2.2.2 34) f y a2 n2 (Hs j) (Os j)) : RUs m2 w2 p j nb Hs Os y a2 n2 := by
  obtain ⟨g1, g2, g3, -⟩ := g
  have hj : j < 60 := r1.1.1.2.2
  have ai : ∀ {x y : Int32}, x.toInt = y.toInt → x = y := fun h => Int32.toInt_inj.mp h
  have i1 : ∀ k, k < 100 → k ≠ 4 → k ≠ 5 → k ≠ 26 → k ≠ 45 → m2.1 (pq p k) = m.1 (pq p k) := fun k h0 h1 h2 h3 h4 => f.1 _ (by
    simp only [List.mem_cons, List.not_mem_nil, or_false]
    intro c
    rcases c with c | c | c | c | c
    · exact pq_inj h1 c
    · exact pq_inj h2 c
    · exact pq_inj h3 c
    · exact pq_inj h4 c
    · exact pq_n (by omega) c.symm)
  have fm : ∀ k, 1106 ≤ k → k < 1120 → m2.1 k = m.1 k := fun k c1 c2 => f.1 k (by simp; unfold pq; omega)
  have fF : ∀ k, 1106 ≤ k → k < 1120 → F m2 k = F m k := fun k c1 c2 => congrArg Int32.toInt (fm k c1 c2)
  have fw : ∀ k, k = 133 ∨ (151 ≤ k ∧ k ≤ 165) → w2.1 k = w.1 k := fun k c => g1.1 k (by simp; omega)
  have wF : ∀ k, k = 133 ∨ (151 ≤ k ∧ k ≤ 165) → F w2 k = F w k := fun k c => congrArg Int32.toInt (fw k c)
  have h23 : A m2 23 = A m 23 := by funext i; exact FR.A f (by simp)
  have pr : ∀ K, PRr K → w2.2.2.1 K = w.2.2.1 K := fun K c => g1.2.2.1 K (by unfold PRr at c; simp; omega)
  have h34 : w2.2.2.2 34 = w.2.2.2 34 := g1.2.2.2 34 (by simp)
  refine ⟨FC_w r1 (fun k c => i1 k (by omega) (by omega) (by omega) (by omega) (by omega)) (fun k c => f.2.2.1 _ (by simp)) (f.2.2.1 23 (by simp)) (fun K c => by rw [g1.2.2.1 K (by simp; omega)]) (fun K r c1 c2 c3 c4 => ?_) (fun K c c1 c2 c3 => by rw [g1.2.2.1 K (by simp; omega)]) pr h34, ⟨h1, h2⟩, by rw [h23, ROs_eq pr, h34]; exact c, ⟨?_, ?_⟩, GD_w r7 (i1 8 (by omega) (by omega) (by omega) (by omega) (by omega)) (f.2.1 _ (by simp)) (by rw [g1.2.2.2 111 (by simp)]) fm fw (f.2.2.1 23 (by simp)) pr h34, ⟨by rw [fF 1108 (by omega) (by omega)]; exact r8, by rw [fF 1109 (by omega) (by omega)]; exact r9, by rw [wF 151 (by omega)]; exact r10⟩, by rw [wF 133 (by omega)]; exact r11, by rw [fm 1106 (by omega) (by omega), fw 165 (by omega)]; exact r12, by rw [fm 1107 (by omega) (by omega), fw 164 (by omega)]; exact r13⟩
  · by_cases c5 : K = 98
    · subst c5
      exact ai (g3 _ (by have := c4 rfl; omega))
    · rw [g1.2.2.1 K (by simp; omega)]
  · show (m2.1 (pq p 9)).toInt = _
    rw [i1 9 (by omega) (by omega) (by omega) (by omega) (by omega)]
    exact r5
  · rw [FR.A g1 (by simp)]
    exact r6
theorem unS_1 (h : d < 2000) : (unS m p c r B0 W0).1 d = m.1 d := by
  show (if d = pq p 26 then _ else if d = pq p 24 then _ else if d = pq p 21 then _ else if d = pq p 28 then _ else m.1 d) = _
  rw [if_neg (pq_n h), if_neg (pq_n h), if_neg (pq_n h), if_neg (pq_n h)]
theorem unS_q (h1 : d ≠ 21) (h2 : d ≠ 24) (h3 : d ≠ 26) (h4 : d ≠ 28) : (unS m p c r B0 W0).1 (pq p d) = m.1 (pq p d) := by
  show (if pq p d = pq p 26 then _ else if pq p d = pq p 24 then _ else if pq p d = pq p 21 then _ else if pq p d = pq p 28 then _ else m.1 (pq p d)) = _
  rw [if_neg (pq_inj h3), if_neg (pq_inj h2), if_neg (pq_inj h1), if_neg (pq_inj h4)]
theorem unR_a {K i : Nat} (h1 : K ≠ 92) (h2 : K ≠ 94) (h3 : K ≠ 95) (h4 : K ≠ 106) : (unR w p c r B0 W0).2.2.1 K i = w.2.2.1 K i := ((wa_at (fun c => h2 c.1)).trans (wa_at (fun c => h1 c.1))).trans ((wa_at (fun c => h3 c.1)).trans (wa_at (fun c => h4 c.1)))
theorem GGm_un : GGm p m (unS m p c r B0 W0) := GGm.tr (GGm.tr (GGm.tr (GGm_own (by omega)) (GGm_own (by omega))) (GGm_own (by omega))) (GGm_own (by omega))
theorem GGw_un : GGw p w (unR w p c r B0 W0) := GGw.tr (GGw.tr (GGw.tr (GGw_own (Or.inl ⟨by omega, rfl⟩)) (GGw_own (Or.inl ⟨by omega, rfl⟩))) (GGw_own (Or.inl ⟨by omega, rfl⟩))) (GGw_own (Or.inl ⟨by omega, rfl⟩))
theorem SC_un (s : SCs p m w) : SCs p (unS m p c r B0 W0) (unR w p c r B0 W0) := SC_ow s (fun k hk => unS_q (by omega) (by omega) (by omega) (by omega)) rfl (fun K h1 h2 => by funext i; exact unR_a (by omega) (by omega) (by omega) (by omega))
/-- it stands at the catch -/
theorem RUs_fall (ru : RUb m w p j nb Hs Os none) (h28 : F m (pq p 28) = ((c + 1 : Nat) : Int)) (hr : r ≤ j) (hk : k ≤ (Os r).length) (q1 : A w 102 (1600 * p + c) = ((r : Nat) : Int)) (q2 : A w 105 (1600 * p + c) = ((nb r + (Hs r).length + k : Nat) : Int)) (f : FGm p (unS m p c r (nb r + (Hs r).length + k) W0) m3) (g : FGw p r (unR w p c r (nb r + (Hs r).length + k) W0) w3) (h1 : F m3 1105 = ((a2 : Nat) : Int)) (h2 : A w3 98 (60 * p + r) = ((n2 : Nat) : Int)) (cr : ∃ f, CRs (A m 23) (ROs w) (w.2.2.2 34) f none a2 n2 (Hs r) ((Os r).take k)) : RUs m3 w3 p r nb Hs (tkO Os r k) none a2 n2 := by
  obtain ⟨⟨fa, ct⟩, ⟨r5, r6⟩, r7, ⟨r8, r9, r10⟩, r11, r12, r13⟩ := ru
  have pr : ∀ K, PRr K → (unR w p c r (nb r + (Hs r).length + k) W0).2.2.1 K = w.2.2.1 K := fun K h => by funext i; exact unR_a (by unfold PRr at h; omega) (by unfold PRr at h; omega) (by unfold PRr at h; omega) (by unfold PRr at h; omega)
  have u1 : ∀ d, d < 2000 → F (unS m p c r (nb r + (Hs r).length + k) W0) d = F m d := fun d h => congrArg Int32.toInt (unS_1 h)
  refine RUs_mk ⟨FA_fall fa hr hk, CT_fall ct h28 hr q1 q2 hk⟩ ?_ ?_ ?_ (by rw [u1 1108 (by omega)]; exact r8) (by rw [u1 1109 (by omega)]; exact r9) r10 r11 (by rw [unS_1 (by omega)]; exact r12) (by rw [unS_1 (by omega)]; exact r13) f g h1 h2 ?_
  · show ((unS m p c r (nb r + (Hs r).length + k) W0).1 (pq p 9)).toInt = _
    rw [unS_q (by omega) (by omega) (by omega) (by omega)]; exact r5
  · show ((unR w p c r (nb r + (Hs r).length + k) W0).2.2.1 109 p).toInt = _
    rw [unR_a (by omega) (by omega) (by omega) (by omega)]; exact r6
  · rcases r7 with ⟨_, c2, c3⟩ | ⟨_, _, _, c, _⟩
    · exact Or.inl ⟨rfl, by rw [u1 1112 (by omega)]; exact c2, c3⟩
    · cases c
  · rw [ROs_eq pr]
    unfold tkO
    rw [if_pos rfl]
    exact cr
end
section
variable {α β : Type} {b : Int → Nat → Nat → Prop} {N p U B W Wc Y j a n c r B0 W0 k a0 nd nn ee ee' l : Nat} {m w m2 w2 : MS} {t x : Int64} {nb : Nat → Nat} {Hs Os : Nat → List Nat} {Q : MS → α → MS → β → Prop} {D : Option (MS × α)} {K : MS → Unit → Option (MS × β)} {K1 : MS → Option (MS × α)} {K2 : MS → Option (MS × β)} {S : SG_M_error} {ow kd ow' kd' : Nat → Nat} {Fv Fv' : Int64 → Int64 → Prop} {P P' : Int64 → Prop}
theorem go205 (hpp : p < 24) (hc : c < 1600) (h103 : A w 103 (1600 * p + c) = ((nd : Nat) : Int)) (hnd : nd < 2147483648) (h25 : A w 25 nd = ((nn : Nat) : Int)) (h3 : F w 133 = ((p : Nat) : Int)) (h95 : A w 95 p = ((r + 1 : Nat) : Int)) (hr : r < 60) (h : PP Q D (K (wa w 98 (60 * p + r) ((nn : Nat) : Int)) ())) : PP Q D (bnd (fb_M_goesUp_205 N S () w (I ((1600 * p + c : Nat) : Int))) K) := by
  unfold fb_M_goesUp_205
  refine rb_ck (fun _ => rb_ck (fun _ => ?_))
  rw [tnI (n := 1600 * p + c) rfl (by omega), I_A' h103, tnI (n := nd) rfl (by omega), I_A' h25]
  refine rb_bnd (pk_mo (goto_r (N := N) (n := ((nn : Nat) : Int)) hpp h3 h95 hr) (fun w2 _ e => ?_))
  subst e
  exact h
/-- a throw comes to its catch -/
theorem throw_c (hpp : p < 24) (pl : PLs b p (wi m (pq p 26) ((W : Nat) : Int)) w U B W Y) (ru : RUb m w p j nb Hs Os none) (h28 : F m (pq p 28) = ((c + 1 : Nat) : Int)) (hc : c < 1600) (hW0 : A w 104 (1600 * p + c) = ((W0 : Nat) : Int)) (hW : W0 ≤ W) (bd : B ≤ 2500 ∧ W < 46000) (hl : F m (pq p 45) = ((l : Nat) : Int)) (hl2 : W0 ≤ l ∧ l ≤ 1000000) (rt : RTb b (m.2.1 1110) x) (hnd : ∀ nd : Nat, A w 103 (1600 * p + c) = ((nd : Nat) : Int) → nd < 2147483648)
    (kk : ∀ r k a0 nn m3 w3, PLs b p m3 w3 U (nb r + (Hs r).length + k) (W0 + 1) Y → RUs m3 w3 p r nb Hs (tkO Os r k) none a0 nn → GGm p m m3 → GGw p w w3 → (SCs p m w → SCs p m3 w3) → PP Q (K1 m3) (K2 w3)) : PP Q (bnd (hb_Ma_raise_65 N () m p (I 3)) (fun u _ => K1 u)) (bnd (fm_M_goesUp N S w (I 2) x) (fun u _ => K2 u)) := by
  obtain ⟨⟨fa, ct⟩, ⟨r5, r6⟩, r7, ⟨r8, r9, r10⟩, r11, r12, r13⟩ := id ru
  have h152 : F w 152 = 0 := by
    rcases r7 with ⟨_, _, c3⟩ | ⟨_, _, _, c, _⟩
    · exact c3
    · cases c
  have h106 : A w 106 p = ((c + 1 : Nat) : Int) := by
    obtain ⟨n', c1, c2, -⟩ := ct
    rw [c2, ← c1]; exact h28
  obtain ⟨r, k, a0, nd, nn, s1, s2, s3, s4, s5, s6, s7, s8, s9, s10, s11⟩ := CT_last ct h28
  have hj : j < 60 := fa.1.2.2
  have hB : nb r + (Hs r).length + k ≤ B := by
    have h1 := nb_le fa (j - r) r (by omega)
    have h2 := fa.2.2.2
    have h3 := pl.2.1.1
    rw [wi_ne (pq_inj (by omega)), h2, List.length_append] at h3
    omega
  have a024 := A_r m (pq p 37) (4 * c + 3)
  rw [s8] at a024
  unfold hb_Ma_raise_65
  rw [I_F' h28, lit0, decE (by omega) (by omega) (by omega) (by omega), decide_eq_false (by omega), br_f, bb_e]
  refine l_bnd (pk_mo (unwind_m (N := N) (r := r) (B0 := nb r + (Hs r).length + k) (W0 := W0) (a0 := a0) h28 (by omega) s2 s4 (by rw [s7]; exact hW0) s8) (fun m2 z e => ?_))
  obtain ⟨rfl, rfl⟩ := e
  rw [wi_e]
  refine goes_c (r := r) (B0 := nb r + (Hs r).length + k) (W0 := W0) hpp h152 r11 h106 hc s3 (by omega) s5 hW0 ?_
  rw [show decide (I 2 = 2) = true from rfl, br_t, bb_e]
  show PP Q (bnd (bnd (hm_Fr_push N (wi (unS m p c r (nb r + (Hs r).length + k) W0) 1105 ((a0 : Nat) : Int)) p (m.2.1 1110)) (fun u19 r19 => br (decide (I 3 = 3)) (hb_Ma_raise_172 N () u19 p) (br (decide (I 3 = 1)) (hb_Ma_raise_168 N () u19 p 7) (hb_Ma_raise_168 N () u19 p 8)))) (fun u _ => K1 u)) _
  rw [show decide (I 3 = (3 : Int32)) = true from rfl, bb_e]
  have fS : PLs b p (unS m p c r (nb r + (Hs r).length + k) W0) (unR w p c r (nb r + (Hs r).length + k) W0) U (nb r + (Hs r).length + k) W0 Y := PL_fall pl hB hW ⟨by omega, by omega⟩
  have fS2 := PLs_pc (z := ((a0 : Nat) : Int)) fS
  have e45 : F (wi (unS m p c r (nb r + (Hs r).length + k) W0) 1105 ((a0 : Nat) : Int)) (pq p 45) = ((l : Nat) : Int) := by
    rw [wi_ne (fun c => pq_n (by omega) c.symm)]
    show ((unS m p c r (nb r + (Hs r).length + k) W0).1 (pq p 45)).toInt = _
    rw [unS_q (by omega) (by omega) (by omega) (by omega)]; exact hl
  refine l_bnd (pk_mo (push_m (N := N) (t := m.2.1 1110) fS2.2.2.1.1 e45 hl2.1 hl2.2) (fun m3 _ h => ?_))
  obtain ⟨h1, h2, h3⟩ := h
  show PP Q (K1 m3) _
  have u133 : F (unR w p c r (nb r + (Hs r).length + k) W0) 133 = ((p : Nat) : Int) := r11
  refine r_bnd (pk_mo (put_r (N := N) (x := x) hpp u133 fS2.2.2.1.2.1 (by omega)) (fun w3 _ h => ?_))
  subst h
  have pl3 := PLs_push fS2 rt h1 h2 h3
  have aw : ∀ K i, K ≠ 92 → A (wa (wj (unR w p c r (nb r + (Hs r).length + k) W0) 91 (46000 * p + W0) x) 92 p ((W0 + 1 : Nat) : Int)) K i = A (unR w p c r (nb r + (Hs r).length + k) W0) K i := fun K i h => by rw [wa_rne h]; rfl
  have fa2 := FA_fall (c := c) (W0 := W0) fa s1 s6
  refine go205 (nd := nd) (nn := nn) (r := r) hpp hc ?_ (hnd nd s9) ?_ u133 ((aw 95 p (by omega)).trans fa2.1.2.1) (by omega) ?_
  · rw [aw 103 _ (by omega)]
    show ((unR w p c r (nb r + (Hs r).length + k) W0).2.2.1 103 _).toInt = _
    rw [unR_a (by omega) (by omega) (by omega) (by omega)]; exact s9
  · rw [aw 25 _ (by omega)]
    show ((unR w p c r (nb r + (Hs r).length + k) W0).2.2.1 25 _).toInt = _
    rw [unR_a (by omega) (by omega) (by omega) (by omega)]; exact s10
  have f3 : FGm p (unS m p c r (nb r + (Hs r).length + k) W0) m3 := FGm.tr FGm.pc (FGm.push h1)
  have g3 : FGw p r (unR w p c r (nb r + (Hs r).length + k) W0) (wa (wa (wj (unR w p c r (nb r + (Hs r).length + k) W0) 91 (46000 * p + W0) x) 92 p ((W0 + 1 : Nat) : Int)) 98 (60 * p + r) ((nn : Nat) : Int)) := FGw.tr (FGw.put (by omega)) FGw.goto
  have nnr := A_r w 25 nd
  rw [s10] at nnr
  refine kk r k a0 nn _ _ (PLs_98 pl3) (RUs_fall ru h28 s1 s6 s3 s5 f3 g3 ?_ ?_ s11) (GGm.tr GGm_un (GGm_fg f3)) (GGw.tr GGw_un (GGw_fg g3 (by omega))) (fun s => SC_fg (SC_un s) f3 g3)
  · rw [FR.F h1 (by simp [pq_n]), wi_sm a024.1 a024.2]
  · rw [wa_sm nnr.1 nnr.2]
end
