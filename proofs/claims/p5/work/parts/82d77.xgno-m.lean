section
set_option maxRecDepth 100000
section
variable {α β : Type} {m0 w0 m w : MS} {K nm Nk : Nat → Nat} {N T D d n p k kf : Nat} {Q : Nat → Nat} {sc : SCT} {v1 v3 v4 : Int32} {fc : MS → Int32 → Option (MS × α)} {RR : MS → α → MS → β → Prop} {F : MS → Int32 → Option (MS × β)} {B : Option (MS × β)} {A' : Option (MS × α)}
theorem hd_no (fr : FRC m0 m) (hn : n ≤ 8015) (h18 : A m0 18 n = 0) (h : PP RR (bnd (jb_Cm_tries_111 N (jrc_Cm_fun N D) (jg_Cm_tries N (jrc_Cm_fun N D) N) m (I (n : Nat)) (m.1 706) 0) fc) B) : PP RR (bnd (jm_Cm_tries N (jrc_Cm_fun N D) m v1 (I (n : Nat))) fc) B := by
  unfold jm_Cm_tries jb_Cm_tries_0
  rw [bnd_ck, i_nt2 (show n ≤ 100000 by omega), tre fr (by decide) h18, show decide (I 0 = (0 : Int32)) = true from rfl, br_tq]
  exact l_ck (fun _ => h)
theorem gd_no (fr : FRC m0 m) (hn : n ≤ 8015) (h19 : A m0 19 n = 0) (h : PP RR (fc m v4) B) : PP RR (bnd (jb_Cm_tries_111 N (jrc_Cm_fun N D) (jg_Cm_tries N (jrc_Cm_fun N D) kf) m (I (n : Nat)) v3 v4) fc) B := by
  unfold jb_Cm_tries_111
  rw [bnd_ck, i_nt2 (show n ≤ 100000 by omega), tre fr (by decide) h19, show decide (I 0 = (0 : Int32)) = true from rfl, br_tq, bnd_s]
  exact l_ck (fun _ => h)
theorem gd_w (c : CTZ m0 w0 K T nm Nk) (hR : XRS w0 T w p Q sc) (h1 : K p ≠ 19 → PP RR A' (F w (-1))) (h2 : K p = 19 → PP RR A' (bnd ((krc_M_behind N d).2.2.2.2.2.2.2.2.2.2.2.2.2.2.1 (adv w p)) F)) : PP RR A' (bnd (km_M_guard N (krc_M_behind N d) w) F) := by
  unfold km_M_guard kb_M_guard_0
  rw [tkW_e (k := 19) (s := 14) (XRS_wp c hR) hR.1.2.2.1 (by decide) rfl]
  by_cases z : K p = 19
  · rw [if_pos z, bnd_s, show decide ((1 : Int32) = 0) = false from rfl, br_fq, show ∀ X : Option (MS × Int32), bnd X (fun u2 r2 => some (u2, r2)) = X from fun X => by cases X <;> rfl]
    exact h2 z
  · rw [if_neg z, bnd_s, show decide ((0 : Int32) = 0) = true from rfl, br_tq, bnd_s]
    exact h1 z
end
end
section
set_option maxRecDepth 100000
section
variable {m0 w0 m w m2 w2 m3 w3 v u : MS} {K nm Nk W : Nat → Nat} {N T a b cm cm2 q r lo hi p : Nat} {Q Q2 : Nat → Nat} {sc sc2 : SCT} {g : Bool} {L : List Nat}
theorem XTF_rw (h : XTF m0 w0 K T nm Nk g L lo hi a b cm cm2 q r Q Q2 sc sc2 m w m2 w2) (hv1 : v.1 = w2.1) (hv2 : ∀ k n, (k < 23 ∨ 58 < k ∨ grp k = 0 ∨ n < Q (grp k)) → v.2.2.1 k n = w2.2.2.1 k n) (hv3 : v.2.2.2 = w2.2.2.2) : XTF m0 w0 K T nm Nk g L lo hi a b cm cm2 q r Q Q2 sc sc2 m w m2 v := by
  obtain ⟨a1, a2, a3, a4, a5, a7, a8, a9, a10⟩ := h
  refine ⟨a1, a2, ⟨⟨PRS_x a3.1.1 (fun k _ => by rw [hv1]) (fun k hk => funext (fun n => hv2 k n (by omega))) (by rw [hv1]; exact a3.1.1.2.1.1), fun k hk => by rw [hv1]; exact a3.1.2 k hk⟩, a3.2⟩, a4, a5, a7, ⟨⟨fun k z1 z2 z3 => ?_, fun k n z1 z2 => ?_, fun k n z => ?_⟩, a8.2⟩, a9, a10⟩
  · rw [funext (fun n => hv2 k n (Or.inr (Or.inr (Or.inl z1))))]
    exact a8.1.1 k z1 z2 z3
  · rw [hv2 k n (Or.inr (Or.inr (Or.inr z2)))]
    exact a8.1.2.1 k n z1 z2
  · rw [hv3]; exact a8.1.2.2 k n z
theorem XTF_mv (h : XTF m0 w0 K T nm Nk g L lo p a b cm cm2 q r Q Q2 sc sc2 m w m2 w2) (hX : XRS w0 T v hi Q2 sc2) (hv : v.2 = w2.2) (hl : p ≤ hi) (gap : ∀ j, p ≤ j → j < hi → K j ≠ 3) : XTF m0 w0 K T nm Nk g L lo hi a b cm cm2 q r Q Q2 sc sc2 m w m2 v := by
  obtain ⟨a1, a2, a3, a4, ⟨W, a5, a6⟩, a7, a8, a9, a10⟩ := h
  obtain ⟨v1, vr⟩ := v
  have hv : vr = w2.2 := hv
  subst hv
  refine ⟨⟨by omega, a1.2⟩, a2, ⟨hX, a3.2⟩, by omega, ⟨W, HDx_tr a1.1 hl a5 (HDx_gap gap), ?_⟩, a7, ⟨QRR_e a8.1 rfl rfl, a8.2⟩, a9, a10⟩
  rw [a6, ← wup_tr (p := lo) (q := p) (p2 := hi) a1.1 hl, wup_0 (p := p) gap]
theorem XTF_ad (h : XTF m0 w0 K T nm Nk g L lo p a b cm cm2 q r Q Q2 sc sc2 m w m2 w2) (hl : p < T) (hk : K p ≠ 3) : XTF m0 w0 K T nm Nk g L lo (p + 1) a b cm cm2 q r Q Q2 sc sc2 m w m2 (adv w2 p) := XTF_mv h (XRS_ad h.2.2.1.1 hl) rfl (Nat.le_succ _) (fun j a b => by rw [show j = p by omega]; exact hk)
theorem XTF_rf (hC : XCS m0 nm m a cm sc g) (hR : XRS w0 T w lo Q sc) (hq : Q 56 = q) : XTF m0 w0 K T nm Nk g [] lo lo a a cm cm q q Q Q sc sc m w m w := ⟨⟨Nat.le_refl _, Nat.le_refl _, Nat.le_refl _, Nat.le_refl _⟩, hC, ⟨hR, hq⟩, by omega, ⟨fun _ => 0, HDx_gap (fun j a b => by omega), by rw [wup_0 (fun j a b => by omega)]⟩, XFC_rf, XFR_rf, fun _ => rfl, fun n hn => (by cases hn)⟩
end
end
section
set_option maxRecDepth 100000
section
variable {a b kd scn f k pn fl g : Nat} {C : Nat → Int} {P R : Nat → Nat → Int} {J : Nat → Int64} {H O O2 : List Nat}
theorem zr_pn (ha : a + 1 < 24000) (hk : k < 100000) (c0 : C a = 19) (c1 : (kd = 1 ∧ C (a + 1) = -1) ∨ (kd = 3 ∧ C (a + 1) = -2)) (c2 : C (a + 2) = ((fl : Nat) : Int)) (hp : PTs C R J H f (a + 3) pn O b O2) (hf : f ≤ 230) (c8 : C b = 8) (r40 : R 40 k = ((pn : Nat) : Int)) (r42 : R 42 k = -1) (hz : ∃ f, ZRs C R J (CRs C R J f) kd scn H O f fl (R 45 k)) (hc : ∃ f, CHs C R (CRs C R J f) kd (b + 1) k H O2) : ∃ f, ZRs C R J (CRs C R J f) kd scn H O f a ((k : Nat) : Int) := by
  refine zr_c (e := b + 1) (O2 := O2) ha hk (Or.inr ⟨c0, ⟨fl, c2, hz⟩, 1, b, ?_, ?_, c8, rfl⟩) (Or.inl ⟨r42, hc⟩)
  · rcases c1 with ⟨h1, h2⟩ | ⟨h1, h2⟩
    · exact Or.inr (Or.inl ⟨h1, rfl, h2⟩)
    · exact Or.inr (Or.inr ⟨h1, rfl, h2⟩)
  · rw [r40]; exact ptr_1 hp hf
theorem zr_pg (ha : a + 1 < 24000) (hk : k < 100000) (c0 : C a = 19) (c1 : (kd = 1 ∧ C (a + 1) = -1) ∨ (kd = 3 ∧ C (a + 1) = -2)) (c2 : C (a + 2) = ((fl : Nat) : Int)) (hp : PTs C R J H f (a + 3) pn O b O2) (hf : f ≤ 230) (c8 : C b = 8) (r40 : R 40 k = ((pn : Nat) : Int)) (r42 : R 42 k = ((g : Nat) : Int)) (c21 : C (b + 1) = 21) (cl : C (b + 2) = ((O2.length - O.length : Nat) : Int)) (cf : C (b + 3) = ((fl : Nat) : Int)) (h0 : 0 < fl) (hz : ∃ f, ZRs C R J (CRs C R J f) kd scn H O f fl (R 45 k)) (hg : CRe C R J (some (kd, k, scn)) (b + 4) g H O2) : ∃ f, ZRs C R J (CRs C R J f) kd scn H O f a ((k : Nat) : Int) := by
  refine zr_c (e := b + 1) (O2 := O2) ha hk (Or.inr ⟨c0, ⟨fl, c2, hz⟩, 1, b, ?_, ?_, c8, rfl⟩) (Or.inr ⟨g, fl, r42, c21, cl, cf, h0, hz, hg⟩)
  · rcases c1 with ⟨h1, h2⟩ | ⟨h1, h2⟩
    · exact Or.inr (Or.inl ⟨h1, rfl, h2⟩)
    · exact Or.inr (Or.inr ⟨h1, rfl, h2⟩)
  · rw [r40]; exact ptr_1 hp hf
theorem zr_if (ha : a + 1 < 24000) (hk : k < 100000) (h2 : kd = 2) (r42 : R 42 k = ((g : Nat) : Int)) (c21 : C a = 21) (cl : C (a + 1) = 0) (cf : C (a + 2) = ((fl : Nat) : Int)) (h0 : 0 < fl) (hz : ∃ f, ZRs C R J (CRs C R J f) kd scn H O f fl (R 45 k)) (hg : CRe C R J (some (kd, k, scn)) (a + 3) g H O) : ∃ f, ZRs C R J (CRs C R J f) kd scn H O f a ((k : Nat) : Int) := zr_c (e := a) (O2 := O) ha hk (Or.inl ⟨Or.inl h2, rfl, rfl⟩) (Or.inr ⟨g, fl, r42, c21, by rw [Nat.sub_self]; exact cl, cf, h0, hz, hg⟩)
end
end
section
set_option maxRecDepth 100000
section
variable {a n t nd b1 : Nat} {C : Nat → Int} {R : Nat → Nat → Int} {J : Nat → Int64} {H O : List Nat} {y : Option (Nat × Nat × Nat)}
theorem cr_26 (hO : O.Nodup ∧ H.Nodup) (hb : a + 2 < 24000 ∧ n + 2 < 100000 ∧ H.length + O.length ≤ 40) (r23 : R 23 n = 26) (c0 : C a = 18) (c1 : C (a + 1) = ((t : Nat) : Int)) (r25 : R 25 n = -2) (r26 : R 26 n = ((nd : Nat) : Int)) (rnd : R 26 nd = ((b1 : Nat) : Int)) (h : CRe C R J y t b1 H O) : CRe C R J y a n H O := by
  obtain ⟨d, hd⟩ := h
  exact cr_1 hO hb ⟨d, Or.inr (Or.inr (Or.inr (Or.inr (Or.inr (Or.inr (Or.inr (Or.inr (Or.inr (Or.inr (Or.inr (Or.inr (Or.inr (Or.inr (Or.inr (Or.inr (Or.inr (Or.inr (Or.inr (Or.inr (Or.inr (Or.inr (Or.inr (Or.inr (Or.inr (Or.inl ⟨r23, c0, t, b1, c1, Or.inr ⟨r25, nd, r26, rnd⟩, hd⟩)))))))))))))))))))))))))⟩
end
end
section
set_option maxRecDepth 100000
section
variable {m0 w0 m w v : MS} {K nm Nk : Nat → Nat} {T a cm q p i j : Nat} {Q : Nat → Nat} {sc : SCT} {g : Bool}
theorem XTF_st (hC : XCS m0 nm m a cm sc g) (hq : Q 56 = q) (hj : j ∈ [32, 39, 46, 58]) (hi : Q j ≤ i) (hV : XRS w0 T v p (qst Q j i) sc) (hQ : QRR Q w v) : XTF m0 w0 K T nm Nk g [] p p a a cm cm q q Q (qst Q j i) sc sc m w m v := by
  have n : ∀ k, k ∉ [32, 39, 46, 58] → qst Q j i k = Q k := fun k hk => qst_no (fun z => hk (by rw [z]; exact hj))
  exact ⟨⟨Nat.le_refl _, Nat.le_refl _, Nat.le_refl _, Nat.le_refl _⟩, hC, ⟨hV, by rw [n 56 (by decide)]; exact hq⟩, by omega, ⟨fun _ => 0, HDx_gap (fun j a b => by omega), by rw [wup_0 (fun j a b => by omega)]⟩, XFC_rf, ⟨hQ, QLE_st QLE_rf hi, n 75 (by decide), n 77 (by decide), n 83 (by decide)⟩, fun _ => rfl, fun n hn => (by cases hn)⟩
end
end
section
set_option maxRecDepth 100000
section
variable {α β : Type} {m0 w0 m w u : MS} {N T d p k j i : Nat} {Q : Nat → Nat} {sc : SCT} {x v1 v2 v3 v4 v7 : Int32} {RP : MS → α → MS → Int32 → Prop} {B : Option (MS × α)} {G : MS → Int32 → Int32 → Int32 → Int32 → Int32 → Option (MS × Int32)}
def W46 (w V : MS) (j k : Nat) (x : Int32) : Prop := V.1 = w.1 ∧ V.2.2.2 = w.2.2.2 ∧ (∀ i n, (i ≠ j ∨ n ≠ k) → V.2.2.1 i n = w.2.2.1 i n) ∧ V.2.2.1 j k = x
theorem w46_of : W46 w (upA w j (upd (w.2.2.1 j) k x)) j k x := ⟨rfl, rfl, fun i n h => by
  by_cases z : i = j
  · subst z
    rw [upA_at, upd_no (h.resolve_left (fun y => y rfl))]
  · rw [upA_no z], by rw [upA_at, upd_at]⟩
theorem W46_x (h : W46 w u j k x) (hR : XRS w0 T w p Q sc) (hj : 23 ≤ j ∧ j ≤ 58) : XRS w0 T u p Q sc := ⟨PRS_x hR.1 (fun i _ => by rw [h.1]) (fun i hi => funext (fun n => h.2.2.1 i n (Or.inl (by omega)))) (by rw [h.1]; exact hR.1.2.1.1), fun i hi => by rw [h.1]; exact hR.2 i hi⟩
theorem rd_40 (hk : k ≤ 16000) (h1 : v1 = 0) (h : ∀ V, W46 w V 40 k x → PP RP B (bnd (km_M_guard N (krc_M_behind N d) V) (fun u13 r13 => kb_M_parts0_127 N (krc_M_behind N (d + 1)) G u13 v1 v2 v3 v4 (I (k : Nat)) v7 42 (I (k : Nat)) r13))) : PP RP B (kb_M_parts0_105 N (krc_M_behind N (d + 1)) G w v1 v2 v3 v4 (I (k : Nat)) v7 40 (I (k : Nat)) x) := by
  unfold kb_M_parts0_105
  rw [i_nt2 (p := k) (by omega)]
  refine r_ck (fun _ => r_ck (fun _ => r_lt ?_))
  rw [decide_eq_true h1, br_tq]
  exact h _ w46_of
theorem rd_40c (hk : k ≤ 16000) (h1 : v1 ≠ 0) (h : ∀ V, W46 w V 40 k x → PP RP B (bnd (km_M_guardCode N (krc_M_behind N d) V) (fun u13 r13 => kb_M_parts0_127 N (krc_M_behind N (d + 1)) G u13 v1 v2 v3 v4 (I (k : Nat)) v7 42 (I (k : Nat)) r13))) : PP RP B (kb_M_parts0_105 N (krc_M_behind N (d + 1)) G w v1 v2 v3 v4 (I (k : Nat)) v7 40 (I (k : Nat)) x) := by
  unfold kb_M_parts0_105
  rw [i_nt2 (p := k) (by omega)]
  refine r_ck (fun _ => r_ck (fun _ => r_lt ?_))
  rw [decide_eq_false h1, br_fq]
  exact h _ w46_of
end
end
section
set_option maxRecDepth 100000
section
variable {α β : Type} {m0 w0 m w m2 w2 m3 w3 v u V : MS} {K nm Nk W W2 : Nat → Nat} {N T a b c cm cm2 q r lo hi p k i j n nd : Nat} {Q Q2 Q3 : Nat → Nat} {sc sc2 sc3 t t2 : SCT} {e e2 : List Nat × List Nat × Nat} {g : Bool} {L : List Nat} {R : MS → α → MS → β → Prop} {X : Option (MS × α)} {s' xw : Int32}
theorem nd_s {F : MS → Unit → Option (MS × β)} (c : CTZ m0 w0 K T nm Nk) (hX : XRS w0 T w p Q sc) (hk : 20 ≤ k ∧ k ≤ 44) (hs : s' = I (svK k : Nat)) (h : K p = k → PP R X (F (adv w p) ())) : PP R X (bnd (km_M_needSign N w s') F) := fun m9 z9 w9 r9 x1 x2 => (pk_bnd (Q := fun w9 r9 => R m9 z9 w9 r9) (pk_ndS (PP' := fun v _ => PK (fun w9 r9 => R m9 z9 w9 r9) (F v ())) c hX hk hs (fun hk w9 r9 x2 => h hk m9 z9 w9 r9 x1 x2))) w9 r9 x2
theorem nd_26 {F : MS → Int32 → Option (MS × β)} (c : CTZ m0 w0 K T nm Nk) (h : XTF m0 w0 K T nm Nk g L lo p a b cm cm2 q r Q Q2 sc sc2 m w m2 w2) (hh : ∀ V, Q2 32 < 16000 → XTF m0 w0 K T nm Nk g L lo p a b cm cm2 q r Q (qst Q2 32 (Q2 32 + 1)) sc sc2 m w m2 V → QRR Q2 w2 V → V.2.2.1 23 (Q2 32) = 26 → V.2.2.1 25 (Q2 32) = -2 → V.2.2.1 26 (Q2 32) = I (nd : Nat) → (∀ k n, (k < 23 ∨ 31 < k ∨ n ≠ Q2 32) → V.2.2.1 k n = w2.2.2.1 k n) → PP R X (F V (I (Q2 32 : Nat)))) : PP R X (bnd (fm_M_node N w2 26 (w2.1 69)) (fun u8 r8 => ck (inb r8 (ln 25)) (lt (upA u8 25 (upd (u8.2.2.1 25) r8.toNatClampNeg (-2))) (fun w9 => ck (inb r8 (ln 26)) (lt (upA w9 26 (upd (w9.2.2.1 26) r8.toNatClampNeg (I (nd : Nat)))) (fun w10 => F w10 r8)))))) := by
  have t4 := c.2.1.1.1
  obtain ⟨a1, a2, a3, a4, a5, a7, a8, a9, a10⟩ := h
  have hR := a3.1
  have pT : p ≤ T := hR.1.2.1.2
  obtain ⟨q1, q2⟩ := XRS_q hR
  rw [hR.1.2.1.1]
  refine r_nod q1 q2 rfl (nsh (by omega)) (fun h16 => ?_)
  have d0 : NOD w2 (nwD w2 (Q2 32) 26 (I (p : Nat))) (Q2 32) := NOD_0 q1
  obtain ⟨d1, -⟩ := nwD_at (w := w2) (i := Q2 32) (k := 26) (t := I (p : Nat))
  have d9 : (nwD w2 (Q2 32) 26 (I (p : Nat))).1 69 = I (p : Nat) := by rw [nwD_i (by decide)]; exact hR.1.2.1.1
  generalize nwD w2 (Q2 32) 26 (I (p : Nat)) = U at d0 d1 d9
  rw [i_nt2 (p := Q2 32) (by omega)]
  refine r_ck (fun _ => r_lt (r_ck (fun _ => r_lt ?_)))
  have hN : NOD w2 (upA (upA U 25 (upd (U.2.2.1 25) (Q2 32) (-2))) 26 (upd ((upA U 25 (upd (U.2.2.1 25) (Q2 32) (-2))).2.2.1 26) (Q2 32) (I (nd : Nat)))) (Q2 32) := NOD_A (NOD_A d0 (by decide)) (by decide)
  have v23 : (upA (upA U 25 (upd (U.2.2.1 25) (Q2 32) (-2))) 26 (upd ((upA U 25 (upd (U.2.2.1 25) (Q2 32) (-2))).2.2.1 26) (Q2 32) (I (nd : Nat)))).2.2.1 23 (Q2 32) = 26 := by rw [upA_no (by decide), upA_no (by decide)]; exact d1
  have v25 : (upA (upA U 25 (upd (U.2.2.1 25) (Q2 32) (-2))) 26 (upd ((upA U 25 (upd (U.2.2.1 25) (Q2 32) (-2))).2.2.1 26) (Q2 32) (I (nd : Nat)))).2.2.1 25 (Q2 32) = -2 := by rw [upA_no (by decide), upA_at, upd_at]
  have v26 : (upA (upA U 25 (upd (U.2.2.1 25) (Q2 32) (-2))) 26 (upd ((upA U 25 (upd (U.2.2.1 25) (Q2 32) (-2))).2.2.1 26) (Q2 32) (I (nd : Nat)))).2.2.1 26 (Q2 32) = I (nd : Nat) := by rw [upA_at, upd_at]
  have v69 : (upA (upA U 25 (upd (U.2.2.1 25) (Q2 32) (-2))) 26 (upd ((upA U 25 (upd (U.2.2.1 25) (Q2 32) (-2))).2.2.1 26) (Q2 32) (I (nd : Nat)))).1 69 = I (p : Nat) := d9
  generalize upA (upA U 25 (upd (U.2.2.1 25) (Q2 32) (-2))) 26 (upd ((upA U 25 (upd (U.2.2.1 25) (Q2 32) (-2))).2.2.1 26) (Q2 32) (I (nd : Nat))) = V at hN v23 v25 v26 v69
  have hX := XRS_n hR hN.1 (fun k hk => funext (fun j => hN.2.2.1 k j (by omega))) v69 pT hN.2.1 (by omega)
  have hQ : QRR Q2 w2 V := QRR_N hN (Nat.le_refl _)
  have q32 : Q 32 ≤ Q2 32 := a8.2.1 32 (by decide)
  exact hh V h16 ⟨a1, a2, ⟨hX, by rw [qst_no (by decide)]; exact a3.2⟩, a4, a5, a7, ⟨QRR_tr a8.1 hQ a8.2.1, QLE_st a8.2.1 (by omega), by rw [qst_no (by decide), qst_no (by decide), qst_no (by decide)]; exact a8.2.2⟩, a9, fun n hn => by rw [qst_at]; have := a10 n hn; omega⟩ hQ v23 v25 v26 (fun k n hk => hN.2.2.1 k n hk)
end
end
section
set_option maxRecDepth 100000
def kpC (N : Nat) (S : SG_M_behind) (G : MS → Int32 → Int32 → Int32 → Int32 → Int32 → Option (MS × Int32)) (w4 : MS) (v1 v2 v3 v4 v6 v7 : Int32) : Option (MS × Int32) := bnd (S.2.2.2.2.1 w4) (fun u5 r5 => bnd (fm_M_addRoot N u5 v2 r5) (fun u6 _ => bnd (fm_M_unbind N u6 v7) (fun u7 _ => bnd (fm_M_node N u7 26 (u7.1 69)) (fun u8 r8 => ck (inb r8 (ln 25)) (lt (upA u8 25 (upd (u8.2.2.1 25) r8.toNatClampNeg (-2))) (fun w9 => ck (inb r8 (ln 26)) (lt (upA w9 26 (upd (w9.2.2.1 26) r8.toNatClampNeg v2)) (fun w10 => br (decide (v4 = (-1))) (kb_M_parts0_214 N S G w10 (v1) (v2) (v6) (v6)) (ck (inb v4 (ln 45)) (lt (upA w10 45 (upd (w10.2.2.1 45) v4.toNatClampNeg v6)) (fun w11 => kb_M_parts0_214 N S G w11 (v1) (v2) (v3) (v6))))))))))))
def HDG (w0 : MS) (nm : Nat → Nat) (fof cvr : Int → Int → Int) (kd a b cm2 q r k : Nat) (Q Q2 : Nat → Nat) (sc sc2 : SCT) (m2 w2 : MS) (fs : List Nat) : Prop := ∀ (C : Nat → Int) (P R : Nat → Nat → Int) (J : Nat → Int64) (H : List Nat) (lst : Bool) (fl scn : Nat), FNx w0 fof cvr C P R J m2 w2 a b q r Q Q2 lst [] fs [k] → HNX nm sc2 cm2 H → 0 < fl → (∀ h, h ∈ fs → C h = ((fl : Nat) : Int)) → (∀ u, q ≤ u → u < r → FUX C P R J u) ∧ ((∃ f, ZRs C R J (CRs C R J f) kd scn H (Onm nm sc) f fl (R 45 k)) → (∃ f, CHs C R (CRs C R J f) kd b k H (Onm nm sc2)) → ∃ f, ZRs C R J (CRs C R J f) kd scn H (Onm nm sc) f a ((k : Nat) : Int))
section
variable {α β : Type} {m0 w0 m w m2 w2 m3 w3 v u w1 mS wS V : MS} {K nm Nk W W2 : Nat → Nat} {N T D d o a a0 b b0 c cm cm0 cm2 cm3 q q0 r s lo lo0 mid hi i j f f2 n k kk kd p p2 σ tk x xa xb xc xd M m1 lv y kf : Nat} {Q Q0 Q2 Q3 Q4 : Nat → Nat} {sc sc0 sc2 sc3 t t2 : SCT} {e e2 : List Nat × List Nat × Nat} {g g2 lst l2 : Bool} {L L1 L2 S : List Nat} {l : List Int32} {idc fof cvr : Int → Int → Int} {z : Unit} {rt v1 v2 v3 v4 v5 x2 x3 x4 t4 t5 xw : Int32} {fc : MS → Int32 → Option (MS × α)} {RR : MS → α → MS → Int32 → Prop} {G : MS → Int32 → Int32 → Int32 → Int32 → Int32 → Option (MS × Int32)}
theorem W46_rw (h : XTF m0 w0 K T nm Nk g L lo hi a b cm cm2 q r Q Q2 sc sc2 m w m2 w2) (hw : W46 w2 V j k xw) (hj : 40 ≤ j ∧ j ≤ 45) (hk : Q 46 ≤ k) : XTF m0 w0 K T nm Nk g L lo hi a b cm cm2 q r Q Q2 sc sc2 m w m2 V := by
  refine XTF_rw h hw.1 (fun k' n hn => hw.2.2.1 k' n ?_) hw.2.1
  by_cases z : k' = j
  · subst z
    have gk : grp k' = 46 := by unfold grp; rw [if_neg (by omega), if_neg (by omega), if_pos hj]
    rw [gk] at hn
    exact Or.inr (by omega)
  · exact Or.inl z
theorem rd_43 {A' : Option (MS × α)} {RR : MS → α → MS → Int32 → Prop} (c : CTZ m0 w0 K T nm Nk) (hX : XTF m0 w0 K T nm Nk false L lo mid a b cm cm2 q r Q Q2 sc sc2 m w m2 w2) (hk : Q 46 ≤ k ∧ k ≤ 16000) (hmT : mid < T) (h : ∀ V, XTF m0 w0 K T nm Nk false L lo (mid + 1) a b cm cm2 q r Q Q2 sc sc2 m w m2 V → V.2.2.2 = w2.2.2.2 → (∀ i n, (i ≠ 42 ∧ i ≠ 43) ∨ n ≠ k → V.2.2.1 i n = w2.2.2.1 i n) → V.2.2.1 42 k = rt → V.2.2.1 43 k = I (Q2 32 : Nat) → PP RR A' (kpC N (krc_M_behind N (d + 1)) G V v1 v2 v3 v4 (I (k : Nat)) v5)) : PP RR A' (kb_M_parts0_127 N (krc_M_behind N (d + 1)) G w2 v1 v2 v3 v4 (I (k : Nat)) v5 42 (I (k : Nat)) rt) := by
  unfold kb_M_parts0_127
  rw [i_nt2 (p := k) (by omega)]
  refine r_ck (fun _ => r_ck (fun _ => r_lt ?_))
  have h1 : W46 w2 (upA w2 42 (upd (w2.2.2.1 42) k rt)) 42 k rt := w46_of
  generalize upA w2 42 (upd (w2.2.2.1 42) k rt) = V1 at h1
  have X1 := W46_rw hX h1 (by omega) hk.1
  refine nd_s c X1.2.2.1.1 (k := 38) (s' := 10) (by decide) rfl (fun k38 => ?_)
  have X2 := XTF_ad X1 hmT (by rw [k38]; decide)
  have e32 : (adv V1 mid).1 32 = I (Q2 32 : Nat) := (XRS_q X2.2.2.1.1).1
  rw [e32]
  refine r_ck (fun _ => r_lt ?_)
  have h2 : W46 (adv V1 mid) (upA (adv V1 mid) 43 (upd ((adv V1 mid).2.2.1 43) k (I (Q2 32 : Nat)))) 43 k (I (Q2 32 : Nat)) := w46_of
  generalize upA (adv V1 mid) 43 (upd ((adv V1 mid).2.2.1 43) k (I (Q2 32 : Nat))) = V at h2
  have X3 := W46_rw X2 h2 (by omega) hk.1
  refine h V X3 ?_ (fun i n hin => ?_) ?_ h2.2.2.2
  · rw [h2.2.1]
    show V1.2.2.2 = _
    rw [h1.2.1]
  · rw [h2.2.2.1 i n (by omega)]
    show V1.2.2.1 i n = _
    rw [h1.2.2.1 i n (by omega)]
  · rw [h2.2.2.1 42 k (Or.inl (by decide))]
    show V1.2.2.1 42 k = _
    exact h1.2.2.2
theorem FNx_R {hs ps : List Nat} {C : Nat → Int} {P R : Nat → Nat → Int} {J : Nat → Int64} (h : FNx w0 fof cvr C P R J m w a b q r Q Q2 lst L hs ps) (hj : 40 ≤ j ∧ j ≤ 44) (hk : Q 46 ≤ k ∧ k < Q2 46) : R j k = A w j k := by
  have gk : grp j = 46 := by unfold grp; rw [if_neg (by omega), if_neg (by omega), if_pos ⟨hj.1, by omega⟩]
  exact h.2.2.2.1.1 j k (by omega) (by omega) (by omega) (by omega) (by rw [gk]; decide) (by rw [gk]; exact hk.1) (by rw [gk]; exact hk.2) (fun z => by omega)
theorem Onm_sub (h : NWd sc sc2) (e1 : m.1 706 = I (tot sc : Nat)) (e2 : m2.1 706 = I (tot sc2 : Nat)) (hb : tot sc2 ≤ 4000) : (m2.1 706 - m.1 706).toInt = (((Onm nm sc2).length - (Onm nm sc).length : Nat) : Int) := by
  cases sc with
  | nil =>
    cases sc2 with
    | nil => rw [e1, e2, I_sub, Int.sub_self]; show (0 : Int) = _; rw [Nat.sub_self]; rfl
    | cons e t => exact h.elim
  | cons e t =>
    cases sc2 with
    | nil => exact h.elim
    | cons e' t' =>
      obtain ⟨n1, n2, -⟩ := h
      have le := n1.length_le
      have tt := (BDs_len n2).2
      have t1 : tot (e :: t) = tot t + e.1.length := rfl
      have t2 : tot (e' :: t') = tot t' + e'.1.length := rfl
      have l1 : (Onm nm (e :: t)).length = e.1.length := by unfold Onm; rw [List.length_map]; rfl
      have l2 : (Onm nm (e' :: t')).length = e'.1.length := by unfold Onm; rw [List.length_map]; rfl
      rw [e1, e2, I_sub, I_ti (by omega) (by omega), l1, l2]
      omega
theorem C_of {hs ps : List Nat} {C : Nat → Int} {P R : Nat → Nat → Int} {J : Nat → Int64} (h : FNx w0 fof cvr C P R J m w a b q r Q Q2 lst L hs ps) (hj : a ≤ j ∧ j < b) (hn : j ∉ hs) (hm : m.2.2.1 23 j = xw) : C j = xw.toInt := by
  rw [h.1 j hj.1 hj.2 hn]
  show (m.2.2.1 23 j).toInt = _
  rw [hm]
theorem hdg_p (c : CTZ m0 w0 K T nm Nk) (cv : CTV m0 w0 K T) (IE : HXE N m0 w0 K T nm Nk fof cvr f) (hf : f ≤ 230) (hn : n ≤ 8015) (h18 : A m0 18 n = ((p : Nat) : Int)) (h21 : A m0 21 p = 0) (hP : PAcK m0 f p lo i xa xc q q) (hxc : xc ≤ 8015) (hg : (A m0 19 n = 0 ∧ mid = i ∧ q = s) ∨ ∃ gx kg : Nat, A m0 19 n = ((gx : Nat) : Int) ∧ A m0 6 i = 19 ∧ RWcK m0 1 26 (XPcK m0 f o 3) kg gx (i + 1) mid xc xd q s) (hxd : xd ≤ 8015) (hs4 : s ≤ 400) (k38 : K mid = 38) (hmT : mid < T) (hC : XCS m0 nm m a cm sc false) (hR : XRS w0 T w lo Q sc) (hq : Q 56 = q) (htot : tot sc + (mid - lo) ≤ 4000 ∧ sc.length ≤ o + 1) (hkd : (kd = 1 ∧ v1 = -1) ∨ (kd = 3 ∧ v1 = -2))
    (hh : ∀ m5 w5 b cm2 Q2 sc2 fs v8, XTF m0 w0 K T nm Nk false [] lo (mid + 1) a b cm cm2 q s Q Q2 sc sc2 m w m5 w5 → HKc m5 fs v8 → (∀ h, h ∈ fs → a ≤ h ∧ h < b) → (Q 46 < Q2 46 ∧ Q 46 < 16000 ∧ w5.2.2.1 45 (Q 46) = -1 ∧ w5.2.2.1 43 (Q 46) = I (Q2 32 : Nat)) → HDG w0 nm fof cvr kd a b cm2 q s (Q 46) Q Q2 sc sc2 m5 w5 fs → PP RR (fc m5 v8) (kpC N (krc_M_behind N (d + 1)) G w5 0 x2 x3 x4 (I (Q 46 : Nat)) (I ((hdS sc).1.length : Nat)))) : PP RR (bnd (jm_Cm_tries N (jrc_Cm_fun N D) m v1 (I (n : Nat))) fc) (kb_M_parts0_19 N (krc_M_behind N (d + 1)) G w 0 x2 x3 x4 1) := by
  have tt4 := c.2.1.1.1
  obtain ⟨e, t, rfl⟩ := PRS_ne hR.1
  have hd0 := PA_bdK _ _ _ _ _ _ _ _ hP
  unfold HDc at hd0
  have hi1 : i ≤ mid ∧ q ≤ s := by
    rcases hg with ⟨-, rfl, rfl⟩ | ⟨gx, kg, -, -, hw⟩
    · exact ⟨Nat.le_refl _, Nat.le_refl _⟩
    · have := (RW_hdK (XP_bdK f o 3) hw).1
      unfold HDc at this
      exact ⟨by omega, by omega⟩
  have hv1 : decide (v1 < 0) = true := by rcases hkd with ⟨-, rfl⟩ | ⟨-, rfl⟩ <;> rfl
  refine pt_beg hR (fun V k16 hV hQV hVJ hVr hV44 hV45 hV41 hVi => ?_)
  rw [show decide ((0 : Int32) = 0) = true from rfl, br_tq]
  have q46 : ∀ k, k ≠ 46 → qst Q 46 (Q 46 + 1) k = Q k := fun k hk => qst_no hk
  have X0 : XTF m0 w0 K T nm Nk false [] lo lo a a cm cm q q Q (qst Q 46 (Q 46 + 1)) (e :: t) (e :: t) m w m V := XTF_st hC hq (by decide) (by omega) hV hQV
  refine hd_x c cv hP hxc hC hV (by rw [q46 56 (by decide)]; exact hq) (by omega) hn h18 h21 hv1 (fun m5 w5 b cm2 pj pn sc2 kf hX hab hpn hwd hrw hri hpt => ?_)
  have X1 := XTF_tr X0 hX
  have lk : (hdS (e :: t)).1.length = e.1.length := rfl
  rw [lk] at hh
  have m39 : (qst Q 46 (Q 46 + 1)) 39 = Q 39 := q46 39 (by decide)
  rw [m39] at hpn hpt
  have r46 : ∀ k, (qst (qst Q 46 (Q 46 + 1)) 39 pj) 46 = k ↔ Q 46 + 1 = k := fun k => by rw [qst_no (by decide), qst_at]
  have e46 : (qst (qst Q 46 (Q 46 + 1)) 39 pj) 46 = Q 46 + 1 := by rw [qst_no (by decide), qst_at]
  have e39 : (qst (qst Q 46 (Q 46 + 1)) 39 pj) 39 = pj := qst_at
  have e56 : (qst (qst Q 46 (Q 46 + 1)) 39 pj) 56 = q := by rw [qst_no (by decide), qst_no (by decide)]; exact hq
  have e32 : (qst (qst Q 46 (Q 46 + 1)) 39 pj) 32 = Q 32 := by rw [qst_no (by decide), qst_no (by decide)]
  have pat : ∀ (m6 w7 : MS) (b6 r6 : Nat) (Q6 : Nat → Nat) (sc6 : SCT) (cm6 : Nat) (fs : List Nat) (C : Nat → Int) (P R : Nat → Nat → Int) (J : Nat → Int64) (H : List Nat) (lst : Bool), FNx w0 fof cvr C P R J m6 w7 a b6 q r6 Q Q6 lst [] fs [Q 46] → b + 1 ≤ b6 → pj ≤ Q6 39 → (∀ h, h ∈ fs → h = a + 2 ∨ b < h) → (∀ j, j < b + 1 → m6.2.2.1 23 j = m5.2.2.1 23 j) → (∀ k q, 33 ≤ k → k ≤ 38 → q < pj → w7.2.2.1 k q = w5.2.2.1 k q) → (∀ q, q < pj → w7.2.2.2 34 q = w5.2.2.2 34 q) → HPX nm sc2 H → C a = 19 ∧ ((kd = 1 ∧ C (a + 1) = -1) ∨ (kd = 3 ∧ C (a + 1) = -2)) ∧ PTs C R J H f (a + 3) pn (Onm nm (e :: t)) b (Onm nm sc2) ∧ C b = 8 := fun m6 w7 b6 r6 Q6 sc6 cm6 fs C P R J H lst fi h1 h2 h3 h4 h5 h6 hx => by
    have nf : ∀ j, a ≤ j → j ≠ a + 2 → j < b + 1 → j ∉ fs := fun j _ j1 j2 y => by
      rcases h3 j y with z | z <;> omega
    have c0 := C_of fi (j := a) ⟨Nat.le_refl _, by omega⟩ (nf a (Nat.le_refl _) (by omega) (by omega)) ((h4 a (by omega)).trans hwd.1)
    have c1 := C_of fi (j := a + 1) ⟨by omega, by omega⟩ (nf (a + 1) (by omega) (by omega) (by omega)) ((h4 (a + 1) (by omega)).trans hwd.2.1)
    have c8 := C_of fi (j := b) ⟨by omega, by omega⟩ (nf b (by omega) (by omega) (by omega)) ((h4 b (by omega)).trans hwd.2.2.2)
    refine ⟨c0, ?_, hpt C R J H (fun j j1 j2 => ?_) fi.2.2.1 (fun y y1 y2 => ?_) hx, c8⟩
    · rcases hkd with ⟨z1, rfl⟩ | ⟨z1, rfl⟩
      · exact Or.inl ⟨z1, c1⟩
      · exact Or.inr ⟨z1, c1⟩
    · rw [fi.1 j (by omega) (by omega) (nf j (by omega) (by omega) (by omega))]
      exact congrArg Int32.toInt (h4 j (by omega))
    · have ee : ∀ k, 33 ≤ k → k ≤ 38 → k ≠ 34 → R k y = A w5 k y := fun k k1 k2 k3 => by
        have gk : grp k = 39 := by unfold grp; rw [if_neg (by omega), if_pos ⟨k1, k2⟩]
        rw [fi.2.2.2.1.1 k y (by omega) (by omega) (by omega) k3 (by rw [gk]; decide) (by rw [gk]; exact y1) (by rw [gk]; omega) (fun z => by omega)]
        exact congrArg Int32.toInt (h5 k y k1 k2 y2)
      exact ⟨ee 33 (by decide) (by decide) (by decide), ee 35 (by decide) (by decide) (by decide), ee 36 (by decide) (by decide) (by decide), ee 38 (by decide) (by decide) (by decide), (fi.2.2.2.1.2.2.2 y y1 (by omega)).trans (h6 y y2), fun _ => ee 37 (by decide) (by decide) (by decide)⟩
  refine rd_40 (by omega) rfl (fun V2 hV2 => ?_)
  have X2 : XTF m0 w0 K T nm Nk false [] lo i a (b + 1) cm cm2 q q Q (qst (qst Q 46 (Q 46 + 1)) 39 pj) (e :: t) sc2 m w m5 V2 := W46_rw X1 hV2 (by omega) (Nat.le_refl _)
  have hC5 := X2.2.1
  have hR2 := X2.2.2.1.1
  have b24 : b + 1 ≤ 23990 := hC5.1.2.2.1.2.2
  have V240 : V2.2.2.1 40 (Q 46) = I (pn : Nat) := hV2.2.2.2
  have V245 : V2.2.2.1 45 (Q 46) = -1 := by
    rw [hV2.2.2.1 45 _ (Or.inl (by decide)), hrw 45 (Or.inr (Or.inl ⟨by decide, by decide⟩))]
    exact hV45
  refine gd_w c hR2 (fun k19 => ?_) (fun k19 => ?_)
  · 
    rcases hg with ⟨h19, rfl, rfl⟩ | ⟨gx, kg, h19, h6, hw⟩
    · refine gd_no (XCS_fr hC5) hn h19 ?_
      refine rd_43 c X2 ⟨Nat.le_refl _, by omega⟩ hmT (fun V3 X3 hV3J hV3r hV342 hV343 => ?_)
      refine hh m5 V3 (b + 1) cm2 _ sc2 [a + 2] _ X3 ⟨rfl, ⟨by omega, by omega⟩, fun h' hm => (by cases hm), hwd.2.2.1⟩ (fun h hm => by
        have : h = a + 2 := by simpa using hm
        omega) ⟨by rw [e46]; omega, k16, by rw [hV3r 45 _ (Or.inl (by decide))]; exact V245, hV343⟩ (fun C P R J H lst fl scn fi hx h0 hhk => ⟨fun u u1 u2 => by omega, fun hz hc => ?_⟩)
      have vk : ∀ k y, 33 ≤ k → k ≤ 38 → V3.2.2.1 k y = w5.2.2.1 k y := fun k y k1 k2 => by
        rw [hV3r k y (Or.inl (by omega)), hV2.2.2.1 k y (Or.inl (by omega))]
      obtain ⟨p0, p1, p2, p3⟩ := pat m5 V3 (b + 1) q _ sc2 cm2 [a + 2] C P R J H lst fi (Nat.le_refl _) (by rw [e39]; exact Nat.le_refl _) (fun h hm => Or.inl (by simpa using hm)) (fun _ _ => rfl) (fun k y k1 k2 _ => vk k y k1 k2) (fun y _ => by rw [hV3J, hV2.2.1]) hx.1
      have R40 := FNx_R fi (j := 40) (k := Q 46) (by omega) ⟨Nat.le_refl _, by rw [e46]; omega⟩
      have R42 := FNx_R fi (j := 42) (k := Q 46) (by omega) ⟨Nat.le_refl _, by rw [e46]; omega⟩
      refine zr_pn (by omega) (by omega) p0 p1 (hhk _ List.mem_cons_self) p2 hf p3 ?_ ?_ hz hc
      · rw [R40]
        show (V3.2.2.1 40 (Q 46)).toInt = _
        rw [hV3r 40 _ (Or.inl (by decide)), V240]
        exact I_ti (by omega) (by have := hX.2.2.1.1.1.2.2.2.2.2.2; rw [e39] at this; omega)
      · rw [R42]
        show (V3.2.2.1 42 (Q 46)).toInt = _
        rw [hV342]; rfl
    · exact absurd (kA c (by omega) h6) k19
  · 
    rcases hg with ⟨h19, rfl, rfl⟩ | ⟨gx, kg, h19, h6, hw⟩
    · exact absurd (k38.symm.trans k19) (by decide)
    · have hw1 := (RW_hdK (XP_bdK f o 3) hw).1
      unfold HDc at hw1
      cases d with
      | zero => exact pp_nr
      | succ d =>
      have XA : XTF m0 w0 K T nm Nk false [] lo (i + 1) a (b + 1) cm cm2 q q Q (qst (qst Q 46 (Q 46 + 1)) 39 pj) (e :: t) sc2 m w m5 (adv V2 i) := XTF_ad X2 (by omega) (by rw [k19]; decide)
      refine gd_all c IE hw hxd hs4 ⟨by rw [k38]; exact ⟨rfl, by decide, by decide, by decide⟩, by rw [k38]; decide, by omega⟩ hC5 XA.2.2.1.1 e56 (by have := XA.2.2.2.1; have := XTF_len XA; omega) hn h19 (fun m6 w6 b6 cm6 Q6 sc6 hG same hab6 hwd6 hcd => ?_)
      have X4 := XTF_tr XA hG
      refine rd_43 c X4 ⟨Nat.le_refl _, by omega⟩ hmT (fun V3 X3 hV3J hV3r hV342 hV343 => ?_)
      rw [e32] at hV342
      have le6 := hG.2.2.2.2.2.2.1.2.1
      have l46 := le6 46 (by decide)
      have l39 := le6 39 (by decide)
      rw [e46] at l46
      rw [e39] at l39
      have b64 : b6 ≤ 23990 := hG.2.1.1.2.2.1.2.2
      have mk6 : ∀ j, j < b + 1 → m6.2.2.1 23 j = m5.2.2.1 23 j := hG.2.2.2.2.2.1.2.2.1
      have rk6 : ∀ k y, grp k ≠ 0 → y < (qst (qst Q 46 (Q 46 + 1)) 39 pj) (grp k) → w6.2.2.1 k y = V2.2.2.1 k y := fun k y k1 k2 => hG.2.2.2.2.2.2.1.1.2.1 k y k1 k2
      have six : ∀ k, 40 ≤ k → k ≤ 45 → grp k = 46 := fun k k1 k2 => by unfold grp; rw [if_neg (by omega), if_neg (by omega), if_pos ⟨k1, k2⟩]
      have V3o : ∀ k, 40 ≤ k → k ≤ 45 → k ≠ 42 → k ≠ 43 → V3.2.2.1 k (Q 46) = V2.2.2.1 k (Q 46) := fun k k1 k2 k3 k4 => by
        rw [hV3r k _ (Or.inl ⟨k3, k4⟩)]
        exact rk6 k _ (by rw [six k k1 k2]; decide) (by rw [six k k1 k2, e46]; omega)
      refine hh m6 V3 b6 cm6 Q6 sc6 [b + 1 + 2, a + 2] _ X3 ⟨rfl, ⟨by omega, by omega⟩, fun h' hm => by
        have : h' = a + 2 := by simpa using hm
        omega, ?_⟩ (fun h hm => by
        have : h = b + 1 + 2 ∨ h = a + 2 := by simpa using hm
        omega) ⟨by omega, k16, by rw [V3o 45 (by decide) (by decide) (by decide) (by decide)]; exact V245, hV343⟩ (fun C P R J H lst fl scn fi hx h0 hhk => ?_)
      · rw [hwd6.2.2]
        exact ⟨rfl, ⟨by omega, by omega⟩, fun h' hm => (by cases hm), by rw [mk6 (a + 2) (by omega)]; exact hwd.2.2.1⟩
      · have sO : Onm nm sc6 = Onm nm sc2 := by unfold Onm; rw [same]
        have hpx : HPX nm sc2 H := by
          obtain ⟨W, g5, -⟩ := hG.2.2.2.2.1
          exact HPX_mo g5.1 hx.1
        obtain ⟨p0, p1, p2, p3⟩ := pat m6 V3 b6 s Q6 sc6 cm6 [b + 1 + 2, a + 2] C P R J H lst fi (by omega) l39 (fun h hm => by
          have : h = b + 1 + 2 ∨ h = a + 2 := by simpa using hm
          omega) (fun j hj => mk6 j (by omega)) (fun k y k1 k2 y2 => by
          have gk : grp k = 39 := by unfold grp; rw [if_neg (by omega), if_pos ⟨k1, k2⟩]
          rw [hV3r k y (Or.inl (by omega)), rk6 k y (by rw [gk]; decide) (by rw [gk, e39]; exact y2), hV2.2.2.1 k y (Or.inl (by omega))]) (fun y y2 => by
          rw [hV3J, hG.2.2.2.2.2.2.1.1.2.2 34 y (Or.inr (by rw [e39]; exact y2))]
          show V2.2.2.2 34 y = _
          rw [hV2.2.1]) hpx
        have nf : ∀ j, b < j → j ≠ b + 1 + 2 → j ∉ [b + 1 + 2, a + 2] := fun j j1 j2 y => by
          have : j = b + 1 + 2 ∨ j = a + 2 := by simpa using y
          omega
        have c21 := C_of fi (j := b + 1) ⟨by omega, by omega⟩ (nf _ (by omega) (by omega)) hwd6.1
        have cl := C_of fi (j := b + 1 + 1) ⟨by omega, by omega⟩ (nf _ (by omega) (by omega)) hwd6.2.1
        have lenE := Onm_sub (nm := nm) (m := m) (m2 := m5) (sc := e :: t) (sc2 := sc2) (by obtain ⟨W, g5, -⟩ := X2.2.2.2.2.1; exact (g5.2 rfl).2) hC.1.2.1.2.2.1 hC5.1.2.1.2.2.1 hC5.1.2.1.2.2.2.1
        have R40 := FNx_R fi (j := 40) (k := Q 46) (by omega) ⟨Nat.le_refl _, by omega⟩
        have R42 := FNx_R fi (j := 42) (k := Q 46) (by omega) ⟨Nat.le_refl _, by omega⟩
        have fd : FNd w0 fof cvr C P R J m6 w6 (b + 1 + 3) b6 q s (qst (qst Q 46 (Q 46 + 1)) 39 pj) Q6 lst [] := by
          refine FNx_sub fi ⟨by omega, Nat.le_refl _⟩ ⟨Nat.le_refl _, Nat.le_refl _⟩ X2.2.2.2.2.2.2.1.2.1 QLE_rf (fun _ _ _ => rfl) (fun _ _ _ _ _ _ => rfl) ⟨fun k y k1 k2 k3 k4 k5 => hV3r k y ?_, fun y _ _ => by rw [hV3J]⟩ (fun y y1 y2 => ?_) (fun j hj => Or.inl ?_) (fun j hj => Or.inl ?_)
          · by_cases z : k = 42 ∨ k = 43
            · have : (qst (qst Q 46 (Q 46 + 1)) 39 pj) 46 ≤ y := by rcases z with rfl | rfl <;> exact k4
              rw [e46] at this
              exact Or.inr (by omega)
            · exact Or.inl (by omega)
          · have e30 : A V3 30 y = A w6 30 y := congrArg Int32.toInt (hV3r 30 y (Or.inl (by decide)))
            rw [e30]
          · have : j = b + 1 + 2 ∨ j = a + 2 := by simpa using hj
            omega
          · have : j = Q 46 := by simpa using hj
            rw [e46]; omega
        obtain ⟨g1, g2⟩ := hcd C P R J H lst fd hx
        refine ⟨g1, fun hz hc => ?_⟩
        have r32 := g2 kd (Q 46) scn hc
        rw [e32] at r32
        refine zr_pg (g := Q 32) (fl := fl) (by omega) (by omega) p0 p1 (hhk _ (by simp)) p2 hf p3 ?_ ?_ c21 ?_ (hhk _ (by simp)) h0 hz r32
        · rw [R40]
          show (V3.2.2.1 40 (Q 46)).toInt = _
          rw [V3o 40 (by decide) (by decide) (by decide) (by decide), V240]
          exact I_ti (by omega) (by have := hX.2.2.1.1.1.2.2.2.2.2.2; rw [e39] at this; omega)
        · rw [R42]
          show (V3.2.2.1 42 (Q 46)).toInt = _
          rw [hV342]
          exact I_ti (by omega) (by have := (XRS_q hR).2; omega)
        · rw [cl]
          exact lenE
end
end
section
set_option maxRecDepth 100000
def FGD (nm : Nat → Nat) (cm2 b b' : Nat) (Q2 Q3 : Nat → Nat) (sc2 sc3 : SCT) (m3 w3 : MS) : Prop := ∀ (C : Nat → Int) (R : Nat → Nat → Int) (J : Nat → Int64) (H : List Nat) (y : Option (Nat × Nat × Nat)), (∀ j, b ≤ j → j < b' → C j = A m3 23 j) → (Q2 32 < Q3 32 → R 23 (Q2 32) = A w3 23 (Q2 32) ∧ R 25 (Q2 32) = A w3 25 (Q2 32)) → HNX nm sc2 cm2 H → CRe C R J y b' (Q3 32) H (Onm nm sc3) → CRe C R J y b (Q2 32) H (Onm nm sc2)
section
variable {α β : Type} {m0 w0 m w m2 w2 m3 w3 v u : MS} {K nm Nk W W2 : Nat → Nat} {N T a b c cm cm2 q r lo p : Nat} {Q Q2 Q3 : Nat → Nat} {sc sc2 sc3 t t2 : SCT} {e e2 : List Nat × List Nat × Nat} {g : Bool} {L : List Nat} {fc : MS → Unit → Option (MS × α)} {RR : MS → α → MS → β → Prop} {F : MS → Unit → Option (MS × β)}
theorem fg_pf (c : CTZ m0 w0 K T nm Nk) (h : XTF m0 w0 K T nm Nk g L lo p a b cm cm2 q r Q Q2 (e :: t) sc2 m w m2 w2)
    (hend : ∀ m3 w3 b' Q3 sc3, XTF m0 w0 K T nm Nk g L lo p a b' cm cm2 q r Q Q3 (e :: t) sc3 m w m3 w3 → (hdS sc3).1 = e.1 → QRR Q2 w2 w3 → b ≤ b' → (∀ j, j < b → m3.2.2.1 23 j = m2.2.2.1 23 j) → (∀ k, k ≠ 23 → m3.2.2.1 k = m2.2.2.1 k) → (Q2 32 ≤ Q3 32 ∧ ∀ k, k ≠ 32 → Q3 k = Q2 k) → (∀ cm H, HNX nm sc3 cm H → HNX nm sc2 cm H) → FGD nm cm2 b b' Q2 Q3 sc2 sc3 m3 w3 → PP RR (fc m3 ()) (F w3 ())) : PP RR (bnd (jm_Cm_forget N m2 (I (tot (e :: t) : Nat))) fc) (bnd (fm_M_unbind N w2 (I (e.1.length : Nat))) F) := by
  obtain ⟨a1, a2, a3, a4, ⟨W, a5, a6⟩, a7, a8, a9, a10⟩ := h
  have nx := (a5.2 rfl).2
  cases sc2 with
  | nil => exact nx.elim
  | cons e2 t2 =>
  obtain ⟨n1, n2, n3⟩ := nx
  have bt : tot t2 = tot t := (BDs_len n2).2
  have hR2 := a3.1
  refine fg_op c a2 hR2 n1 bt (fun m3 w3 b' Q3 sc3 hC3 hR3 hQ3 wr hcase => ?_)
  rcases hcase with ⟨rfl, rfl, rfl, rfl, rfl, ee⟩ | ⟨hl, rfl, rfl, rfl, rfl, h16, h23, h25, tk⟩
  · exact hend m3 w3 b' Q3 (e2 :: t2) ⟨a1, a2, a3, a4, ⟨W, a5, a6⟩, a7, a8, a9, a10⟩ ee QRR_rf (Nat.le_refl _) (fun _ _ => rfl) (fun _ _ => rfl) ⟨Nat.le_refl _, fun _ _ => rfl⟩ (fun _ _ h => h) (fun C R J H y _ _ _ h => h)
  · have mo : ∀ j, j < b → (upI (ptcs m2 b [16, I ((e2.1.length - e.1.length : Nat) : Int)]) 706 (I (tot (e :: t) : Nat))).2.2.1 23 j = m2.2.2.1 23 j := fun j hj => ptcs_o (Or.inl hj)
    have mr : ∀ k, k ≠ 23 → (upI (ptcs m2 b [16, I ((e2.1.length - e.1.length : Nat) : Int)]) 706 (I (tot (e :: t) : Nat))).2.2.1 k = m2.2.2.1 k := fun k hk => ptcs_r hk
    have mi : ∀ k, k ≠ 441 → k ≠ 706 → (upI (ptcs m2 b [16, I ((e2.1.length - e.1.length : Nat) : Int)]) 706 (I (tot (e :: t) : Nat))).1 k = m2.1 k := fun k h1 h2 => by rw [upI_ne h2, ptcs_i h1]
    have w0' : (upI (ptcs m2 b [16, I ((e2.1.length - e.1.length : Nat) : Int)]) 706 (I (tot (e :: t) : Nat))).2.2.1 23 b = 16 := ptcs_at (l := [16, I ((e2.1.length - e.1.length : Nat) : Int)]) (k := 0) rfl
    have w1' : (upI (ptcs m2 b [16, I ((e2.1.length - e.1.length : Nat) : Int)]) 706 (I (tot (e :: t) : Nat))).2.2.1 23 (b + 1) = I ((e2.1.length - e.1.length : Nat) : Int) := ptcs_at (l := [16, I ((e2.1.length - e.1.length : Nat) : Int)]) (k := 1) rfl
    generalize upI (ptcs m2 b [16, I ((e2.1.length - e.1.length : Nat) : Int)]) 706 (I (tot (e :: t) : Nat)) = Z at hC3 mo mr mi w0' w1'
    have le2 : e2.1.length ≤ 4000 := by
      have := a2.1.2.1.2.2.2.1
      have et : tot (e2 :: t2) = tot t2 + e2.1.length := rfl
      omega
    have q32 : Q 32 ≤ Q2 32 := a8.2.1 32 (by decide)
    refine hend Z w3 (b + 2) (qst Q2 32 (Q2 32 + 1)) ((e.1, e2.2) :: t2) ⟨⟨a1.1, by omega, a1.2.2⟩, hC3, ⟨hR3, by rw [qst_no (by decide)]; exact a3.2⟩, ?_, ⟨W, ⟨⟨a5.1.1, a5.1.2⟩, fun _ => ⟨(a5.2 rfl).1, List.prefix_rfl, n2, fun x hx => Or.inl hx⟩⟩, by rw [mr 42 (by decide)]; exact a6⟩, ⟨fun k k1 k2 => (mi k k1 k2).trans (a7.1 k k1 k2), fun k k1 k2 k3 => by rw [mr k k1]; exact a7.2.1 k k1 k2 k3, fun j hj => (mo j (by omega)).trans (a7.2.2.1 j hj), fun k j k1 k2 k3 => by rw [mr k (by omega)]; exact a7.2.2.2.1 k j k1 k2 k3, fun j hj => by rw [mr 40 (by decide)]; exact a7.2.2.2.2.1 j hj, fun j hj => by rw [mr 41 (by decide)]; exact a7.2.2.2.2.2 j hj⟩, ⟨QRR_tr a8.1 hQ3 a8.2.1, QLE_st a8.2.1 (by omega), by rw [qst_no (by decide), qst_no (by decide), qst_no (by decide)]; exact a8.2.2⟩, fun z => rfl, fun n hn => by rw [qst_at]; have := a10 n hn; omega⟩ rfl hQ3 (by omega) mo mr ⟨by rw [qst_at]; omega, fun k hk => qst_no hk⟩ (fun _ _ h => h) (fun C R J H y hc hr hx hk => ?_)
    · show tot t2 + e.1.length ≤ _
      have : tot (e :: t) = tot t + e.1.length := rfl
      omega
    · obtain ⟨r23, r25⟩ := hr (by rw [qst_at]; omega)
      obtain ⟨b1, b2⟩ := XB c.2.2.1 a2 hR2 hx h16
      obtain ⟨d, hd⟩ := hk
      rw [qst_at] at hd
      have l2 : (Onm nm (e2 :: t2)).length = e2.1.length := by unfold Onm; rw [List.length_map]; rfl
      have tk2 : (Onm nm (e2 :: t2)).take e.1.length = Onm nm ((e.1, e2.2) :: t2) := by
        show (e2.1.map nm).take e.1.length = e.1.map nm
        rw [← List.map_take, tk]
      have c0 : C b = 16 := by
        rw [hc b (Nat.le_refl _) (by omega)]
        show (Z.2.2.1 23 b).toInt = _
        rw [w0']; rfl
      have c1 : C (b + 1) = ((e2.1.length - e.1.length : Nat) : Int) := by
        rw [hc (b + 1) (by omega) (by omega)]
        show (Z.2.2.1 23 (b + 1)).toInt = _
        rw [w1']
        exact I_ti (by omega) (by omega)
      exact cr_1 b1 b2 ⟨d, Or.inr (Or.inr (Or.inr (Or.inr (Or.inr (Or.inr (Or.inr (Or.inr (Or.inr (Or.inr (Or.inr (Or.inr (Or.inr (Or.inr (Or.inr (Or.inr (Or.inr (Or.inr (Or.inl ⟨r23.trans h23, c0, e.1.length, r25.trans h25, by rw [l2]; omega, by rw [l2]; exact c1, by rw [tk2]; exact hd⟩))))))))))))))))))⟩
end
end
section
set_option maxRecDepth 100000
section
variable {α β : Type} {m0 w0 m w m2 w2 m3 w3 v u w1 mS wS V : MS} {K nm Nk W W2 : Nat → Nat} {N T D d o a a0 b b0 c cm cm0 cm2 cm3 q q0 r s lo lo0 mid hi i j f f2 n k kk kd p p2 σ tk x xa xb xc xd gx kg M m1 lv y kf : Nat} {Q Q0 Q2 Q3 Q4 : Nat → Nat} {sc sc0 sc2 sc3 t t2 : SCT} {e e2 : List Nat × List Nat × Nat} {g g2 lst l2 : Bool} {L L1 L2 S : List Nat} {l : List Int32} {idc fof cvr : Int → Int → Int} {z : Unit} {rt v1 v2 v3 v4 v5 x2 x3 x4 t4 t5 xw : Int32} {fc : MS → Int32 → Option (MS × α)} {RR : MS → α → MS → Int32 → Prop} {G : MS → Int32 → Int32 → Int32 → Int32 → Int32 → Option (MS × Int32)}
theorem hdg_c (c : CTZ m0 w0 K T nm Nk) (IE : HXE N m0 w0 K T nm Nk fof cvr f) (hn : n ≤ 8015) (h18 : A m0 18 n = 0) (h19 : A m0 19 n = ((gx : Nat) : Int)) (hw : RWcK m0 1 26 (XPcK m0 f o 3) kg gx lo mid xa xd q s) (hxd : xd ≤ 8015) (hs4 : s ≤ 400) (k38 : K mid = 38) (hmT : mid < T) (hC : XCS m0 nm m a cm sc false) (hR : XRS w0 T w lo Q sc) (hq : Q 56 = q) (htot : tot sc + (mid - lo) ≤ 4000 ∧ sc.length ≤ o + 1)
    (hh : ∀ m5 w5 b cm2 Q2 sc2 fs v8, XTF m0 w0 K T nm Nk false [] lo (mid + 1) a b cm cm2 q s Q Q2 sc sc2 m w m5 w5 → HKc m5 fs v8 → (∀ h, h ∈ fs → a ≤ h ∧ h < b) → (Q 46 < Q2 46 ∧ Q 46 < 16000 ∧ w5.2.2.1 45 (Q 46) = -1 ∧ w5.2.2.1 43 (Q 46) = I (Q2 32 : Nat)) → HDG w0 nm fof cvr 2 a b cm2 q s (Q 46) Q Q2 sc sc2 m5 w5 fs → PP RR (fc m5 v8) (kpC N (krc_M_behind N (d + 1)) G w5 1 x2 x3 x4 (I (Q 46 : Nat)) (I ((hdS sc).1.length : Nat)))) : PP RR (bnd (jm_Cm_tries N (jrc_Cm_fun N D) m v1 (I (n : Nat))) fc) (kb_M_parts0_19 N (krc_M_behind N (d + 1)) G w 1 x2 x3 x4 1) := by
  have tt4 := c.2.1.1.1
  obtain ⟨e, t, rfl⟩ := PRS_ne hR.1
  have hw1 := (RW_hdK (XP_bdK f o 3) hw).1
  unfold HDc at hw1
  refine pt_beg hR (fun V k16 hV hQV hVJ hVr hV44 hV45 hV41 hVi => ?_)
  rw [show decide ((1 : Int32) = 0) = false from rfl, br_fq]
  have q46 : ∀ k, k ≠ 46 → qst Q 46 (Q 46 + 1) k = Q k := fun k hk => qst_no hk
  have X0 : XTF m0 w0 K T nm Nk false [] lo lo a a cm cm q q Q (qst Q 46 (Q 46 + 1)) (e :: t) (e :: t) m w m V := XTF_st hC hq (by decide) (by omega) hV hQV
  have e46 : (qst Q 46 (Q 46 + 1)) 46 = Q 46 + 1 := qst_at
  have e32 : (qst Q 46 (Q 46 + 1)) 32 = Q 32 := q46 32 (by decide)
  have e56 : (qst Q 46 (Q 46 + 1)) 56 = q := by rw [q46 56 (by decide)]; exact hq
  have lk : (hdS (e :: t)).1.length = e.1.length := rfl
  rw [lk] at hh
  refine hd_no (XCS_fr hC) hn h18 ?_
  refine rd_40c (by omega) (by decide) (fun V2 hV2 => ?_)
  have X2 : XTF m0 w0 K T nm Nk false [] lo lo a a cm cm q q Q (qst Q 46 (Q 46 + 1)) (e :: t) (e :: t) m w m V2 := W46_rw X0 hV2 (by omega) (Nat.le_refl _)
  have hR2 := X2.2.2.1.1
  have V245 : V2.2.2.1 45 (Q 46) = -1 := by
    rw [hV2.2.2.1 45 _ (Or.inl (by decide))]
    exact hV45
  refine gd_all c IE hw hxd hs4 ⟨by rw [k38]; exact ⟨rfl, by decide, by decide, by decide⟩, by rw [k38]; decide, by omega⟩ hC hR2 e56 (by omega) hn h19 (fun m6 w6 b6 cm6 Q6 sc6 hG same hab6 hwd6 hcd => ?_)
  have X4 := XTF_tr X2 hG
  refine rd_43 c X4 ⟨Nat.le_refl _, by omega⟩ hmT (fun V3 X3 hV3J hV3r hV342 hV343 => ?_)
  rw [e32] at hV342
  have le6 := hG.2.2.2.2.2.2.1.2.1
  have l46 := le6 46 (by decide)
  rw [e46] at l46
  have b64 : b6 ≤ 23990 := hG.2.1.1.2.2.1.2.2
  have rk6 : ∀ k y, grp k ≠ 0 → y < (qst Q 46 (Q 46 + 1)) (grp k) → w6.2.2.1 k y = V2.2.2.1 k y := fun k y k1 k2 => hG.2.2.2.2.2.2.1.1.2.1 k y k1 k2
  refine hh m6 V3 b6 cm6 Q6 sc6 [a + 2] _ X3 ⟨rfl, ⟨by omega, by omega⟩, fun h' hm => (by cases hm), hwd6.2.2⟩ (fun h hm => by
    have : h = a + 2 := by simpa using hm
    omega) ⟨by omega, k16, by rw [hV3r 45 _ (Or.inl (by decide)), rk6 45 _ (by decide) (by show Q 46 < (qst Q 46 (Q 46 + 1)) 46; omega)]; exact V245, hV343⟩ (fun C P R J H lst fl scn fi hx h0 hhk => ?_)
  have sO : Onm nm sc6 = Onm nm (e :: t) := by unfold Onm; rw [same]
  have nf : ∀ j, j ≠ a + 2 → j ∉ [a + 2] := fun j j1 y => j1 (by simpa using y)
  have c21 := C_of fi (j := a) ⟨by omega, by omega⟩ (nf _ (by omega)) hwd6.1
  have cl := C_of fi (j := a + 1) ⟨by omega, by omega⟩ (nf _ (by omega)) hwd6.2.1
  rw [Int32.sub_self] at cl
  have R42 := FNx_R fi (j := 42) (k := Q 46) (by omega) ⟨Nat.le_refl _, by omega⟩
  have fd : FNd w0 fof cvr C P R J m6 w6 (a + 3) b6 q s (qst Q 46 (Q 46 + 1)) Q6 lst [] := by
    refine FNx_sub fi ⟨by omega, Nat.le_refl _⟩ ⟨Nat.le_refl _, Nat.le_refl _⟩ X2.2.2.2.2.2.2.1.2.1 QLE_rf (fun _ _ _ => rfl) (fun _ _ _ _ _ _ => rfl) ⟨fun k y k1 k2 k3 k4 k5 => hV3r k y ?_, fun y _ _ => by rw [hV3J]⟩ (fun y y1 y2 => ?_) (fun j hj => Or.inl ?_) (fun j hj => Or.inl ?_)
    · by_cases z : k = 42 ∨ k = 43
      · have : (qst Q 46 (Q 46 + 1)) 46 ≤ y := by rcases z with rfl | rfl <;> exact k4
        rw [e46] at this
        exact Or.inr (by omega)
      · exact Or.inl (by omega)
    · have e30 : A V3 30 y = A w6 30 y := congrArg Int32.toInt (hV3r 30 y (Or.inl (by decide)))
      rw [e30]
    · have : j = a + 2 := by simpa using hj
      omega
    · have : j = Q 46 := by simpa using hj
      rw [e46]; omega
  obtain ⟨g1, g2⟩ := hcd C P R J H lst fd hx
  refine ⟨g1, fun hz hc => ?_⟩
  rw [sO] at hc
  have r32 := g2 2 (Q 46) scn (by rw [sO]; exact hc)
  rw [e32] at r32
  refine zr_if (g := Q 32) (fl := fl) (by omega) (by omega) rfl ?_ c21 cl (hhk _ (by simp)) h0 hz r32
  rw [R42]
  show (V3.2.2.1 42 (Q 46)).toInt = _
  rw [hV342]
  exact I_ti (by omega) (by have := (XRS_q hR2).2; omega)
end
end
section
set_option maxRecDepth 100000
def optI : Option Nat → Int32
  | none => -1
  | some k => I (k : Nat)
section
variable {α β : Type} {m0 w0 m w m2 w2 m3 w3 v u w1 mS wS V Z : MS} {K nm Nk W W2 : Nat → Nat} {N T D d o a a0 b b' b0 c cm cm0 cm2 cm3 q q0 r s lo lo0 mid hi i j f f2 n k kk kd p p2 σ tk x xa xb xc xd gx kg kb mb nd fr M m1 lv y kf : Nat} {Q Q0 Q1 Q2 Q3 Q4 : Nat → Nat} {sc sc0 sc2 sc3 t t0 t2 : SCT} {e e0 e2 : List Nat × List Nat × Nat} {g g2 lst l2 : Bool} {L L1 L2 Lr S hs fs : List Nat} {fst last : Option Nat} {l : List Int32} {idc fof cvr : Int → Int → Int} {z : Unit} {rt v1 v2 v3 v4 v5 v8 x1 x2 x3 x4 t4 t5 xw : Int32} {fc : MS → Int32 → Option (MS × α)} {RR : MS → α → MS → Int32 → Prop} {G : MS → Int32 → Int32 → Int32 → Int32 → Int32 → Option (MS × Int32)}
theorem XTF_cz (h : XTF m0 w0 K T nm Nk g L lo hi a b cm cm2 q r Q Q2 sc sc2 m w m2 w2) (hC : XCS m0 nm Z b' cm2 sc2 g) (hb : b ≤ b') (hi' : ∀ k, k ≠ 441 → Z.1 k = m2.1 k) (hr : ∀ k, k ≠ 23 → Z.2.2.1 k = m2.2.2.1 k) (hw : ∀ j, j < a → Z.2.2.1 23 j = m2.2.2.1 23 j) : XTF m0 w0 K T nm Nk g L lo hi a b' cm cm2 q r Q Q2 sc sc2 m w Z w2 := by
  obtain ⟨a1, a2, a3, a4, ⟨W, a5, a6⟩, a7, a8, a9, a10⟩ := h
  exact ⟨⟨a1.1, by omega, a1.2.2⟩, hC, a3, a4, ⟨W, a5, by rw [hr 42 (by decide)]; exact a6⟩, ⟨fun k k1 k2 => (hi' k k1).trans (a7.1 k k1 k2), fun k k1 k2 k3 => by rw [hr k k1]; exact a7.2.1 k k1 k2 k3, fun j hj => (hw j hj).trans (a7.2.2.1 j hj), fun k j k1 k2 k3 => by rw [hr k (by omega)]; exact a7.2.2.2.1 k j k1 k2 k3, fun j hj => by rw [hr 40 (by decide)]; exact a7.2.2.2.2.1 j hj, fun j hj => by rw [hr 41 (by decide)]; exact a7.2.2.2.2.2 j hj⟩, a8, a9, a10⟩
theorem XTF_hx (h : XTF m0 w0 K T nm Nk g L lo hi a b cm cm2 q r Q Q2 sc sc2 m w m2 w2) {H : List Nat} (k : HNX nm sc2 cm2 H) : HNX nm sc cm H := by
  obtain ⟨a1, a2, a3, a4, ⟨W, a5, a6⟩, a7⟩ := h
  exact HNX_mo a5.1 a1.2.2.1 k
theorem XTF_tot (h : XTF m0 w0 K T nm Nk g L lo hi a b cm cm2 q r Q Q2 sc sc2 m w m2 w2) (hs : (hdS sc2).1 = (hdS sc).1) : tot sc2 = tot sc ∧ Onm nm sc2 = Onm nm sc := by
  obtain ⟨a1, a2, a3, a4, ⟨W, a5, a6⟩, a7⟩ := h
  refine ⟨?_, by unfold Onm; rw [hs]⟩
  have nx := (a5.2 rfl).2
  cases sc with
  | nil =>
    cases sc2 with
    | nil => rfl
    | cons e t => exact nx.elim
  | cons e t =>
    cases sc2 with
    | nil => exact nx.elim
    | cons e2 t2 =>
      have h1 := (BDs_len nx.2.1).2
      have hs : e2.1 = e.1 := hs
      show tot t2 + e2.1.length = tot t + e.1.length
      rw [h1, hs]
def PFR (nd : Nat) (last : Option Nat) (a q : Nat) (Q Q9 : Nat → Nat) (m w m9 w9 : MS) : Prop := (∀ j, j < a → m9.2.2.1 23 j = m.2.2.1 23 j) ∧ (∀ k u, 30 ≤ k → k ≤ 32 → u < q → m9.2.2.1 k u = m.2.2.1 k u) ∧ (∀ k n, grp k ≠ 0 → n < Q (grp k) → (k = 28 → n ≠ nd) → (k = 45 → n ∉ last.toList) → w9.2.2.1 k n = w.2.2.1 k n) ∧ (∀ n, n < Q 39 → w9.2.2.2 34 n = w.2.2.2 34 n) ∧ QLE Q Q9
set_option maxHeartbeats 1000000 in
theorem part_b {Gc : MS → Int32 → Int32 → Int32 → Int32 → Int32 → Option (MS × Int32)} {RR : MS → Int32 → MS → Int32 → Prop} (c : CTZ m0 w0 K T nm Nk) (IE : HXE N m0 w0 K T nm Nk fof cvr f) (h0 : XTF m0 w0 K T nm Nk false L lo0 lo a0 a cm0 cm q0 q Q0 Q (e0 :: t0) sc mS wS m w) (hsame : (hdS sc).1 = e0.1) (hnd : Q0 32 ≤ nd ∧ nd < Q 32) (hlast : ∀ l, last = some l → Q0 46 ≤ l ∧ l < Q 46) (hfl : fst = none ↔ last = none) (hk5 : HKc m hs v5) (hhs : ∀ h, h ∈ hs → h < a) (hH : XTF m0 w0 K T nm Nk false [] lo (mid + 1) a b cm cm2 q s Q Q2 sc sc2 m w m2 w2) (hfs : HKc m2 fs v8) (hfr : ∀ h, h ∈ fs → a ≤ h ∧ h < b) (hk46 : Q 46 < Q2 46 ∧ Q 46 < 16000 ∧ w2.2.2.1 45 (Q 46) = -1 ∧ w2.2.2.1 43 (Q 46) = I (Q2 32 : Nat)) (hG : HDG w0 nm fof cvr kd a b cm2 q s (Q 46) Q Q2 sc sc2 m2 w2 fs) (hn : n ≤ 8015) (h20 : A m0 20 n = ((mb : Nat) : Int)) (hB : RWcK m0 1 26 (XPcK m0 f o 3) kb mb (mid + 1) hi xc xd s r) (hxd : xd ≤ 8015) (hr4 : r ≤ 400) (hcl : NEC (K hi) ∧ K hi ≠ 26 ∧ hi ≤ T) (htot : tot sc2 + (hi - (mid + 1)) ≤ 4000 ∧ sc2.length ≤ o + 1) (hkd : (kd = 1 ∧ v3 = 15) ∨ (kd = 2 ∧ v3 = 0) ∨ (kd = 3 ∧ v3 = 33)) (hRT : RTd w (nd + 1) fr true (Q 32) (A w 28 nd) Lr)
    (hh : ∀ m9 w9 a2 cm9 Q9 sc9 L2 hn, XTF m0 w0 K T nm Nk false (L ++ L2) lo0 hi a0 a2 cm0 cm9 q0 r Q0 Q9 (e0 :: t0) sc9 mS wS m9 w9 → (hdS sc9).1 = e0.1 → HKc m9 (hn :: hs) (I (hn : Nat)) → (a ≤ hn ∧ hn < a2) → PFR nd last a q Q Q9 m w m9 w9 → (Q 46 < Q9 46 ∧ w9.2.2.1 45 (Q 46) = -1 ∧ ∀ l, last = some l → w9.2.2.1 45 l = I (Q 46 : Nat)) → (∃ fr, RTd w9 (nd + 1) fr true (Q9 32) (A w9 28 nd) (L2 ++ Lr)) → (∀ n, n ∈ L2 → Q 32 ≤ n ∧ A w9 30 n = 0) → (∀ H, HNX nm sc9 cm9 H → HNX nm sc cm H) → PTo w0 nm fof cvr lst L2 kd σ nd a a2 q r Q Q9 (e0 :: t0) cm9 sc9 m9 w9 hn (Q 46) → PP RR (ck (inb (I (n : Nat)) 8016) (Gc m9 v2 v3 (lsI lst) (I (hn : Nat)) (m9.2.2.1 21 n))) (kb_M_parts0_214 N (krc_M_behind N (d + 1)) G w9 x1 (I (nd : Nat)) (optI (some (fst.getD (Q 46)))) (I (Q 46 : Nat)))) : PP RR (br (decide (v3 = 0)) (jb_Cm_parts_38 N (jrc_Cm_fun N D) Gc m2 v2 v3 (lsI lst) v5 (I (n : Nat)) (m.1 706) v8) (bnd (jm_Co_put N m2 v3) (fun u25 _ => jb_Cm_parts_38 N (jrc_Cm_fun N D) Gc u25 v2 v3 (lsI lst) v5 (I (n : Nat)) (m.1 706) v8))) (kpC N (krc_M_behind N (d + 1)) G w2 x1 (I (nd : Nat)) (optI fst) (optI last) (I (Q 46 : Nat)) (I ((hdS sc).1.length : Nat))) := by
  have tt4 := c.2.1.1.1
  have hC2 := hH.2.1
  have b24 : b ≤ 23990 := hC2.1.2.2.1.2.2
  have X1 := XTF_tr h0 hH
  obtain ⟨ts, os⟩ := XTF_tot h0 hsame
  have m706 : m.1 706 = I (tot (e0 :: t0) : Nat) := by rw [h0.2.1.1.2.1.2.2.1, ts]
  have e1l : (hdS sc).1.length = e0.1.length := by rw [hsame]
  have oN : Onm nm sc = Onm nm (e0 :: t0) := os
  rw [m706, e1l]
  have leH := hH.2.2.2.2.2.2.1.2.1
  have le0 := h0.2.2.2.2.2.2.1.2.1
  have le0H := X1.2.2.2.2.2.2.1.2.1
  have H32 := leH 32 (by decide)
  have H46 := leH 46 (by decide)
  have Z32 := le0 32 (by decide)
  have a0a := h0.1
  have aH := hH.1
  have q16 : Q 32 ≤ 24000 := (XRS_q h0.2.2.1.1).2
  have go : ∀ l : List Int32, ((kd = 1 ∧ l = [15]) ∨ (kd = 2 ∧ l = []) ∨ (kd = 3 ∧ l = [33])) → XCS m0 nm (ptcs m2 b l) (b + l.length) cm2 sc2 false → PP RR (jb_Cm_parts_38 N (jrc_Cm_fun N D) Gc (ptcs m2 b l) v2 v3 (lsI lst) v5 (I (n : Nat)) (I (tot (e0 :: t0) : Nat)) v8) (kpC N (krc_M_behind N (d + 1)) G w2 x1 (I (nd : Nat)) (optI fst) (optI last) (I (Q 46 : Nat)) (I (e0.1.length : Nat))) := fun l hl hCl => by
    have ll : l.length ≤ 1 := by rcases hl with ⟨-, rfl⟩ | ⟨-, rfl⟩ | ⟨-, rfl⟩ <;> decide
    have X2 := XTF_tr X1 (XTF_ps (K := K) (Nk := Nk) (m := m2) (a := b) (l := l) hCl X1.2.2.1.1 X1.2.2.1.2)
    unfold jb_Cm_parts_38 kpC
    rw [i_nt2 (show n ≤ 100000 by omega), tre (XCS_fr hCl) (by decide) h20]
    refine l_ck (fun _ => ?_)
    refine pp_bb (pp_mo (x_body (o := o) (k := kb) (lst := lst) (d := d + 1) c IE hB hxd hr4 hcl hCl X1.2.2.1.1 X1.2.2.1.2 htot) (fun m6 z w6 rt hz => ?_))
    obtain ⟨b6, cm6, Q3, sc6, rn, f2, L2, rfl, z2, z3, z4, z5, z6⟩ := hz
    obtain ⟨zF, zC⟩ := XTF_of z3
    have X5 := XTF_tr X2 zF
    rw [List.append_nil, List.append_nil] at X5
    have leB := zF.2.2.2.2.2.2.1.2.1
    have B32 := leB 32 (by decide)
    have B46 := leB 46 (by decide)
    have rL := zF.2.2.2.2.2.2.2.2
    have q24 : Q3 32 ≤ 24000 := (XRS_q zF.2.2.1.1).2
    have rn16 : rn ≤ 24000 := by omega
    have b6a := zF.1
    have hbig : rn ≤ 24000 ∧ nd ≤ 24000 := ⟨by omega, by omega⟩
    · refine rt_add hbig.1 hbig.2 (fun V hV1 hVJ hVr hV28 hV29 => ?_)
      have X6 := XTF_rw X5 hV1 (fun k n hk => hVr k n (by
        by_cases y : k = 28
        · subst y
          have hk : 28 < 23 ∨ 58 < 28 ∨ grp 28 = 0 ∨ n < Q0 (grp 28) := hk
          have g28 : grp 28 = 32 := rfl
          rw [g28] at hk
          exact Or.inr (by omega)
        · exact Or.inl y) (by
        by_cases y : k = 29
        · subst y
          have g29 : grp 29 = 32 := rfl
          rw [g29] at hk
          exact Or.inr (by omega)
        · exact Or.inl y)) hVJ
      refine fg_pf c X6 (fun m7 w7 b7 Q4 sc7 X7 same7 hQ7 hb7 mo7 mr7 hq7 hx7 hfg => ?_)
      have p7 : b7 ≤ 23990 := X7.2.1.1.2.2.1.2.2
      refine nd_26 c X7 (fun V8 h16 X8 hQ8 v23 v25 v26 hr8 => ?_)
      have m7b : ∀ j, j < b → m7.2.2.1 23 j = m2.2.2.1 23 j := fun j hj => by
        rw [mo7 j (by omega), zF.2.2.2.2.2.1.2.2.1 j (by omega), ptcs_o (Or.inl hj)]
      have m2a : ∀ j, j < a → m2.2.2.1 23 j = m.2.2.1 23 j := hH.2.2.2.2.2.1.2.2.1
      refine pt_end (hs := hs) (fs := fs) X8.2.1 (HKc_fr hk5 (fun j hj => by rw [m7b j (by have := hhs j hj; omega), m2a j (hhs j hj)])) (HKc_fr hfs (fun j hj => m7b j (hfr j hj).2)) ⟨fun h hm => by have := hhs h hm; omega, fun h hm => by
        have h1 := hfr h hm
        exact ⟨by omega, fun y => by have := hhs h y; omega⟩⟩ (fun Z hZC hZi hZr hZJ hZo hZf hZ18 hZk => ?_)
      have X9 := XTF_cz X8 hZC (by omega) hZi hZr (fun j hj => hZo j (by omega) (fun y => by have := hfr j y; omega))
      have fin : ∀ V9, XTF m0 w0 K T nm Nk false (L ++ L2) lo0 hi a0 (b7 + 2) cm0 cm6 q0 r Q0 (qst Q4 32 (Q4 32 + 1)) (e0 :: t0) sc7 mS wS Z V9 → (∀ k n, (k ≠ 45 ∨ n ∉ last.toList) → V9.2.2.1 k n = V8.2.2.1 k n) → V9.2.2.2 = V8.2.2.2 → (∀ l, last = some l → V9.2.2.1 45 l = I (Q 46 : Nat)) → PP RR (ck (inb (I (n : Nat)) 8016) (Gc Z v2 v3 (lsI lst) (I ((b7 + 1 : Nat) : Int)) (Z.2.2.1 21 n))) (kb_M_parts0_214 N (krc_M_behind N (d + 1)) G V9 x1 (I (nd : Nat)) (optI (some (fst.getD (Q 46)))) (I (Q 46 : Nat))) := fun V9 X10 hV9r hV9J hV9l => by
        have lnot : ∀ n, Q 46 ≤ n → n ∉ last.toList := fun n hn y => by
          have e : last = some n := by simpa using y
          have := (hlast n e).2
          omega
        have bkA : ∀ k n, grp k ≠ 0 → n < Q3 (grp k) → (k ≠ 28 ∨ n ≠ nd) → (k ≠ 29 ∨ n ≠ rn) → (k ≠ 45 ∨ n ∉ last.toList) → V9.2.2.1 k n = w6.2.2.1 k n := fun k n hg hn' h28 h29 h45 => by
          have l4 : n < Q4 (grp k) := by
            by_cases y : grp k = 32
            · rw [y] at hn' ⊢; omega
            · rw [hq7.2 _ y]; exact hn'
          rw [hV9r k n h45, hr8 k n (by
            by_cases y : grp k = 32
            · rw [y] at l4; exact Or.inr (Or.inr (by omega))
            · by_cases y1 : k < 23
              · exact Or.inl y1
              · by_cases y2 : 31 < k
                · exact Or.inr (Or.inl y2)
                · exact absurd (by unfold grp; rw [if_pos (by omega)]) y), hQ7.2.1 k n hg hn', hVr k n h28 h29]
        have bkB : ∀ k n, grp k ≠ 0 → n < Q2 (grp k) → (k ≠ 28 ∨ n ≠ nd) → (k ≠ 45 ∨ n ∉ last.toList) → V9.2.2.1 k n = w2.2.2.1 k n := fun k n hg hn' h28 h45 => by
          rw [bkA k n hg (Nat.lt_of_lt_of_le hn' (leB _ (grp_m hg))) h28 (by
            by_cases y : k = 29
            · subst y
              have hn' : n < Q2 32 := hn'
              exact Or.inr (by omega)
            · exact Or.inl y) h45, zF.2.2.2.2.2.2.1.1.2.1 k n hg hn']
        have bkC : ∀ k n, grp k ≠ 0 → n < Q (grp k) → (k ≠ 28 ∨ n ≠ nd) → (k ≠ 45 ∨ n ∉ last.toList) → V9.2.2.1 k n = w.2.2.1 k n := fun k n hg hn' h28 h45 => by
          rw [bkB k n hg (Nat.lt_of_lt_of_le hn' (leH _ (grp_m hg))) h28 h45, hH.2.2.2.2.2.2.1.1.2.1 k n hg hn']
        have le7 : QLE Q3 (qst Q4 32 (Q4 32 + 1)) := fun k hk => by
          by_cases y : k = 32
          · rw [y, qst_at]; omega
          · rw [qst_no y, hq7.2 k y]; exact Nat.le_refl _
        have Z46 := le7 46 (by decide)
        have bkJ : ∀ n, n < Q3 39 → V9.2.2.2 34 n = w6.2.2.2 34 n := fun n hn' => by
          have l4 : n < Q4 39 := by rw [hq7.2 39 (by decide)]; exact hn'
          rw [hV9J, hQ8.2.2 34 n (Or.inr l4), hQ7.2.2 34 n (Or.inr hn'), hVJ]
        have J2 : ∀ n, n < Q2 39 → V9.2.2.2 34 n = w2.2.2.2 34 n := fun n hn' => by
          rw [bkJ n (Nat.lt_of_lt_of_le hn' (leB 39 (by decide))), zF.2.2.2.2.2.2.1.1.2.2 34 n (Or.inr hn')]
        have Jw : ∀ n, n < Q 39 → V9.2.2.2 34 n = w.2.2.2 34 n := fun n hn' => by
          rw [J2 n (Nat.lt_of_lt_of_le hn' (leH 39 (by decide))), hH.2.2.2.2.2.2.1.1.2.2 34 n (Or.inr hn')]
        have p30 : ∀ k u, 30 ≤ k → k ≤ 32 → Z.2.2.1 k u = m6.2.2.1 k u := fun k u k1 k2 => by rw [hZr k (by omega), mr7 k (by omega)]
        have p30s : ∀ k u, 30 ≤ k → k ≤ 32 → u < s → Z.2.2.1 k u = m2.2.2.1 k u := fun k u k1 k2 hu => by
          rw [p30 k u k1 k2, zF.2.2.2.2.2.1.2.2.2.1 k u k1 k2 (Or.inl hu), ptcs_r (by omega)]
        have wZ6 : ∀ j, b ≤ j → j < b6 → Z.2.2.1 23 j = m6.2.2.1 23 j := fun j j1 j2 => by
          rw [hZo j (by omega) (fun y => by have := hfr j y; omega), mo7 j j2]
        have V23 : ∀ n, n < Q3 32 → A V9 23 n = A w6 23 n := fun n hn' => congrArg Int32.toInt (bkA 23 n (by decide) hn' (Or.inl (by decide)) (Or.inl (by decide)) (Or.inl (by decide)))
        have V30 : ∀ n, n < Q3 32 → A V9 30 n = A w6 30 n := fun n hn' => congrArg Int32.toInt (bkA 30 n (by decide) hn' (Or.inl (by decide)) (Or.inl (by decide)) (Or.inl (by decide)))
        have q4lt : ∀ n, n ≠ Q4 32 → ∀ k, V8.2.2.1 k n = w7.2.2.1 k n := fun n hn' k => hr8 k n (Or.inr (Or.inr hn'))
        have n28 : A V9 28 nd = ((rn : Nat) : Int) := by
          show (V9.2.2.1 28 nd).toInt = _
          rw [hV9r 28 nd (Or.inl (by decide)), q4lt nd (by omega) 28, hQ7.2.1 28 nd (by decide) (by show nd < Q3 32; omega), hV28]
          exact I_ti (by omega) (by omega)
        have n29 : A V9 29 rn = A w 28 nd := by
          show (V9.2.2.1 29 rn).toInt = (w.2.2.1 28 nd).toInt
          rw [hV9r 29 rn (Or.inl (by decide)), q4lt rn (by omega) 29, hQ7.2.1 29 rn (by decide) (by show rn < Q3 32; omega), hV29, zF.2.2.2.2.2.2.1.1.2.1 28 nd (by decide) (by show nd < Q2 32; omega), hH.2.2.2.2.2.2.1.1.2.1 28 nd (by decide) (by show nd < Q 32; omega)]
        refine hh Z V9 (b7 + 2) cm6 (qst Q4 32 (Q4 32 + 1)) sc7 L2 (b7 + 1) X10 same7 hZk ⟨by omega, by omega⟩ ⟨fun j hj => ?_, fun k u k1 k2 hu => ?_, fun k n k1 k2 k3 k4 => ?_, fun n hn' => Jw n hn', fun k hk => Nat.le_trans (leH k hk) (Nat.le_trans (leB k hk) (le7 k hk))⟩ ⟨by omega, ?_, hV9l⟩ ⟨max f2 fr + 1, ?_⟩ (fun n hn' => ?_) (fun H hx => ?_) (fun C P R J H fi hxH => ?_)
        · rw [hZo j (by omega) (fun y => by have := hfr j y; omega), m7b j (by omega), m2a j hj]
        · rw [p30s k u k1 k2 (by omega), hH.2.2.2.2.2.1.2.2.2.1 k u k1 k2 (Or.inl hu)]
        · refine bkC k n k1 k2 ?_ ?_
          · by_cases y : k = 28
            · exact Or.inr (k3 y)
            · exact Or.inl y
          · by_cases y : k = 45
            · exact Or.inr (k4 y)
            · exact Or.inl y
        · rw [bkB 45 (Q 46) (by decide) (by show Q 46 < Q2 46; omega) (Or.inl (by decide)) (Or.inr (lnot _ (Nat.le_refl _)))]
          exact hk46.2.2.1
        · refine Or.inr ⟨rn, L2, Lr, n28, ?_, ?_, rfl⟩
          · rw [n28]
            refine RT_le (f := f2) ?_ (Nat.le_max_left _ _)
            refine RT_w (i := Q2 32) (by omega) f2 false (Q3 32) _ _ _ (le7 32 (by decide)) ?_
            exact (RT_fr (w := w6) (v := V9) f2).2 _ rn L2 (fun n n1 n2 => ⟨V23 n (by omega), congrArg Int32.toInt (bkA 28 n (by decide) (by show n < Q3 32; omega) (Or.inr (by omega)) (Or.inl (by decide)) (Or.inl (by decide)))⟩) (fun n n1 n2 => congrArg Int32.toInt (bkA 29 n (by decide) (by show n < Q3 32; omega) (Or.inl (by decide)) (Or.inr (by omega)) (Or.inl (by decide)))) z5
          · rw [n29]
            refine RT_le (f := fr) ?_ (Nat.le_max_right _ _)
            refine RT_w (i := nd + 1) (Nat.le_refl _) fr true (Q 32) _ _ _ (by have := le7 32 (by decide); omega) ?_
            exact (RT_fr (w := w) (v := V9) fr).1 (Q 32) (Q 32) _ Lr (Nat.le_refl _) (fun n n1 n2 => ⟨congrArg Int32.toInt (bkC 23 n (by decide) n2 (Or.inl (by decide)) (Or.inl (by decide))), congrArg Int32.toInt (bkC 28 n (by decide) n2 (Or.inr (by omega)) (Or.inl (by decide))), congrArg Int32.toInt (bkC 29 n (by decide) n2 (Or.inl (by decide)) (Or.inl (by decide)))⟩) hRT
        · have h1 := rL n hn'
          exact ⟨by omega, by rw [V30 n h1.2]; exact z6 n hn'⟩
        · exact XTF_hx hH (XTF_hx zF (hx7 _ _ hx))
        · have hx6 := hx7 _ _ hxH
          have hxs2 := XTF_hx zF hx6
          have fdB : FNd w0 fof cvr C P R J m6 w6 (b + l.length) b6 s r Q2 Q3 lst L2 := by
            refine FNx_sub fi ⟨by omega, by omega⟩ ⟨by omega, Nat.le_refl _⟩ leH le7 (fun j j1 j2 => wZ6 j (by omega) j2) (fun k u k1 k2 _ _ => p30 k u k1 k2) ⟨fun k n k1 k2 k3 k4 k5 => bkA k n k1 k5 ?_ (Or.inl k2) ?_, fun n _ hn' => bkJ n hn'⟩ (fun n n1 n2 => by rw [V30 n n2]) (fun j hj => Or.inr ?_) (fun j hj => Or.inl ?_)
            · by_cases y : k = 28
              · subst y
                have k4 : Q2 32 ≤ n := k4
                exact Or.inr (by omega)
              · exact Or.inl y
            · by_cases y : k = 45
              · subst y
                have k4 : Q2 46 ≤ n := k4
                exact Or.inr (lnot n (by omega))
              · exact Or.inl y
            · have : j = b7 + 1 := by simpa using hj
              omega
            · have : j = Q 46 := by simpa using hj
              omega
          have fdH : FNx w0 fof cvr C P R J m2 w2 a b q s Q Q2 lst [] fs [Q 46] := by
            refine FNx_mo fi ⟨Nat.le_refl _, by omega⟩ ⟨Nat.le_refl _, b6a.2.2.2⟩ QLE_rf (fun k hk => Nat.le_trans (leB k hk) (le7 k hk)) (fun j j1 j2 j3 => ?_) (fun k u k1 k2 _ hu => p30s k u k1 k2 hu) (fun k n k1 k2 k3 k4 k5 k6 => bkB k n k1 k5 ?_ ?_) (fun n _ hn' => J2 n hn') (fun n n1 n2 => ?_) (fun j hj j1 j2 => ?_) (fun j hj _ _ => hj)
            · rw [hZo j (by omega) j3, m7b j j2]
            · by_cases y : k = 28
              · subst y
                have k4 : Q 32 ≤ n := k4
                exact Or.inr (by omega)
              · exact Or.inl y
            · by_cases y : k = 45
              · subst y
                have k4 : Q 46 ≤ n := k4
                exact Or.inr (lnot n k4)
              · exact Or.inl y
            · have e30 : A V9 30 n = A w2 30 n := congrArg Int32.toInt (bkB 30 n (by decide) n2 (Or.inl (by decide)) (Or.inl (by decide)))
              rw [e30, if_neg (fun y => by have := rL n y.2; omega), if_neg (fun y => by cases y.2)]
            · have : j = b7 + 1 := by simpa using hj
              omega
          have hCf : ∀ h, h ∈ fs → C h = ((b7 + 2 : Nat) : Int) := fun h hm => by
            have h1 := hfr h hm
            rw [fi.1 h (by omega) (by omega) (fun y => by
              have : h = b7 + 1 := by simpa using y
              omega)]
            show (Z.2.2.1 23 h).toInt = _
            rw [hZf h hm]
            exact I_ti (by omega) (by omega)
          obtain ⟨g1, g2⟩ := hG C P R J H lst (b7 + 2) σ fdH hxs2 (by omega) hCf
          obtain ⟨c1, c2⟩ := zC C P R J H fdB hx6
          refine ⟨fun u u1 u2 => ?_, fun t b1 kn hCh hr26 hcr h45 hz => ?_⟩
          · by_cases y : u < s
            · exact g1 u u1 y
            · exact c1 u (by omega) u2
          · rw [← oN]
            refine g2 (by rw [oN, h45]; exact hz) ?_
            have R43 := FNx_R fi (j := 43) (k := Q 46) (by omega) ⟨Nat.le_refl _, by omega⟩
            have hC7 : ∀ j, b6 ≤ j → j < b7 → C j = A m7 23 j := fun j j1 j2 => by
              rw [fi.1 j (by omega) (by omega) (fun y => by
                have : j = b7 + 1 := by simpa using y
                omega)]
              show (Z.2.2.1 23 j).toInt = (m7.2.2.1 23 j).toInt
              rw [hZo j j2 (fun y => by have := hfr j y; omega)]
            have c18 : C b7 = 18 := by
              rw [fi.1 b7 (by omega) (by omega) (fun y => by
                have : b7 = b7 + 1 := by simpa using y
                omega)]
              show (Z.2.2.1 23 b7).toInt = _
              rw [hZ18]; rfl
            have ro : ∀ k i, 23 ≤ k ∧ k ≤ 31 → k ≠ 27 ∧ k ≠ 29 ∧ k ≠ 30 → Q 32 ≤ i → i < Q4 32 + 1 → R k i = A V9 k i := fun k i k1 k2 i1 i2 => by
              have gk : grp k = 32 := if_pos k1
              exact fi.2.2.2.1.1 k i k2.1 k2.2.1 k2.2.2 (by omega) (by rw [gk]; decide) (by rw [gk]; exact i1) (by rw [gk, qst_at]; exact i2) (fun y => by omega)
            have a23 : A V9 23 (Q4 32) = 26 := by
              show (V9.2.2.1 23 (Q4 32)).toInt = _
              rw [hV9r 23 _ (Or.inl (by decide)), v23]; rfl
            have a25 : A V9 25 (Q4 32) = -2 := by
              show (V9.2.2.1 25 (Q4 32)).toInt = _
              rw [hV9r 25 _ (Or.inl (by decide)), v25]; rfl
            have a26 : A V9 26 (Q4 32) = ((nd : Nat) : Int) := by
              show (V9.2.2.1 26 (Q4 32)).toInt = _
              rw [hV9r 26 _ (Or.inl (by decide)), v26]
              exact I_ti (by omega) (by omega)
            have hq4 := hq7.1
            obtain ⟨b1', b2'⟩ := XB c.2.2.1 X7.2.1 X7.2.2.1.1 hxH h16
            have on7 : Onm nm sc7 = Onm nm (e0 :: t0) := by unfold Onm; rw [same7]; rfl
            have r26 : CRe C R J none b7 (Q4 32) H (Onm nm sc7) := cr_26 b1' b2' ((ro 23 _ (by decide) (by decide) (by omega) (by omega)).trans a23) c18 hCh ((ro 25 _ (by decide) (by decide) (by omega) (by omega)).trans a25) ((ro 26 _ (by decide) (by decide) (by omega) (by omega)).trans a26) hr26 (by rw [on7]; exact hcr)
            have rFG := hfg C R J H none hC7 (fun y => by
              have e : ∀ k, A V9 k (Q3 32) = A w7 k (Q3 32) ∨ k = 45 := fun k => by
                by_cases z : k = 45
                · exact Or.inr z
                · refine Or.inl (congrArg Int32.toInt ?_)
                  rw [hV9r k _ (Or.inl z), q4lt (Q3 32) (by omega) k]
              exact ⟨(ro 23 _ (by decide) (by decide) (by omega) (by omega)).trans ((e 23).resolve_right (by decide)), (ro 25 _ (by decide) (by decide) (by omega) (by omega)).trans ((e 25).resolve_right (by decide))⟩) hx6 r26
            obtain ⟨dB, hB2⟩ := c2 none ⟨fun _ => rfl, fun _ => rfl⟩ rFG
            refine ⟨dB, Q2 32, ?_, ?_⟩
            · rw [R43]
              show (V9.2.2.1 43 (Q 46)).toInt = _
              rw [bkB 43 (Q 46) (by decide) (by show Q 46 < Q2 46; omega) (Or.inl (by decide)) (Or.inl (by decide)), hk46.2.2.2]
              exact I_ti (by omega) (by omega)
            · have cbl : ∀ x, l = [x] → C b = x.toInt := fun x hx => by
                subst hx
                have bl : b + 1 ≤ b6 := b6a.2.1
                rw [fi.1 b (by omega) (by omega) (fun y => by
                  have : b = b7 + 1 := by simpa using y
                  omega)]
                show (Z.2.2.1 23 b).toInt = _
                rw [wZ6 b (Nat.le_refl _) (by omega), zF.2.2.2.2.2.1.2.2.1 b (by show b < b + 1; omega)]
                exact congrArg Int32.toInt (ptcs_at (l := [x]) (k := 0) rfl)
              rcases hl with ⟨h1, rfl⟩ | ⟨h1, rfl⟩ | ⟨h1, rfl⟩
              · exact Or.inr (Or.inl ⟨h1, cbl 15 rfl, hB2⟩)
              · exact Or.inr (Or.inr (Or.inl ⟨h1, hB2⟩))
              · exact Or.inr (Or.inr (Or.inr ⟨h1, cbl 33 rfl, hB2⟩))
      cases hL : last with
      | none =>
        have ef : fst = none := hfl.mpr hL
        have e1 : optI (none : Option Nat) = -1 := rfl
        rw [e1, show decide ((-1 : Int32) = -1) = true from rfl, br_tq]
        have := fin V8 X9 (fun _ _ _ => rfl) rfl (fun l hl => by rw [hL] at hl; cases hl)
        rw [ef] at this
        exact this
      | some l =>
        have hl2 := hlast l hL
        have k16 := hk46.2.1
        have ef : ∃ y, fst = some y := by
          cases hF : fst with
          | none => rw [hfl.mp hF] at hL; cases hL
          | some y => exact ⟨y, rfl⟩
        obtain ⟨y, ef⟩ := ef
        have e1 : optI (some l) = I (l : Nat) := rfl
        rw [e1, decide_eq_false (fun z => by
          have := (I_eq (x := ((l : Nat) : Int)) (y := -1) (by omega) (by omega) (by decide) (by decide)).mp (z.trans rfl)
          omega), br_fq, i_nt2 (p := l) (by omega)]
        refine r_ck (fun _ => r_lt ?_)
        have hW : W46 V8 (upA V8 45 (upd (V8.2.2.1 45) l (I (Q 46 : Nat)))) 45 l (I (Q 46 : Nat)) := w46_of
        generalize upA V8 45 (upd (V8.2.2.1 45) l (I (Q 46 : Nat))) = V9 at hW
        have := fin V9 (W46_rw X9 hW (by omega) hl2.1) (fun k n hk => hW.2.2.1 k n (by
          rcases hk with hk | hk
          · exact Or.inl hk
          · refine Or.inr (fun z => hk ?_)
            rw [z, hL]; exact List.mem_cons_self)) hW.2.1 (fun l' hl' => by
          rw [hL] at hl'
          cases hl'
          exact hW.2.2.2)
        rw [ef] at this ⊢
        exact this
  rcases hkd with ⟨h1, rfl⟩ | ⟨h1, rfl⟩ | ⟨h1, rfl⟩
  · rw [show decide ((15 : Int32) = 0) = false from rfl, br_fq]
    refine l_put hC2.1.2.2.1.1 hC2.1.2.2.1.2.2 (fun ha => ?_)
    exact go [15] (Or.inl ⟨h1, rfl⟩) (XCS_put hC2 ha)
  · rw [show decide ((0 : Int32) = 0) = true from rfl, br_tq]
    exact go [] (Or.inr (Or.inl ⟨h1, rfl⟩)) hC2
  · rw [show decide ((33 : Int32) = 0) = false from rfl, br_fq]
    refine l_put hC2.1.2.2.1.1 hC2.1.2.2.1.2.2 (fun ha => ?_)
    exact go [33] (Or.inr (Or.inr ⟨h1, rfl⟩)) (XCS_put hC2 ha)
end
end
section
set_option maxRecDepth 100000
def PTVs (m0 w0 : MS) (K : Nat → Nat) (T : Nat) (nm Nk : Nat → Nat) (fof cvr : Int → Int → Int) (lst : Bool) (kd σ nd : Nat) (ndr : Nat → Int32) (lo0 a0 aP cm0 q0 : Nat) (Q0 Q1 : Nat → Nat) (sc0 : SCT) (mS wS : MS) (L hs : List Nat) (fst last : Option Nat) (lo a cm q : Nat) (Q : Nat → Nat) (sc : SCT) (m w : MS) (v5 : Int32) : Prop :=
  XTF m0 w0 K T nm Nk false L lo0 lo a0 a cm0 cm q0 q Q0 Q sc0 sc mS wS m w ∧ (hdS sc).1 = (hdS sc0).1 ∧ PTq w0 nm fof cvr lst L kd σ nd aP a q0 q Q1 Q sc0 cm sc m w hs fst last ∧ (fst = none ↔ last = none) ∧ (∀ l, last = some l → Q1 46 ≤ l ∧ l < Q 46 ∧ w.2.2.1 45 l = -1) ∧ (QLE Q0 Q1 ∧ QLE Q1 Q ∧ Q0 32 ≤ nd ∧ nd < Q1 32 ∧ a0 ≤ aP ∧ aP ≤ a) ∧ ((∀ h, h ∈ hs → aP ≤ h ∧ h < a) ∧ HKc m hs v5) ∧ ((∃ fr Lr, RTd w (nd + 1) fr true (Q 32) (A w 28 nd) Lr ∧ ∀ n, n ∈ Lr ↔ n ∈ L) ∧ ∀ n, n ∈ L → Q1 32 ≤ n ∧ A w 30 n = 0) ∧ ∀ k, 23 ≤ k → k ≤ 31 → k ≠ 28 → w.2.2.1 k nd = ndr k
section
variable {α β : Type} {m0 w0 m w m2 w2 m3 w3 v u w1 mS wS V Z : MS} {K nm Nk W W2 : Nat → Nat} {N T D d o a aP a0 b b' b0 c cm cm0 cm2 cm3 q q0 r s lo lo0 mid hi hiA i j f f2 n k kk kd p p2 σ tk x xa xb xc xd gx kg kb mb nd fr M m1 lv y kf : Nat} {ndr : Nat → Int32} {Q Q0 Q1 Q2 Q3 Q4 : Nat → Nat} {sc sc0 sc2 sc3 t t0 t2 : SCT} {e e0 e2 : List Nat × List Nat × Nat} {g g2 lst l2 : Bool} {L L1 L2 Lr S hs fs : List Nat} {fst last : Option Nat} {l : List Int32} {idc fof cvr : Int → Int → Int} {z : Unit} {rt v1 v2 v3 v4 v5 v8 x1 x2 x3 x4 t4 t5 xw : Int32} {fc : MS → Int32 → Option (MS × α)} {G : MS → Int32 → Int32 → Int32 → Int32 → Int32 → Option (MS × Int32)}
def PEc (m0 : MS) (f o kd : Nat) : Nat → Nat → Nat → Nat → Nat → Nat → Nat → Prop := if kd = 2 then CHPcK m0 (XPcK m0 f (o + 2) 3) (XPcK m0 f (o + 1) 3) else CSPcK m0 (PAcK m0 f) (XPcK m0 f (o + 2) 3) (XPcK m0 f (o + 1) 3)
theorem PE_bd (hE : PEc m0 f o kd n lo hi xa xb q r) : HDc n lo hi xa xb q r := by
  unfold PEc at hE
  by_cases z : kd = 2
  · rw [if_pos z] at hE; exact hE.1
  · rw [if_neg z] at hE; exact hE.1
theorem PTVs_ad (hl : lo < T) (hk : K lo ≠ 3) (h : PTVs m0 w0 K T nm Nk fof cvr lst kd σ nd ndr lo0 a0 aP cm0 q0 Q0 Q1 sc0 mS wS L hs fst last lo a cm q Q sc m w v5) : PTVs m0 w0 K T nm Nk fof cvr lst kd σ nd ndr lo0 a0 aP cm0 q0 Q0 Q1 sc0 mS wS L hs fst last (lo + 1) a cm q Q sc m (adv w lo) v5 := by
  obtain ⟨h1, h2, h3, h4, h5, h6, h7, ⟨⟨fr, Lr, h8, h9⟩, h10⟩, h11⟩ := h
  exact ⟨XTF_ad h1 hl hk, h2, h3, h4, h5, h6, h7, ⟨⟨fr, Lr, (RT_fr (w := w) (v := adv w lo) fr).1 (Q 32) (Q 32) _ Lr (Nat.le_refl _) (fun n n1 n2 => ⟨rfl, rfl, rfl⟩) h8, h9⟩, h10⟩, h11⟩
theorem part_one {Gc : MS → Int32 → Int32 → Int32 → Int32 → Int32 → Option (MS × Int32)} {RR : MS → Int32 → MS → Int32 → Prop} (c : CTZ m0 w0 K T nm Nk) (cv : CTV m0 w0 K T) (IE : HXE N m0 w0 K T nm Nk fof cvr f) (hf : f ≤ 230) (hP : PTVs m0 w0 K T nm Nk fof cvr lst kd σ nd ndr lo0 a0 aP cm0 q0 Q0 Q1 sc0 mS wS L hs fst last lo a cm q Q sc m w v5) (hE : PEc m0 f o kd n lo hi xa xb q r) (hxb : xb ≤ 8015) (hr4 : r ≤ 400) (hcl : NEC (K hi) ∧ K hi ≠ 26 ∧ hi ≤ T) (htot : tot sc0 + (hi - lo0) ≤ 4000 ∧ sc0.length ≤ o + 1) (hkd : (kd = 1 ∧ v2 = -1 ∧ v3 = 15 ∧ x1 = 0) ∨ (kd = 2 ∧ v3 = 0 ∧ x1 = 1) ∨ (kd = 3 ∧ v2 = -2 ∧ v3 = 33 ∧ x1 = 0))
    (hh : ∀ m9 w9 a2 cm9 Q9 sc9 L9 hn v9, PTVs m0 w0 K T nm Nk fof cvr lst kd σ nd ndr lo0 a0 aP cm0 q0 Q0 Q1 sc0 mS wS L9 (hn :: hs) (some (fst.getD (Q 46))) (some (Q 46)) hi a2 cm9 r Q9 sc9 m9 w9 v9 → PP RR (ck (inb (I (n : Nat)) 8016) (Gc m9 v2 v3 (lsI lst) v9 (m9.2.2.1 21 n))) (kb_M_parts0_214 N (krc_M_behind N (d + 1)) G w9 x1 (I (nd : Nat)) (optI (some (fst.getD (Q 46)))) (I (Q 46 : Nat)))) : PP RR (bnd (jm_Cm_tries N (jrc_Cm_fun N D) m v2 (I (n : Nat))) (fun u23 r23 => br (decide (v3 = 0)) (jb_Cm_parts_38 N (jrc_Cm_fun N (D + 1)) Gc u23 v2 v3 (lsI lst) v5 (I (n : Nat)) (m.1 706) r23) (bnd (jm_Co_put N u23 v3) (fun u25 _ => jb_Cm_parts_38 N (jrc_Cm_fun N (D + 1)) Gc u25 v2 v3 (lsI lst) v5 (I (n : Nat)) (m.1 706) r23)))) (kb_M_parts0_19 N (krc_M_behind N (d + 1)) G w x1 (I (nd : Nat)) (optI fst) (optI last) 1) := by
  have tt4 := c.2.1.1.1
  have hbd := PE_bd hE
  unfold HDc at hbd
  obtain ⟨h1, h2, h3, h4, h5, ⟨h6, h6b, h6c, h6d, h6e, h6f⟩, ⟨h7, h7b⟩, ⟨⟨fr, Lr, h8, h9⟩, h10⟩, h11⟩ := hP
  obtain ⟨e0, t0, rfl⟩ : ∃ e t, sc0 = e :: t := by
    obtain ⟨W, a5, -⟩ := h1.2.2.2.2.1
    have nx := (a5.2 rfl).2
    cases sc0 with
    | nil =>
      obtain ⟨e, t, rfl⟩ := PRS_ne h1.2.2.1.1.1
      exact nx.elim
    | cons e t => exact ⟨e, t, rfl⟩
  have hC := h1.2.1
  have hR := h1.2.2.1.1
  have hq := h1.2.2.1.2
  have tot1 := h1.2.2.2.1
  have tot1l := XTF_len h1
  have l0 := h1.1
  have Lr32 : ∀ n, n ∈ L → n < Q 32 := fun n hn => (h1.2.2.2.2.2.2.2.2 n hn).2
  have le1 := h6b 32 (by decide)
  have beh : ∀ (mid xc xd s kb mb m5 : Nat) (mh wh : MS) (b cm2 : Nat) (Q2 : Nat → Nat) (sc2 : SCT) (fs : List Nat) (v8 : Int32), A m0 20 n = ((mb : Nat) : Int) → RWcK m0 1 26 (XPcK m0 f (o + 2) 3) kb mb (mid + 1) hi xc xd s r → xd ≤ 8015 → XTF m0 w0 K T nm Nk false [] lo (mid + 1) a b cm cm2 q s Q Q2 sc sc2 m w mh wh → HKc mh fs v8 → (∀ h, h ∈ fs → a ≤ h ∧ h < b) → (Q 46 < Q2 46 ∧ Q 46 < 16000 ∧ wh.2.2.1 45 (Q 46) = -1 ∧ wh.2.2.1 43 (Q 46) = I (Q2 32 : Nat)) → HDG w0 nm fof cvr kd a b cm2 q s (Q 46) Q Q2 sc sc2 mh wh fs → PP RR (br (decide (v3 = 0)) (jb_Cm_parts_38 N (jrc_Cm_fun N (D + 1)) Gc mh v2 v3 (lsI lst) v5 (I (n : Nat)) (m.1 706) v8) (bnd (jm_Co_put N mh v3) (fun u25 _ => jb_Cm_parts_38 N (jrc_Cm_fun N (D + 1)) Gc u25 v2 v3 (lsI lst) v5 (I (n : Nat)) (m.1 706) v8))) (kpC N (krc_M_behind N (d + 1)) G wh x1 (I (nd : Nat)) (optI fst) (optI last) (I (Q 46 : Nat)) (I ((hdS sc).1.length : Nat))) := fun mid xc xd s kb mb m5 mh wh b cm2 Q2 sc2 fs v8 h20 hB hxd hX hk hkr hk46 hG => by
    have hB1 := (RW_hdK (XP_bdK f (o + 2) 3) hB).1
    unfold HDc at hB1
    have lX := hX.1
    have tX := hX.2.2.2.1
    have tXl := XTF_len hX
    refine part_b (hs := hs) (last := last) (Lr := Lr) (fs := fs) (kd := kd) (σ := σ) c IE h1 h2 ⟨h6c, by omega⟩ (fun l hl => ⟨by have := h6 46 (by decide); have := (h5 l hl).1; omega, (h5 l hl).2.1⟩) h4 h7b (fun h hm => (h7 h hm).2) hX hk hkr hk46 hG (by omega) h20 hB hxd hr4 hcl (by omega) (by
      rcases hkd with ⟨g1, -, g2, -⟩ | ⟨g1, g2, -⟩ | ⟨g1, -, g2, -⟩
      · exact Or.inl ⟨g1, g2⟩
      · exact Or.inr (Or.inl ⟨g1, g2⟩)
      · exact Or.inr (Or.inr ⟨g1, g2⟩)) h8 (fun m9 w9 a2 cm9 Q9 sc9 L2 hn hX9 hs9 hk9 hhn hF h45 hRT hL2 hx9 hpo => ?_)
    obtain ⟨f1, f2, f3, f4, f5⟩ := hF
    refine hh m9 w9 a2 cm9 Q9 sc9 (L ++ L2) hn _ ⟨hX9, hs9, ?_, ⟨fun z => (by cases z), fun z => (by cases z)⟩, fun l hl => ?_, ⟨h6, QLE_tr h6b f5, h6c, h6d, h6e, by omega⟩, ⟨fun h hm => ?_, hk9⟩, ⟨?_, fun y hy => ?_⟩, fun k k1 k2 k3 => ?_⟩
    · refine PTq_s (a := a) (q := q) (Q := Q) (cm := cm) (sc := sc) (m := m) (w := w) (hs := hs) (fst := fst) (last := last) h3 hpo ⟨h6f, by omega⟩ ⟨l0.2.2.2, by omega⟩ h6b f5 f1 f2 (fun k y k1 k2 k3 k4 k5 k6 => f3 k y k1 k5 (fun z => ?_) k6) f4 (fun y hy => congrArg Int32.toInt (f3 30 y (by decide) hy (fun z => (by cases z)) (fun z => (by cases z)))) Lr32 (fun y hy => (hL2 y hy).1) (fun h hm => (h7 h hm).2) hhn.1 (fun l hl => ⟨(h5 l hl).1, (h5 l hl).2.1, ?_⟩) (Nat.le_refl _) hx9
      · subst z
        have k4 : Q1 32 ≤ y := k4
        omega
      · show (w9.2.2.1 45 l).toInt = _
        rw [h45.2.2 l hl]
        exact I_ti (by omega) (by omega)
    · cases hl
      exact ⟨h6b 46 (by decide), h45.1, h45.2.1⟩
    · rcases List.mem_cons.mp hm with rfl | hm
      · omega
      · have := h7 h hm; omega
    · obtain ⟨fr9, hRT⟩ := hRT
      exact ⟨fr9, L2 ++ Lr, hRT, fun y => by
        rw [List.mem_append, List.mem_append, h9 y]
        exact Or.comm⟩
    · rcases List.mem_append.mp hy with hy | hy
      · refine ⟨(h10 y hy).1, ?_⟩
        have e : A w9 30 y = A w 30 y := congrArg Int32.toInt (f3 30 y (by decide) (Lr32 y hy) (fun z => (by cases z)) (fun z => (by cases z)))
        rw [e]; exact (h10 y hy).2
      · have := hL2 y hy
        exact ⟨by omega, this.2⟩
    · have gk : grp k = 32 := if_pos ⟨k1, k2⟩
      rw [f3 k nd (by rw [gk]; decide) (by rw [gk]; omega) (fun z => absurd z k3) (fun z => by omega)]
      exact h11 k k1 k2 k3
  unfold PEc at hE
  by_cases z : kd = 2
  · rw [if_pos z] at hE
    obtain ⟨hv3, hx1⟩ : v3 = 0 ∧ x1 = 1 := by
      rcases hkd with ⟨g1, -⟩ | ⟨-, g2, g3⟩ | ⟨g1, -⟩
      · omega
      · exact ⟨g2, g3⟩
      · omega
    subst hx1
    obtain ⟨-, -, -, h18, gx, kg, m2, c1, s, kb, mb, c2, ⟨h19, hg1, hw⟩, ⟨h20, hB⟩, hc2, h38⟩ := hE
    have hw1 := (RW_hdK (XP_bdK f (o + 1) 3) hw).1
    have hB1 := (RW_hdK (XP_bdK f (o + 2) 3) hB).1
    unfold HDc at hw1 hB1
    refine hdg_c c IE (by omega) h18 h19 hw (by omega) (by omega) (kA c (by omega) h38) (by omega) hC hR hq (by omega) (fun mh wh b cm2 Q2 sc2 fs v8 hX hk hkr hk46 hG => ?_)
    exact beh m2 c1 c2 s kb mb 0 mh wh b cm2 Q2 sc2 fs v8 h20 hB (by omega) hX hk hkr hk46 (by rw [z]; exact hG)
  · rw [if_neg z] at hE
    obtain ⟨hkv, hx1⟩ : ((kd = 1 ∧ v2 = -1) ∨ (kd = 3 ∧ v2 = -2)) ∧ x1 = 0 := by
      rcases hkd with ⟨g1, g2, -, g3⟩ | ⟨g1, -⟩ | ⟨g1, g2, -, g3⟩
      · exact ⟨Or.inl ⟨g1, g2⟩, g3⟩
      · omega
      · exact ⟨Or.inr ⟨g1, g2⟩, g3⟩
    subst hx1
    obtain ⟨-, i, ⟨-, -, -, p, xc, gx, m2, c1, s, kb, mb, c2, ⟨h18, hpa⟩, ⟨h19, hg⟩, ⟨h20, hB⟩, hc2, h38⟩⟩ := hE
    have hB1 := (RW_hdK (XP_bdK f (o + 2) 3) hB).1
    unfold HDc at hB1
    have hp2 : PAcK m0 f p lo i xa xc q q ∧ A m0 21 p = 0 := by
      rcases hpa with ⟨y, -⟩ | ⟨-, mm, cc, ss, hp1, hp3⟩
      · cases y
      · rcases hp3 with ⟨-, h21, rfl, rfl, rfl⟩ | ⟨⟨y, -⟩, -⟩
        · exact ⟨hp1, h21⟩
        · exact absurd y (by decide)
    obtain ⟨hp1, h21⟩ := hp2
    have hp4 := PA_bdK _ _ _ _ _ _ _ _ hp1
    unfold HDc at hp4
    clear hpa
    have hg2 : (A m0 19 n = 0 ∧ m2 = i ∧ q = s) ∨ ∃ gx kg : Nat, A m0 19 n = ((gx : Nat) : Int) ∧ A m0 6 i = 19 ∧ RWcK m0 1 26 (XPcK m0 f (o + 1) 3) kg gx (i + 1) m2 xc c1 q s := by
      rcases hg with ⟨y1, y2, y3, y4⟩ | ⟨⟨y1, y2⟩, kg, y3⟩
      · exact Or.inl ⟨by rw [h19, y1]; rfl, y2, y4.symm⟩
      · exact Or.inr ⟨gx, kg, h19, y2, y3⟩
    have hc1 : i ≤ m2 ∧ xc ≤ c1 ∧ q ≤ s := by
      rcases hg with ⟨y1, y2, y3, y4⟩ | ⟨⟨y1, y2⟩, kg, y3⟩
      · clear hg2; omega
      · have := (RW_hdK (XP_bdK f (o + 1) 3) y3).1
        unfold HDc at this
        clear hg2
        exact ⟨by omega, by omega, by omega⟩
    clear hg
    have k38 : K m2 = 38 := kA c (by clear hg2; omega) h38
    have s4 : s ≤ 400 := by clear hg2; omega
    have a1 : xc ≤ 8015 := by clear hg2; omega
    have a2 : c1 ≤ 8015 := by clear hg2; omega
    have a3 : n ≤ 8015 := by clear hg2; omega
    have a4 : m2 < T := by clear hg2; omega
    have a5 : tot sc + (m2 - lo) ≤ 4000 ∧ sc.length ≤ o + 1 + 1 := by clear hg2; omega
    have a6 : c2 ≤ 8015 := by clear hg2; omega
    refine hdg_p c cv IE hf a3 h18 h21 hp1 a1 hg2 a2 s4 k38 a4 hC hR hq a5 hkv (fun mh wh b cm2 Q2 sc2 fs v8 hX hk hkr hk46 hG => ?_)
    exact beh m2 c1 c2 s kb mb 0 mh wh b cm2 Q2 sc2 fs v8 h20 hB a6 hX hk hkr hk46 hG
end
end
section
set_option maxRecDepth 100000
section
variable {α β : Type} {m0 w0 m w m2 w2 m3 w3 v u w1 mS wS V Z : MS} {K nm Nk W W2 : Nat → Nat} {N T D d o a aP a0 b b' b0 c cm cm0 cm2 cm3 q q0 r s lo lo0 mid hi hiA i j f f2 n k kk kd p p2 σ tk x xa xb xc xd gx kg kb mb nd fr M m1 lv y kf : Nat} {ndr : Nat → Int32} {Q Q0 Q1 Q2 Q3 Q4 : Nat → Nat} {sc sc0 sc2 sc3 t t0 t2 : SCT} {e e0 e2 : List Nat × List Nat × Nat} {g g2 lst l2 : Bool} {L L1 L2 Lr S hs fs : List Nat} {fst last : Option Nat} {l : List Int32} {idc fof cvr : Int → Int → Int} {z : Unit} {rt v1 v2 v3 v4 v5 v8 x1 x2 x3 x4 t4 t5 xw y20 pw kn : Int32} {fc : MS → Int32 → Option (MS × α)} {G : MS → Int32 → Int32 → Int32 → Int32 → Int32 → Option (MS × Int32)}
def PLZs (m0 w0 : MS) (K : Nat → Nat) (T : Nat) (nm Nk : Nat → Nat) (fof cvr : Int → Int → Int) (lst : Bool) (kd σ nd : Nat) (ndr : Nat → Int32) (lo0 a0 aP cm0 q0 : Nat) (Q0 Q1 : Nat → Nat) (sc0 : SCT) (mS wS : MS) (hi r : Nat) (m9 : MS) (v9 : Int32) (w9 : MS) (r9 : Int32) : Prop := ∃ (a2 cm9 : Nat) (Q9 : Nat → Nat) (sc9 : SCT) (L9 hs9 : List Nat) (k1 kl : Nat), r9 = I (k1 : Nat) ∧ (k1 ≤ 24000 ∧ Q1 46 ≤ k1) ∧ PTVs m0 w0 K T nm Nk fof cvr lst kd σ nd ndr lo0 a0 aP cm0 q0 Q0 Q1 sc0 mS wS L9 hs9 (some k1) (some kl) hi a2 cm9 r Q9 sc9 m9 w9 v9
theorem RW_xb {E : Nat → Nat → Nat → Nat → Nat → Nat → Nat → Prop} (hb : BdE E) {k n lo hi a b q r : Nat} (h : RWcK m0 1 27 E k n lo hi a b q r) : HDc n lo hi a b q r := (RW_hdK hb h).1
theorem PE_bE : BdE (PEc m0 f o kd) := fun _ _ _ _ _ _ _ h => PE_bd h
theorem pt_no5 {A' : Option (MS × α)} {RR : MS → α → MS → Int32 → Prop} : PP RR A' (kb_M_parts0_105 N (krc_M_behind N 0) G w x1 x2 x3 x4 v1 v2 40 v3 v4) := by
  unfold kb_M_parts0_105
  exact r_ck (fun _ => r_ck (fun _ => r_lt (r_br (fun _ => pp_nr) (fun _ => pp_nr))))
theorem pt_no4 {A' : Option (MS × α)} {RR : MS → α → MS → Int32 → Prop} : PP RR A' (kb_M_parts0_74 N (krc_M_behind N 0) G w x1 x2 x3 x4 v1 41 v3 v4) := by
  unfold kb_M_parts0_74
  exact r_ck (fun _ => r_ck (fun _ => r_lt (r_ck (fun _ => r_lt (r_br (fun _ => r_bnd (fun _ _ _ => pt_no5)) (fun _ => pt_no5))))))
theorem pt_non {A' : Option (MS × α)} {RR : MS → α → MS → Int32 → Prop} : PP RR A' (kb_M_parts0_19 N (krc_M_behind N 0) G w x1 x2 x3 x4 1) := by
  unfold kb_M_parts0_19
  rw [show decide ((1 : Int32) = 0) = false from rfl, br_fq]
  exact r_lt (r_ck (fun _ => r_lt (r_ck (fun _ => r_lt (r_br (fun _ => pt_no4) (fun _ => pt_no4))))))
theorem pt_lp (c : CTZ m0 w0 K T nm Nk) (cv : CTV m0 w0 K T) (IE : HXE N m0 w0 K T nm Nk fof cvr f) (hf : f ≤ 230) (hxb : xb ≤ 8015) (hr4 : r ≤ 400) (hcl : NEC (K hi) ∧ K hi ≠ 26 ∧ K hi ≠ 27 ∧ hi ≤ T) (htot : tot sc0 + (hi - lo0) ≤ 4000 ∧ sc0.length ≤ o + 1) (hkd : (kd = 1 ∧ v2 = -1 ∧ v3 = 15 ∧ x1 = 0) ∨ (kd = 2 ∧ v3 = 0 ∧ x1 = 1) ∨ (kd = 3 ∧ v2 = -2 ∧ v3 = 33 ∧ x1 = 0)) : ∀ (k n lo xa q M kf : Nat) (m w : MS) (a cm : Nat) (Q : Nat → Nat) (sc : SCT) (L hs : List Nat) (fst last : Option Nat) (v5 : Int32), RWcK m0 1 27 (PEc m0 f o kd) k n lo hi xa xb q r → PTVs m0 w0 K T nm Nk fof cvr lst kd σ nd ndr lo0 a0 aP cm0 q0 Q0 Q1 sc0 mS wS L hs fst last lo a cm q Q sc m w v5 → (∀ l, fst = some l → l ≤ 24000 ∧ Q1 46 ≤ l) → PP (PLZs m0 w0 K T nm Nk fof cvr lst kd σ nd ndr lo0 a0 aP cm0 q0 Q0 Q1 sc0 mS wS hi r) (jg_Cm_parts N (jrc_Cm_fun N (D + 1)) kf m v2 v3 (lsI lst) v5 (I (n : Nat))) (kg_M_parts0 N (krc_M_behind N (d + 1)) M w x1 (I (nd : Nat)) (optI fst) (optI last) 1)
  | 0, n, lo, xa, q, M, kf, m, w, a, cm, Q, sc, L, hs, fst, last, v5, h, hP, hF => h.elim
  | k + 1, n, lo, xa, q, M, kf, m, w, a, cm, Q, sc, L, hs, fst, last, v5, h, hP, hF => by
    have t4 := c.2.1.1.1
    obtain ⟨mid, c1, s, hE, h⟩ := h
    have hd := PE_bd hE
    unfold HDc at hd
    cases kf with
    | zero => exact pp_nl
    | succ kf =>
    cases M with
    | zero => exact pp_nr
    | succ M =>
    show PP _ (jb_Cm_parts_6 N (jrc_Cm_fun N (D + 1)) (jg_Cm_parts N (jrc_Cm_fun N (D + 1)) kf) m v2 v3 (lsI lst) v5 (I (n : Nat))) (kb_M_parts0_19 N (krc_M_behind N (d + 1)) (kg_M_parts0 N (krc_M_behind N (d + 1)) M) w x1 (I (nd : Nat)) (optI fst) (optI last) 1)
    have hms : mid ≤ hi ∧ c1 ≤ xb ∧ s ≤ r ∧ n ≤ 8015 ∧ NEC (K mid) ∧ K mid ≠ 26 ∧ mid ≤ T := by
      rcases h with ⟨-, -, rfl, rfl, rfl⟩ | ⟨⟨-, k27⟩, n2, -, hw⟩
      · exact ⟨Nat.le_refl _, Nat.le_refl _, Nat.le_refl _, by omega, hcl.1, hcl.2.1, hcl.2.2.2⟩
      · have := RW_xb PE_bE hw
        unfold HDc at this
        have km : K mid = 27 := kA c (by omega) (k27 rfl)
        exact ⟨by omega, by omega, by omega, by omega, by rw [km]; exact ⟨rfl, by decide, by decide, by decide⟩, by rw [km]; decide, by omega⟩
    obtain ⟨hm1, hm2, hm3, hm4, hm5, hm6, hm7⟩ := hms
    unfold jb_Cm_parts_6
    rw [decide_eq_false (fun z => by
      have := (I_eq (x := ((n : Nat) : Int)) (y := 0) (by omega) (by omega) (by decide) (by decide)).mp z
      omega), br_fq]
    have q46 := (hP.1.2.2.1.1.2 46 (by decide)).2
    have l01 := hP.2.2.2.2.2.1.2.1 46 (by decide)
    have o1 : c1 ≤ 8015 ∧ s ≤ 400 ∧ tot sc0 + (mid - lo0) ≤ 4000 ∧ sc0.length ≤ o + 1 := by clear h; exact ⟨by omega, by omega, by omega, by omega⟩
    refine part_one c cv IE hf hP hE o1.1 o1.2.1 ⟨hm5, hm6, hm7⟩ o1.2.2 hkd (fun m9 w9 a2 cm9 Q9 sc9 L9 hn v9 hP9 => ?_)
    have hX9 := hP9.1.2.2.1.1
    have fr9 := XCS_fr hP9.1.2.1
    refine l_ck (fun _ => ?_)
    unfold kb_M_parts0_214
    rw [tkS_e (k := 27) (s := 7) (XRS_wp c hX9) hX9.1.2.2.1 (by decide) rfl]
    have hF9 : ∀ l, some (fst.getD (Q 46)) = some l → l ≤ 24000 ∧ Q1 46 ≤ l := fun l hl => by
      injection hl with hl
      cases fst with
      | none =>
        have hl : Q 46 = l := hl
        omega
      | some y =>
        have hl : y = l := hl
        exact hF l (by rw [hl])
    rcases h with ⟨rfl, h21, rfl, rfl, rfl⟩ | ⟨⟨hk1, hk27⟩, n2, h21, hw⟩
    · rw [if_neg hcl.2.2.1, bnd_s, tre fr9 (by decide) h21]
      cases kf with
      | zero => exact pp_nl
      | succ kf =>
      cases M with
      | zero => exact pp_nr
      | succ M =>
      show PP _ (jb_Cm_parts_6 N (jrc_Cm_fun N (D + 1)) (jg_Cm_parts N (jrc_Cm_fun N (D + 1)) kf) m9 v2 v3 (lsI lst) v9 (I 0)) (kb_M_parts0_19 N (krc_M_behind N (d + 1)) (kg_M_parts0 N (krc_M_behind N (d + 1)) M) w9 x1 (I (nd : Nat)) (optI (some (fst.getD (Q 46)))) (I (Q 46 : Nat)) 0)
      unfold jb_Cm_parts_6 kb_M_parts0_19
      rw [show decide (I 0 = (0 : Int32)) = true from rfl, br_tq, show decide ((0 : Int32) = 0) = true from rfl, br_tq]
      exact pp_end ⟨a2, cm9, Q9, sc9, L9, _, fst.getD (Q 46), Q 46, rfl, hF9 _ rfl, hP9⟩
    · have hw1 := RW_xb PE_bE hw
      unfold HDc at hw1
      have km : K mid = 27 := kA c (by omega) (hk27 rfl)
      rw [if_pos km, bnd_s, tre fr9 (by decide) h21]
      exact pt_lp c cv IE hf hxb hr4 hcl htot hkd k n2 (mid + 1) c1 s M kf m9 (adv w9 mid) a2 cm9 Q9 sc9 L9 _ _ _ v9 hw (PTVs_ad (by omega) (by rw [km]; decide) hP9) hF9
theorem pt_ll (c : CTZ m0 w0 K T nm Nk) (cv : CTV m0 w0 K T) (IE : HXE N m0 w0 K T nm Nk fof cvr f) (hf : f ≤ 230) (hxb : xb ≤ 8015) (hr4 : r ≤ 400) (hcl : NEC (K hi) ∧ K hi ≠ 26 ∧ K hi ≠ 27 ∧ hi ≤ T) (htot : tot sc0 + (hi - lo0) ≤ 4000 ∧ sc0.length ≤ o + 1) (hkd : (kd = 1 ∧ v2 = -1 ∧ v3 = 15 ∧ x1 = 0) ∨ (kd = 2 ∧ v3 = 0 ∧ x1 = 1) ∨ (kd = 3 ∧ v2 = -2 ∧ v3 = 33 ∧ x1 = 0)) : ∀ (k n lo xa q M kf : Nat) (m w : MS) (a cm : Nat) (Q : Nat → Nat) (sc : SCT) (L hs : List Nat) (fst last : Option Nat) (v5 : Int32), RWcK m0 1 27 (PEc m0 f o kd) k n lo hi xa xb q r → PTVs m0 w0 K T nm Nk fof cvr lst kd σ nd ndr lo0 a0 aP cm0 q0 Q0 Q1 sc0 mS wS L hs fst last lo a cm q Q sc m w v5 → (∀ l, fst = some l → l ≤ 24000 ∧ Q1 46 ≤ l) → PP (PLZs m0 w0 K T nm Nk fof cvr lst kd σ nd ndr lo0 a0 aP cm0 q0 Q0 Q1 sc0 mS wS hi r) (jg_Cm_parts N (jrc_Cm_fun N D) kf m v2 v3 (lsI lst) v5 (I (n : Nat))) (kg_M_parts0 N (krc_M_behind N d) M w x1 (I (nd : Nat)) (optI fst) (optI last) 1) := fun k n lo xa q M kf m w a cm Q sc L hs fst last v5 h hP hF => by
  cases d with
  | zero =>
    cases M with
    | zero => exact pp_nr
    | succ M => exact pt_non
  | succ d =>
  cases D with
  | zero =>
    cases kf with
    | zero => exact pp_nl
    | succ kf =>
      have hd := RW_xb PE_bE h
      unfold HDc at hd
      show PP _ (jb_Cm_parts_6 N (jrc_Cm_fun N 0) (jg_Cm_parts N (jrc_Cm_fun N 0) kf) m v2 v3 (lsI lst) v5 (I (n : Nat))) _
      unfold jb_Cm_parts_6
      rw [decide_eq_false (fun z => by
        have := (I_eq (x := ((n : Nat) : Int)) (y := 0) (by omega) (by omega) (by decide) (by decide)).mp z
        omega), br_fq]
      exact pp_nl
  | succ D => exact pt_lp c cv IE hf hxb hr4 hcl htot hkd k n lo xa q M kf m w a cm Q sc L hs fst last v5 h hP hF
end
end
section
set_option maxRecDepth 100000
section
variable {α β : Type} {m0 w0 m w m2 w2 m3 w3 v u w1 mS wS V Z : MS} {K nm Nk W W2 : Nat → Nat} {N T D d o a aP a0 b b' b0 c cm cm0 cm2 cm3 q q0 r s lo lo0 mid hi hiA i j f f2 n k kk kd p p2 σ tk x xa xb xc xd gx kg kb mb nd fr M m1 lv y kf : Nat} {ndr : Nat → Int32} {Q Q0 Q1 Q2 Q3 Q4 : Nat → Nat} {sc sc0 sc2 sc3 t t0 t2 : SCT} {e e0 e2 : List Nat × List Nat × Nat} {g g2 lst l2 : Bool} {L L1 L2 Lr S hs fs : List Nat} {fst last : Option Nat} {l : List Int32} {idc fof cvr : Int → Int → Int} {z : Unit} {rt v1 v2 v3 v4 v5 v8 x1 x2 x3 x4 t4 t5 xw y20 pw kn : Int32} {fc : MS → Int32 → Option (MS × α)} {G : MS → Int32 → Int32 → Int32 → Int32 → Int32 → Option (MS × Int32)}
theorem XTF_nod (h : XTF m0 w0 K T nm Nk g L lo p a b cm cm2 q r Q Q2 sc sc2 m w m2 w2) (hN : NOD w2 V (Q2 32)) (h69 : V.1 69 = I (p : Nat)) (h16 : Q2 32 < 16000) : XTF m0 w0 K T nm Nk g L lo p a b cm cm2 q r Q (qst Q2 32 (Q2 32 + 1)) sc sc2 m w m2 V := by
  obtain ⟨a1, a2, a3, a4, a5, a7, a8, a9, a10⟩ := h
  have hR := a3.1
  have pT : p ≤ T := hR.1.2.1.2
  have hX := XRS_n hR hN.1 (fun k hk => funext (fun j => hN.2.2.1 k j (by omega))) h69 pT hN.2.1 (by omega)
  have hQ : QRR Q2 w2 V := QRR_N hN (Nat.le_refl _)
  have q32 : Q 32 ≤ Q2 32 := a8.2.1 32 (by decide)
  exact ⟨a1, a2, ⟨hX, by rw [qst_no (by decide)]; exact a3.2⟩, a4, a5, a7, ⟨QRR_tr a8.1 hQ a8.2.1, QLE_st a8.2.1 (by omega), by rw [qst_no (by decide), qst_no (by decide), qst_no (by decide)]; exact a8.2.2⟩, a9, fun n hn => by rw [qst_at]; have := a10 n hn; omega⟩
theorem XTF_L (h : XTF m0 w0 K T nm Nk g L lo hi a b cm cm2 q r Q Q2 sc sc2 m w m2 w2) (hl : ∀ n, n ∈ L2 → n ∈ L) : XTF m0 w0 K T nm Nk g L2 lo hi a b cm cm2 q r Q Q2 sc sc2 m w m2 w2 := by
  obtain ⟨a1, a2, a3, a4, a5, a7, a8, a9, a10⟩ := h
  exact ⟨a1, a2, a3, a4, a5, a7, a8, a9, fun n hn => a10 n (hl n hn)⟩
set_option maxHeartbeats 1000000 in
theorem x_prt (c : CTZ m0 w0 K T nm Nk) (cv : CTV m0 w0 K T) (IE : HXE N m0 w0 K T nm Nk fof cvr f) (hf : f ≤ 230) (hkd : (kd = 1 ∧ v3 = 15 ∧ pw = 37 ∧ kn = 21 ∧ y20 = I ((3 : Nat) : Int)) ∨ (kd = 2 ∧ v3 = 0 ∧ pw = 38 ∧ kn = 31 ∧ y20 = I ((8 : Nat) : Int))) (hE : RWcK m0 1 27 (PEc m0 f o kd) k n lo hi xa xb q r) (hxb : xb ≤ 8015) (hr4 : r ≤ 400) (k11 : K hi = 11) (hiT : hi < T) (hC : XCS m0 nm m a cm sc false) (hR : XRS w0 T w lo Q sc) (hq : Q 56 = q) (htot : tot sc + (hi - lo) ≤ 4000 ∧ sc.length ≤ o + 1) (htk : tk ≤ 4002) : PP (XZ m0 w0 K T nm Nk fof cvr lst false lo (hi + 1) a cm q r Q sc m w) (bnd ((jrc_Cm_fun N D).2.2.1 m (I (n : Nat)) (-1) v3 (lsI lst)) (fun u55 r55 => bnd (jm_Co_put N u55 pw) (fun u57 _ => bnd (hm_Co_arrive N u57 r55) (fun u60 _ => some (u60, ()))))) (kb_M_block_160 N (krc_M_behind N d) () w (I (tk : Nat)) (I ((hdS sc).1.length : Nat)) y20 kn) := by
  have t4 := c.2.1.1.1
  have hd := RW_xb PE_bE hE
  unfold HDc at hd
  obtain ⟨e, t, rfl⟩ := PRS_ne hR.1
  obtain ⟨q1, q2⟩ := XRS_q hR
  have lT : lo ≤ T := hR.1.2.1.2
  have elen : e.1.length ≤ 4000 := by
    have := hC.1.2.1.2.2.2.1
    have et : tot (e :: t) = tot t + e.1.length := rfl
    omega
  unfold kb_M_block_160
  refine r_nod q1 q2 (by rcases hkd with ⟨-, -, -, rfl, -⟩ | ⟨-, -, -, rfl, -⟩ <;> rfl) (nsh htk) (fun h16 => ?_)
  have d0 : NOD w (nwD w (Q 32) kn (I (tk : Nat))) (Q 32) := NOD_0 q1
  obtain ⟨d1, d2, d3, d4, d5, d6, d7, d8⟩ := nwD_at (w := w) (i := Q 32) (k := kn) (t := I (tk : Nat))
  have d9 : (nwD w (Q 32) kn (I (tk : Nat))).1 69 = I (lo : Nat) := by rw [nwD_i (by decide)]; exact hR.1.2.1.1
  generalize nwD w (Q 32) kn (I (tk : Nat)) = U at d0 d1 d2 d3 d4 d5 d6 d7 d8 d9
  rw [i_nt2 (p := Q 32) (by omega)]
  refine r_ck (fun _ => r_lt ?_)
  have hN : NOD w (upA U 27 (upd (U.2.2.1 27) (Q 32) (I ((hdS (e :: t)).1.length : Nat)))) (Q 32) := NOD_A d0 (by decide)
  have u23 : (upA U 27 (upd (U.2.2.1 27) (Q 32) (I ((hdS (e :: t)).1.length : Nat)))).2.2.1 23 (Q 32) = kn := by rw [upA_no (by decide)]; exact d1
  have u27 : (upA U 27 (upd (U.2.2.1 27) (Q 32) (I ((hdS (e :: t)).1.length : Nat)))).2.2.1 27 (Q 32) = I (e.1.length : Nat) := by rw [upA_at, upd_at]; rfl
  have u28 : (upA U 27 (upd (U.2.2.1 27) (Q 32) (I ((hdS (e :: t)).1.length : Nat)))).2.2.1 28 (Q 32) = -1 := by rw [upA_no (by decide)]; exact d6
  have u30 : (upA U 27 (upd (U.2.2.1 27) (Q 32) (I ((hdS (e :: t)).1.length : Nat)))).2.2.1 30 (Q 32) = 0 := by rw [upA_no (by decide)]; exact d8
  have u69 : (upA U 27 (upd (U.2.2.1 27) (Q 32) (I ((hdS (e :: t)).1.length : Nat)))).1 69 = I (lo : Nat) := d9
  generalize upA U 27 (upd (U.2.2.1 27) (Q 32) (I ((hdS (e :: t)).1.length : Nat))) = U2 at hN u23 u27 u28 u30 u69
  have hX2 : XRS w0 T U2 lo (qst Q 32 (Q 32 + 1)) (e :: t) := XRS_n hR hN.1 (fun k hk => funext (fun j => hN.2.2.1 k j (by omega))) u69 lT hN.2.1 (by omega)
  have X0 : XTF m0 w0 K T nm Nk false [] lo lo a a cm cm q q Q (qst Q 32 (Q 32 + 1)) (e :: t) (e :: t) m w m U2 := XTF_nod (XTF_rf hC hR hq) hN u69 h16
  have e32 : (qst Q 32 (Q 32 + 1)) 32 = Q 32 + 1 := qst_at
  have kd12 : (kd = 1 ∨ kd = 2) ∧ kd ≠ 3 := by rcases hkd with ⟨h, -⟩ | ⟨h, -⟩ <;> omega
  have main : ∀ x1 : Int32, ((kd = 1 ∧ x1 = 0) ∨ (kd = 2 ∧ x1 = 1)) → PP (XZ m0 w0 K T nm Nk fof cvr lst false lo (hi + 1) a cm q r Q (e :: t) m w) (bnd ((jrc_Cm_fun N D).2.2.1 m (I (n : Nat)) (-1) v3 (lsI lst)) (fun u55 r55 => bnd (jm_Co_put N u55 pw) (fun u57 _ => bnd (hm_Co_arrive N u57 r55) (fun u60 _ => some (u60, ()))))) (kb_M_block_186 N (krc_M_behind N d) () U2 (I (Q 32 : Nat)) x1) := fun x1 hx1 => by
    unfold kb_M_block_186
    cases D with
    | zero => exact pp_nl
    | succ D =>
    cases d with
    | zero => exact pp_nr
    | succ d =>
    refine pp_bb (pp_mo (R := PLZs m0 w0 K T nm Nk fof cvr lst kd 0 (Q 32) (fun k => U2.2.2.1 k (Q 32)) lo a a cm q Q (qst Q 32 (Q 32 + 1)) (e :: t) m w hi r) ?_ (fun m9 v9 w9 r9 hz => ?_))
    · show PP _ (jg_Cm_parts N (jrc_Cm_fun N D) N m (-1) v3 (lsI lst) 0 (I (n : Nat))) (br (decide (U2.1 67 = 0)) (kg_M_parts0 N (krc_M_behind N d) N U2 x1 (I (Q 32 : Nat)) (-1) (-1) 1) (kg_M_parts0 N (krc_M_behind N d) N U2 x1 (I (Q 32 : Nat)) (-1) (-1) 0))
      rw [decide_eq_true hX2.1.2.2.1, br_tq]
      refine pt_ll c cv IE hf hxb hr4 ⟨by rw [k11]; exact ⟨rfl, by decide, by decide, by decide⟩, by rw [k11]; decide, by rw [k11]; decide, by omega⟩ htot (by
        rcases hkd with ⟨h1, h2, -⟩ | ⟨h1, h2, -⟩
        · rcases hx1 with ⟨-, h3⟩ | ⟨h3, -⟩
          · exact Or.inl ⟨h1, rfl, h2, h3⟩
          · omega
        · rcases hx1 with ⟨h3, -⟩ | ⟨-, h3⟩
          · omega
          · exact Or.inr (Or.inl ⟨h1, h2, h3⟩)) k n lo xa q N N m U2 a cm (qst Q 32 (Q 32 + 1)) (e :: t) [] [] none none 0 hE ⟨X0, rfl, PTq_0, Iff.rfl, fun l hl => (by cases hl), ⟨QLE_st QLE_rf (by omega), QLE_rf, Nat.le_refl _, by rw [e32]; omega, Nat.le_refl _, Nat.le_refl _⟩, ⟨fun h hm => (by cases hm), rfl⟩, ⟨⟨1, [], Or.inl ⟨?_, rfl⟩, fun _ => Iff.rfl⟩, fun n hn => (by cases hn)⟩, fun _ _ _ _ => rfl⟩ (fun l hl => (by cases hl))
      show (U2.2.2.1 28 (Q 32)).toInt = -1
      rw [u28]; rfl
    · obtain ⟨a2, cm9, Q9, sc9, L9, hs9, k1, kl, rfl, ⟨hk1, hk1b⟩, g1, g2, g3, g4, g5, ⟨g6, g6b, g6c, g6d, g6e, g6f⟩, ⟨g7, g7b⟩, ⟨⟨fr, Lr, g8, g9⟩, g10⟩, g11⟩ := hz
      have hC9 := g1.2.1
      have le9 := g6b 32 (by decide)
      rw [e32] at le9
      have L9r : ∀ n, n ∈ L9 → n < Q9 32 := fun n hn => (g1.2.2.2.2.2.2.2.2 n hn).2
      refine l_put hC9.1.2.2.1.1 hC9.1.2.2.1.2.2 (fun ha => ?_)
      have c3 := XCS_put (x := pw) hC9 ha
      have em : ptc m9 a2 pw = ptcs m9 a2 [pw] := rfl
      rw [em] at c3 ⊢
      refine arr_n c3 (HKc_fr g7b (fun j hj => ptcs_o (Or.inl (g7 j hj).2))) (fun Z hZ hZC => ?_)
      obtain ⟨z1, z2, z3, z4, z5⟩ := hZ
      have zo : ∀ j, j < a2 → j ∉ hs9 → Z.2.2.1 23 j = m9.2.2.1 23 j := fun j hj hn => (z4 j hn).trans (ptcs_o (Or.inl hj))
      have za : Z.2.2.1 23 a2 = pw := (z4 a2 (fun y => by have := g7 a2 y; omega)).trans (ptcs_at (l := [pw]) (k := 0) rfl)
      have zr : ∀ k, k ≠ 23 → Z.2.2.1 k = m9.2.2.1 k := fun k hk => (z2 k hk).trans (ptcs_r hk)
      have XZ1 := XTF_cz g1 hZC (by omega) (fun k hk => by rw [z1]; exact ptcs_i hk) zr (fun j hj => zo j (by omega) (fun y => by have := g7 j y; omega))
      refine nd_w c XZ1.2.2.1.1 (k := 11) (s' := 6) (by decide) rfl (fun _ => ?_)
      have XZ2 := XTF_ad XZ1 (by omega) (by rw [k11]; decide)
      rw [i_nt2 (p := Q 32) (by omega)]
      refine r_ck (fun _ => r_lt (r_ck (fun _ => r_lt ?_)))
      have r32 : (upA (adv w9 hi) 25 (upd ((adv w9 hi).2.2.1 25) (Q 32) (I (k1 : Nat)))).1 32 = I (Q9 32 : Nat) := (XRS_q XZ2.2.2.1.1).1
      rw [r32]
      have Y1 : ∀ k n, (k ≠ 25 ∧ k ≠ 26) ∨ n ≠ Q 32 → (upA (upA (adv w9 hi) 25 (upd ((adv w9 hi).2.2.1 25) (Q 32) (I (k1 : Nat)))) 26 (upd ((upA (adv w9 hi) 25 (upd ((adv w9 hi).2.2.1 25) (Q 32) (I (k1 : Nat)))).2.2.1 26) (Q 32) (I (Q9 32 : Nat)))).2.2.1 k n = w9.2.2.1 k n := fun k n hk => by
        by_cases y1 : k = 26
        · subst y1
          rw [upA_at, upd_no (by omega), upA_no (by decide)]; rfl
        · rw [upA_no y1]
          by_cases y2 : k = 25
          · subst y2
            rw [upA_at, upd_no (by omega)]; rfl
          · rw [upA_no y2]; rfl
      have Y25 : (upA (upA (adv w9 hi) 25 (upd ((adv w9 hi).2.2.1 25) (Q 32) (I (k1 : Nat)))) 26 (upd ((upA (adv w9 hi) 25 (upd ((adv w9 hi).2.2.1 25) (Q 32) (I (k1 : Nat)))).2.2.1 26) (Q 32) (I (Q9 32 : Nat)))).2.2.1 25 (Q 32) = I (k1 : Nat) := by rw [upA_no (by decide), upA_at, upd_at]
      have Y26 : (upA (upA (adv w9 hi) 25 (upd ((adv w9 hi).2.2.1 25) (Q 32) (I (k1 : Nat)))) 26 (upd ((upA (adv w9 hi) 25 (upd ((adv w9 hi).2.2.1 25) (Q 32) (I (k1 : Nat)))).2.2.1 26) (Q 32) (I (Q9 32 : Nat)))).2.2.1 26 (Q 32) = I (Q9 32 : Nat) := by rw [upA_at, upd_at]
      have Yi : (upA (upA (adv w9 hi) 25 (upd ((adv w9 hi).2.2.1 25) (Q 32) (I (k1 : Nat)))) 26 (upd ((upA (adv w9 hi) 25 (upd ((adv w9 hi).2.2.1 25) (Q 32) (I (k1 : Nat)))).2.2.1 26) (Q 32) (I (Q9 32 : Nat)))).1 = (adv w9 hi).1 := rfl
      have YJ : (upA (upA (adv w9 hi) 25 (upd ((adv w9 hi).2.2.1 25) (Q 32) (I (k1 : Nat)))) 26 (upd ((upA (adv w9 hi) 25 (upd ((adv w9 hi).2.2.1 25) (Q 32) (I (k1 : Nat)))).2.2.1 26) (Q 32) (I (Q9 32 : Nat)))).2.2.2 = w9.2.2.2 := rfl
      generalize upA (upA (adv w9 hi) 25 (upd ((adv w9 hi).2.2.1 25) (Q 32) (I (k1 : Nat)))) 26 (upd ((upA (adv w9 hi) 25 (upd ((adv w9 hi).2.2.1 25) (Q 32) (I (k1 : Nat)))).2.2.1 26) (Q 32) (I (Q9 32 : Nat))) = Y at Y1 Y25 Y26 Yi YJ
      have XZ3 := XTF_rw (v := Y) XZ2 Yi (fun k n hk => by
        rw [Y1 k n (by
          by_cases y : k = 25 ∨ k = 26
          · have gk : grp k = 32 := if_pos (by omega)
            rw [gk] at hk
            exact Or.inr (by omega)
          · exact Or.inl (by omega))]
        rfl) YJ
      obtain ⟨n1, n2⟩ := XRS_q XZ3.2.2.1.1
      have Y69 := XZ3.2.2.1.1.1.2.1.1
      rw [Y69]
      refine r_nod n1 n2 rfl (nsh (by omega)) (fun h16b => ?_)
      have x0 : NOD Y (nwD Y (Q9 32) 30 (I ((hi + 1 : Nat) : Int))) (Q9 32) := NOD_0 n1
      obtain ⟨x1', -, -, -, -, x6, -⟩ := nwD_at (w := Y) (i := Q9 32) (k := 30) (t := I ((hi + 1 : Nat) : Int))
      have x9 : (nwD Y (Q9 32) 30 (I ((hi + 1 : Nat) : Int))).1 69 = I ((hi + 1 : Nat) : Int) := by rw [nwD_i (by decide)]; exact Y69
      generalize nwD Y (Q9 32) 30 (I ((hi + 1 : Nat) : Int)) = X at x0 x1' x6 x9
      rw [i_nt2 (p := Q9 32) (by omega)]
      refine r_ck (fun _ => r_ck (fun _ => r_lt ?_))
      have hNX : NOD Y (upA X 28 (upd (X.2.2.1 28) (Q9 32) (X.2.2.1 28 (Q 32)))) (Q9 32) := NOD_A x0 (by decide)
      have X23 : (upA X 28 (upd (X.2.2.1 28) (Q9 32) (X.2.2.1 28 (Q 32)))).2.2.1 23 (Q9 32) = 30 := by rw [upA_no (by decide)]; exact x1'
      have X28 : (upA X 28 (upd (X.2.2.1 28) (Q9 32) (X.2.2.1 28 (Q 32)))).2.2.1 28 (Q9 32) = w9.2.2.1 28 (Q 32) := by
        rw [upA_at, upd_at, x0.2.2.1 28 (Q 32) (Or.inr (Or.inr (by omega))), Y1 28 (Q 32) (Or.inl ⟨by decide, by decide⟩)]
      have X69 : (upA X 28 (upd (X.2.2.1 28) (Q9 32) (X.2.2.1 28 (Q 32)))).1 69 = I ((hi + 1 : Nat) : Int) := x9
      generalize upA X 28 (upd (X.2.2.1 28) (Q9 32) (X.2.2.1 28 (Q 32))) = V at hNX X23 X28 X69
      have XF := XTF_nod (XTF_L (L2 := Lr) XZ3 (fun n hn => (g9 n).mp hn)) hNX X69 h16b
      have Vr : ∀ k n, n ≠ Q9 32 → ((k ≠ 25 ∧ k ≠ 26) ∨ n ≠ Q 32) → V.2.2.1 k n = w9.2.2.1 k n := fun k n h1 h2 => by
        rw [hNX.2.2.1 k n (Or.inr (Or.inr h1)), Y1 k n h2]
      have Vo : ∀ k n, (k < 23 ∨ 31 < k) → V.2.2.1 k n = w9.2.2.1 k n := fun k n h1 => by
        rw [hNX.2.2.1 k n (by omega), Y1 k n (Or.inl (by omega))]
      have VJ : V.2.2.2 = w9.2.2.2 := hNX.2.2.2.trans YJ
      have nQ : Q 32 ≠ Q9 32 := by omega
      have V25 : V.2.2.1 25 (Q 32) = I (k1 : Nat) := by rw [hNX.2.2.1 25 _ (Or.inr (Or.inr nQ))]; exact Y25
      have V26 : V.2.2.1 26 (Q 32) = I (Q9 32 : Nat) := by rw [hNX.2.2.1 26 _ (Or.inr (Or.inr nQ))]; exact Y26
      have V23 : V.2.2.1 23 (Q 32) = kn := by rw [Vr 23 _ nQ (Or.inl (by decide)), g11 23 (by decide) (by decide) (by decide)]; exact u23
      have V27 : V.2.2.1 27 (Q 32) = I (e.1.length : Nat) := by rw [Vr 27 _ nQ (Or.inl (by decide)), g11 27 (by decide) (by decide) (by decide)]; exact u27
      have oN : Onm nm sc9 = Onm nm (e :: t) := by unfold Onm; rw [g2]
      have a24 : a2 + 1 ≤ 23990 := hZC.1.2.2.1.2.2
      refine pp_end ⟨a2 + 1, cm9, qst Q9 32 (Q9 32 + 1), sc9, Q9 32, fr + 1, Lr, rfl, ⟨by omega, by rw [qst_at]; omega⟩, XTR_of XF (fun C P R J H fi hx => ?_), ⟨by omega, by omega⟩, ⟨Q9 32, rfl, ⟨by omega, by rw [qst_at]; omega⟩, Lr, ?_, ?_⟩, fun n hn => ?_⟩
      · have ro : ∀ k i, 23 ≤ k ∧ k ≤ 31 → k ≠ 27 ∧ k ≠ 29 ∧ k ≠ 30 → Q 32 ≤ i → i ≤ Q9 32 → R k i = A V k i := fun k i k1 k2 i1 i2 => FIN_R fi k1 k2 ⟨i1, by rw [qst_at]; omega⟩
        have fx : FNx w0 fof cvr C P R J m9 w9 a a2 q r (qst Q 32 (Q 32 + 1)) Q9 lst L9 hs9 [kl] := by
          refine FNx_mo (FNx_0 (hs := []) (ps := []) fi) ⟨Nat.le_refl _, by omega⟩ ⟨Nat.le_refl _, Nat.le_refl _⟩ (QLE_st QLE_rf (by omega)) (QLE_st QLE_rf (by omega)) (fun j _ j2 j3 => zo j j2 j3) (fun k u k1 k2 _ _ => by rw [zr k (by omega)]) (fun k n k1 k2 k3 k4 k5 k6 => ?_) (fun n _ _ => by rw [VJ]) (fun n n1' n2' => ?_) (fun j hj => by cases hj) (fun j hj => by cases hj)
          · by_cases y : grp k = 32
            · rw [y] at k5
              rw [y, e32] at k4
              exact Vr k n (by omega) (Or.inr (by omega))
            · refine Vo k n ?_
              by_cases y1 : k < 23
              · exact Or.inl y1
              · by_cases y2 : 31 < k
                · exact Or.inr y2
                · exact absurd (by unfold grp; rw [if_pos (by omega)]) y
          · have e30 : A V 30 n = A w9 30 n := congrArg Int32.toInt (Vr 30 n (by omega) (Or.inl ⟨by decide, by decide⟩))
            rw [e30]
            by_cases y : lst = true ∧ n ∈ Lr
            · rw [if_pos y, if_pos ⟨y.1, (g9 n).mp y.2⟩]
            · rw [if_neg y, if_neg (fun y2 => y ⟨y2.1, (g9 n).mpr y2.2⟩)]
        have hch : ∀ h, h ∈ hs9 → C h = ((a2 + 1 : Nat) : Int) := fun h hm => by
          have := g7 h hm
          rw [fi.1 h (by omega) (by omega)]
          show (Z.2.2.1 23 h).toInt = _
          rw [z5 h hm]
          exact I_ti (by omega) (by omega)
        have r26 : R 26 (Q 32) = ((Q9 32 : Nat) : Int) := by
          rw [ro 26 _ (by decide) (by decide) (Nat.le_refl _) (by omega)]
          show (V.2.2.1 26 (Q 32)).toInt = _
          rw [V26]
          exact I_ti (by omega) (by omega)
        have hl5 := g5 kl rfl
        have q1le := g6 46 (by decide)
        have r45 : R 45 kl = -1 := by
          rw [fi.2.2.2.1.1 45 kl (by decide) (by decide) (by decide) (by decide) (by decide) (by show Q 46 ≤ kl; omega) (by show kl < qst Q9 32 (Q9 32 + 1) 46; rw [qst_no (by decide)]; omega)]
          show (V.2.2.1 45 kl).toInt = _
          rw [Vo 45 kl (Or.inr (by decide)), hl5.2.2]; rfl
        obtain ⟨b1, b2⟩ := XB c.2.2.1 hC hR (XTF_hx g1 hx) h16
        obtain ⟨b3, b4⟩ := XB c.2.2.1 hZC XZ3.2.2.1.1 hx h16b
        have cont : ∀ y, (y = none ↔ false = false) → CRe C R J y (a2 + 1) (qst Q9 32 (Q9 32 + 1) 32) H (Onm nm sc9) → CRe C R J none (a2 + 1) (Q9 32) H (Onm nm (e :: t)) := fun y hy hr => by
          have yn : y = none := hy.mpr rfl
          subst yn
          obtain ⟨d', hd'⟩ := hr
          rw [qst_at] at hd'
          rw [← oN]
          have R23 : R 23 (Q9 32) = 30 := by
            rw [ro 23 _ (by decide) (by decide) (by omega) (Nat.le_refl _)]
            show (V.2.2.1 23 (Q9 32)).toInt = _
            rw [X23]; rfl
          exact cr_1 b3 b4 ⟨d', Or.inr (Or.inr (Or.inr (Or.inr (Or.inr (Or.inr (Or.inr (Or.inr (Or.inr (Or.inr (Or.inr (Or.inr (Or.inr (Or.inr (Or.inr (Or.inr (Or.inr (Or.inr (Or.inr (Or.inr (Or.inr (Or.inr (Or.inr (Or.inr (Or.inr (Or.inr (Or.inr (Or.inr (Or.inr (Or.inr (⟨R23, hd'⟩))))))))))))))))))))))))))))))⟩
        obtain ⟨u1, u2⟩ := g3 C P R J H fx hx
        refine ⟨u1, fun y hy hr => ?_⟩
        · have yn : y = none := hy.mpr rfl
          have ca : C a2 = pw.toInt := by
            rw [fi.1 a2 (by omega) (by omega)]
            show (Z.2.2.1 23 a2).toInt = _
            rw [za]
          have hz1 : ∃ f, ZRs C R J (CRs C R J f) kd 0 H (Onm nm (e :: t)) f a2 (-1) := by
            refine ⟨1, by omega, Or.inl ⟨rfl, ?_⟩⟩
            rcases hkd with ⟨h1, -, rfl, -⟩ | ⟨h1, -, rfl, -⟩
            · exact Or.inr (Or.inl ⟨h1, ca⟩)
            · exact Or.inr (Or.inr (Or.inl ⟨h1, ca⟩))
          obtain ⟨fz, hz2⟩ := u2 (a2 + 1) (Q9 32) (-1) hch r26 (cont y hy hr) (fun l hl => by injection hl with hl; rw [← hl]; exact r45) hz1
          have R23 : R 23 (Q 32) = kn.toInt := by
            rw [ro 23 _ (by decide) (by decide) (Nat.le_refl _) (by omega)]
            show (V.2.2.1 23 (Q 32)).toInt = _
            rw [V23]
          have R25 : R 25 (Q 32) = ((k1 : Nat) : Int) := by
            rw [ro 25 _ (by decide) (by decide) (Nat.le_refl _) (by omega)]
            show (V.2.2.1 25 (Q 32)).toInt = _
            rw [V25]
            exact I_ti (by omega) (by omega)
          have kn12 : R 23 (Q 32) ≠ 12 ∧ R 23 (Q 32) ≠ 15 ∧ (R 23 (Q 32) = 21 ∨ R 23 (Q 32) = 31) ∧ (if R 23 (Q 32) = 21 then 1 else 2) = kd := by
            rw [R23]
            rcases hkd with ⟨h1, -, -, rfl, -⟩ | ⟨h1, -, -, rfl, -⟩
            · exact ⟨by decide, by decide, Or.inl rfl, by rw [h1]; rfl⟩
            · exact ⟨by decide, by decide, Or.inr rfl, by rw [h1]; rfl⟩
          have R27 : R 27 (Q 32) = (((Onm nm (e :: t)).length : Nat) : Int) := by
            rw [fi.2.2.2.1.2.1 (Q 32) (Nat.le_refl _) (by rw [qst_at]; omega) kn12.1 kn12.2.1]
            show (V.2.2.1 27 (Q 32)).toInt = _
            have l1 : (Onm nm (e :: t)).length = e.1.length := by unfold Onm; rw [List.length_map]; rfl
            rw [V27, l1]
            exact I_ti (by omega) (by omega)
          subst yn
          refine cr_1 b1 b2 ⟨fz, Or.inr (Or.inr (Or.inr (Or.inr (Or.inr (Or.inr (Or.inr (Or.inr (Or.inr (Or.inr (Or.inr (Or.inr (Or.inr (Or.inr (Or.inr (Or.inr (Or.inr (Or.inr (Or.inr (Or.inr (Or.inr (Or.inr (Or.inl ⟨kn12.2.2.1, rfl, R27, ?_⟩))))))))))))))))))))))⟩
          rw [kn12.2.2.2, R25]
          exact hz2
      · have e28 : A V 28 (Q9 32) = A w9 28 (Q 32) := congrArg Int32.toInt X28
        rw [e28]
        refine RT_w (i := Q 32 + 1) (by omega) fr true (Q9 32) _ _ _ (Nat.le_refl _) ?_
        exact (RT_fr (w := w9) (v := V) fr).1 (Q9 32) (Q9 32) _ Lr (Nat.le_refl _) (fun n m1 m2 => ⟨congrArg Int32.toInt (Vr 23 n (by omega) (Or.inl ⟨by decide, by decide⟩)), congrArg Int32.toInt (Vr 28 n (by omega) (Or.inl ⟨by decide, by decide⟩)), congrArg Int32.toInt (Vr 29 n (by omega) (Or.inl ⟨by decide, by decide⟩))⟩) g8
      · have e23 : A V 23 (Q9 32) = 30 := congrArg Int32.toInt X23
        rw [e23, if_neg (by decide)]
      · have hn9 := (g9 n).mp hn
        have e30 : A V 30 n = A w9 30 n := congrArg Int32.toInt (Vr 30 n (by have := L9r n hn9; omega) (Or.inl ⟨by decide, by decide⟩))
        rw [e30]; exact (g10 n hn9).2
  rcases hkd with ⟨h1, -, -, -, h5⟩ | ⟨h1, -, -, -, h5⟩
  · rw [h5, show decide (I ((3 : Nat) : Int) = (8 : Int32)) = false from rfl, br_fq]
    exact main 0 (Or.inl ⟨h1, rfl⟩)
  · rw [h5, show decide (I ((8 : Nat) : Int) = (8 : Int32)) = true from rfl, br_tq]
    exact main 1 (Or.inr ⟨h1, rfl⟩)
end
end
section
set_option maxRecDepth 100000
section
variable {α β : Type} {m0 w0 m w m2 w2 m3 w3 v u w1 mS wS : MS} {K nm Nk W W2 : Nat → Nat} {N T D d o a a0 b b0 c cm cm0 cm2 cm3 q q0 r s lo lo0 mid hi i j f f2 n k kk p p2 σ tk x xa xb xc mm M m1 lv y : Nat} {Q Q0 Q2 Q3 Q4 : Nat → Nat} {sc sc0 sc2 sc3 t t2 : SCT} {e e2 : List Nat × List Nat × Nat} {g lst l2 : Bool} {L L1 L2 S : List Nat} {idc fof cvr : Int → Int → Int} {z : Unit} {rt v1 v2 v3 v4 v5 : Int32}
theorem x_cas (c : CTZ m0 w0 K T nm Nk) (cv : CTV m0 w0 K T) (IE : HXE N m0 w0 K T nm Nk fof cvr f) (hf : f ≤ 230) (hC : XCS m0 nm m a cm sc g) (hR : XRS w0 T w lo Q sc) (hq : Q 56 = q) (hn : n ≤ 8015) (h16 : A m0 16 n = 9) (h17 : A m0 17 n = ((lo : Nat) : Int)) (h18 : A m0 18 n = ((x : Nat) : Int)) (hx : XPcK m0 f (o + 1) 3 x (lo + 1) mid xa xc q s) (h19 : A m0 19 n = ((mm : Nat) : Int)) (hE : RWcK m0 1 27 (PEc m0 f o 1) k mm (mid + 1) (hi - 1) xc xb s r) (hxb : xb ≤ 8015) (h6 : A m0 6 lo = 8) (h6m : A m0 6 mid = 15) (h6b : A m0 6 (hi - 1) = 11) (hr4 : r ≤ 400) (hiT : hi ≤ T) (htot : tot sc + (hi - lo) ≤ 4000 ∧ sc.length ≤ o + 1) : PP (XZ m0 w0 K T nm Nk fof cvr lst g lo hi a cm q r Q sc m w) (jm_Cm_expression N (jrc_Cm_fun N D) m (I (n : Nat)) (lsI lst)) (km_M_alone N (krc_M_behind N d) w (I (lo : Nat))) := by
  have t4 := c.2.1.1.1
  have fr := XCS_fr hC
  have hd1 := xp_hd hx
  have hd := RW_xb PE_bE hE
  unfold HDc at hd
  have k8 : K lo = 8 := kA c (by omega : lo ≤ T) h6
  have k15 : K mid = 15 := kA c (by omega : mid ≤ T) h6m
  have k11 : K (hi - 1) = 11 := kA c (by omega : hi - 1 ≤ T) h6b
  obtain ⟨e, t, rfl⟩ := PRS_ne hR.1
  refine exd_9 hn (tre fr (by decide) h16) (l_id ?_)
  cases D with
  | zero => exact pp_nl
  | succ D =>
  show PP _ (jm_Cm_compound N (jrc_Cm_fun N D) m (I (n : Nat)) (lsI lst)) _
  refine cmd_9 hn (tre fr (by decide) h16) hC.2 (tre fr (by decide) h17) (by omega) (fun hg => l_ck (fun _ => ?_))
  subst hg
  rw [tre fr (by decide) h18]
  refine al_wrd c hR (Or.inr (Or.inl k8)) (fun u xx hX hu => ?_)
  rw [decide_eq_false (by omega), br_fq]
  cases d with
  | zero => exact pp_nr
  | succ d =>
  have hi0 : XTR m0 w0 K T nm Nk fof cvr lst false [] lo lo a a cm cm q q Q Q (e :: t) (e :: t) m w m u := XTR_mv (XTR_rf hC hR hq) hX hu (Nat.le_refl _) (fun j a b => by omega)
  have rn := hX.1.2.2.2.1
  have tl : t.length + 1 ≤ 27 := rn.2.1.2
  have h60 : u.2.2.1 60 t.length = I (e.1.length : Nat) := rn.2.2.1.1.1
  have h65 : u.1 65 = I (t.length : Nat) := rn.1
  have hw := XRS_wp c hX
  have h7 : u.2.2.1 7 lo = I ((3 : Nat) : Int) := by
    have := hw.1.2.2 lo (by omega) (by omega)
    rw [k8] at this
    exact this
  show PP _ _ (bnd (kb_M_block_0 N (krc_M_behind N d) () u (I (lo : Nat))) _)
  unfold kb_M_block_0
  rw [h65, hX.1.2.1.1, i_nt2 (p := t.length) (by omega), i_nt2 (p := lo) (by omega), h60, h7, bnd_ck]
  refine r_ck (fun _ => ?_)
  rw [bnd_lt]
  refine r_lt ?_
  rw [bnd_ck]
  refine r_ck (fun _ => ?_)
  rw [bnd_lt]
  refine r_lt ?_
  rw [show decide (I ((3 : Nat) : Int) = (2 : Int32)) = false from rfl, br_fq, show decide (I ((3 : Nat) : Int) = (3 : Int32)) = true from rfl, br_tq]
  unfold kb_M_block_49
  have e69 : u.1 69 + 1 = I ((lo + 1 : Nat) : Int) := by rw [hX.1.2.1.1, i_suc]
  rw [e69, show upI u 69 (I ((lo + 1 : Nat) : Int)) = adv u lo from rfl, bnd_lt, lt_e, show decide (I ((3 : Nat) : Int) = (2 : Int32)) = false from rfl, br_fq, show decide (I ((3 : Nat) : Int) = (3 : Int32)) = true from rfl, br_tq, bnd_as2]
  have ht := XTR_ad hi0 (by omega) (by omega)
  refine pp_bb (pp_mo (IE D d (o + 1) x (lo + 1) mid xa xc q s m (adv u lo) a cm Q (e :: t) false false hx (by omega) (by omega) ⟨by rw [k15]; exact ⟨rfl, by decide, by decide, by decide⟩, by omega⟩ hC ht.2.2.1.1 hq (by omega)) (fun m2 z w2 rt hz => ?_))
  have hlt : a < (hz.choose : Nat) := by
    obtain ⟨_, _, _, _, _, _, -, -, -, z4, -⟩ := hz.choose_spec
    omega
  obtain ⟨b, cm2, Q2, sc2, hX2⟩ := XZ_tr hz ht
  have hR2 := hX2.2.2.1.1
  have hC2 := hX2.2.1
  have fr2 := XCS_fr hC2
  rw [bnd_as2]
  refine nd_w c hR2 (k := 15) (s' := 10) (by decide) rfl (fun _ => ?_)
  have ht2 := XTR_ad hX2 (show mid < T by omega) (by omega)
  obtain ⟨e2, t2, rfl⟩ := PRS_ne hR2.1
  have rn2 := ht2.2.2.1.1.1.2.2.2.1
  have tl2 : t2.length + 1 ≤ 27 := rn2.2.1.2
  have g60 : (adv w2 mid).2.2.1 60 t2.length = I (e2.1.length : Nat) := rn2.2.2.1.1.1
  have g65 : (adv w2 mid).1 65 = I (t2.length : Nat) := rn2.1
  rw [g65, i_nt2 (p := t2.length) (by omega), g60, bnd_ck]
  refine r_ck (fun _ => ?_)
  rw [bnd_lt]
  refine r_lt ?_
  unfold kb_M_block_131
  rw [show decide (I ((3 : Nat) : Int) = (12 : Int32)) = false from rfl, br_fq, show decide (I ((3 : Nat) : Int) = (3 : Int32)) = true from rfl, br_tq]
  refine l_ck (fun _ => ?_)
  rw [tre fr2 (by decide) h19]
  have hh := x_prt (N := N) (D := D) (d := d) (lst := lst) (v3 := 15) (pw := 37) (kn := 21) (y20 := I ((3 : Nat) : Int)) (tk := lo) c cv IE hf (Or.inl ⟨rfl, rfl, rfl, rfl, rfl⟩) hE hxb hr4 k11 (by omega) hC2 ht2.2.2.1.1 ht2.2.2.1.2 (by have := ht2.2.2.2.1; have := XTR_len ht2; omega) (by omega)
  refine pp_rb (pp_mo hh (fun m9 z9 w9 r9 hz9 => pk_some ?_))
  have hz2 := XZ_bh ht2 hz9
  rw [show hi - 1 + 1 = hi by omega] at hz2
  exact XZ_out hz2 (fun Q2 sc2 h => XRS_I h (by decide) (by decide)) rfl (Nat.le_refl _) (fun j a b => by omega)
theorem x_iff (c : CTZ m0 w0 K T nm Nk) (cv : CTV m0 w0 K T) (IE : HXE N m0 w0 K T nm Nk fof cvr f) (hf : f ≤ 230) (hC : XCS m0 nm m a cm sc g) (hR : XRS w0 T w lo Q sc) (hq : Q 56 = q) (hn : n ≤ 8015) (h16 : A m0 16 n = 10) (h17 : A m0 17 n = ((lo : Nat) : Int)) (h19 : A m0 19 n = ((mm : Nat) : Int)) (hE : RWcK m0 1 27 (PEc m0 f o 2) k mm (lo + 1) (hi - 1) xa xb q r) (hxb : xb ≤ 8015) (h6 : A m0 6 lo = 13) (h6b : A m0 6 (hi - 1) = 11) (hr4 : r ≤ 400) (hiT : hi ≤ T) (htot : tot sc + (hi - lo) ≤ 4000 ∧ sc.length ≤ o + 1) : PP (XZ m0 w0 K T nm Nk fof cvr lst g lo hi a cm q r Q sc m w) (jm_Cm_expression N (jrc_Cm_fun N D) m (I (n : Nat)) (lsI lst)) (km_M_alone N (krc_M_behind N d) w (I (lo : Nat))) := by
  have t4 := c.2.1.1.1
  have fr := XCS_fr hC
  have hd := RW_xb PE_bE hE
  unfold HDc at hd
  have k8 : K lo = 13 := kA c (by omega : lo ≤ T) h6
  have k11 : K (hi - 1) = 11 := kA c (by omega : hi - 1 ≤ T) h6b
  obtain ⟨e, t, rfl⟩ := PRS_ne hR.1
  refine exd_10 hn (tre fr (by decide) h16) (l_id ?_)
  cases D with
  | zero => exact pp_nl
  | succ D =>
  show PP _ (jm_Cm_compound N (jrc_Cm_fun N D) m (I (n : Nat)) (lsI lst)) _
  refine cmd_10 hn (tre fr (by decide) h16) hC.2 (tre fr (by decide) h17) (by omega) (fun hg => l_ck (fun _ => ?_))
  subst hg
  rw [tre fr (by decide) h19]
  refine al_wrd c hR (Or.inr (Or.inr (Or.inr (Or.inl k8)))) (fun u xx hX hu => ?_)
  rw [decide_eq_false (by omega), br_fq]
  cases d with
  | zero => exact pp_nr
  | succ d =>
  have hi0 : XTR m0 w0 K T nm Nk fof cvr lst false [] lo lo a a cm cm q q Q Q (e :: t) (e :: t) m w m u := XTR_mv (XTR_rf hC hR hq) hX hu (Nat.le_refl _) (fun j a b => by omega)
  have rn := hX.1.2.2.2.1
  have tl : t.length + 1 ≤ 27 := rn.2.1.2
  have h60 : u.2.2.1 60 t.length = I (e.1.length : Nat) := rn.2.2.1.1.1
  have h65 : u.1 65 = I (t.length : Nat) := rn.1
  have hw := XRS_wp c hX
  have h7 : u.2.2.1 7 lo = I ((8 : Nat) : Int) := by
    have := hw.1.2.2 lo (by omega) (by omega)
    rw [k8] at this
    exact this
  show PP _ _ (bnd (kb_M_block_0 N (krc_M_behind N d) () u (I (lo : Nat))) _)
  unfold kb_M_block_0
  rw [h65, hX.1.2.1.1, i_nt2 (p := t.length) (by omega), i_nt2 (p := lo) (by omega), h60, h7, bnd_ck]
  refine r_ck (fun _ => ?_)
  rw [bnd_lt]
  refine r_lt ?_
  rw [bnd_ck]
  refine r_ck (fun _ => ?_)
  rw [bnd_lt]
  refine r_lt ?_
  rw [show decide (I ((8 : Nat) : Int) = (2 : Int32)) = false from rfl, br_fq, show decide (I ((8 : Nat) : Int) = (3 : Int32)) = false from rfl, br_fq, show decide (I ((8 : Nat) : Int) = (8 : Int32)) = true from rfl, br_tq]
  unfold kb_M_block_49
  have e69 : u.1 69 + 1 = I ((lo + 1 : Nat) : Int) := by rw [hX.1.2.1.1, i_suc]
  rw [e69, show upI u 69 (I ((lo + 1 : Nat) : Int)) = adv u lo from rfl, bnd_lt, lt_e, show decide (I ((8 : Nat) : Int) = (2 : Int32)) = false from rfl, br_fq, show decide (I ((8 : Nat) : Int) = (3 : Int32)) = false from rfl, br_fq]
  have ht := XTR_ad hi0 (by omega) (by omega)
  unfold kb_M_block_131
  rw [show decide (I ((8 : Nat) : Int) = (12 : Int32)) = false from rfl, br_fq, show decide (I ((8 : Nat) : Int) = (3 : Int32)) = false from rfl, br_fq]
  have hh := x_prt (N := N) (D := D) (d := d) (lst := lst) (v3 := 0) (pw := 38) (kn := 31) (y20 := I ((8 : Nat) : Int)) (tk := lo) c cv IE hf (Or.inr ⟨rfl, rfl, rfl, rfl, rfl⟩) hE hxb hr4 k11 (by omega) hC ht.2.2.1.1 hq (by omega) (by omega)
  refine pp_rb (pp_mo hh (fun m9 z9 w9 r9 hz9 => pk_some ?_))
  have hz2 := XZ_bh ht hz9
  rw [show hi - 1 + 1 = hi by omega] at hz2
  exact XZ_out hz2 (fun Q2 sc2 h => XRS_I h (by decide) (by decide)) rfl (Nat.le_refl _) (fun j a b => by omega)
end
end
section
set_option maxRecDepth 100000
def RFQ (k0 : Nat) (w w2 : MS) (pi : Nat) : Prop := (∀ k, k ≠ 39 → k ≠ 66 → k ≠ 69 → w2.1 k = w.1 k) ∧ (∀ k, k < 33 ∨ k = 39 ∨ (41 < k ∧ k < 59) ∨ 64 < k → w2.2.2.1 k = w.2.2.1 k) ∧ (∀ k n, k = 40 ∨ k = 41 → n ≠ k0 → w2.2.2.1 k n = w.2.2.1 k n) ∧ (∀ k q, q < pi → 33 ≤ k → k ≤ 38 → w2.2.2.1 k q = w.2.2.1 k q) ∧ ∀ k q, q < pi ∨ k ≠ 34 → w2.2.2.2 k q = w.2.2.2 k q
def RWC (m0 w0 : MS) (K : Nat → Nat) (T : Nat) (nm Nk : Nat → Nat) (f lo0 a0 cm0 pi0 k0 : Nat) (sc0 : SCT) (mS wS : MS) (j : Nat) (last : Option Nat) (m w : MS) (p a cm pi : Nat) (sc : SCT) : Prop := PCS m0 nm m a cm sc true ∧ PRd w0 T w p pi sc ∧ (lo0 ≤ p ∧ a0 ≤ a ∧ pi0 ≤ pi) ∧ (NMX cm0 cm sc0 sc ∧ tot sc ≤ tot sc0 + (p - lo0)) ∧ (∃ W, HDo Nk K W lo0 p sc0 sc ∧ m.2.2.1 42 = wup (mS.2.2.1 42) K W lo0 p) ∧ CFP mS m a0 (sc0.length - 1) ∧ RFQ k0 wS w pi0 ∧ w.2.2.1 41 k0 = I (j : Nat) ∧ ((j = 0 ∧ a = a0 ∧ pi = pi0 ∧ sc = sc0 ∧ last = none) ∨ ∃ first l : Nat, 1 ≤ j ∧ last = some l ∧ w.2.2.1 40 k0 = I (first : Nat) ∧ ((pi0 ≤ first ∧ first < pi) ∧ pi0 ≤ l ∧ l < pi) ∧ w.2.2.1 37 l = -1 ∧ ∀ C R J H, AGC C m a0 a → GRS R w0 → AGP R J w pi0 pi l → HPX nm sc H → PTL C R J H f 0 j a0 first (Onm nm sc0) a l (Onm nm sc))
section
variable {α β : Type} {m0 w0 m w mS wS m2 w2 m3 w3 : MS} {K nm Nk W W2 : Nat → Nat} {T N n nn lo lo0 mid hi f a a0 cm cm0 b pi pi0 pj k0 j kk p d D xb r : Nat} {sc sc0 sc2 : SCT} {last : Option Nat} {v1 v2 v3 v4 v5 : Int32} {S : SG_M_behind} {fc : MS → Int32 → Option (MS × α)} {RR : MS → α → MS → Int32 → Prop}
theorem RFQ_P (h : RFQ k0 wS w pi0) (k : RFP w w2 pi) (hp : pi0 ≤ pi) : RFQ k0 wS w2 pi0 := ⟨fun j a b c => (k.1 j a b c).trans (h.1 j a b c), fun j hj => by rw [k.2.1 j (by omega)]; exact h.2.1 j hj, fun j n hj hn => by rw [k.2.1 j (by omega)]; exact h.2.2.1 j n hj hn, fun j q hq a b => by rw [k.2.2.1 j q (by omega) (by omega)]; exact h.2.2.2.1 j q hq a b, fun j q hq => by rw [k.2.2.2 j q (by omega)]; exact h.2.2.2.2 j q hq⟩
theorem RFQ_c {x : Int32} (h : RFQ k0 wS w pi0) (hk : j = 40 ∨ j = 41) : RFQ k0 wS (upA w j (upd (w.2.2.1 j) k0 x)) pi0 := ⟨h.1, fun k hk' => by rw [upA_no (by omega)]; exact h.2.1 k hk', fun k n a b => by
  by_cases z : k = j
  · subst z
    rw [upA_at, upd_no b]; exact h.2.2.1 k n a b
  · rw [upA_no z]; exact h.2.2.1 k n a b, fun k q hq a b => by rw [upA_no (by omega)]; exact h.2.2.2.1 k q hq a b, h.2.2.2.2⟩
theorem RFQ_37 {x : Int32} (h : RFQ k0 wS w pi0) (hq : pi0 ≤ b) : RFQ k0 wS (upA w 37 (upd (w.2.2.1 37) b x)) pi0 := ⟨h.1, fun k hk => by rw [upA_no (by omega)]; exact h.2.1 k hk, fun k n a b => by rw [upA_no (by omega)]; exact h.2.2.1 k n a b, fun k q hq' a b' => by
  by_cases z : k = 37
  · subst z
    rw [upA_at, upd_no (by omega)]; exact h.2.2.2.1 37 q hq' a b'
  · rw [upA_no z]; exact h.2.2.2.1 k q hq' a b', h.2.2.2.2⟩
theorem RFQ_I {x : Int32} {k : Nat} (h : RFQ k0 wS w pi0) (hk : k = 39 ∨ k = 66 ∨ k = 69) : RFQ k0 wS (upI w k x) pi0 := ⟨fun j a b c => by rw [upI_ne (by omega)]; exact h.1 j a b c, h.2⟩
theorem RWC_ad (h : RWC m0 w0 K T nm Nk f lo0 a0 cm0 pi0 k0 sc0 mS wS j last m w p a cm pi sc) (hl : p < T) (hk : K p ≠ 3) : RWC m0 w0 K T nm Nk f lo0 a0 cm0 pi0 k0 sc0 mS wS j last m (adv w p) (p + 1) a cm pi sc := by
  obtain ⟨r1, r2, r3, r4, ⟨W, r5, r6⟩, r7, r8, r9, r10⟩ := h
  exact ⟨r1, PRS_ad r2 hl, ⟨by omega, r3.2⟩, ⟨r4.1, by have := r4.2; omega⟩, ⟨W, HDo_tr r3.1 (by omega) r5 (HDo_gap (fun j a b => by rw [show j = p by omega]; exact hk)), by rw [wup_ex1 r3.1 hk]; exact r6⟩, r7, RFQ_I r8 (Or.inr (Or.inr rfl)), r9, r10⟩
theorem rwc_1 (ra : RWC m0 w0 K T nm Nk f lo0 a0 cm0 pi0 k0 sc0 mS wS j last m w lo a cm pi sc) (hk0 : k0 ≤ 16000) (hlm : lo ≤ mid) (hz : PTZ m0 w0 K T nm Nk f lo mid true a cm pi sc m w m2 () w2 v1) (hj : j ≤ 5) {A' : Option (MS × α)} {F : MS → Int32 → Option (MS × Int32)}
    (hh : ∀ w3 b cm2 pj sc2 l2, v1 = I (l2 : Nat) → RWC m0 w0 K T nm Nk f lo0 a0 cm0 pi0 k0 sc0 mS wS (j + 1) (some l2) m2 w3 mid b cm2 pj sc2 → PP RR A' (ck (inb (I (k0 : Nat)) (ln 41)) (br (decide (I ((j + 1 : Nat) : Int) = 6)) (bnd (fm_M_isSign N w3 6) (fun u11 r11 => br (decide (r11 = 0)) (F u11 v1) (bnd (km_M_wrong N u11 2) (fun u12 _ => F u12 v1)))) (F w3 v1)))) : PP RR A' (br (decide (optI last = -1)) (ck (inb (I (k0 : Nat)) (ln 40)) (lt (upA w2 40 (upd (w2.2.2.1 40) k0 v1)) (fun w15 => ck (inb (I (k0 : Nat)) (ln 41)) (ck (inb (I (k0 : Nat)) (ln 41)) (lt (upA w15 41 (upd (w15.2.2.1 41) k0 ((w15.2.2.1 41 k0) + 1))) (fun w10 => ck (inb (I (k0 : Nat)) (ln 41)) (br (decide ((w10.2.2.1 41 k0) = 6)) (bnd (fm_M_isSign N w10 6) (fun u11 r11 => br (decide (r11 = 0)) (F u11 v1) (bnd (km_M_wrong N u11 2) (fun u12 _ => F u12 v1)))) (F w10 v1))))))) ) (ck (inb (optI last) (ln 37)) (lt (upA w2 37 (upd (w2.2.2.1 37) (optI last).toNatClampNeg v1)) (fun w14 => ck (inb (I (k0 : Nat)) (ln 41)) (ck (inb (I (k0 : Nat)) (ln 41)) (lt (upA w14 41 (upd (w14.2.2.1 41) k0 ((w14.2.2.1 41 k0) + 1))) (fun w10 => ck (inb (I (k0 : Nat)) (ln 41)) (br (decide ((w10.2.2.1 41 k0) = 6)) (bnd (fm_M_isSign N w10 6) (fun u11 r11 => br (decide (r11 = 0)) (F u11 v1) (bnd (km_M_wrong N u11 2) (fun u12 _ => F u12 v1)))) (F w10 v1))))))))) := by
  obtain ⟨r1, r2, r3, r4, ⟨W, r5, r6⟩, r7, r8, r9, r10⟩ := ra
  obtain ⟨pn, b, pj, cm2, sc2, W2, e1, e2, e3, e4, e5, e6, e7, e8, e9, e10, e11⟩ := hz
  subst e1
  have pj5 : pj ≤ 5000 := e5.2.2.2.2.2.2
  have sl : sc.length = sc0.length := NMX_len r4.1
  have f9 : CFP mS m2 a0 (sc0.length - 1) := by
    rw [← sl]
    exact CFP_tr (by rw [sl]; exact r7) e9 (by omega)
  have hw42 : m2.2.2.1 42 = wup (mS.2.2.1 42) K (mrw lo W W2) lo0 mid := by rw [e8, r6, mrw_wup r3.1 hlm]
  have hHD : HDo Nk K (mrw lo W W2) lo0 mid sc0 sc2 := HDo_tr r3.1 hlm (HDo_w (fun j _ b => if_pos b) r5) (HDo_w (fun j a _ => if_neg (by omega)) e7.1)
  have q8 := RFQ_P r8 e10 r3.2.2
  have w41 : w2.2.2.1 41 k0 = I (j : Nat) := by rw [e10.2.1 41 (Or.inr (Or.inl ⟨by decide, by decide⟩))]; exact r9
  have w40 : w2.2.2.1 40 k0 = w.2.2.1 40 k0 := by rw [e10.2.1 40 (Or.inr (Or.inl ⟨by decide, by decide⟩))]
  have m2m : ∀ q, q < a → m2.2.2.1 23 q = m.2.2.1 23 q := e9.2.2.1
  have agp : ∀ (R : Nat → Nat → Int) (J : Nat → Int64) (w3 : MS), AGP R J w3 pi0 pj pn → (∀ k q, 33 ≤ k → k ≤ 38 → pi ≤ q → w3.2.2.1 k q = w2.2.2.1 k q) → w3.2.2.2 = w2.2.2.2 → AGP R J w2 pi pj pn := fun R J w3 h hr hj q q1 q2 => by
    obtain ⟨g1, g2, g3, g4, g5, g6⟩ := h q (by omega) q2
    have ee : ∀ k, 33 ≤ k → k ≤ 38 → A w3 k q = A w2 k q := fun k k1 k2 => by show (w3.2.2.1 k q).toInt = _; rw [hr k q k1 k2 q1]; rfl
    rw [ee 33 (by decide) (by decide)] at g1
    rw [ee 35 (by decide) (by decide)] at g2
    rw [ee 36 (by decide) (by decide)] at g3
    rw [ee 38 (by decide) (by decide)] at g4
    rw [hj] at g5
    exact ⟨g1, g2, g3, g4, g5, fun z => by rw [g6 z, ee 37 (by decide) (by decide)]⟩
  have sub2 : ∀ (C : Nat → Int), AGC C m2 a0 b → AGC C m2 a b := fun C h k k1 k2 => h k (by omega) k2
  have fin : ∀ (w3 : MS) (first : Nat), PRd w0 T w3 mid pj sc2 → RFQ k0 wS w3 pi0 → w3.2.2.1 41 k0 = I (j : Nat) → w3.2.2.1 40 k0 = I (first : Nat) → (pi0 ≤ first ∧ first < pj) → w3.2.2.1 37 pn = -1 → (∀ C R J H, AGC C m2 a0 b → GRS R w0 → AGP R J w3 pi0 pj pn → HPX nm sc2 H → PTL C R J H f 0 (j + 1) a0 first (Onm nm sc0) b pn (Onm nm sc2)) → PP RR A' (ck (inb (I (k0 : Nat)) (ln 41)) (ck (inb (I (k0 : Nat)) (ln 41)) (lt (upA w3 41 (upd (w3.2.2.1 41) k0 ((w3.2.2.1 41 k0) + 1))) (fun w10 => ck (inb (I (k0 : Nat)) (ln 41)) (br (decide ((w10.2.2.1 41 k0) = 6)) (bnd (fm_M_isSign N w10 6) (fun u11 r11 => br (decide (r11 = 0)) (F u11 (I (pn : Nat))) (bnd (km_M_wrong N u11 2) (fun u12 _ => F u12 (I (pn : Nat)))))) (F w10 (I (pn : Nat)))))))) := fun w3 first p1 p2 p3 p4 p5 p6 p7 => by
    refine r_ck (fun _ => r_ck (fun _ => ?_))
    rw [p3, i_suc, lt_e]
    have x41 : (upA w3 41 (upd (w3.2.2.1 41) k0 (I ((j + 1 : Nat) : Int)))).2.2.1 41 k0 = I ((j + 1 : Nat) : Int) := by rw [upA_at, upd_at]
    rw [x41]
    exact hh (upA w3 41 (upd (w3.2.2.1 41) k0 (I ((j + 1 : Nat) : Int)))) b cm2 pj sc2 pn rfl ⟨e4, PRS_x p1 (fun _ _ => rfl) (fun k hk => upA_no (by omega)) p1.2.1.1, ⟨by omega, by omega, by omega⟩, ⟨NMX_tr r4.1 e6.1, by have := e6.2; have := r4.2; omega⟩, ⟨_, hHD, hw42⟩, f9, RFQ_c p2 (Or.inr rfl), x41, Or.inr ⟨first, pn, by omega, rfl, by rw [upA_no (by decide)]; exact p4, ⟨p5, by omega, by omega⟩, by rw [upA_no (by decide)]; exact p6, fun C R J H gc gr gp gh => p7 C R J H gc gr (fun q q1 q2 => by
        have := gp q q1 q2
        exact this) gh⟩⟩
  rcases r10 with ⟨y1, y2, y3, y4, y5⟩ | ⟨first, l, y1, y2, y3, y4, y5, y6⟩
  · subst y5
    subst y4
    subst y2
    rw [show decide (optI (none : Option Nat) = -1) = true from rfl, br_tq]
    refine r_ck (fun _ => r_lt ?_)
    refine fin _ pn (PRS_x e5 (fun _ _ => rfl) (fun k hk => upA_no (by omega)) e5.2.1.1) (RFQ_c q8 (Or.inl rfl)) (by rw [upA_no (by decide)]; exact w41) (by rw [upA_at, upd_at]) ⟨by omega, by omega⟩ (by rw [upA_no (by decide)]; exact e2.2.2) (fun C R J H gc gr gp gh => ?_)
    subst y1
    refine Or.inl ⟨rfl, rfl, fun z => (by cases z), ?_⟩
    exact e11 C R J H gc gr (agp R J _ gp (fun k q k1 k2 _ => by rw [upA_no (by omega)]) rfl) gh
  · subst y2
    have lb : l < 5000 := by have := r2.2.2.2.2.2.2; omega
    rw [show optI (some l) = I (l : Nat) from rfl, decide_eq_false (nat_ne2 (by omega)), br_fq]
    refine r_ck (fun _ => r_lt ?_)
    rw [i_nt2 (by omega)]
    refine fin _ first (PRS_k e5 (fun _ _ _ _ => rfl) (fun k hk => upA_no (by omega)) e5.2.1.1 e5.2.1.2 e5.2.2.2.2.2.1 pj5) (RFQ_37 q8 (by omega)) (by rw [upA_no (by decide)]; exact w41) (by rw [upA_no (by decide), w40]; exact y3) ⟨by omega, by omega⟩ (by rw [upA_at, upd_no (by omega)]; exact e2.2.2) (fun C R J H gc gr gp gh => ?_)
    refine Or.inr ⟨y1, a, l, Onm nm sc, y6 C R J H (AGC_sub gc m2m (by omega)) gr (fun q q1 q2 => ?_) (HPX_mo e7.1 gh), ?_, fun z => (by cases z), ?_⟩
    · obtain ⟨g1, g2, g3, g4, g5, g6⟩ := gp q q1 (by omega)
      have ee : ∀ k, 33 ≤ k → k ≤ 38 → k ≠ 37 → A (upA w2 37 (upd (w2.2.2.1 37) l (I (pn : Nat)))) k q = A w k q := fun k k1 k2 h37 => by
        show ((upA w2 37 _).2.2.1 k q).toInt = _
        rw [upA_no h37, e10.2.2.1 k q q2 (by omega)]; rfl
      rw [ee 33 (by decide) (by decide) (by decide)] at g1
      rw [ee 35 (by decide) (by decide) (by decide)] at g2
      rw [ee 36 (by decide) (by decide) (by decide)] at g3
      rw [ee 38 (by decide) (by decide) (by decide)] at g4
      refine ⟨g1, g2, g3, g4, g5.trans (e10.2.2.2 34 q (Or.inl q2)), fun z => ?_⟩
      rw [g6 (by omega)]
      show ((upA w2 37 _).2.2.1 37 q).toInt = _
      rw [upA_at, upd_no z, e10.2.2.1 37 q q2 (by decide)]; rfl
    · rw [(gp l (by omega) (by omega)).2.2.2.2.2 (by omega)]
      show ((upA w2 37 _).2.2.1 37 l).toInt = _
      rw [upA_at, upd_at]
      exact I_ti (by omega) (by omega)
    · exact e11 C R J H (sub2 C gc) gr (agp R J _ gp (fun k q k1 k2 hq => by
        by_cases z : k = 37
        · subst z
          rw [upA_at, upd_no (by omega)]
        · rw [upA_no z]) rfl) gh
theorem rwc_lp (c : CTZ m0 w0 K T nm Nk) (cv : CTV m0 w0 K T) (hk0 : k0 ≤ 16000) (hxb : xb ≤ 8015) (htot : tot sc0 + (hi - lo0) ≤ 4000) (hK : K hi ≠ 26) (hkk : kk ≤ 6)
    (hend : ∀ M kf m2 w2 b cm2 pj sc2 l2, RWC m0 w0 K T nm Nk f lo0 a0 cm0 pi0 k0 sc0 mS wS kk (some l2) m2 w2 hi b cm2 pj sc2 → PP RR (bnd ((jg_Cm_tries N (jrc_Cm_fun N D) kf).1 m2 (I (nn : Nat)) v3 v4 (I ((0 : Nat) : Int))) fc) (kg_M_clause N S M w2 (I (k0 : Nat)) (I (l2 : Nat)) 0)) :
    ∀ (k n lo xa q M kf j : Nat) (last : Option Nat) (m w : MS) (a cm pi : Nat) (sc : SCT), RWcK m0 1 26 (PAcK m0 f) k n lo hi xa xb q r → RWC m0 w0 K T nm Nk f lo0 a0 cm0 pi0 k0 sc0 mS wS j last m w lo a cm pi sc → j + k = kk → PP RR (bnd ((jg_Cm_tries N (jrc_Cm_fun N D) kf).1 m (I (nn : Nat)) v3 v4 (I (n : Nat))) fc) (kg_M_clause N S M w (I (k0 : Nat)) (optI last) 1)
  | 0, _, _, _, _, _, _, _, _, _, _, _, _, _, _, h, _, _ => h.elim
  | k + 1, n, lo, xa, q, M, kf, j, last, m, w, a, cm, pi, sc, h, ra, hjk => by
    obtain ⟨mid, c1, s1, e, h⟩ := h
    have hd := PA_bdK _ _ _ _ _ _ _ _ e
    unfold HDc at hd
    have hc : c1 ≤ xb ∧ mid ≤ hi := by
      rcases h with ⟨-, -, h1, h2, -⟩ | ⟨-, n2, -, h3⟩
      · omega
      · have := (RW_hdK (PA_bdK _) h3).1
        unfold HDc at this
        omega
    have t4 := c.2.1.1.1
    cases kf with
    | zero => exact pp_nl
    | succ kf =>
    cases M with
    | zero => exact pp_nr
    | succ M =>
    show PP RR (bnd (jb_Cm_tries_71 N (jrc_Cm_fun N D) (jg_Cm_tries N (jrc_Cm_fun N D) kf) m (I (nn : Nat)) v3 v4 (I (n : Nat))) fc) (kb_M_clause_75 N S (kg_M_clause N S M) w (I (k0 : Nat)) (optI last) 1)
    unfold jb_Cm_tries_71 kb_M_clause_75
    rw [decide_eq_false (fun z => by
      have := (I_eq (x := ((n : Nat) : Int)) (y := 0) (by omega) (by omega) (by decide) (by decide)).mp z
      omega), br_fq, show decide ((1 : Int32) = 0) = false from rfl, br_fq, decide_eq_true ra.2.1.2.2.1, br_tq, bnd_as2]
    have r41 := ra.2.2.2.2.2.2.2.1
    rw [i_nt2 (p := k0) (by omega), r41, decide_eq_false (fun z => by
      have := (I_eq (x := ((j : Nat) : Int)) (y := 6) (by omega) (by omega) (by decide) (by decide)).mp (z.trans rfl)
      omega), br_fq]
    refine r_ck (fun _ => ?_)
    unfold kb_M_clause_103 jr_Cm_pattern kr_M_patternAt
    refine pp_bb (pp_mo (pt_all c cv f _ _ n lo mid xa c1 q s1 m w a cm pi sc true 1 e (by omega) ra.1 ra.2.1 (by have := ra.2.2.2.1.2; have := ra.2.2.1.1; omega) rfl) (fun m2 z w2 rr hz => ?_))
    rw [i_nt2 (show n ≤ 100000 by omega), i_nt2 (p := k0) (by omega)]
    have fr2 : FRC m0 m2 := by
      obtain ⟨_, _, _, _, _, _, _, _, _, e4, _⟩ := hz
      exact e4.1
    rw [bnd_ck]
    refine l_ck (fun _ => ?_)
    unfold kb_M_clause_134
    rw [i_nt2 (p := k0) (by omega)]
    refine rwc_1 (F := fun u r => kb_M_clause_172 N S (kg_M_clause N S M) u (I (k0 : Nat)) r) ra hk0 (by omega) hz (by omega) (fun w3 b cm2 pj sc2 l2 hl2 ra2 => ?_)
    subst hl2
    refine r_ck (fun _ => ?_)
    have hw2 := PRS_w c ra2.2.1
    have h67 := ra2.2.1.2.2.1
    have e172 : PP RR (bnd ((jg_Cm_tries N (jrc_Cm_fun N D) kf).1 m2 (I (nn : Nat)) v3 v4 (m2.2.2.1 21 n)) fc) (kb_M_clause_172 N S (kg_M_clause N S M) w3 (I (k0 : Nat)) (I (l2 : Nat))) := by
      unfold kb_M_clause_172
      rw [tkS_e (k := 26) (s := 6) hw2 h67 (by decide) rfl]
      rcases h with ⟨h1, h2, h3, h4, h6⟩ | ⟨⟨h1, hsep⟩, n2, h2, h3⟩
      · subst h3
        rw [if_neg hK, bnd_s, tre fr2 (by decide) h2]
        have ej : j + 1 = kk := by omega
        rw [ej] at ra2
        exact hend M kf m2 w3 b cm2 pj sc2 l2 ra2
      · have hw1 := (RW_hdK (PA_bdK _) h3).1
        unfold HDc at hw1
        have k26 : K mid = 26 := kA c ra2.2.1.2.1.2 (hsep rfl)
        have hl : mid < T := c.2.1.1.lt ra2.2.1.2.1.2 (by omega) (by omega)
        rw [if_pos k26, bnd_s, tre fr2 (by decide) h2]
        exact rwc_lp c cv hk0 hxb htot hK hkk hend k n2 (mid + 1) c1 s1 M kf (j + 1) (some l2) m2 (adv w3 mid) b cm2 pj sc2 h3 (RWC_ad ra2 hl (by omega)) (by omega)
    refine r_br (fun _ => ?_) (fun _ => e172)
    rw [isS_e (k := 26) (s := 6) hw2 (by decide) rfl, bnd_s]
    by_cases z : K mid = 26
    · rw [if_pos z, show decide ((1 : Int32) = 0) = false from rfl, br_fq]
      exact pp_nr
    · rw [if_neg z, show decide ((0 : Int32) = 0) = true from rfl, br_tq]
      exact e172
end
end
section
set_option maxRecDepth 100000
def LSTs (u v : MS) (L : List Nat) : Prop := v.1 = u.1 ∧ v.2.2.2 = u.2.2.2 ∧ (∀ k n, k ≠ 30 → v.2.2.1 k n = u.2.2.1 k n) ∧ ∀ n, v.2.2.1 30 n = if n ∈ L then 1 else u.2.2.1 30 n
section
variable {u v w : MS} {L L1 L2 : List Nat} {N i j f r0 D : Nat} {r : Int} {x : Int32}
theorem LSTs_rf : LSTs u u [] := ⟨rfl, rfl, fun _ _ _ => rfl, fun n => by rw [if_neg (fun z => by cases z)]⟩
theorem LSTs_tr (h : LSTs u v L1) (k : LSTs v w L2) : LSTs u w (L1 ++ L2) := ⟨k.1.trans h.1, k.2.1.trans h.2.1, fun a n z => (k.2.2.1 a n z).trans (h.2.2.1 a n z), fun n => by
  rw [k.2.2.2 n, h.2.2.2 n]
  by_cases z : n ∈ L2
  · rw [if_pos z, if_pos (List.mem_append_right _ z)]
  · rw [if_neg z]
    by_cases y : n ∈ L1
    · rw [if_pos y, if_pos (List.mem_append_left _ y)]
    · rw [if_neg y, if_neg (fun q => (List.mem_append.mp q).elim y z)]⟩
theorem RT_ls (h : LSTs u v L) {L0 : List Nat} (k : RTd u i f true j r L0) : RTd v i f true j r L0 := (RT_fr (w := u) (v := v) f).1 j j r L0 (Nat.le_refl _) (fun n _ _ => ⟨congrArg Int32.toInt (h.2.2.1 23 n (by decide)), congrArg Int32.toInt (h.2.2.1 28 n (by decide)), congrArg Int32.toInt (h.2.2.1 29 n (by decide))⟩) k
theorem last_l (ih : ∀ (f j r0 : Nat) (L : List Nat) (u : MS), j ≤ 24000 → RTd u i f false j ((r0 : Nat) : Int) L → PK (fun v _ => LSTs u v L) (rc_M_last N D u (I (r0 : Nat)))) : ∀ (M f j : Nat) (r : Int) (x : Int32) (L : List Nat) (u : MS), j ≤ 24000 → x.toInt = r → RTd u i f true j r L → PK (fun v _ => LSTs u v L) (gg_M_last N (rc_M_last N D) M u x)
  | 0, _, _, _, _, _, _, _, _, _ => pk_none
  | M + 1, 0, _, _, _, _, _, _, _, h => h.elim
  | M + 1, f + 1, j, r, x, L, u, hj, hx, h => by
    show PK _ (fb_M_last_42 N (rc_M_last N D) (gg_M_last N (rc_M_last N D) M) u x)
    unfold fb_M_last_42
    rcases h with ⟨h1, h2⟩ | ⟨r0, L1, L2, h1, h2, h3, h4⟩
    · subst h2
      have : x = -1 := Int32.toInt_inj.mp (by rw [hx, h1]; rfl)
      rw [this, show decide ((-1 : Int32) = -1) = true from rfl, br_tq]
      exact pk_some LSTs_rf
    · subst h4
      subst h1
      have hr0 : r0 < j := by
        cases f with
        | zero => exact h2.elim
        | succ f =>
          obtain ⟨r1, g1, g2, -⟩ := h2
          omega
      have ex : x = I (r0 : Nat) := Int32.toInt_inj.mp (by rw [hx, I_ti (by omega) (by omega)])
      rw [ex, decide_eq_false (nat_ne2 (by omega)), br_fq, i_nt2 (p := r0) (by omega)]
      refine pk_bnd (pk_mo (ih f j r0 L1 u hj h2) (fun u1 _ h5 => pk_ck (fun _ => ?_)))
      refine pk_mo (last_l ih M f j (A u 29 r0) _ L2 u1 hj (congrArg Int32.toInt (h5.2.2.1 29 r0 (by decide))) (RT_ls h5 h3)) (fun v _ h6 => LSTs_tr h5 h6)
theorem last_1 : ∀ (D f j r0 : Nat) (L : List Nat) (u : MS), j ≤ 24000 → RTd u i f false j ((r0 : Nat) : Int) L → PK (fun v _ => LSTs u v L) (rc_M_last N D u (I (r0 : Nat)))
  | 0, _, _, _, _, _, _, _ => pk_none
  | D + 1, 0, _, _, _, _, _, h => h.elim
  | D + 1, f + 1, j, r0, L, u, hj, h => by
    obtain ⟨r1, h1, h2, L1, h3, h4⟩ := h
    have : r1 = r0 := by omega
    subst this
    show PK _ (fm_M_last N (rc_M_last N D) u (I (r1 : Nat)))
    unfold fm_M_last fb_M_last_0
    rw [decide_eq_false (nat_ne2 (by omega)), br_fq, i_nt2 (p := r1) (by omega)]
    have e35 : ∀ (v : MS), (∀ k n, k ≠ 30 → v.2.2.1 k n = u.2.2.1 k n) → PK (fun w _ => LSTs v w L1) (fb_M_last_35 N (rc_M_last N D) (gg_M_last N (rc_M_last N D) N) v (I (r1 : Nat))) := fun v hv => by
      unfold fb_M_last_35
      rw [i_nt2 (p := r1) (by omega)]
      refine pk_ck (fun _ => ?_)
      refine last_l (last_1 D) N f r1 (A u 28 r1) _ L1 v (by omega) (congrArg Int32.toInt (hv 28 r1 (by decide))) ?_
      exact (RT_fr (w := u) (v := v) f).1 r1 r1 _ L1 (Nat.le_refl _) (fun n _ _ => ⟨congrArg Int32.toInt (hv 23 n (by decide)), congrArg Int32.toInt (hv 28 n (by decide)), congrArg Int32.toInt (hv 29 n (by decide))⟩) h3
    have e28 : (A u 23 r1 = 12 ∨ A u 23 r1 = 13) → PK (fun v _ => LSTs u v L) (fb_M_last_28 N (rc_M_last N D) (gg_M_last N (rc_M_last N D) N) u (I (r1 : Nat))) := fun hk => by
      unfold fb_M_last_28
      rw [i_nt2 (p := r1) (by omega), show vp_nar .boolean 1 = 1 from rfl]
      refine pk_ck (fun _ => pk_ltq ?_)
      rw [if_pos hk] at h4
      subst h4
      have hs : LSTs u (upA u 30 (upd (u.2.2.1 30) r1 1)) [r1] := ⟨rfl, rfl, fun k n hk => by rw [upA_no hk], fun n => by
        rw [upA_at]
        by_cases z : n = r1
        · rw [z, upd_at, if_pos List.mem_cons_self]
        · rw [upd_no z, if_neg (fun y => z (by simpa using y))]⟩
      exact pk_mo (e35 _ (fun k n hk => by rw [upA_no hk])) (fun w _ h => LSTs_tr hs h)
    have s12 : (A u 23 r1 = 12) ↔ u.2.2.1 23 r1 = 12 := ⟨fun z => Int32.toInt_inj.mp (by show A u 23 r1 = _; rw [z]; rfl), fun z => by show (u.2.2.1 23 r1).toInt = _; rw [z]; rfl⟩
    have s13 : (A u 23 r1 = 13) ↔ u.2.2.1 23 r1 = 13 := ⟨fun z => Int32.toInt_inj.mp (by show A u 23 r1 = _; rw [z]; rfl), fun z => by show (u.2.2.1 23 r1).toInt = _; rw [z]; rfl⟩
    refine pk_ck (fun _ => pk_br (fun z => e28 (Or.inl (s12.mpr (of_decide_eq_true z)))) (fun z => pk_ck (fun _ => pk_br (fun y => e28 (Or.inr (s13.mpr (of_decide_eq_true y)))) (fun y => ?_))))
    rw [if_neg (fun q => q.elim (fun a => of_decide_eq_false z (s12.mp a)) (fun a => of_decide_eq_false y (s13.mp a)))] at h4
    subst h4
    exact e35 u (fun _ _ _ => rfl)
theorem last_p (hj : j ≤ 24000) (h : RTd u i f false j ((r0 : Nat) : Int) L) : PK (fun v _ => LSTs u v L) (fr_M_last N u (I (r0 : Nat))) := last_1 60 f j r0 L u hj h
end
end
section
set_option maxRecDepth 100000
def CHDs (w0 : MS) (nm : Nat → Nat) (kk a b k0 pi pj : Nat) (sc sc2 : SCT) (mP wP : MS) (fs : List Nat) : Prop := ∀ (C : Nat → Int) (R : Nat → Nat → Int) (J : Nat → Int64) (H : List Nat) (fl : Nat), (∀ j, a ≤ j → j < b → j ∉ fs → C j = A mP 23 j) → GRS R w0 → (∀ k q, 33 ≤ k → k ≤ 38 → k ≠ 34 → pi ≤ q → q < pj → R k q = A wP k q) → (∀ q, pi ≤ q → q < pj → J q = wP.2.2.2 34 q) → (0 < kk → R 40 k0 = A wP 40 k0) → R 41 k0 = ((kk : Nat) : Int) → HPX nm sc2 H → (∀ h, h ∈ fs → C h = ((fl : Nat) : Int)) → (kk = 0 ∧ b = a ∧ Onm nm sc2 = Onm nm sc) ∨ (C a = 19 ∧ C (a + 2) = ((fl : Nat) : Int) ∧ (0 < kk ∧ kk ≤ 6) ∧ C (a + 1) = ((kk : Nat) : Int) ∧ ∃ e2, PTr C R J H 230 kk (a + 3) (R 40 k0) (Onm nm sc) e2 (Onm nm sc2) ∧ C e2 = 8 ∧ b = e2 + 1)
def CLM (w0 : MS) (nm : Nat → Nat) (fof cvr : Int → Int → Int) (a b cm2 q r k0 : Nat) (Q Q2 : Nat → Nat) (sc2 : SCT) (m2 w2 : MS) : Prop := ∀ (C : Nat → Int) (P R : Nat → Nat → Int) (J : Nat → Int64) (H : List Nat) (lst : Bool), FNx w0 fof cvr C P R J m2 w2 a b q r Q Q2 lst [] [] [k0] → HNX nm sc2 cm2 H → (∀ u, q ≤ u → u < r → FUX C P R J u) ∧ ((∃ f, ZRs C R J (CRs C R J f) 0 0 H [] f b (R 45 k0)) → ∃ f, ZRs C R J (CRs C R J f) 0 0 H [] f a ((k0 : Nat) : Int))
def CLZs (m0 w0 : MS) (K : Nat → Nat) (T : Nat) (nm Nk : Nat → Nat) (fof cvr : Int → Int → Int) (kk lo hi a cm q r : Nat) (Q : Nat → Nat) (sc : SCT) (m w m2 : MS) (_ : Unit) (w2 : MS) (r9 : Int32) : Prop := ∃ (b cm2 : Nat) (Q2 : Nat → Nat) (e2 : List Nat × List Nat × Nat) (t2 : SCT), r9 = I (Q 46 : Nat) ∧ (lo < hi ∧ a < b ∧ cm ≤ cm2 ∧ q ≤ r) ∧ XCS m0 nm m2 b cm2 (([], e2.2) :: t2) false ∧ (XRS w0 T w2 hi Q2 (e2 :: t2) ∧ Q2 56 = r) ∧ tot t2 + e2.1.length ≤ tot sc + (hi - lo) ∧ (∃ W, HDo Nk K W lo hi sc (e2 :: t2) ∧ m2.2.2.1 42 = wup (m.2.2.1 42) K W lo hi) ∧ XFC m m2 a q r (sc.length - 1) ∧ XRF w w2 Q Q2 ∧ (t2.length + 1 = sc.length ∧ BDs sc.tail t2) ∧ (Q 46 < Q2 46 ∧ Q 46 < 16000 ∧ w2.2.2.1 45 (Q 46) = -1 ∧ w2.2.2.1 41 (Q 46) = I (kk : Nat)) ∧ e2.1.length ≤ cm2 ∧ CLM w0 nm fof cvr a b cm2 q r (Q 46) Q Q2 (e2 :: t2) m2 w2
section
variable {α β : Type} {m0 w0 m w m2 w2 m3 w3 v u mP wP V Z : MS} {K nm Nk W W2 : Nat → Nat} {N T D d o o2 a b b0 c cm cmP cm2 q r s lo mid hi i j f n k k0 kk p tk xa xb xc xd xe gx kg kb mb M kf : Nat} {Q Qp Q2 Q3 : Nat → Nat} {sc scP sc2 sc3 t t2 : SCT} {e e2 : List Nat × List Nat × Nat} {g lst : Bool} {L hs ps fs : List Nat} {fof cvr : Int → Int → Int} {rt v1 v2 v3 v4 v5 line : Int32} {G : MS → Int32 → Int32 → Int32 → Option (MS × Int32)} {C : Nat → Int} {P R : Nat → Nat → Int} {J : Nat → Int64}
theorem FNx_l (h : FNx w0 fof cvr C P R J m w a b q r Q Q2 lst [] hs ps) : FNx w0 fof cvr C P R J m w a b q r Q Q2 g [] hs ps := by
  obtain ⟨h1, h2, h3, ⟨h4, h5, h6, h7⟩, h8⟩ := h
  refine ⟨h1, h2, h3, ⟨h4, h5, fun n n1 n2 => ?_, h7⟩, h8⟩
  rw [h6 n n1 n2, if_neg (fun y => by cases y.2), if_neg (fun y => by cases y.2)]
theorem rd_43c {A' : Option (MS × α)} {RR : MS → α → MS → Int32 → Prop} {F : MS → Option (MS × Int32)} (c : CTZ m0 w0 K T nm Nk) (hX : XTF m0 w0 K T nm Nk false L lo mid a b cm cm2 q r Q Q2 sc sc2 m w m2 w2) (hk : Q 46 ≤ k ∧ k ≤ 16000) (hmT : mid < T) (h : ∀ V, XTF m0 w0 K T nm Nk false L lo (mid + 1) a b cm cm2 q r Q Q2 sc sc2 m w m2 V → V.2.2.2 = w2.2.2.2 → (∀ i n, (i ≠ 42 ∧ i ≠ 43) ∨ n ≠ k → V.2.2.1 i n = w2.2.2.1 i n) → V.2.2.1 42 k = rt → V.2.2.1 43 k = I (Q2 32 : Nat) → PP RR A' (F V)) : PP RR A' (ck (inb (I (k : Nat)) (ln 42)) (lt (upA w2 42 (upd (w2.2.2.1 42) k rt)) (fun w3 => bnd (km_M_needSign N w3 10) (fun u4 _ => ck (inb (I (k : Nat)) (ln 43)) (lt (upA u4 43 (upd (u4.2.2.1 43) k (u4.1 32))) (fun w5 => F w5)))))) := by
  refine r_ck (fun _ => r_lt ?_)
  have h1 : W46 w2 (upA w2 42 (upd (w2.2.2.1 42) k rt)) 42 k rt := w46_of
  generalize upA w2 42 (upd (w2.2.2.1 42) k rt) = V1 at h1
  have X1 := W46_rw hX h1 (by omega) hk.1
  refine nd_s c X1.2.2.1.1 (k := 38) (s' := 10) (by decide) rfl (fun k38 => ?_)
  have X2 := XTF_ad X1 hmT (by rw [k38]; decide)
  have e32 : (adv V1 mid).1 32 = I (Q2 32 : Nat) := (XRS_q X2.2.2.1.1).1
  rw [e32]
  refine r_ck (fun _ => r_lt ?_)
  have h2 : W46 (adv V1 mid) (upA (adv V1 mid) 43 (upd ((adv V1 mid).2.2.1 43) k (I (Q2 32 : Nat)))) 43 k (I (Q2 32 : Nat)) := w46_of
  generalize upA (adv V1 mid) 43 (upd ((adv V1 mid).2.2.1 43) k (I (Q2 32 : Nat))) = V at h2
  have X3 := W46_rw X2 h2 (by omega) hk.1
  refine h V X3 ?_ (fun i n hin => ?_) ?_ h2.2.2.2
  · rw [h2.2.1]
    show V1.2.2.2 = _
    rw [h1.2.1]
  · rw [h2.2.2.1 i n (by omega)]
    show V1.2.2.1 i n = _
    rw [h1.2.2.1 i n (by omega)]
  · rw [h2.2.2.1 42 k (Or.inl (by decide))]
    show V1.2.2.1 42 k = _
    exact h1.2.2.2
set_option maxHeartbeats 1000000 in
theorem cl_rest (c : CTZ m0 w0 K T nm Nk) (IE : HXE N m0 w0 K T nm Nk fof cvr f) (hC0 : XCS m0 nm m a cm (e :: t) false) (he : e.1 = []) (hCp : XCS m0 nm mP b cmP scP false) (hRp : XRS w0 T wP p Qp scP) (hqp : Qp 56 = q) (hst : lo ≤ p ∧ a ≤ b ∧ cm ≤ cmP) (htp : tot scP ≤ tot (e :: t) + (p - lo)) (hho : ∃ W, HDo Nk K W lo p (e :: t) scP ∧ mP.2.2.1 42 = wup (m.2.2.1 42) K W lo p) (hxc : XFC m mP a q q t.length) (hxr : XRF w wP Q Qp) (hbd : scP.length = t.length + 1 ∧ BDs t scP.tail) (hk0 : Q 46 < 16000 ∧ Qp 46 = Q 46 + 1 ∧ wP.2.2.1 45 (Q 46) = -1 ∧ wP.2.2.1 44 (Q 46) = I (tk : Nat) ∧ wP.2.2.1 41 (Q 46) = I (kk : Nat)) (hch : CHDs w0 nm kk a b (Q 46) (Q 39) (Qp 39) (e :: t) scP mP wP fs) (hfs : HKc mP fs v4) (hfr : ∀ h, h ∈ fs → a ≤ h ∧ h < b) (k21 : K p = 21) (hn : n ≤ 8015) (hg : (A m0 19 n = 0 ∧ mid = p + 1 ∧ q = s) ∨ ∃ gx kg : Nat, A m0 19 n = ((gx : Nat) : Int) ∧ A m0 6 (p + 1) = 19 ∧ RWcK m0 1 26 (XPcK m0 f o 3) kg gx (p + 2) mid xc xd q s) (hxd : xd ≤ 8015) (k38 : K mid = 38) (h20 : A m0 20 n = ((mb : Nat) : Int)) (hB : RWcK m0 1 26 (XPcK m0 f o2 3) kb mb (mid + 1) hi xd xe s r) (hxe : xe ≤ 8015) (hr4 : r ≤ 400) (hcl : NEC (K hi) ∧ K hi ≠ 26 ∧ hi ≤ T) (htot : tot (e :: t) + (hi - lo) ≤ 4000 ∧ t.length ≤ o ∧ t.length ≤ o2) (hln : line.toInt = A w0 8 tk) (htk : tk ≤ 4002) (hkk : kk ≤ 6) : PP (CLZs m0 w0 K T nm Nk fof cvr kk lo hi a cm q r Q (e :: t) m w) (bnd (jb_Cm_tries_111 N (jrc_Cm_fun N D) (jg_Cm_tries N (jrc_Cm_fun N D) kf) mP (I (n : Nat)) (m.1 706) v4) (fun u2 r2 => bnd (jm_Co_put N u2 24) (fun u4 _ => bnd (jm_Co_put N u4 (I (kk : Nat))) (fun u7 _ => bnd (jm_Co_put N u7 line) (fun u10 _ => ck (inb (I (n : Nat)) 8016) (bnd ((jrc_Cm_fun N (D + 1)).2.2.2.1 u10 (u10.2.2.1 20 n) 1) (fun u17 _ => bnd (jm_Co_put N u17 35) (fun u19 _ => lt (upI u19 706 (m.1 706)) (fun w21 => bnd (hm_Co_arrive N w21 r2) (fun u23 _ => some (u23, ()))))))))))) (kb_M_clause_183 N (krc_M_behind N (d + 1)) G wP (I (Q 46 : Nat))) := by
  have tt4 := c.2.1.1.1
  have m706 : m.1 706 = I (tot (e :: t) : Nat) := hC0.1.2.1.2.2.1
  have hs1 : mid ≤ hi ∧ p + 1 ≤ mid ∧ xd ≤ 8015 ∧ q ≤ s ∧ s ≤ r := by
    have hB1 := (RW_hdK (XP_bdK f o2 3) hB).1
    unfold HDc at hB1
    rcases hg with ⟨-, rfl, rfl⟩ | ⟨gx, kg, -, -, hw⟩
    · exact ⟨by omega, Nat.le_refl _, hxd, Nat.le_refl _, by omega⟩
    · have := (RW_hdK (XP_bdK f o 3) hw).1
      unfold HDc at this
      exact ⟨by omega, by omega, hxd, by omega, by omega⟩
  have hB1 := (RW_hdK (XP_bdK f o2 3) hB).1
  unfold HDc at hB1
  have eQ : qst (qst Qp 46 (Q 46)) 46 (Qp 46) = Qp := funext (fun j => by
    by_cases y : j = 46
    · rw [y, qst_at]
    · rw [qst_no y, qst_no y])
  have eQ46 : (qst Qp 46 (Q 46)) 46 = Q 46 := qst_at
  have eQo : ∀ k, k ≠ 46 → (qst Qp 46 (Q 46)) k = Qp k := fun k hk => qst_no hk
  have leQ : QLE Q (qst Qp 46 (Q 46)) := fun k hk => by
    by_cases y : k = 46
    · rw [y, eQ46]; exact Nat.le_refl _
    · rw [eQo k y]; exact hxr.2.1 k hk
  have X0 : XTF m0 w0 K T nm Nk false [] p p b b cmP cmP q q (qst Qp 46 (Q 46)) Qp scP scP mP wP mP wP := by
    have := XTF_st (K := K) (Nk := Nk) (q := q) (Q := qst Qp 46 (Q 46)) (j := 46) (i := Qp 46) (w := wP) (v := wP) hCp (by rw [eQo 56 (by decide)]; exact hqp) (by decide) (by rw [eQ46]; omega) (by rw [eQ]; exact hRp) QRR_rf
    rw [eQ] at this
    exact this
  unfold kb_M_clause_183
  refine nd_s c hRp (k := 21) (s' := 1) (by decide) rfl (fun _ => ?_)
  have X1 := XTF_ad X0 (show p < T by omega) (by rw [k21]; decide)
  have hmT : mid < T := by omega
  rw [i_nt2 (p := Q 46) (by omega)]
  have rest : ∀ (m6 V : MS) (b6 cm6 : Nat) (Q6 : Nat → Nat) (sc6 : SCT) (fs6 : List Nat) (v8 : Int32), XTF m0 w0 K T nm Nk false [] p (mid + 1) b b6 cmP cm6 q s (qst Qp 46 (Q 46)) Q6 scP sc6 mP wP m6 V → HKc m6 fs6 v8 → (∀ h, h ∈ fs6 → a ≤ h ∧ h < b6) → (∀ h, h ∈ fs → h ∈ fs6) → (∀ h, h ∈ fs6 → h ∈ fs ∨ b ≤ h) → V.2.2.1 43 (Q 46) = I (Q6 32 : Nat) → (∀ k, k = 40 ∨ k = 41 ∨ k = 44 ∨ k = 45 → V.2.2.1 k (Q 46) = wP.2.2.1 k (Q 46)) → Q 46 < Q6 46 → (∀ (C : Nat → Int) (P R : Nat → Nat → Int) (J : Nat → Int64) (H : List Nat) (lst : Bool) (fl : Nat), FNx w0 fof cvr C P R J m6 V b b6 q s (qst Qp 46 (Q 46)) Q6 lst [] fs6 [Q 46] → HNX nm sc6 cm6 H → 0 < fl → (∀ h, h ∈ fs6 → C h = ((fl : Nat) : Int)) → (∀ u, q ≤ u → u < s → FUX C P R J u) ∧ ((∃ f, ZRs C R J (CRs C R J f) 0 0 H [] f fl (R 45 (Q 46))) → (∃ f, CHs C R (CRs C R J f) 0 b6 (Q 46) H (Onm nm sc6)) → ((R 42 (Q 46) = -1 ∧ ∃ f, CHs C R (CRs C R J f) 0 b (Q 46) H (Onm nm scP)) ∨ ∃ g : Nat, R 42 (Q 46) = ((g : Nat) : Int) ∧ C b = 21 ∧ C (b + 1) = (((Onm nm scP).length : Nat) : Int) ∧ C (b + 2) = ((fl : Nat) : Int) ∧ CRe C R J (some (0, Q 46, 0)) (b + 3) g H (Onm nm scP)))) → PP (CLZs m0 w0 K T nm Nk fof cvr kk lo hi a cm q r Q (e :: t) m w) (bnd (jm_Co_put N m6 24) (fun u4 _ => bnd (jm_Co_put N u4 (I (kk : Nat))) (fun u7 _ => bnd (jm_Co_put N u7 line) (fun u10 _ => ck (inb (I (n : Nat)) 8016) (bnd ((jrc_Cm_fun N (D + 1)).2.2.2.1 u10 (u10.2.2.1 20 n) 1) (fun u17 _ => bnd (jm_Co_put N u17 35) (fun u19 _ => lt (upI u19 706 (m.1 706)) (fun w21 => bnd (hm_Co_arrive N w21 v8) (fun u23 _ => some (u23, ())))))))))) (bnd ((krc_M_behind N (d + 1)).2.2.2.2.1 V) (fun u6 r6 => bnd (fm_M_node N u6 29 (u6.1 69)) (fun u7 _ => bnd (fr_M_last N u7 r6) (fun u8 _ => some (u8, I (Q 46 : Nat)))))) := fun m6 V b6 cm6 Q6 sc6 fs6 v8 X6 hk6 hf6 hsub hsub2 V43 Vk0 q46 hGM => by
    clear hg
    have hC6 := X6.2.1
    have hR6 := X6.2.2.1.1
    have p6 : b6 ≤ 23990 := hC6.1.2.2.1.2.2
    have bb6 := X6.1
    have tt6 := X6.2.2.2.1
    have ln6 := XTF_len X6
    have le6 := X6.2.2.2.2.2.2.1.2.1
    refine l_put hC6.1.2.2.1.1 hC6.1.2.2.1.2.2 (fun ha1 => ?_)
    have c1 := XCS_put (x := 24) hC6 ha1
    refine l_put c1.1.2.2.1.1 c1.1.2.2.1.2.2 (fun ha2 => ?_)
    have c2 := XCS_put (x := I (kk : Nat)) c1 ha2
    refine l_put c2.1.2.2.1.1 c2.1.2.2.1.2.2 (fun ha3 => ?_)
    have c3 := XCS_put (x := line) c2 ha3
    have em : ptc (ptc (ptc m6 b6 24) (b6 + 1) (I (kk : Nat))) (b6 + 1 + 1) line = ptcs m6 b6 [24, I (kk : Nat), line] := rfl
    rw [em] at c3 ⊢
    have c3' : XCS m0 nm (ptcs m6 b6 [24, I (kk : Nat), line]) (b6 + 3) cm6 sc6 false := c3
    refine l_ck (fun _ => ?_)
    rw [tre (XCS_fr c3) (by decide) h20]
    refine pp_bb (pp_mo (x_body (o := o2) (k := kb) (lst := true) (d := d + 1) c IE hB hxe hr4 hcl c3' hR6 X6.2.2.1.2 (by omega)) (fun m7 z w7 rt hz => ?_))
    obtain ⟨b7, cm7, Q7, sc7, rn, f2, L2, rfl, z2, z3, z4, z5, z6⟩ := hz
    obtain ⟨zF, zC⟩ := XTF_of z3
    have hC7 := zF.2.1
    have hR7 := zF.2.2.1.1
    have bb7 := zF.1
    have tt7 := zF.2.2.2.1
    have ln7 := XTF_len zF
    have le7 := zF.2.2.2.2.2.2.1.2.1
    have B46 := le7 46 (by decide)
    obtain ⟨q1, q2⟩ := XRS_q hR7
    have pT : hi ≤ T := hcl.2.2
    refine l_put hC7.1.2.2.1.1 hC7.1.2.2.1.2.2 (fun ha4 => ?_)
    have c4 := XCS_put (x := 35) hC7 ha4
    have em2 : ptc m7 b7 35 = ptcs m7 b7 [35] := rfl
    rw [em2] at c4 ⊢
    rw [hR7.1.2.1.1]
    refine r_nod q1 q2 rfl (nsh (by omega)) (fun h16 => ?_)
    have d0 : NOD w7 (nwD w7 (Q7 32) 29 (I (hi : Nat))) (Q7 32) := NOD_0 q1
    obtain ⟨d1, -⟩ := nwD_at (w := w7) (i := Q7 32) (k := 29) (t := I (hi : Nat))
    have d9 : (nwD w7 (Q7 32) 29 (I (hi : Nat))).1 69 = I (hi : Nat) := by rw [nwD_i (by decide)]; exact hR7.1.2.1.1
    generalize nwD w7 (Q7 32) 29 (I (hi : Nat)) = U at d0 d1 d9
    have X8 := XTF_nod zF d0 d9 h16
    have rtU : RTd U (Q6 32) f2 false (Q7 32) ((rn : Nat) : Int) L2 := (RT_fr (w := w7) (v := U) f2).2 _ rn L2 (fun n _ h2 => ⟨congrArg Int32.toInt (d0.2.2.1 23 n (Or.inr (Or.inr (by omega)))), congrArg Int32.toInt (d0.2.2.1 28 n (Or.inr (Or.inr (by omega))))⟩) (fun n _ h2 => congrArg Int32.toInt (d0.2.2.1 29 n (Or.inr (Or.inr (by omega))))) z5
    refine l_lt ?_
    refine r_bnd (pk_mo (last_p (N := N) (by omega) rtU) (fun Y _ hY => ?_))
    obtain ⟨y1, y2, y3, y4⟩ := hY
    obtain ⟨e7, t7, rfl⟩ := PRS_ne hR7.1
    have cc : XCS m0 nm (upI (ptcs m7 b7 [35]) 706 (m.1 706)) (b7 + 1) cm7 (([], e7.2) :: t7) false := by
      obtain ⟨⟨p1, p2, p3, p4, p5, p6, p7⟩, p8⟩ := c4
      obtain ⟨g1, g2, g3⟩ := p2.2.2.2.2
      have tb : tot t7 = tot (e :: t) := by
        obtain ⟨W6, a6, -⟩ := X6.2.2.2.2.1
        obtain ⟨W7, a7, -⟩ := zF.2.2.2.2.1
        have n6 := (a6.2 rfl).2
        have n7 := (a7.2 rfl).2
        have et : tot (e :: t) = tot t := by show tot t + e.1.length = _; rw [he]; rfl
        rw [et]
        cases scP with
        | nil => exact absurd hbd.1 (by show ¬ (0 = t.length + 1); omega)
        | cons eP tP =>
          cases sc6 with
          | nil => exact n6.elim
          | cons e6 t6 =>
            rw [(BDs_len n7.2.1).2, (BDs_len n6.2.1).2]
            exact (BDs_len hbd.2).2
      have te : tot (([], e7.2) :: t7) = tot t7 := rfl
      refine ⟨⟨⟨fun k hk => by rw [upI_ne (by omega)]; exact p1.1 k hk, p1.2⟩, ⟨by rw [upI_ne (by decide)]; exact p2.1, p2.2.1, by rw [upI_at, te, tb]; exact m706, by rw [te]; have := p2.2.2.2.1; have et : tot (e7 :: t7) = tot t7 + e7.1.length := rfl; omega, ⟨g1, fun k x hk => (by cases hk), CNl_fr g3 rfl (fun _ _ => rfl)⟩⟩, ⟨by rw [upI_ne (by decide)]; exact p3.1, p3.2⟩, by rw [upI_ne (by decide)]; exact p4, p5, p6, Nat.zero_le _⟩, by rw [upI_ne (by decide)]; exact p8⟩
    have wd4 : ∀ j, j < b7 → (upI (ptcs m7 b7 [35]) 706 (m.1 706)).2.2.1 23 j = m7.2.2.1 23 j := fun j hj => ptcs_o (Or.inl hj)
    have wd35 : (upI (ptcs m7 b7 [35]) 706 (m.1 706)).2.2.1 23 b7 = 35 := ptcs_at (l := [35]) (k := 0) rfl
    have wr4 : ∀ k, k ≠ 23 → (upI (ptcs m7 b7 [35]) 706 (m.1 706)).2.2.1 k = m7.2.2.1 k := fun k hk => ptcs_r hk
    have wi4 : ∀ k, k ≠ 441 → k ≠ 706 → (upI (ptcs m7 b7 [35]) 706 (m.1 706)).1 k = m7.1 k := fun k h1 h2 => by rw [upI_ne h2, ptcs_i h1]
    generalize upI (ptcs m7 b7 [35]) 706 (m.1 706) = M4 at cc wd4 wd35 wr4 wi4
    have m7b6 : ∀ j, j < b6 → m7.2.2.1 23 j = m6.2.2.1 23 j := fun j hj => by
      rw [zF.2.2.2.2.2.1.2.2.1 j (by omega), ptcs_o (Or.inl hj)]
    refine arr_n cc (HKc_fr hk6 (fun j hj => by rw [wd4 j (by have := hf6 j hj; omega), m7b6 j (hf6 j hj).2])) (fun Z hZ hZC => ?_)
    obtain ⟨g1, g2, g3, g4, g5⟩ := hZ
    have zo : ∀ j, j < b7 → j ∉ fs6 → Z.2.2.1 23 j = m7.2.2.1 23 j := fun j hj hn => (g4 j hn).trans (wd4 j hj)
    have z35 : Z.2.2.1 23 b7 = 35 := (g4 b7 (fun y => by have := hf6 b7 y; omega)).trans wd35
    have zr : ∀ k, k ≠ 23 → Z.2.2.1 k = m7.2.2.1 k := fun k hk => (g2 k hk).trans (wr4 k hk)
    have zi : ∀ k, k ≠ 441 → k ≠ 706 → Z.1 k = m7.1 k := fun k h1 h2 => by rw [g1]; exact wi4 k h1 h2
    have b724 : b7 + 1 ≤ 23990 := hZC.1.2.2.1.2.2
    have hXY : XRS w0 T Y hi (qst Q7 32 (Q7 32 + 1)) (e7 :: t7) := ⟨PRS_x X8.2.2.1.1.1 (fun _ _ => by rw [y1]) (fun k hk => funext (fun n => y3 k n (by omega))) (by rw [y1]; exact d9), fun k hk => by rw [y1]; exact X8.2.2.1.1.2 k hk⟩
    have L2r := zF.2.2.2.2.2.2.2.2
    have Yr : ∀ k n, grp k ≠ 0 → n < Q7 (grp k) → (k ≠ 30 ∨ n ∉ L2) → Y.2.2.1 k n = w7.2.2.1 k n := fun k n hg hn' hk => by
      have e1 : Y.2.2.1 k n = U.2.2.1 k n := by
        by_cases y : k = 30
        · subst y
          rw [y4 n, if_neg (hk.resolve_left (fun z => z rfl))]
        · exact y3 k n y
      rw [e1, d0.2.2.1 k n (by
        by_cases y : grp k = 32
        · rw [y] at hn'; exact Or.inr (Or.inr (by omega))
        · by_cases yk : k < 23
          · exact Or.inl yk
          · by_cases y31 : 31 < k
            · exact Or.inr (Or.inl y31)
            · exact absurd (by unfold grp; rw [if_pos (by omega)]) y)]
    have YQ : QRR Q6 V Y := by
      refine QRR_tr (Q2 := Q6) (v := U) X8.2.2.2.2.2.2.1.1 ⟨fun k a1 _ _ => funext (fun n => y3 k n (fun z => by rw [z] at a1; exact absurd a1 (by decide))), fun k n a1 a2 => ?_, fun k n _ => by rw [y2]⟩ QLE_rf
      by_cases y : k = 30
      · subst y
        have a2 : n < Q6 32 := a2
        rw [y4 n, if_neg (fun q => by have := L2r n q; omega)]
      · exact y3 k n y
    have leF : QLE Q6 (qst Q7 32 (Q7 32 + 1)) := QLE_st le7 (by have := le7 32 (by decide); omega)
    have QV : QRR (qst Qp 46 (Q 46)) wP V := X6.2.2.2.2.2.2.1.1
    have QwY : QRR Q w Y := QRR_tr (Q2 := qst Qp 46 (Q 46)) (QRR_tr (Q2 := Q) hxr.1 ⟨fun k a1 a2 a3 => QV.1 k a1 a2 a3, fun k n a1 a2 => QV.2.1 k n a1 (Nat.lt_of_lt_of_le a2 (leQ _ (grp_m a1))), fun k n a1 => QV.2.2 k n (by
      rcases a1 with a1 | a1
      · exact Or.inl a1
      · exact Or.inr (Nat.lt_of_lt_of_le a1 (leQ 39 (by decide))))⟩ QLE_rf) (QRR_tr (Q2 := Q6) (w := V) (v := V) QRR_rf YQ le6) leQ
    have lP := hxr.2.2
    have h75 : ∀ k, k = 75 ∨ k = 77 ∨ k = 83 → (qst Q7 32 (Q7 32 + 1)) k = Q k := fun k hk => by
      have a1 := zF.2.2.2.2.2.2.1.2.2
      have a2 := X6.2.2.2.2.2.2.1.2.2
      rw [qst_no (by omega)]
      rcases hk with rfl | rfl | rfl
      · rw [a1.1, a2.1, eQo 75 (by decide), lP.1]
      · rw [a1.2.1, a2.2.1, eQo 77 (by decide), lP.2.1]
      · rw [a1.2.2, a2.2.2, eQo 83 (by decide), lP.2.2]
    have k0r : ∀ k, k = 40 ∨ k = 41 ∨ k = 43 ∨ k = 44 ∨ k = 45 → Y.2.2.1 k (Q 46) = V.2.2.1 k (Q 46) := fun k hk => by
      have gk : grp k = 46 := by unfold grp; rw [if_neg (by omega), if_neg (by omega), if_pos (by omega)]
      exact YQ.2.1 k (Q 46) (by rw [gk]; decide) (by rw [gk]; exact q46)
    obtain ⟨Wp, ho1, ho2⟩ := hho
    obtain ⟨W6, h61, h62⟩ := X6.2.2.2.2.1
    obtain ⟨W7, h71, h72⟩ := zF.2.2.2.2.1
    have hln7 : e7.1.length ≤ cm7 := hC7.1.2.2.2.2.2.2
    have tl7 : t7.length = t.length := by have : (e7 :: t7).length = t7.length + 1 := rfl; omega
    have bdt : BDs t t7 := by
      have n6 := (h61.2 rfl).2
      have n7 := (h71.2 rfl).2
      cases scP with
      | nil => exact absurd hbd.1 (by show ¬ (0 = t.length + 1); omega)
      | cons eP tP =>
        cases sc6 with
        | nil => exact n6.elim
        | cons e6 t6 => exact BDs_tr hbd.2 (BDs_tr n6.2.1 n7.2.1)
    refine pp_end ⟨b7 + 1, cm7, qst Q7 32 (Q7 32 + 1), e7, t7, rfl, ⟨by omega, by omega, by omega, by omega⟩, hZC, ⟨hXY, by rw [qst_no (by decide)]; exact zF.2.2.1.2⟩, by have et : tot (e7 :: t7) = tot t7 + e7.1.length := rfl; omega, ⟨mrw p Wp (mrw (mid + 1) W6 W7), ?_, ?_⟩, ⟨fun k k1 k2 => ?_, fun k k1 k2 k3 => ?_, fun j hj => ?_, fun k j k1 k2 k3 => ?_, fun j hj => ?_, fun j hj => ?_⟩, ⟨QwY, QLE_tr leQ (QLE_tr le6 leF), ⟨h75 75 (Or.inl rfl), h75 77 (Or.inr (Or.inl rfl)), h75 83 (Or.inr (Or.inr rfl))⟩⟩, ⟨by rw [tl7]; rfl, bdt⟩, ⟨by rw [qst_no (by decide)]; omega, hk0.1, by rw [k0r 45 (by omega), Vk0 45 (by omega)]; exact hk0.2.2.1, by rw [k0r 41 (by omega), Vk0 41 (by omega)]; exact hk0.2.2.2.2⟩, hln7, fun C P R J H lst fi hx => ?_⟩
    · exact HDo_tr hst.1 (by omega) (HDo_w (fun j _ b => if_pos b) ho1) (HDo_w (fun j a _ => if_neg (by omega)) (HDo_tr (by omega) (by omega) (HDo_w (fun j _ b => if_pos b) h61.1) (HDo_w (fun j a _ => if_neg (by omega)) h71.1)))
    · rw [zr 42 (by decide), h72, ptcs_r (by decide), h62, ho2, mrw_wup (by omega) (by omega), mrw_wup (by omega) (by omega)]
    · rw [zi k k1 k2, zF.2.2.2.2.2.1.1 k k1 k2, ptcs_i k1, X6.2.2.2.2.2.1.1 k k1 k2]
      exact hxc.1 k k1 k2
    · rw [zr k k1, zF.2.2.2.2.2.1.2.1 k k1 k2 k3, ptcs_r k1, X6.2.2.2.2.2.1.2.1 k k1 k2 k3]
      exact hxc.2.1 k k1 k2 k3
    · rw [zo j (by omega) (fun y => by have := hf6 j y; omega), m7b6 j (by omega), X6.2.2.2.2.2.1.2.2.1 j (by omega)]
      exact hxc.2.2.1 j hj
    · rw [zr k (by omega), zF.2.2.2.2.2.1.2.2.2.1 k j k1 k2 (by omega), ptcs_r (by omega), X6.2.2.2.2.2.1.2.2.2.1 k j k1 k2 (by omega)]
      exact hxc.2.2.2.1 k j k1 k2 (by omega)
    · have s1 : scP.length - 1 = t.length := by omega
      have s2 : sc6.length - 1 = t.length := by omega
      have hj : j ≤ t.length := hj
      rw [zr 40 (by decide), zF.2.2.2.2.2.1.2.2.2.2.1 j (by rw [s2]; exact hj), ptcs_r (by decide), X6.2.2.2.2.2.1.2.2.2.2.1 j (by rw [s1]; exact hj)]
      exact hxc.2.2.2.2.1 j hj
    · have s1 : scP.length - 1 = t.length := by omega
      have s2 : sc6.length - 1 = t.length := by omega
      have hj : j < t.length := hj
      rw [zr 41 (by decide), zF.2.2.2.2.2.1.2.2.2.2.2 j (by rw [s2]; exact hj), ptcs_r (by decide), X6.2.2.2.2.2.1.2.2.2.2.2 j (by rw [s1]; exact hj)]
      exact hxc.2.2.2.2.2 j hj
    · 
      have hx6 : HNX nm sc6 cm6 H := XTF_hx zF hx
      have hxP : HNX nm scP cmP H := XTF_hx X6 hx6
      have fiT := FNx_l (g := true) fi
      have leQF : QLE Q (qst Q7 32 (Q7 32 + 1)) := QLE_tr leQ (QLE_tr le6 leF)
      have wZ7 : ∀ j, b6 ≤ j → j < b7 → Z.2.2.1 23 j = m7.2.2.1 23 j := fun j j1 j2 => zo j j2 (fun y => by have := hf6 j y; omega)
      have fdB : FNd w0 fof cvr C P R J m7 w7 (b6 + 3) b7 s r Q6 Q7 true L2 := by
        refine FNx_sub fiT ⟨by omega, by omega⟩ ⟨by omega, Nat.le_refl _⟩ (QLE_tr leQ le6) (QLE_st QLE_rf (by omega)) (fun j j1 j2 => wZ7 j (by omega) j2) (fun k u k1 k2 _ _ => by rw [zr k (by omega)]) ⟨fun k n k1 k2 k3 k4 k5 => Yr k n k1 k5 (Or.inl k3), fun n _ hn' => ?_⟩ (fun n n1 n2 => ?_) (fun j hj => by cases hj) (fun j hj => Or.inl ?_)
        · rw [y2, d0.2.2.2]
        · rw [if_neg (fun y => by cases y.2)]
          by_cases y : n ∈ L2
          · rw [if_pos ⟨rfl, y⟩]
            show (Y.2.2.1 30 n).toInt = 1
            rw [y4 n, if_pos y]; rfl
          · rw [if_neg (fun z => y z.2)]
            exact congrArg Int32.toInt (Yr 30 n (by decide) n2 (Or.inr y))
        · have : j = Q 46 := by simpa using hj
          omega
      have hCf : ∀ h, h ∈ fs6 → C h = ((b7 + 1 : Nat) : Int) := fun h hm => by
        have h1 := hf6 h hm
        rw [fi.1 h (by omega) (by omega) (fun y => by cases y)]
        show (Z.2.2.1 23 h).toInt = _
        rw [g5 h hm]
        exact I_ti (by omega) (by omega)
      have fdG : FNx w0 fof cvr C P R J m6 V b b6 q s (qst Qp 46 (Q 46)) Q6 true [] fs6 [Q 46] := by
        refine FNx_mo fiT ⟨hst.2.1, by omega⟩ ⟨Nat.le_refl _, by omega⟩ leQ leF (fun j j1 j2 j3 => by rw [zo j (by omega) j3, m7b6 j j2]) (fun k u k1 k2 _ hu => ?_) (fun k n k1 k2 k3 k4 k5 k6 => YQ.2.1 k n k1 k5) (fun n _ hn' => YQ.2.2 34 n (Or.inr hn')) (fun n n1 n2 => ?_) (fun j hj => by cases hj) (fun j hj _ _ => hj)
        · rw [zr k (by omega), zF.2.2.2.2.2.1.2.2.2.1 k u k1 k2 (Or.inl hu), ptcs_r (by omega)]
        · have e30 : A Y 30 n = A V 30 n := congrArg Int32.toInt (YQ.2.1 30 n (by decide) n2)
          rw [e30, if_neg (fun y => by cases y.2)]
      obtain ⟨c1', c2'⟩ := zC C P R J H fdB hx
      obtain ⟨m1, m2'⟩ := hGM C P R J H true (b7 + 1) fdG hx6 (by omega) hCf
      refine ⟨fun u u1 u2 => ?_, fun hz => ?_⟩
      · by_cases y : u < s
        · exact m1 u u1 y
        · exact c1' u (by omega) u2
      · have k0in : Q 46 < (qst Q7 32 (Q7 32 + 1)) 46 := by rw [qst_no (by decide)]; omega
        have R4 : ∀ j, 40 ≤ j ∧ j ≤ 44 → R j (Q 46) = A Y j (Q 46) := fun j hj => FNx_R fi hj ⟨Nat.le_refl _, k0in⟩
        have R41 : R 41 (Q 46) = ((kk : Nat) : Int) := by
          rw [R4 41 (by omega)]
          show (Y.2.2.1 41 (Q 46)).toInt = _
          rw [k0r 41 (by omega), Vk0 41 (by omega), hk0.2.2.2.2]
          exact I_ti (by omega) (by omega)
        have R44 : R 44 (Q 46) = ((tk : Nat) : Int) := by
          rw [R4 44 (by omega)]
          show (Y.2.2.1 44 (Q 46)).toInt = _
          rw [k0r 44 (by omega), Vk0 44 (by omega), hk0.2.2.2.1]
          exact I_ti (by omega) (by omega)
        have cw : ∀ k z, [24, I (kk : Nat), line][k]? = some z → k < 3 → C (b6 + k) = z.toInt := fun k z hz hk => by
          rw [fi.1 (b6 + k) (by omega) (by omega) (fun y => by cases y)]
          show (Z.2.2.1 23 (b6 + k)).toInt = _
          rw [wZ7 (b6 + k) (by omega) (by omega), zF.2.2.2.2.2.1.2.2.1 (b6 + k) (by omega)]
          exact congrArg Int32.toInt (ptcs_at hz)
        have c35 : C b7 = 35 := by
          rw [fi.1 b7 (by omega) (by omega) (fun y => by cases y)]
          show (Z.2.2.1 23 b7).toInt = _
          rw [z35]; rfl
        have R29 : R 23 (Q7 32) = 29 := by
          rw [fi.2.2.2.1.1 23 (Q7 32) (by decide) (by decide) (by decide) (by decide) (by decide) (by show Q 32 ≤ Q7 32; exact Nat.le_trans (leQ 32 (by decide)) (Nat.le_trans (le6 32 (by decide)) (le7 32 (by decide)))) (by show Q7 32 < (qst Q7 32 (Q7 32 + 1)) 32; rw [qst_at]; omega) (fun y => absurd y (by decide))]
          show (Y.2.2.1 23 (Q7 32)).toInt = _
          rw [y3 23 _ (by decide), d1]; rfl
        obtain ⟨x1, x2⟩ := XB c.2.2.1 hC7 hR7 hx h16
        have hend : CRe C R J none b7 (Q7 32) H (Onm nm (e7 :: t7)) := cr_1 x1 x2 ⟨0, Or.inr (Or.inr (Or.inr (Or.inr (Or.inr (Or.inr (Or.inr (Or.inr (Or.inr (Or.inr (Or.inr (Or.inr (Or.inr (Or.inr (Or.inr (Or.inr (Or.inr (Or.inr (Or.inr (Or.inr (Or.inr (Or.inr (Or.inr (Or.inr (Or.inr (Or.inr (Or.inr (Or.inr (Or.inr (Or.inl ⟨R29, rfl, c35⟩)))))))))))))))))))))))))))))⟩
        obtain ⟨dB, hB2⟩ := c2' none ⟨fun _ => rfl, fun _ => rfl⟩ hend
        have ckk : C (b6 + 1) = ((kk : Nat) : Int) := by
          rw [cw 1 _ rfl (by decide)]
          exact I_ti (by omega) (by omega)
        have hCH : ∃ f, CHs C R (CRs C R J f) 0 b6 (Q 46) H (Onm nm sc6) := by
          refine ⟨dB, Q6 32, ?_, Or.inl ⟨rfl, cw 0 _ rfl (by decide), by rw [ckk, R41], ⟨tk, R44, ?_⟩, hB2⟩⟩
          · rw [R4 43 (by omega)]
            show (Y.2.2.1 43 (Q 46)).toInt = _
            rw [k0r 43 (by omega), V43]
            have q6 := (XRS_q hR6).2
            exact I_ti (by omega) (by omega)
          · rw [cw 2 _ rfl (by decide), hln, fi.2.2.1 8 tk (Or.inl rfl)]
        have hg2 := m2' hz hCH
        have hd2 := hch C R J H (b7 + 1) (fun j j1 j2 j3 => by
          rw [fi.1 j j1 (by omega) (fun y => by cases y)]
          show (Z.2.2.1 23 j).toInt = (mP.2.2.1 23 j).toInt
          rw [zo j (by omega) (fun y => by
            rcases hsub2 j y with y | y
            · exact j3 y
            · omega), m7b6 j (by omega), X6.2.2.2.2.2.1.2.2.1 j j2]) fi.2.2.1 (fun k q k1 k2 k3 q1' q2' => by
          have gk : grp k = 39 := by unfold grp; rw [if_neg (by omega), if_pos ⟨k1, k2⟩]
          have l39 := le6 39 (by decide)
          have l39b := leF 39 (by decide)
          rw [eQo 39 (by decide)] at l39
          rw [fi.2.2.2.1.1 k q (by omega) (by omega) (by omega) k3 (by rw [gk]; decide) (by rw [gk]; exact q1') (by rw [gk]; omega) (fun y => by omega)]
          show (Y.2.2.1 k q).toInt = (wP.2.2.1 k q).toInt
          rw [YQ.2.1 k q (by rw [gk]; decide) (by rw [gk]; omega), QV.2.1 k q (by rw [gk]; decide) (by rw [gk, eQo 39 (by decide)]; exact q2')]) (fun q q1' q2' => by
          have l39 := le6 39 (by decide)
          have l39b := leF 39 (by decide)
          rw [eQo 39 (by decide)] at l39
          rw [fi.2.2.2.1.2.2.2 q q1' (by omega), YQ.2.2 34 q (Or.inr (by omega)), QV.2.2 34 q (Or.inr (by rw [eQo 39 (by decide)]; exact q2'))]) (fun _ => by
          rw [R4 40 (by omega)]
          show (Y.2.2.1 40 (Q 46)).toInt = (wP.2.2.1 40 (Q 46)).toInt
          rw [k0r 40 (by omega), Vk0 40 (by omega)]) R41 hxP.1 (fun h hm => hCf h (hsub h hm))
        have on0 : Onm nm (e :: t) = [] := by unfold Onm; show e.1.map nm = []; rw [he]; rfl
        rw [on0] at hd2
        refine zr_c (e := b) (O2 := Onm nm scP) (by omega) (by omega) ?_ ?_
        · rcases hd2 with ⟨x1', x2', x3'⟩ | ⟨x1', x2', x3', x4', e2', x5', x6', x7'⟩
          · exact Or.inl ⟨Or.inr ⟨rfl, by rw [R41, x1']; rfl⟩, x2', x3'⟩
          · exact Or.inr ⟨x1', ⟨b7 + 1, x2', hz⟩, kk, e2', Or.inl ⟨rfl, x3', R41, x4'⟩, x5', x6', x7'⟩
        · rcases hg2 with x1' | ⟨g, x1', x2', x3', x4', x5'⟩
          · exact Or.inl x1'
          · exact Or.inr ⟨g, b7 + 1, x1', x2', by rw [x3']; rfl, x4', by omega, hz, x5'⟩
  have hCx := X1.2.1
  have hRx := X1.2.2.1.1
  refine gd_w c hRx (fun k19 => ?_) (fun k19 => ?_)
  · 
    rcases hg with ⟨h19, rfl, rfl⟩ | ⟨gx, kg, h19, h6, hw⟩
    · refine gd_no (XCS_fr hCp) hn h19 ?_
      refine rd_43c (Q := qst Qp 46 (Q 46)) c X1 ⟨by rw [eQ46]; exact Nat.le_refl _, by omega⟩ hmT (fun V X3 hVJ hVr hV42 hV43 => ?_)
      refine rest mP V b cmP Qp scP fs v4 X3 hfs hfr (fun h hm => hm) (fun h hm => Or.inl hm) hV43 (fun k hk => hVr k _ (Or.inl (by omega))) (by omega) (fun C P R J H lst fl fi hx h0 hhk => ⟨fun u u1 u2 => by omega, fun hz hc => Or.inl ⟨?_, hc⟩⟩)
      rw [FNx_R fi (j := 42) (k := Q 46) (by omega) ⟨by rw [eQ46]; exact Nat.le_refl _, by omega⟩]
      show (V.2.2.1 42 (Q 46)).toInt = _
      rw [hV42]; rfl
    · exact absurd (kA c (by omega) h6) k19
  · 
    rcases hg with ⟨h19, rfl, rfl⟩ | ⟨gx, kg, h19, h6, hw⟩
    · exact absurd (k38.symm.trans k19) (by decide)
    · have hw1 := (RW_hdK (XP_bdK f o 3) hw).1
      unfold HDc at hw1
      cases d with
      | zero => exact pp_nr
      | succ d =>
      have XA := XTF_ad X1 (show p + 1 < T by omega) (by rw [k19]; decide)
      have tA := XA.2.2.2.1
      have lA := XTF_len XA
      refine gd_all c IE hw hxd (by omega) ⟨by rw [k38]; exact ⟨rfl, by decide, by decide, by decide⟩, by rw [k38]; decide, by omega⟩ hCp XA.2.2.1.1 hqp (by omega) hn h19 (fun m6 w6 b6 cm6 Q6 sc6 hGd same hab6 hwd6 hcd => ?_)
      have X4 := XTF_tr XA hGd
      refine rd_43c (Q := qst Qp 46 (Q 46)) c X4 ⟨by rw [eQ46]; exact Nat.le_refl _, by omega⟩ hmT (fun V X3 hVJ hVr hV42 hV43 => ?_)
      have le6 := hGd.2.2.2.2.2.2.1.2.1
      have l46 := le6 46 (by decide)
      have rk6 : ∀ k y, grp k ≠ 0 → y < Qp (grp k) → w6.2.2.1 k y = wP.2.2.1 k y := fun k y k1 k2 => hGd.2.2.2.2.2.2.1.1.2.1 k y k1 k2
      have mk6 : ∀ j, j < b → m6.2.2.1 23 j = mP.2.2.1 23 j := hGd.2.2.2.2.2.1.2.2.1
      have b64 : b6 ≤ 23990 := hGd.2.1.1.2.2.1.2.2
      have six : ∀ k, 40 ≤ k → k ≤ 45 → grp k = 46 := fun k k1 k2 => by unfold grp; rw [if_neg (by omega), if_neg (by omega), if_pos ⟨k1, k2⟩]
      have sO : Onm nm sc6 = Onm nm scP := by unfold Onm; rw [same]
      refine rest m6 V b6 cm6 Q6 sc6 ((b + 2) :: fs) _ X3 ⟨rfl, ⟨by omega, by omega⟩, fun h' hm => by have := hfr h' hm; omega, by rw [hwd6.2.2]; exact HKc_fr hfs (fun j hj => mk6 j (hfr j hj).2)⟩ (fun h hm => by
        rcases List.mem_cons.mp hm with rfl | hm
        · omega
        · have := hfr h hm; omega) (fun h hm => List.mem_cons_of_mem _ hm) (fun h hm => by
        rcases List.mem_cons.mp hm with rfl | hm
        · exact Or.inr (by omega)
        · exact Or.inl hm) hV43 (fun k hk => by
        rw [hVr k _ (Or.inl (by omega)), rk6 k _ (by rw [six k (by omega) (by omega)]; decide) (by rw [six k (by omega) (by omega)]; omega)]) (by omega) (fun C P R J H lst fl fi hx h0 hhk => ?_)
      have nf : ∀ j, b ≤ j → j ≠ b + 2 → j ∉ (b + 2) :: fs := fun j j1 j2 y => by
        rcases List.mem_cons.mp y with y | y
        · exact j2 y
        · have := hfr j y; omega
      have c21 := C_of fi (j := b) ⟨Nat.le_refl _, by omega⟩ (nf _ (Nat.le_refl _) (by omega)) hwd6.1
      have cl := C_of fi (j := b + 1) ⟨by omega, by omega⟩ (nf _ (by omega) (by omega)) hwd6.2.1
      have lenE : (mP.1 706 - m.1 706).toInt = (((Onm nm scP).length : Nat) : Int) := by
        have tb : tot scP = tot (e :: t) + (Onm nm scP).length := by
          cases scP with
          | nil => exact absurd hbd.1 (by show ¬ (0 = t.length + 1); omega)
          | cons eP tP =>
            have l1 : (Onm nm (eP :: tP)).length = eP.1.length := by unfold Onm; rw [List.length_map]; rfl
            have et : tot (e :: t) = tot t := by show tot t + e.1.length = _; rw [he]; rfl
            rw [l1, et]
            show tot tP + eP.1.length = _
            have hb2 : tot tP = tot t := (BDs_len hbd.2).2
            rw [hb2]
        have hb := hCp.1.2.1.2.2.2.1
        rw [hCp.1.2.1.2.2.1, m706, I_sub, I_ti (by omega) (by omega), tb]
        omega
      have R42 := FNx_R fi (j := 42) (k := Q 46) (by omega) ⟨by rw [eQ46]; exact Nat.le_refl _, by omega⟩
      have fd : FNd w0 fof cvr C P R J m6 w6 (b + 3) b6 q s Qp Q6 lst [] := by
        refine FNx_sub fi ⟨by omega, Nat.le_refl _⟩ ⟨Nat.le_refl _, Nat.le_refl _⟩ X1.2.2.2.2.2.2.1.2.1 QLE_rf (fun _ _ _ => rfl) (fun _ _ _ _ _ _ => rfl) ⟨fun k y k1 k2 k3 k4 k5 => hVr k y ?_, fun y _ _ => by rw [hVJ]⟩ (fun y y1 y2 => ?_) (fun j hj => Or.inl ?_) (fun j hj => Or.inl ?_)
        · by_cases z : k = 42 ∨ k = 43
          · have : Qp 46 ≤ y := by rcases z with rfl | rfl <;> exact k4
            exact Or.inr (by omega)
          · exact Or.inl (by omega)
        · have e30 : A V 30 y = A w6 30 y := congrArg Int32.toInt (hVr 30 y (Or.inl (by decide)))
          rw [e30]
        · rcases List.mem_cons.mp hj with rfl | hj
          · omega
          · have := hfr j hj; omega
        · have : j = Q 46 := by simpa using hj
          omega
      obtain ⟨g1, g2⟩ := hcd C P R J H lst fd hx
      refine ⟨g1, fun hz hc => Or.inr ⟨Qp 32, ?_, c21, cl.trans lenE, hhk _ List.mem_cons_self, g2 0 (Q 46) 0 hc⟩⟩
      rw [R42]
      show (V.2.2.1 42 (Q 46)).toInt = _
      rw [hV42]
      exact I_ti (by omega) (by have := (XRS_q hRp).2; omega)
end
end
section
set_option maxRecDepth 100000
section
variable {α β : Type} {m0 w0 m w m2 w2 m3 w3 v u mP wP V Z : MS} {K nm Nk W W2 : Nat → Nat} {N T D d o o2 a b b0 c cm cmP cm2 q r s lo ph mid hi i j f n k k0 kk p tk xa xb xc xd xe gx kg kb mb M kf : Nat} {Q Qp Q2 Q3 : Nat → Nat} {sc scP sc2 sc3 t t2 : SCT} {e e2 : List Nat × List Nat × Nat} {g lst own own2 : Bool} {L hs ps fs : List Nat} {fof cvr : Int → Int → Int} {rt v1 v2 v3 v4 v5 line xw : Int32} {G : MS → Int32 → Int32 → Int32 → Option (MS × Int32)} {C : Nat → Int} {P R : Nat → Nat → Int} {J : Nat → Int64}
theorem PCS_713 (h : PCS m0 nm m a cm sc own) (hx : decide (xw = 0) = !own2) : PCS m0 nm (upI m 713 xw) a cm sc own2 := by
  obtain ⟨h1, h3, h4, h5, h6, h7⟩ := h
  exact ⟨⟨fun k hk => by rw [upI_ne (by omega)]; exact h1.1 k hk, h1.2⟩, ⟨by rw [upI_ne (by decide)]; exact h3.1, h3.2.1, by rw [upI_ne (by decide)]; exact h3.2.2.1, h3.2.2.2.1, CNl_fr h3.2.2.2.2 rfl (fun _ _ => rfl)⟩, ⟨by rw [upI_ne (by decide)]; exact h4.1, h4.2⟩, by rw [upI_at]; exact hx, h6, h7⟩
theorem RFQ_rf : RFQ k0 w w i := ⟨fun _ _ _ _ => rfl, fun _ _ => rfl, fun _ _ _ _ => rfl, fun _ _ _ _ _ => rfl, fun _ _ _ => rfl⟩
theorem cl_beg {A' : Option (MS × α)} {RR : MS → α → MS → Int32 → Prop} {S : SG_M_behind} (c : CTZ m0 w0 K T nm Nk) (hR : XRS w0 T w lo Q sc) (k20 : K lo = 20) (hlT : lo < T) (hh : ∀ V, Q 46 < 16000 → XRS w0 T V (lo + 1) (qst Q 46 (Q 46 + 1)) sc → QRR Q w V → V.2.2.2 = w.2.2.2 → (∀ k n, (k < 40 ∨ 45 < k ∨ k = 43) ∨ n ≠ Q 46 → V.2.2.1 k n = w.2.2.1 k n) → V.2.2.1 44 (Q 46) = v1 → V.2.2.1 45 (Q 46) = -1 → V.2.2.1 41 (Q 46) = 0 → (K (lo + 1) = 21 → PP RR A' (kb_M_clause_183 N S (kg_M_clause N S N) V (I (Q 46 : Nat)))) ∧ (K (lo + 1) ≠ 21 → PP RR A' (kg_M_clause N S N V (I (Q 46 : Nat)) (-1) 1))) : PP RR A' (km_M_clause N S w v1) := by
  have q46 := hR.2 46 (by decide)
  unfold km_M_clause kb_M_clause_0
  rw [q46.1, i_suc, i_nt2 (p := Q 46) (by omega)]
  refine r_lt (r_ck (fun z => r_lt ?_))
  have hk : Q 46 < 16000 := by
    have := (I_inb (n := ln 44) (x := ((Q 46 : Nat) : Int)) (by omega) (by omega)).mp z
    have l44 : ln 44 ≤ 16000 := by decide
    omega
  have g46 : ∀ k, 40 ≤ k → k ≤ 45 → grp k = 46 := fun k k1 k2 => by unfold grp; rw [if_neg (by omega), if_neg (by omega), if_pos ⟨k1, k2⟩]
  have h1 : W46 (upI w 46 (I ((Q 46 + 1 : Nat) : Int))) (upA (upI w 46 (I ((Q 46 + 1 : Nat) : Int))) 44 (upd ((upI w 46 (I ((Q 46 + 1 : Nat) : Int))).2.2.1 44) (Q 46) v1)) 44 (Q 46) v1 := w46_of
  generalize upA (upI w 46 (I ((Q 46 + 1 : Nat) : Int))) 44 (upd ((upI w 46 (I ((Q 46 + 1 : Nat) : Int))).2.2.1 44) (Q 46) v1) = V1 at h1
  refine r_ck (fun _ => r_lt ?_)
  have h2 : W46 V1 (upA V1 45 (upd (V1.2.2.1 45) (Q 46) (-1))) 45 (Q 46) (-1) := w46_of
  generalize upA V1 45 (upd (V1.2.2.1 45) (Q 46) (-1)) = V2 at h2
  refine r_ck (fun _ => r_lt ?_)
  have h3 : W46 V2 (upA V2 42 (upd (V2.2.2.1 42) (Q 46) (-1))) 42 (Q 46) (-1) := w46_of
  generalize upA V2 42 (upd (V2.2.2.1 42) (Q 46) (-1)) = V3 at h3
  refine r_ck (fun _ => r_lt ?_)
  have h4 : W46 V3 (upA V3 41 (upd (V3.2.2.1 41) (Q 46) 0)) 41 (Q 46) 0 := w46_of
  generalize upA V3 41 (upd (V3.2.2.1 41) (Q 46) 0) = V4 at h4
  refine r_ck (fun _ => r_lt ?_)
  have h5 : W46 V4 (upA V4 40 (upd (V4.2.2.1 40) (Q 46) (-1))) 40 (Q 46) (-1) := w46_of
  generalize upA V4 40 (upd (V4.2.2.1 40) (Q 46) (-1)) = V5 at h5
  have i5 : V5.1 = (upI w 46 (I ((Q 46 + 1 : Nat) : Int))).1 := by rw [h5.1, h4.1, h3.1, h2.1, h1.1]
  have j5 : V5.2.2.2 = w.2.2.2 := by rw [h5.2.1, h4.2.1, h3.2.1, h2.2.1, h1.2.1]; rfl
  have r5 : ∀ k n, (k < 40 ∨ 45 < k ∨ k = 43) ∨ n ≠ Q 46 → V5.2.2.1 k n = w.2.2.1 k n := fun k n hk => by
    rw [h5.2.2.1 k n (by omega), h4.2.2.1 k n (by omega), h3.2.2.1 k n (by omega), h2.2.2.1 k n (by omega), h1.2.2.1 k n (by omega)]; rfl
  have r44 : V5.2.2.1 44 (Q 46) = v1 := by
    rw [h5.2.2.1 44 _ (Or.inl (by decide)), h4.2.2.1 44 _ (Or.inl (by decide)), h3.2.2.1 44 _ (Or.inl (by decide)), h2.2.2.1 44 _ (Or.inl (by decide))]
    exact h1.2.2.2
  have r45 : V5.2.2.1 45 (Q 46) = -1 := by
    rw [h5.2.2.1 45 _ (Or.inl (by decide)), h4.2.2.1 45 _ (Or.inl (by decide)), h3.2.2.1 45 _ (Or.inl (by decide))]
    exact h2.2.2.2
  have r41 : V5.2.2.1 41 (Q 46) = 0 := by
    rw [h5.2.2.1 41 _ (Or.inl (by decide))]
    exact h4.2.2.2
  have vi : ∀ k, k ≠ 46 → V5.1 k = w.1 k := fun k hk => by rw [i5, upI_ne hk]
  have X5 : XRS w0 T V5 lo (qst Q 46 (Q 46 + 1)) sc := by
    refine ⟨?_, fun k hk => ?_⟩
    · rw [qst_no (by decide)]
      exact PRS_x hR.1 (fun k hk => vi k (by rintro rfl; revert hk; decide)) (fun k hk => funext (fun n => r5 k n (by omega))) ((vi 69 (by decide)).trans hR.1.2.1.1)
    · by_cases z : k = 46
      · subst z
        rw [i5, upI_at, qst_at]
        exact ⟨rfl, by omega⟩
      · rw [qst_no z, vi k z]; exact hR.2 k hk
  have Q5 : QRR Q w V5 := ⟨fun k a1 a2 a3 => funext (fun n => r5 k n (Or.inl (by
    by_cases y : 40 ≤ k ∧ k ≤ 45
    · rw [g46 k y.1 y.2] at a1; cases a1
    · omega))), fun k n a1 a2 => r5 k n (by
    by_cases y : 40 ≤ k ∧ k ≤ 45
    · rw [g46 k y.1 y.2] at a2
      exact Or.inr (by omega)
    · exact Or.inl (by omega)), fun k n _ => by rw [j5]⟩
  refine nd_s c X5 (k := 20) (s' := 0) (by decide) rfl (fun _ => ?_)
  have X6 := XRS_ad X5 hlT
  obtain ⟨x1, x2⟩ := hh (adv V5 lo) hk X6 Q5 j5 r5 r44 r45 r41
  have hw6 := XRS_wp c X6
  rw [decide_eq_true X6.1.2.2.1, br_tq, isS_e (k := 21) (s := 1) hw6 (by decide) rfl, bnd_s]
  by_cases z : K (lo + 1) = 21
  · rw [if_pos z, show decide ((1 : Int32) = 0) = false from rfl, br_fq]
    exact x1 z
  · rw [if_neg z, show decide ((0 : Int32) = 0) = true from rfl, br_tq]
    exact x2 z
end
end
section
set_option maxRecDepth 100000
section
variable {α β : Type} {m0 w0 m w m2 w2 m3 w3 v u mP wP V Z : MS} {K nm Nk W W2 : Nat → Nat} {N T D d o o2 a b b0 c cm cmP cm2 q r s lo ph mid hi i j f n k k0 kk p tk xa xb xc xd xe gx kg kb mb M kf : Nat} {Q Qp Q2 Q3 : Nat → Nat} {sc scP sc2 sc3 t t2 : SCT} {e e2 : List Nat × List Nat × Nat} {g lst own own2 : Bool} {L hs ps fs : List Nat} {fof cvr : Int → Int → Int} {rt v1 v2 v3 v4 v5 line xw : Int32} {G : MS → Int32 → Int32 → Int32 → Option (MS × Int32)} {C : Nat → Int} {P R : Nat → Nat → Int} {J : Nat → Int64}
theorem cl_183z {A' : Option (MS × α)} {RR : MS → α → MS → Int32 → Prop} : PP RR A' (kb_M_clause_183 N (krc_M_behind N 0) G w v1) := by
  unfold kb_M_clause_183
  exact r_bnd (fun _ _ _ => pp_nr)
set_option maxHeartbeats 1000000 in
theorem cls_x (c : CTZ m0 w0 K T nm Nk) (cv : CTV m0 w0 K T) (IE : HXE N m0 w0 K T nm Nk fof cvr f) (hf : f ≤ 230) (hC : XCS m0 nm m a cm (e :: t) false) (he : e.1 = []) (hR : XRS w0 T w lo Q (e :: t)) (hq : Q 56 = q) (k20 : K lo = 20) (hP : PRTcK m0 (PAcK m0 f) (XPcK m0 f o2 3) (XPcK m0 f o 3) kk n (lo + 1) ph (ph + 1) hi xa xb q r) (k21 : K ph = 21) (hph : lo + 1 ≤ ph) (hxb : xb ≤ 8015) (hr4 : r ≤ 400) (hcl : NEC (K hi) ∧ K hi ≠ 26 ∧ hi ≤ T) (hkk : kk ≤ 6) (htot : tot (e :: t) + (hi - lo) ≤ 4000 ∧ t.length ≤ o ∧ t.length ≤ o2) (hln : line.toInt = A w0 8 tk) (htk : tk ≤ 4002) : PP (CLZs m0 w0 K T nm Nk fof cvr kk lo hi a cm q r Q (e :: t) m w) ((jrc_Cm_fun N D).2.2.2.2.2.2.2.2.2.2.2.2 m (I (n : Nat)) (I (kk : Nat)) line) ((krc_M_behind N d).2.2.2.2.2.2.2.2.2.2.2.2.2.2.2.2 w (I (tk : Nat))) := by
  have tt4 := c.2.1.1.1
  obtain ⟨⟨hn1, hn2⟩, -, -, p0, xc, gx, mid, xd, s, kb, mb, xe, ⟨h18, hpa⟩, ⟨h19, hg⟩, ⟨h20, hB⟩, hxe, h38⟩ := hP
  have hn : n ≤ 8015 := by omega
  have hB1 := (RW_hdK (XP_bdK f o2 3) hB).1
  unfold HDc at hB1
  have hg1 : ph + 1 ≤ mid ∧ xc ≤ xd ∧ q ≤ s := by
    rcases hg with ⟨-, y2, y3, y4⟩ | ⟨⟨-, -⟩, kg, y3⟩
    · exact ⟨by omega, by omega, by omega⟩
    · have := (RW_hdK (XP_bdK f o 3) y3).1
      unfold HDc at this
      exact ⟨by omega, by omega, by omega⟩
  have hg2 : (A m0 19 n = 0 ∧ mid = ph + 1 ∧ q = s) ∨ ∃ gx kg : Nat, A m0 19 n = ((gx : Nat) : Int) ∧ A m0 6 (ph + 1) = 19 ∧ RWcK m0 1 26 (XPcK m0 f o 3) kg gx (ph + 2) mid xc xd q s := by
    rcases hg with ⟨y1, y2, y3, y4⟩ | ⟨⟨y1, y2⟩, kg, y3⟩
    · exact Or.inl ⟨by rw [h19, y1]; rfl, y2, y4.symm⟩
    · exact Or.inr ⟨gx, kg, h19, y2, y3⟩
  clear hg
  have k38 : K mid = 38 := kA c (by clear hg2 hpa; omega) h38
  have xd5 : xd ≤ 8015 := by clear hg2 hpa; omega
  have xe5 : xe ≤ 8015 := by clear hg2 hpa; omega
  have hlT : lo < T := by clear hg2 hpa; omega
  have elen : (e :: t).length = t.length + 1 := rfl
  have n713 : m.1 713 = 0 := of_decide_eq_true (by have := hC.1.2.2.2.1; exact this)
  cases D with
  | zero => exact pp_nl
  | succ D =>
  cases d with
  | zero => exact pp_nr
  | succ d =>
  show PP _ (jm_Cm_clause N (jrc_Cm_fun N D) m (I (n : Nat)) (I (kk : Nat)) line) (km_M_clause N (krc_M_behind N d) w (I (tk : Nat)))
  unfold jm_Cm_clause jb_Cm_clause_0
  cases D with
  | zero => exact pp_nl
  | succ D =>
  rw [i_nt2 (show n ≤ 100000 by omega)]
  show PP _ (bnd (jm_Cm_tries N (jrc_Cm_fun N D) m (I (kk : Nat)) (I (n : Nat))) _) _
  refine cl_beg c hR k20 hlT (fun V hk16 hXV hQV hVJ hVr hV44 hV45 hV41 => ⟨fun z21 => ?_, fun z21 => ?_⟩)
  · 
    rcases hpa with ⟨y1, y2, y3, y4, y5⟩ | ⟨y1, hrw⟩
    · subst y1
      subst y3
      subst y4
      rw [y2] at h18
      cases d with
      | zero => exact cl_183z
      | succ d =>
      refine hd_no (XCS_fr hC) hn h18 ?_
      refine cl_rest (fs := []) (kk := 0) (cmP := cm) (Qp := qst Q 46 (Q 46 + 1)) (scP := e :: t) (p := lo + 1) c IE hC he hC hXV (by rw [qst_no (by decide)]; exact hq) ⟨by omega, Nat.le_refl _, Nat.le_refl _⟩ (by omega) ⟨fun _ => 0, HDo_gap (fun j a b => by rw [show j = lo by omega, k20]; decide), by rw [wup_0 (fun j a b => by rw [show j = lo by omega, k20]; decide)]⟩ XFC_rf ⟨hQV, QLE_st QLE_rf (by omega), qst_no (by decide), qst_no (by decide), qst_no (by decide)⟩ ⟨rfl, BDs_rf⟩ ⟨hk16, qst_at, hV45, hV44, hV41⟩ (fun C R J H fl h1 h2 h3 h4 h5 h6 h7 h8 => Or.inl ⟨rfl, rfl, rfl⟩) rfl (fun h hm => by cases hm) z21 hn hg2 xd5 k38 h20 hB xe5 hr4 hcl htot hln htk (by omega)
    · exfalso
      obtain ⟨k', rfl⟩ : ∃ k', kk = k' + 1 := ⟨kk - 1, by omega⟩
      obtain ⟨mm, cc, ss, hp1, -⟩ := hrw
      have := (pa_k1 hp1).1
      have z6 : A m0 6 (lo + 1) = ((K (lo + 1) : Nat) : Int) := by
        show (m0.2.2.1 6 (lo + 1)).toInt = _
        rw [c.1.2 (lo + 1) (by omega)]
        exact I_ti (by omega) (by omega)
      rw [z6, z21] at this
      exact this rfl
  · 
    rcases hpa with ⟨y1, y2, y3, y4, y5⟩ | ⟨y1, hrw⟩
    · exact absurd (y3 ▸ k21) z21
    · have hr1 := (RW_hdK (PA_bdK f) hrw).1
      unfold HDc at hr1
      unfold jm_Cm_tries jb_Cm_tries_0
      rw [bnd_ck, i_nt2 (show n ≤ 100000 by omega), tre (XCS_fr hC) (by decide) h18]
      refine l_ck (fun _ => ?_)
      rw [decide_eq_false (fun z => by
        have := (I_eq (x := ((p0 : Nat) : Int)) (y := 0) (by clear hg2; omega) (by clear hg2; omega) (by decide) (by decide)).mp z
        clear hg2; omega), br_fq, bnd_as2]
      refine l_put hC.1.2.2.1.1 hC.1.2.2.1.2.2 (fun ha => ?_)
      have k1 := XCS_put (x := 19) hC ha
      rw [bnd_as2]
      refine l_put k1.1.2.2.1.1 k1.1.2.2.1.2.2 (fun ha1 => ?_)
      have k2 := XCS_put (x := I (kk : Nat)) k1 ha1
      unfold jm_Co_hook jb_Co_hook_0
      rw [bnd_as2, bnd_as2]
      refine l_put k2.1.2.2.1.1 k2.1.2.2.1.2.2 (fun ha2 => ?_)
      have k3 := XCS_put (x := 0) k2 ha2
      rw [bnd_s]
      have em : ptc (ptc (ptc m a 19) (a + 1) (I (kk : Nat))) (a + 1 + 1) 0 = ptcs m a [19, I (kk : Nat), 0] := rfl
      rw [em] at k3 ⊢
      have e441 : (ptcs m a [19, I (kk : Nat), 0]).1 441 = I ((a + 2 + 1 : Nat) : Int) := k3.1.2.2.1.1
      have kneg : decide (I (kk : Nat) < (0 : Int32)) = false := decide_eq_false (fun z => by
        have := (I_lt (x := ((kk : Nat) : Int)) (y := 0) (by omega) (by omega) (by decide) (by decide)).mp z
        omega)
      rw [e441, I_sn, kneg, br_fq]
      unfold jb_Cm_tries_57
      have k3' : XCS m0 nm (ptcs m a [19, I (kk : Nat), 0]) (a + 3) cm (e :: t) false := k3
      have c13 : PCS m0 nm (upI (ptcs m a [19, I (kk : Nat), 0]) 713 1) (a + 3) cm (e :: t) true := PCS_713 k3'.1 rfl
      rw [show isb 1 = true from rfl, ck_t, lt_e, bnd_ck, i_nt2 (show n ≤ 100000 by omega), tre c13.1 (by decide) h18]
      refine l_ck (fun _ => ?_)
      have s713 : ∀ k, k ≠ 441 → k ≠ 713 → (upI (ptcs m a [19, I (kk : Nat), 0]) 713 1).1 k = m.1 k := fun k h1 h2 => by rw [upI_ne h2, ptcs_i h1]
      have srow : ∀ k, k ≠ 23 → (upI (ptcs m a [19, I (kk : Nat), 0]) 713 1).2.2.1 k = m.2.2.1 k := fun k hk => ptcs_r hk
      have slow : ∀ j, j < a → (upI (ptcs m a [19, I (kk : Nat), 0]) 713 1).2.2.1 23 j = m.2.2.1 23 j := fun j hj => ptcs_o (Or.inl hj)
      have swd : ∀ k z, [19, I (kk : Nat), 0][k]? = some z → (upI (ptcs m a [19, I (kk : Nat), 0]) 713 1).2.2.1 23 (a + k) = z := fun k z hz => ptcs_at hz
      generalize upI (ptcs m a [19, I (kk : Nat), 0]) 713 1 = mS at c13 s713 srow slow swd
      have q39 : (qst Q 46 (Q 46 + 1)) 39 = Q 39 := qst_no (by decide)
      have hPV : PRd w0 T V (lo + 1) (Q 39) (e :: t) := by have := hXV.1; rw [q39] at this; exact this
      have d1 : PP (CLZs m0 w0 K T nm Nk fof cvr kk lo hi a cm q r Q (e :: t) m w) (bnd ((jg_Cm_tries N (jrc_Cm_fun N D) N).1 mS (I (n : Nat)) (m.1 706) (I ((a + 2 : Nat) : Int)) (I (p0 : Nat))) (fun u2 r2 => bnd (jm_Co_put N u2 24) (fun u4 _ => bnd (jm_Co_put N u4 (I (kk : Nat))) (fun u7 _ => bnd (jm_Co_put N u7 line) (fun u10 _ => ck (inb (I (n : Nat)) 8016) (bnd ((jrc_Cm_fun N (D + 1)).2.2.2.1 u10 (u10.2.2.1 20 n) 1) (fun u17 _ => bnd (jm_Co_put N u17 35) (fun u19 _ => lt (upI u19 706 (m.1 706)) (fun w21 => bnd (hm_Co_arrive N w21 r2) (fun u23 _ => some (u23, ()))))))))))) (kg_M_clause N (krc_M_behind N d) N V (I (Q 46 : Nat)) (optI none) 1) := by
        refine rwc_lp (kk := kk) (lo0 := lo + 1) (a0 := a + 3) (cm0 := cm) (pi0 := Q 39) (k0 := Q 46) (sc0 := e :: t) (mS := mS) (wS := V) (hi := ph) (xb := xc) (r := q) c cv (by omega) (by clear hg2; omega) (by clear hg2; omega) (by rw [k21]; decide) hkk (fun M kf m2 w2 b0 cm2 pj sc2 l2 ra => ?_) kk p0 (lo + 1) xa q N N 0 none mS V (a + 3) cm (Q 39) (e :: t) hrw ⟨c13, hPV, ⟨Nat.le_refl _, Nat.le_refl _, Nat.le_refl _⟩, ⟨NMX_rf, by omega⟩, ⟨fun _ => 0, HDo_gap (fun j a b => by omega), by rw [wup_0 (fun j a b => by omega)]⟩, CFP_rf, RFQ_rf, hV41, Or.inl ⟨rfl, rfl, rfl, rfl, rfl⟩⟩ (by omega)
        obtain ⟨r1, r2, r3, r4, ⟨W, r5, r6⟩, r7, r8, r9, r10⟩ := ra
        have hr10 : ∃ first l : Nat, 1 ≤ kk ∧ some l2 = some l ∧ w2.2.2.1 40 (Q 46) = I (first : Nat) ∧ ((Q 39 ≤ first ∧ first < pj) ∧ Q 39 ≤ l ∧ l < pj) ∧ w2.2.2.1 37 l = -1 ∧ ∀ C R J H, AGC C m2 (a + 3) b0 → GRS R w0 → AGP R J w2 (Q 39) pj l → HPX nm sc2 H → PTL C R J H f 0 kk (a + 3) first (Onm nm (e :: t)) b0 l (Onm nm sc2) := by
          rcases r10 with ⟨y1, -⟩ | z
          · omega
          · exact z
        clear r10
        obtain ⟨first, l, -, -, z1, z2, z3, z4⟩ := hr10
        cases kf with
        | zero => exact pp_nl
        | succ kf =>
        cases M with
        | zero => exact pp_nr
        | succ M =>
        show PP _ (bnd (jb_Cm_tries_71 N (jrc_Cm_fun N D) (jg_Cm_tries N (jrc_Cm_fun N D) kf) m2 (I (n : Nat)) (m.1 706) (I ((a + 2 : Nat) : Int)) (I ((0 : Nat) : Int))) _) (kb_M_clause_75 N (krc_M_behind N d) (kg_M_clause N (krc_M_behind N d) M) w2 (I (Q 46 : Nat)) (I (l2 : Nat)) 0)
        unfold jb_Cm_tries_71 kb_M_clause_75
        rw [show decide (I ((0 : Nat) : Int) = (0 : Int32)) = true from rfl, br_tq, show decide ((0 : Int32) = 0) = true from rfl, br_tq, bnd_lt]
        refine l_lt ?_
        have c0 : PCS m0 nm (upI m2 713 0) b0 cm2 sc2 false := PCS_713 r1 rfl
        rw [bnd_as2]
        refine l_put c0.2.2.1.1 c0.2.2.1.2.2 (fun ha3 => ?_)
        have c8 := PCS_put (x := 8) c0 ha3
        cases d with
        | zero => exact cl_183z
        | succ d =>
        have e712 : m2.1 712 = m.1 712 := by rw [r7.1 712 (by decide) (by decide), s713 712 (by decide) (by decide)]
        have mo : ∀ j, j < b0 → (ptc (upI m2 713 0) b0 8).2.2.1 23 j = m2.2.2.1 23 j := fun j hj => ptc_o (by omega)
        have mb8 : (ptc (upI m2 713 0) b0 8).2.2.1 23 b0 = 8 := ptcs_at (l := [8]) (k := 0) rfl
        have mr : ∀ k, k ≠ 23 → (ptc (upI m2 713 0) b0 8).2.2.1 k = m2.2.2.1 k := fun k hk => ptc_r hk
        have mi : ∀ k, k ≠ 441 → k ≠ 713 → (ptc (upI m2 713 0) b0 8).1 k = m2.1 k := fun k h1 h2 => by rw [ptc_i h1, upI_ne h2]
        have m7 : (ptc (upI m2 713 0) b0 8).1 713 = 0 := by rw [ptc_i (by decide), upI_at]
        generalize ptc (upI m2 713 0) b0 8 = mP at c8 mo mb8 mr mi m7
        have xP : XCS m0 nm mP (b0 + 1) cm2 sc2 false := ⟨c8, by rw [mi 712 (by decide) (by decide), e712]; exact hC.2⟩
        have pj5 : pj ≤ 5000 := r2.2.2.2.2.2.2
        have e39 : (qst (qst Q 46 (Q 46 + 1)) 39 pj) 39 = pj := qst_at
        have rI : ∀ k, k ≠ 39 → k ≠ 66 → k ≠ 69 → w2.1 k = V.1 k := r8.1
        have xR : XRS w0 T w2 ph (qst (qst Q 46 (Q 46 + 1)) 39 pj) sc2 := by
          refine ⟨by rw [e39]; exact r2, fun k hk => ?_⟩
          by_cases y : k = 39
          · subst y
            rw [e39]
            exact ⟨r2.2.2.2.2.2.1, by omega⟩
          · rw [qst_no y, rI k y (by rintro rfl; revert hk; decide) (by rintro rfl; revert hk; decide)]
            exact hXV.2 k hk
        have g46 : ∀ k, 40 ≤ k → k ≤ 45 → grp k = 46 := fun k k1 k2 => by unfold grp; rw [if_neg (by omega), if_neg (by omega), if_pos ⟨k1, k2⟩]
        have g39 : ∀ k, 33 ≤ k → k ≤ 38 → grp k = 39 := fun k k1 k2 => by unfold grp; rw [if_neg (by omega), if_pos ⟨k1, k2⟩]
        have Vw : QRR Q V w2 := ⟨fun k a1 a2 a3 => by
          refine r8.2.1 k ?_
          by_cases y : 40 ≤ k ∧ k ≤ 45
          · rw [g46 k y.1 y.2] at a1; cases a1
          · by_cases y2 : 33 ≤ k ∧ k ≤ 38
            · rw [g39 k y2.1 y2.2] at a1; cases a1
            · omega, fun k n' a1 a2 => by
          by_cases y2 : 33 ≤ k ∧ k ≤ 38
          · rw [g39 k y2.1 y2.2] at a2
            exact r8.2.2.2.1 k n' a2 y2.1 y2.2
          · by_cases y3 : k = 40 ∨ k = 41
            · rw [g46 k (by omega) (by omega)] at a2
              exact r8.2.2.1 k n' y3 (by omega)
            · have y4 : ¬ (59 ≤ k ∧ k ≤ 64) := fun z => by
                unfold grp at a1
                rw [if_neg (by omega), if_neg (by omega), if_neg (by omega), if_neg (by omega), if_neg (by omega), if_neg (by omega), if_neg (by omega), if_neg (by omega)] at a1
                exact a1 rfl
              exact congrFun (r8.2.1 k (by omega)) n', fun k n' a1 => r8.2.2.2.2 k n' (by omega)⟩
        have nmx : sc2.length = t.length + 1 ∧ BDs t sc2.tail := by
          refine ⟨NMX_len r4.1, ?_⟩
          cases sc2 with
          | nil => exact r4.1.elim
          | cons e2 t2 => exact r4.1.2.1
        have cmle : cm ≤ cm2 := by
          cases sc2 with
          | nil => exact r4.1.elim
          | cons e2 t2 => exact r4.1.2.2
        have gap : ∀ j, lo ≤ j → j < lo + 1 → K j ≠ 3 := fun j j1 j2 => by rw [show j = lo by omega, k20]; decide
        have r7' := r7
        unfold CFP at r7'
        rw [elen, Nat.add_sub_cancel] at r7'
        have hw2 : ∀ j, j < a → mP.2.2.1 23 j = m.2.2.1 23 j := fun j hj => by
          have := r3.2.1
          rw [mo j (by omega), r7'.2.2.1 j (by omega), slow j hj]
        have sub : ∀ k, 23 ≤ 23 → k < 3 → ∀ z, [19, I (kk : Nat), 0][k]? = some z → mP.2.2.1 23 (a + k) = z := fun k _ hk z hz => by
          have := r3.2.1
          rw [mo (a + k) (by omega), r7'.2.2.1 (a + k) (by omega)]
          exact swd k z hz
        refine cl_rest (fs := [a + 2]) (kk := kk) (cmP := cm2) (Qp := qst (qst Q 46 (Q 46 + 1)) 39 pj) (scP := sc2) (p := ph) c IE hC he xP xR (by rw [qst_no (by decide), qst_no (by decide)]; exact hq) ⟨by omega, by have := r3.2.1; omega, cmle⟩ (by have := r4.2; omega) ⟨W, HDo_tr (p2 := lo + 1) (by omega) hph (HDo_gap gap) r5, by rw [mr 42 (by decide), r6, srow 42 (by decide), ← wup_tr (W := W) (p := lo) (q := lo + 1) (p2 := ph) (by omega) hph, wup_0 (p := lo) gap]⟩ ⟨fun k k1 k2 => ?_, fun k k1 k2 k3 => ?_, hw2, fun k j k1 k2 k3 => ?_, fun j hj => ?_, fun j hj => ?_⟩ ⟨QRR_tr hQV Vw QLE_rf, QLE_st (QLE_st QLE_rf (by omega)) (by omega), by rw [qst_no (by decide), qst_no (by decide)], by rw [qst_no (by decide), qst_no (by decide)], by rw [qst_no (by decide), qst_no (by decide)]⟩ nmx ⟨hk16, by rw [qst_no (by decide), qst_at], by rw [r8.2.1 45 (by omega)]; exact hV45, by rw [r8.2.1 44 (by omega)]; exact hV44, r9⟩ (fun C R J H fl hc gr hrk hJ h40 h41 hx hfl => ?_) ⟨rfl, ⟨by omega, by omega⟩, fun h' hm => (by cases hm), sub 2 (by decide) (by decide) 0 rfl⟩ (fun h hm => by
          have : h = a + 2 := by simpa using hm
          have := r3.2.1
          omega) k21 hn hg2 xd5 k38 h20 hB xe5 hr4 hcl htot hln htk hkk
        · by_cases y : k = 713
          · rw [y, m7, n713]
          · rw [mi k k1 y, r7'.1 k k1 k2, s713 k k1 y]
        · rw [mr k k1, r7'.2.1 k k1 (by omega) (by omega) (by omega), srow k k1]
        · rw [mr k (by omega), r7'.2.1 k (by omega) (by omega) (by omega) (by omega), srow k (by omega)]
        · rw [mr 40 (by decide), r7'.2.1 40 (by decide) (by decide) (by decide) (by decide), srow 40 (by decide)]
        · rw [mr 41 (by decide), r7'.2.2.2 j (by omega), srow 41 (by decide)]
        · refine Or.inr ⟨?_, hfl _ (by simp), ⟨by omega, hkk⟩, ?_, b0, ?_, ?_, rfl⟩
          · rw [hc a (Nat.le_refl _) (by have := r3.2.1; omega) (fun y => by
              have : a = a + 2 := by simpa using y
              omega)]
            exact congrArg Int32.toInt (sub 0 (by decide) (by decide) 19 rfl)
          · rw [hc (a + 1) (by omega) (by have := r3.2.1; omega) (fun y => by
              have : a + 1 = a + 2 := by simpa using y
              omega)]
            have := congrArg Int32.toInt (sub 1 (by decide) (by decide) (I (kk : Nat)) rfl)
            exact this.trans (I_ti (by omega) (by omega))
          · have hptl := z4 C R J H (fun j j1 j2 => by
              rw [hc j (by omega) (by omega) (fun y => by
                have : j = a + 2 := by simpa using y
                omega)]
              exact congrArg Int32.toInt (mo j j2)) gr (fun q' q1 q2 => by
              have ee : ∀ k, 33 ≤ k → k ≤ 38 → k ≠ 34 → R k q' = A w2 k q' := fun k k1 k2 k3 => hrk k q' k1 k2 k3 q1 (by rw [e39]; exact q2)
              exact ⟨ee 33 (by decide) (by decide) (by decide), ee 35 (by decide) (by decide) (by decide), ee 36 (by decide) (by decide) (by decide), ee 38 (by decide) (by decide) (by decide), hJ q' q1 (by rw [e39]; exact q2), fun _ => ee 37 (by decide) (by decide) (by decide)⟩) hx
            obtain ⟨ci, cp, co, g1, g2, g3, g4, g5, -, g7⟩ := PTL_fn hptl
            refine ⟨ci, cp, co, g1, g2, g3, g4, ?_, fun k hk => ⟨?_, (g7 k hk).2.2⟩⟩
            · rw [h40 (by omega), g5]
              show (w2.2.2.1 40 (Q 46)).toInt = _
              rw [z1]
              exact I_ti (by omega) (by omega)
            · have := (g7 k hk).2.1
              rw [Nat.add_zero] at this
              exact PT_mo hf this
          · rw [hc b0 (by have := r3.2.1; omega) (by omega) (fun y => by
              have : b0 = a + 2 := by simpa using y
              have := r3.2.1
              omega)]
            exact congrArg Int32.toInt mb8
      exact d1
end
end
section
set_option maxRecDepth 100000
def hdn (Nk K W : Nat → Nat) (L : Nat) : Nat → Nat → List Nat → List Nat
  | 0, _, l => l
  | n + 1, p, l => hdn Nk K W L n (p + 1) (if K p = 3 ∧ W p ≤ L ∧ Nk p ∉ l then l ++ [Nk p] else l)
def TKh (m : MS) (K nm Nk W : Nat → Nat) (p p2 : Nat) : Prop := ∀ j, p ≤ j → j < p2 → m.2.2.1 6 j = I (K j : Nat) ∧ K j < 46 ∧ (K j = 3 → m.2.2.1 7 j = I (nm (Nk j) : Nat) ∧ nm (Nk j) ≤ 1401 ∧ m.2.2.1 42 j = I (W j : Nat) ∧ W j ≤ 32)
def HDm (nm : Nat → Nat) (st : Nat) (v0 v : MS) (d : List Nat) : Prop := (∀ k, k ≠ 441 → v.1 k = v0.1 k) ∧ v.1 441 = I ((st + d.length : Nat) : Int) ∧ (∀ k, k ≠ 23 → v.2.2.1 k = v0.2.2.1 k) ∧ (∀ j, j < st → v.2.2.1 23 j = v0.2.2.1 23 j) ∧ (∀ k x, d[k]? = some x → v.2.2.1 23 (st + k) = I (nm x : Nat) ∧ nm x ≤ 1401) ∧ st + d.length ≤ 23990
section
variable {m v u v0 : MS} {K nm W Nk : Nat → Nat} {x y N i j f L st p p2 k n : Nat} {d l : List Nat}
theorem hdn_len : ∀ (n p : Nat) (l : List Nat), l.length ≤ (hdn Nk K W L n p l).length
  | 0, _, _ => Nat.le_refl _
  | n + 1, p, l => by
    show l.length ≤ (hdn Nk K W L n (p + 1) _).length
    split
    · have := hdn_len n (p + 1) (l ++ [Nk p])
      rw [List.length_append, List.length_singleton] at this
      omega
    · exact hdn_len n (p + 1) l
theorem hdn_hdc : ∀ (n p : Nat) (l : List Nat), (hdn Nk K W L n p l).length ≤ 60 → hdc Nk K W (L + 1) n p l = hdn Nk K W L n p l
  | 0, _, _, _ => rfl
  | n + 1, p, l, h => by
    have h : (hdn Nk K W L n (p + 1) (if K p = 3 ∧ W p ≤ L ∧ Nk p ∉ l then l ++ [Nk p] else l)).length ≤ 60 := h
    show hdc Nk K W (L + 1) n (p + 1) (if K p = 3 ∧ W p < L + 1 ∧ Nk p ∉ l ∧ l.length < 60 then l ++ [Nk p] else l) = hdn Nk K W L n (p + 1) (if K p = 3 ∧ W p ≤ L ∧ Nk p ∉ l then l ++ [Nk p] else l)
    by_cases z : K p = 3 ∧ W p ≤ L ∧ Nk p ∉ l
    · rw [if_pos z] at h ⊢
      have := hdn_len (Nk := Nk) (K := K) (W := W) (L := L) n (p + 1) (l ++ [Nk p])
      rw [List.length_append, List.length_singleton] at this
      rw [if_pos ⟨z.1, by omega, z.2.2, by omega⟩]
      exact hdn_hdc n (p + 1) _ h
    · rw [if_neg z] at h ⊢
      rw [if_neg (fun y => z ⟨y.1, by omega, y.2.2.1⟩)]
      exact hdn_hdc n (p + 1) _ h
theorem at_j (h : k < 24000) : hm_Co_at N u (I (k : Nat)) = some (u, u.2.2.1 23 k) := by
  unfold hm_Co_at hb_Co_at_0 hb_Co_at_21
  rw [decide_eq_false (p := I (k : Nat) < 0) (fun z => by have := (I_lt (x := (k : Nat)) (y := 0) (by omega) (by omega) (by omega) (by omega)).mp z; omega), br_fq, decide_eq_true (p := I (k : Nat) < 24000) ((I_lt (x := (k : Nat)) (y := 24000) (by omega) (by omega) (by omega) (by omega)).mpr (by omega)), br_tq, show inb (I (k : Nat)) 24000 = true from (I_inb (by omega) (by omega)).mpr ⟨by omega, by omega⟩, ck_t, i_nt2 (p := k) (by omega)]
theorem hdj_lp (hn : NMJ nm) (hst : 1 ≤ st) (hp2 : p2 ≤ 4001) (h1p : 1 ≤ p2) (tk : TKh v0 K nm Nk W p p2) (h709 : v0.1 709 = I (L : Nat)) (hL : L ≤ 40) : ∀ (M : Nat), (∀ (j : Nat) (v : MS) (d : List Nat), p ≤ j → j ≤ p2 → HDm nm st v0 v d → PK (fun u r => HDm nm st v0 u (hdn Nk K W L (p2 - j) j d) ∧ r = I (((hdn Nk K W L (p2 - j) j d).length : Nat) : Int)) ((jg_Cm_hold N M).1 v (I ((p2 - 1 : Nat) : Int)) (I (st : Nat)) (I (j : Nat)))) ∧ (∀ (j i : Nat) (v : MS) (d : List Nat), p ≤ j → j < p2 → K j = 3 → W j ≤ L → i ≤ d.length → (∀ k, k < i → d[k]? ≠ some (Nk j)) → HDm nm st v0 v d → PK (fun u r => HDm nm st v0 u (hdn Nk K W L (p2 - j) j d) ∧ r = I (((hdn Nk K W L (p2 - j) j d).length : Nat) : Int)) ((jg_Cm_hold N M).2 v (I ((p2 - 1 : Nat) : Int)) (I (st : Nat)) (I (j : Nat)) (I (nm (Nk j) : Nat)) (I ((st + i : Nat) : Int))))
  | 0 => ⟨fun _ _ _ _ _ _ => pk_none, fun _ _ _ _ _ _ _ _ _ _ _ => pk_none⟩
  | M + 1 => by
    have ih := hdj_lp hn hst hp2 h1p tk h709 hL M
    have nx : ∀ (j : Nat) (v : MS) (d d' : List Nat), p ≤ j → j < p2 → d' = (if K j = 3 ∧ W j ≤ L ∧ Nk j ∉ d then d ++ [Nk j] else d) → HDm nm st v0 v d' → PK (fun u r => HDm nm st v0 u (hdn Nk K W L (p2 - j) j d) ∧ r = I (((hdn Nk K W L (p2 - j) j d).length : Nat) : Int)) (jb_Cm_hold_113 N (jg_Cm_hold N M) v (I ((p2 - 1 : Nat) : Int)) (I (st : Nat)) (I (j : Nat))) := fun j v d d' h1 h2 he hd => by
      unfold jb_Cm_hold_113
      rw [i_suc]
      have e : hdn Nk K W L (p2 - j) j d = hdn Nk K W L (p2 - (j + 1)) (j + 1) d' := by
        rw [show p2 - j = (p2 - (j + 1)) + 1 by omega, he]; rfl
      rw [e]
      exact ih.1 (j + 1) v d' (by omega) (by omega) hd
    refine ⟨fun j v d h1 h2 hd => ?_, fun j i v d h1 h2 hk hw hi hno hd => ?_⟩
    · show PK _ (jb_Cm_hold_11 N (jg_Cm_hold N M) v (I ((p2 - 1 : Nat) : Int)) (I (st : Nat)) (I (j : Nat)))
      unfold jb_Cm_hold_11
      obtain ⟨d1, d2, d3, d4, d5, d6⟩ := hd
      refine pk_br (fun z => ?_) (fun z => ?_)
      · have z := (I_lt (x := ((p2 - 1 : Nat) : Int)) (y := ((j : Nat) : Int)) (by omega) (by omega) (by omega) (by omega)).mp (of_decide_eq_true z)
        have ej : j = p2 := by omega
        subst ej
        refine pk_some ?_
        rw [Nat.sub_self]
        refine ⟨⟨d1, d2, d3, d4, d5, d6⟩, ?_⟩
        show v.1 441 - I (st : Nat) = I ((d.length : Nat) : Int)
        rw [d2, I_sub]
        congr 1
        omega
      · have hj : j < p2 := by
          have z : ¬ (((p2 - 1 : Nat) : Int) < ((j : Nat) : Int)) := fun y => of_decide_eq_false z ((I_lt (x := ((p2 - 1 : Nat) : Int)) (y := ((j : Nat) : Int)) (by omega) (by omega) (by omega) (by omega)).mpr y)
          omega
        obtain ⟨t1, t2, t3⟩ := tk j h1 hj
        have e6 : v.2.2.1 6 j = I (K j : Nat) := by rw [d3 6 (by decide)]; exact t1
        rw [i_nt2 (p := j) (by omega), e6]
        refine pk_ck (fun _ => ?_)
        by_cases k3 : K j = 3
        · obtain ⟨t4, t5, t6, t7⟩ := t3 k3
          rw [decide_eq_true (by rw [k3]; rfl), br_tq]
          refine pk_ck (fun _ => ?_)
          have e42 : v.2.2.1 42 j = I (W j : Nat) := by rw [d3 42 (by decide)]; exact t6
          have e7 : v.2.2.1 7 j = I (nm (Nk j) : Nat) := by rw [d3 7 (by decide)]; exact t4
          rw [d1 709 (by decide), h709, e42, e7]
          refine pk_br (fun z => ?_) (fun z => pk_ck (fun _ => ?_))
          · have z := (I_lt (x := ((L : Nat) : Int)) (y := ((W j : Nat) : Int)) (by omega) (by omega) (by omega) (by omega)).mp (of_decide_eq_true z)
            exact nx j v d d h1 hj (by rw [if_neg (fun y => by omega)]) ⟨d1, d2, d3, d4, d5, d6⟩
          · have z : ¬ (((L : Nat) : Int) < ((W j : Nat) : Int)) := fun y => of_decide_eq_false z ((I_lt (x := ((L : Nat) : Int)) (y := ((W j : Nat) : Int)) (by omega) (by omega) (by omega) (by omega)).mpr y)
            have := ih.2 j 0 v d h1 hj k3 (by omega) (Nat.zero_le _) (fun k hk => by omega) ⟨d1, d2, d3, d4, d5, d6⟩
            rw [Nat.add_zero] at this
            exact this
        · rw [decide_eq_false (fun y => k3 (by
            have := (I_eq (x := ((K j : Nat) : Int)) (y := 3) (by omega) (by omega) (by decide) (by decide)).mp (y.trans rfl)
            omega)), br_fq]
          exact nx j v d d h1 hj (by rw [if_neg (fun y => k3 y.1)]) ⟨d1, d2, d3, d4, d5, d6⟩
    · show PK _ (jb_Cm_hold_60 N (jg_Cm_hold N M) v (I ((p2 - 1 : Nat) : Int)) (I (st : Nat)) (I (j : Nat)) (I (nm (Nk j) : Nat)) (I ((st + i : Nat) : Int)))
      have hd0 := hd
      obtain ⟨d1, d2, d3, d4, d5, d6⟩ := hd0
      obtain ⟨t1, t2, t3⟩ := tk j h1 h2
      obtain ⟨t4, t5, t6, t7⟩ := t3 hk
      unfold jb_Cm_hold_60
      rw [d2]
      refine pk_br (fun z => ?_) (fun z => ?_)
      · have z := (I_le (x := ((st + d.length : Nat) : Int)) (y := ((st + i : Nat) : Int)) (by omega) (by omega) (by omega) (by omega)).mp (of_decide_eq_true z)
        have ei : i = d.length := by omega
        subst ei
        have nin : Nk j ∉ d := fun hm => by
          obtain ⟨k, hk1, hk2⟩ := List.getElem_of_mem hm
          exact hno k hk1 (by rw [List.getElem?_eq_getElem hk1, hk2])
        unfold jb_Cm_hold_92
        rw [d2, decide_eq_true (p := I ((st + d.length : Nat) : Int) = I ((st + d.length : Nat) : Int)) rfl, br_tq]
        refine pk_put d2 d6 (fun ha => ?_)
        refine nx j _ d (d ++ [Nk j]) h1 h2 (by rw [if_pos ⟨hk, hw, nin⟩]) ⟨fun k hk => by rw [ptc_i hk]; exact d1 k hk, ?_, fun k hk => by rw [ptc_r hk]; exact d3 k hk, fun j hj => by rw [ptc_o (by omega)]; exact d4 j hj, fun k x hx => ?_, by rw [List.length_append, List.length_singleton]; omega⟩
        · rw [ptc_s, List.length_append, List.length_singleton]
          rfl
        · by_cases hkd : k < d.length
          · rw [List.getElem?_append_left hkd] at hx
            rw [ptc_o (by omega)]
            exact d5 k x hx
          · rw [List.getElem?_append_right (by omega)] at hx
            have e0 : k - d.length = 0 := by
              cases hkk : k - d.length with
              | zero => rfl
              | succ n => rw [hkk] at hx; cases hx
            rw [e0] at hx
            injection hx with hx
            rw [show k = d.length by omega, ← hx]
            exact ⟨ptcs_at (l := [I (nm (Nk j) : Nat)]) (k := 0) rfl, t5⟩
      · have z : ¬ ((st + d.length : Nat) : Int) ≤ ((st + i : Nat) : Int) := fun y => of_decide_eq_false z ((I_le (x := ((st + d.length : Nat) : Int)) (y := ((st + i : Nat) : Int)) (by omega) (by omega) (by omega) (by omega)).mpr y)
        have hi2 : i < d.length := by omega
        rw [at_j (by omega), bnd_s]
        have ed : d[i]? = some d[i] := List.getElem?_eq_getElem hi2
        obtain ⟨e3, e3b⟩ := d5 i _ ed
        rw [e3]
        have md : d[i] ∈ d := List.getElem_mem hi2
        refine pk_br (fun z => ?_) (fun z => ?_)
        · have z := (I_eq (x := ((nm d[i] : Nat) : Int)) (y := ((nm (Nk j) : Nat) : Int)) (by omega) (by omega) (by omega) (by omega)).mp (of_decide_eq_true z)
          have en : d[i] = Nk j := hn.1 _ _ (by omega)
          unfold jb_Cm_hold_92
          rw [d2, decide_eq_false (p := I ((st + i : Nat) : Int) = I ((st + d.length : Nat) : Int)) (fun y => by have := (I_eq (x := ((st + i : Nat) : Int)) (y := ((st + d.length : Nat) : Int)) (by omega) (by omega) (by omega) (by omega)).mp y; omega), br_fq]
          exact nx j v d d h1 h2 (by rw [if_neg (fun y => y.2.2 (en ▸ md))]) hd
        · rw [i_suc, show ((st + i + 1 : Nat) : Int) = ((st + (i + 1) : Nat) : Int) from rfl]
          refine ih.2 j (i + 1) v d h1 h2 hk hw (by omega) (fun k hk2 => ?_) hd
          by_cases hki : k = i
          · rw [hki, ed]
            intro y
            injection y with y
            exact of_decide_eq_false z (by rw [y])
          · exact hno k (by omega)
theorem hdj_p (hn : NMJ nm) (hst : 1 ≤ st ∧ st ≤ 23990) (hp : p ≤ p2 ∧ 1 ≤ p2) (hp2 : p2 ≤ 4001) (h441 : v.1 441 = I (st : Nat)) (tk : TKh v K nm Nk W p p2) (h709 : v.1 709 = I (L : Nat)) (hL : L ≤ 40) : PK (fun u r => HDm nm st v u (hdn Nk K W L (p2 - p) p []) ∧ r = I (((hdn Nk K W L (p2 - p) p []).length : Nat) : Int)) (jm_Cm_hold N v (I (p : Nat)) (I ((p2 - 1 : Nat) : Int))) := by
  unfold jm_Cm_hold jb_Cm_hold_0
  rw [h441]
  exact (hdj_lp hn hst.1 hp2 hp.2 tk h709 hL N).1 p v [] (Nat.le_refl _) hp.1 ⟨fun _ _ => rfl, h441, fun _ _ => rfl, fun _ _ => rfl, fun k x hx => (by cases hx), hst.2⟩
end
end
section
set_option maxRecDepth 100000
def fnT (N : Nat) (V : MS) (v1 v2 v3 : Int32) : Option (MS × Int32) := lt (upI V 65 ((V.1 65) - 1)) (fun w1 => ck (inb v3 (ln 25)) (lt (upA w1 25 (upd (w1.2.2.1 25) v3.toNatClampNeg (w1.1 32))) (fun w2 => bnd (fm_M_node N w2 14 v1) (fun u3 r3 => ck (inb r3 (ln 25)) (lt (upA u3 25 (upd (u3.2.2.1 25) r3.toNatClampNeg v2)) (fun w4 => some (w4, r3)))))))
section
variable {α β : Type} {m0 w0 m w m2 w2 u v V : MS} {K nm Nk W W2 : Nat → Nat} {N T a b cm q r s lo hi i j f n k p B l qf nd kk : Nat} {Q Q2 : Nat → Nat} {sc sc2 t t2 : SCT} {e e2 : List Nat × List Nat × Nat} {v1 v2 v3 v4 : Int32} {S : SG_M_behind}
theorem HDo_bd : ∀ {a b : SCT} {p p2 : Nat}, HDo Nk K W p p2 a b → ∀ j, p ≤ j → j < p2 → K j = 3 → W j ≤ 32
  | [], [], _, _, h, j, h1, h2, h3 => h j h1 h2 h3
  | [], _ :: _, _, _, h, _, _, _, _ => h.elim
  | _ :: _, [], _, _, h, _, _, _, _ => h.elim
  | _ :: _, _ :: _, _, _, h, j, h1, h2, h3 => HDo_bd h.2 j h1 h2 h3
theorem len_j (fr : FRC m0 u) (hb : b ≤ 8015) (h : ORcK m0 1 26 (PAcK m0 f) k n lo hi a b q r) : PK (fun v x => v = u ∧ x = I (k : Nat)) (hm_Tr_length N u (I (n : Nat))) := by
  have z0 : ∀ (M j : Nat), PK (fun v x => v = u ∧ x = I (j : Nat)) (hg_Tr_length N M u (I (j : Nat)) (I ((0 : Nat) : Int))) := fun M j => by
    cases M with
    | zero => exact pk_none
    | succ M =>
      show PK _ (hb_Tr_length_4 N (hg_Tr_length N M) u (I (j : Nat)) (I ((0 : Nat) : Int)))
      unfold hb_Tr_length_4
      rw [show decide (I ((0 : Nat) : Int) = (0 : Int32)) = true from rfl, br_tq]
      exact pk_some ⟨rfl, rfl⟩
  have gen : ∀ (k M j n lo a q : Nat), RWcK m0 1 26 (PAcK m0 f) k n lo hi a b q r → PK (fun v x => v = u ∧ x = I ((j + k : Nat) : Int)) (hg_Tr_length N M u (I (j : Nat)) (I (n : Nat))) := by
    intro k
    induction k with
    | zero => intro M j n lo a q h; exact h.elim
    | succ k ih =>
      intro M j n lo a q h
      have hd := (RW_hdK (PA_bdK f) h).1
      unfold HDc at hd
      obtain ⟨m2, c, s, e, h⟩ := h
      have hd2 := PA_bdK _ _ _ _ _ _ _ _ e
      unfold HDc at hd2
      cases M with
      | zero => exact pk_none
      | succ M =>
        show PK _ (hb_Tr_length_4 N (hg_Tr_length N M) u (I (j : Nat)) (I (n : Nat)))
        unfold hb_Tr_length_4
        rw [decide_eq_false (fun z => by
          have := (I_eq (x := ((n : Nat) : Int)) (y := 0) (by omega) (by omega) (by decide) (by decide)).mp z
          omega), br_fq, i_nt2 (show n ≤ 100000 by omega), i_suc]
        refine pk_ck (fun _ => ?_)
        rcases h with ⟨rfl, h21, -⟩ | ⟨-, n2, h21, hw⟩
        · rw [tre fr (by decide) h21]
          exact z0 M (j + 1)
        · rw [tre fr (by decide) h21]
          have := ih M (j + 1) n2 _ _ _ hw
          rw [show j + 1 + k = j + (k + 1) by omega] at this
          exact this
  unfold hm_Tr_length hb_Tr_length_0
  rcases h with ⟨h1, h2, -⟩ | ⟨-, h⟩
  · subst h1
    subst h2
    exact z0 N 0
  · have := gen k N 0 n lo a q h
    rw [Nat.zero_add] at this
    exact this
theorem RNl_psh : ∀ {sc : SCT}, RNl w sc → (∀ s, s < sc.length → v.2.2.1 60 s = w.2.2.1 60 s ∧ v.2.2.1 63 s = w.2.2.1 63 s ∧ v.2.2.1 64 s = w.2.2.1 64 s) → v.2.2.1 59 = w.2.2.1 59 → v.2.2.1 61 = w.2.2.1 61 → RNl v sc
  | [], _, _, _, _ => trivial
  | e :: t, ⟨⟨h1, h2, h3, h4, h5⟩, h6⟩, hs, h59, h61 => by
    obtain ⟨s1, s2, s3⟩ := hs t.length (Nat.lt_succ_self _)
    exact ⟨⟨by rw [s1]; exact h1, fun k x hk => by rw [h59]; exact h2 k x hk, by rw [s2]; exact h3, fun k x hk => by rw [h61]; exact h4 k x hk, by rw [s3]; exact h5⟩, RNl_psh h6 (fun s hs' => hs s (Nat.lt_succ_of_lt hs')) h59 h61⟩
theorem PRd_psh {pi : Nat} (h : PRd w0 T w p pi sc) (hl : sc.length ≤ 26) (hi : ∀ k, k ∈ [5, 9, 10, 11, 14, 17, 20, 39, 67] → v.1 k = w.1 k) (h65 : v.1 65 = I (sc.length : Nat)) (hr : ∀ k, k < 23 ∨ k = 59 ∨ k = 61 ∨ k = 62 → v.2.2.1 k = w.2.2.1 k) (h60 : ∀ k, k = 60 ∨ k = 63 ∨ k = 64 → v.2.2.1 k sc.length = 0 ∧ ∀ s, s ≠ sc.length → v.2.2.1 k s = w.2.2.1 k s) (h69 : v.1 69 = I (n : Nat)) (hn : n ≤ T) : PRd w0 T v n pi (([], [], 0) :: sc) := by
  obtain ⟨h1, h2, h3, h4, h5, h6⟩ := h
  refine ⟨⟨fun k hk => ?_, fun k hk => ?_⟩, ⟨h69, hn⟩, (hi 67 (by decide)).trans h3, ⟨by rw [h65]; rfl, ⟨by show 1 ≤ sc.length + 1; omega, by show sc.length + 1 ≤ 27; omega⟩, ⟨⟨?_, fun k x hk => (by cases hk), ?_, fun k x hk => (by cases hk), ?_⟩, RNl_psh h4.2.2.1 (fun s hs => ⟨(h60 60 (by omega)).2 s (by omega), (h60 63 (by omega)).2 s (by omega), (h60 64 (by omega)).2 s (by omega)⟩) (hr 59 (by omega)) (hr 61 (by omega))⟩, ⟨⟨List.nodup_nil, fun x hx => (by cases hx), by decide, by decide, by decide, fun x hx => (by cases hx), List.nodup_nil⟩, h4.2.2.2⟩⟩, ⟨fun k x hk => (by cases hk), HFl_fr h4.2.2.2 h5 (fun j _ => by rw [hr 62 (by omega)])⟩, (hi 39 (by decide)).trans h6.1, h6.2⟩
  · have : k ∈ [5, 9, 10, 11, 14, 17, 20, 39, 67] := by
      unfold TIN at hk
      revert hk
      simp only [List.mem_cons, List.not_mem_nil, or_false]
      omega
    rw [hi k this]; exact h1.1 k hk
  · have : k < 23 := by unfold TRW at hk; simp only [List.mem_cons, List.not_mem_nil, or_false] at hk; omega
    rw [hr k (by omega)]; exact h1.2 k hk
  · exact (h60 60 (by omega)).1
  · exact (h60 63 (by omega)).1
  · exact (h60 64 (by omega)).1
theorem PRd_pop {pi : Nat} (h : PRd w0 T w p pi (e :: t)) (ht : 1 ≤ t.length) (hi : ∀ k, k ∈ [5, 9, 10, 11, 14, 17, 20, 39, 67] → v.1 k = w.1 k) (h65 : v.1 65 = I ((t.length - 1 : Nat) : Int)) (hr : ∀ k, k < 23 ∨ (59 ≤ k ∧ k ≤ 64) → v.2.2.1 k = w.2.2.1 k) (h69 : v.1 69 = I (n : Nat)) (hn : n ≤ T) : PRd w0 T v n pi t := by
  obtain ⟨h1, h2, h3, h4, h5, h6⟩ := h
  have hl : t.length + 1 ≤ 27 := h4.2.1.2
  refine ⟨⟨fun k hk => ?_, fun k hk => ?_⟩, ⟨h69, hn⟩, (hi 67 (by decide)).trans h3, ⟨h65, ⟨ht, by omega⟩, RNl_e h4.2.2.1.2 (hr 59 (by omega)) (hr 60 (by omega)) (hr 61 (by omega)) (hr 63 (by omega)) (hr 64 (by omega)), h4.2.2.2.2⟩, HFl_fr h4.2.2.2.2 h5.2 (fun j _ => by rw [hr 62 (by omega)]), (hi 39 (by decide)).trans h6.1, h6.2⟩
  · have : k ∈ [5, 9, 10, 11, 14, 17, 20, 39, 67] := by
      unfold TIN at hk
      revert hk
      simp only [List.mem_cons, List.not_mem_nil, or_false]
      omega
    rw [hi k this]; exact h1.1 k hk
  · have : k < 23 := by unfold TRW at hk; simp only [List.mem_cons, List.not_mem_nil, or_false] at hk; omega
    rw [hr k (by omega)]; exact h1.2 k hk
theorem cph {A' : Option (MS × α)} {RR : MS → α → MS → Int32 → Prop} (hs : s ≤ 26) (hl : l ≤ 60) : ∀ (M i : Nat) (w : MS), i ≤ l → B + i ≤ 24000 → w.1 65 = I (s : Nat) → w.2.2.1 63 s = I (l : Nat) → w.1 58 = I ((B + i : Nat) : Int) → (∀ V, B + l ≤ 24000 → (∀ k, k ≠ 58 → V.1 k = w.1 k) → V.1 58 = I ((B + l : Nat) : Int) → (∀ k, k ≠ 57 → V.2.2.1 k = w.2.2.1 k) → (∀ n, n < B + i ∨ B + l ≤ n → V.2.2.1 57 n = w.2.2.1 57 n) → (∀ k, i ≤ k → k < l → V.2.2.1 57 (B + k) = w.2.2.1 62 (1400 * s + k)) → V.2.2.2 = w.2.2.2 → PP RR A' (fnT N V v1 v2 v3)) → PP RR A' (kg_M_fun N S M w v1 v2 v3 (I (i : Nat)))
  | 0, _, _, _, _, _, _, _, _ => pp_nr
  | M + 1, i, w, hi, hBi, h65, h63, h58, hh => by
    show PP RR A' (kb_M_fun_257 N S (kg_M_fun N S M) w v1 v2 v3 (I (i : Nat)))
    unfold kb_M_fun_257
    rw [h65, i_nt2 (p := s) (by omega), h63]
    refine r_ck (fun _ => r_br (fun z => ?_) (fun z => ?_))
    · have z := (I_le (x := ((l : Nat) : Int)) (y := ((i : Nat) : Int)) (by omega) (by omega) (by omega) (by omega)).mp (of_decide_eq_true z)
      have el : i = l := by omega
      subst el
      have := hh w hBi (fun _ _ => rfl) h58 (fun _ _ => rfl) (fun _ _ => rfl) (fun k k1 k2 => by omega) rfl
      unfold fnT at this
      rw [h65] at this
      exact this
    · have z : ¬ ((l : Nat) : Int) ≤ ((i : Nat) : Int) := fun y => of_decide_eq_false z ((I_le (x := ((l : Nat) : Int)) (y := ((i : Nat) : Int)) (by omega) (by omega) (by omega) (by omega)).mpr y)
      have ix : (1400 * I (s : Nat) + I (i : Nat)) = I ((1400 * s + i : Nat) : Int) := by
        rw [show (1400 : Int32) = I 1400 from rfl, I_mul, I_add]
        congr 1
      rw [ix, i_nt2 (p := 1400 * s + i) (by omega), h58, i_nt2 (p := B + i) (by omega), i_suc]
      refine r_ck (fun _ => r_ck (fun z57 => r_lt (r_lt ?_)))
      have hB2 : B + i < 24000 := by
        have := (I_inb (n := ln 57) (x := ((B + i : Nat) : Int)) (by omega) (by omega)).mp z57
        have l57 : ln 57 ≤ 24000 := by decide
        omega
      have e58 : (upA w 57 (upd (w.2.2.1 57) (B + i) (w.2.2.1 62 (1400 * s + i)))).1 58 = I ((B + i : Nat) : Int) := h58
      rw [e58, i_suc]
      refine cph hs hl M (i + 1) _ (by omega) (by omega) (by rw [upI_ne (by decide)]; exact h65) (by show (upA w 57 _).2.2.1 63 s = _; rw [upA_no (by decide)]; exact h63) (by rw [upI_at]; rfl) (fun V hBl h1 h2 h3 h4 h5 h6 => ?_)
      refine hh V hBl (fun k hk => by rw [h1 k hk, upI_ne hk]; rfl) h2 (fun k hk => by rw [h3 k hk]; show (upA w 57 _).2.2.1 k = _; rw [upA_no hk]) (fun n hn => ?_) (fun k k1 k2 => ?_) h6
      · rw [h4 n (by omega)]
        show (upA w 57 _).2.2.1 57 n = _
        rw [upA_at, upd_no (by omega)]
      · by_cases y : k = i
        · subst y
          rw [h4 (B + k) (by omega)]
          show (upA w 57 _).2.2.1 57 (B + k) = _
          rw [upA_at, upd_at]
        · rw [h5 k (by omega) k2]
          show (upA w 57 _).2.2.1 62 _ = _
          rw [upA_no (by decide)]
theorem r_221 {A' : Option (MS × α)} {RR : MS → α → MS → Int32 → Prop} (hs : s ≤ 26) (hl : l ≤ 60) (hB : B ≤ 24000) (hq : qf ≤ 24000) (h65 : w.1 65 = I (s : Nat)) (h63 : w.2.2.1 63 s = I (l : Nat)) (h58 : w.1 58 = I (B : Nat)) (hh : ∀ V, B + l ≤ 24000 → (∀ k, k ≠ 58 → V.1 k = w.1 k) → V.1 58 = I ((B + l : Nat) : Int) → (∀ k n, (k ≠ 57 ∧ (k ≠ 53 ∧ k ≠ 54 ∧ k ≠ 55) ∨ (k ≠ 57 ∧ n ≠ qf) ∨ (k = 57 ∧ (n < B ∨ B + l ≤ n))) → V.2.2.1 k n = w.2.2.1 k n) → (V.2.2.1 53 qf = v4 ∧ V.2.2.1 54 qf = I (l : Nat) ∧ V.2.2.1 55 qf = I (B : Nat)) → (∀ k, k < l → V.2.2.1 57 (B + k) = w.2.2.1 62 (1400 * s + k)) → V.2.2.2 = w.2.2.2 → PP RR A' (fnT N V v1 (I (qf : Nat)) v3)) : PP RR A' (kb_M_fun_221 N S (kg_M_fun N S N) w v1 (I (qf : Nat)) v3 v4) := by
  unfold kb_M_fun_221
  rw [i_nt2 (p := qf) (by omega)]
  refine r_ck (fun _ => r_lt ?_)
  have h1 : W46 w (upA w 53 (upd (w.2.2.1 53) qf v4)) 53 qf v4 := w46_of
  generalize upA w 53 (upd (w.2.2.1 53) qf v4) = V1 at h1
  have e65 : V1.1 65 = I (s : Nat) := by rw [h1.1]; exact h65
  rw [e65, i_nt2 (p := s) (by omega), h1.2.2.1 63 s (Or.inl (by decide)), h63]
  refine r_ck (fun _ => r_ck (fun _ => r_lt ?_))
  have h2 : W46 V1 (upA V1 54 (upd (V1.2.2.1 54) qf (I (l : Nat)))) 54 qf (I (l : Nat)) := w46_of
  generalize upA V1 54 (upd (V1.2.2.1 54) qf (I (l : Nat))) = V2 at h2
  have e58 : V2.1 58 = I (B : Nat) := by rw [h2.1, h1.1]; exact h58
  rw [e58]
  refine r_ck (fun _ => r_lt ?_)
  have h3 : W46 V2 (upA V2 55 (upd (V2.2.2.1 55) qf (I (B : Nat)))) 55 qf (I (B : Nat)) := w46_of
  generalize upA V2 55 (upd (V2.2.2.1 55) qf (I (B : Nat))) = V3 at h3
  have i3 : V3.1 = w.1 := by rw [h3.1, h2.1, h1.1]
  have r3 : ∀ k n, (k ≠ 53 ∧ k ≠ 54 ∧ k ≠ 55) ∨ n ≠ qf → V3.2.2.1 k n = w.2.2.1 k n := fun k n hk => by
    rw [h3.2.2.1 k n (by omega), h2.2.2.1 k n (by omega), h1.2.2.1 k n (by omega)]
  have q53 : V3.2.2.1 53 qf = v4 := by
    rw [h3.2.2.1 53 _ (Or.inl (by decide)), h2.2.2.1 53 _ (Or.inl (by decide))]; exact h1.2.2.2
  have q54 : V3.2.2.1 54 qf = I (l : Nat) := by rw [h3.2.2.1 54 _ (Or.inl (by decide))]; exact h2.2.2.2
  have q55 : V3.2.2.1 55 qf = I (B : Nat) := h3.2.2.2
  have j3 : V3.2.2.2 = w.2.2.2 := by rw [h3.2.1, h2.2.1, h1.2.1]
  have := cph (N := N) (S := S) (v1 := v1) (v2 := I (qf : Nat)) (v3 := v3) (A' := A') (RR := RR) (s := s) (l := l) (B := B) hs hl N 0 V3 (Nat.zero_le _) hB (by rw [i3]; exact h65) (by rw [r3 63 s (Or.inl (by decide))]; exact h63) (by rw [i3]; exact h58) (fun V hBl h1 h2 h3 h4 h5 h6 => hh V hBl (fun k hk => by rw [h1 k hk, i3]) h2 (fun k n hk => ?_) ⟨by rw [h3 53 (by decide)]; exact q53, by rw [h3 54 (by decide)]; exact q54, by rw [h3 55 (by decide)]; exact q55⟩ (fun k hk => by rw [h5 k (Nat.zero_le _) hk, r3 62 _ (Or.inl (by decide))]) (h6.trans j3))
  · exact this
  · by_cases y : k = 57
    · subst y
      rw [h4 n (by omega), r3 57 n (Or.inl (by decide))]
    · rw [h3 k y, r3 k n (by omega)]
end
end
section
set_option maxRecDepth 100000
section
variable {α β : Type} {m0 w0 m w m2 w2 m3 w3 v u w1 mS wS : MS} {K nm Nk W W2 : Nat → Nat} {N T D d o a a0 b b0 c cm cm0 cm2 cm3 q q0 r s lo lo0 mid hi i j f f2 n k kk p p2 pn ph σ tk x xa xb xc mm M m1 lv y : Nat} {Q Q0 Q2 Q3 Q4 : Nat → Nat} {sc sc0 sc2 sc3 t t2 : SCT} {e e2 : List Nat × List Nat × Nat} {g lst l2 : Bool} {L L1 L2 S : List Nat} {idc fof cvr : Int → Int → Int} {z : Unit} {rt v1 v2 v3 v4 v5 : Int32}
theorem BDs_NWd (h : BDs sc sc2) : NWd sc sc2 := by
  cases sc with
  | nil =>
    cases sc2 with
    | nil => trivial
    | cons e t => exact h.elim
  | cons e t =>
    cases sc2 with
    | nil => exact h.elim
    | cons e2 t2 =>
      have h1 : e2.1 = e.1 := h.1.1
      exact ⟨by rw [h1]; exact List.prefix_rfl, h.2, fun x hx => Or.inl (by rw [← h1]; exact hx)⟩
theorem BDs_hd (h : BDs sc sc2) : (hdS sc2).1 = (hdS sc).1 := by
  cases sc with
  | nil =>
    cases sc2 with
    | nil => rfl
    | cons e t => exact h.elim
  | cons e t =>
    cases sc2 with
    | nil => exact h.elim
    | cons e2 t2 => exact h.1.1
theorem hdn_gap : ∀ (n p : Nat) (l : List Nat), (∀ j, p ≤ j → j < p + n → K j ≠ 3) → hdn Nk K W lv n p l = l
  | 0, _, _, _ => rfl
  | n + 1, p, l, h => by
    show hdn Nk K W lv n (p + 1) (if K p = 3 ∧ W p ≤ lv ∧ Nk p ∉ l then l ++ [Nk p] else l) = l
    rw [if_neg (fun z => h p (Nat.le_refl _) (by omega) z.1)]
    exact hdn_gap n (p + 1) l (fun j a b => h j (by omega) (by omega))
theorem hdn_add : ∀ (n m p : Nat) (l : List Nat), hdn Nk K W lv (n + m) p l = hdn Nk K W lv m (p + n) (hdn Nk K W lv n p l)
  | 0, m, p, l => by rw [Nat.zero_add]; rfl
  | n + 1, m, p, l => by
    rw [show n + 1 + m = (n + m) + 1 by omega]
    show hdn Nk K W lv (n + m) (p + 1) _ = hdn Nk K W lv m (p + (n + 1)) (hdn Nk K W lv n (p + 1) _)
    rw [hdn_add n m (p + 1), show p + 1 + n = p + (n + 1) by omega]
theorem fn_beg {X : MS → Int32 → Option (MS × Unit)} {B : Option (MS × β)} {RU : MS → Unit → MS → β → Prop} (hC : XCS m0 nm m a cm sc false) (hsl : 1 ≤ sc.length ∧ sc.length ≤ 26) (hq : q < 400) (hkk : kk ≤ 6) (hh : ∀ mC, XCS m0 nm mC (a + 2) 0 (([], [], 0) :: sc) false → (∀ k, k ≠ 441 → k ≠ 709 → mC.1 k = m.1 k) → mC.1 709 = I (sc.length : Nat) → (∀ k, k ≠ 23 → k ≠ 30 → k ≠ 31 → k ≠ 40 → k ≠ 41 → mC.2.2.1 k = m.2.2.1 k) → (∀ j, j < a → mC.2.2.1 23 j = m.2.2.1 23 j) → (mC.2.2.1 23 a = 18 ∧ mC.2.2.1 23 (a + 1) = 0) → (∀ k j, k = 30 ∨ k = 31 → j ≠ q → mC.2.2.1 k j = m.2.2.1 k j) → (mC.2.2.1 30 q = I (kk : Nat) ∧ mC.2.2.1 31 q = I ((a + 2 : Nat) : Int)) → (∀ k j, k = 40 ∨ k = 41 → j ≠ sc.length → mC.2.2.1 k j = m.2.2.1 k j) → PP RU (X mC (I ((a + 1 : Nat) : Int))) B) : PP RU (lt (upI m 712 0) (fun w21 => bnd (jm_Co_put N w21 18) (fun u23 _ => bnd (jm_Co_hook N u23 0) (fun u26 r26 => ck (inb (I (q : Nat)) 400) (lt (upA u26 30 (upd (u26.2.2.1 30) q (I (kk : Nat)))) (fun w32 => ck (inb (I (q : Nat)) 400) (lt (upA w32 31 (upd (w32.2.2.1 31) q (w32.1 441))) (fun w40 => lt (if 31 < ((w40.1 709) + 1) then 31 else ((w40.1 709) + 1)) (fun y42 => lt (upI w40 709 y42) (fun w43 => ck (inb (w43.1 709) 32) (lt (upA w43 40 (upd (w43.2.2.1 40) (w43.1 709).toNatClampNeg (w43.1 706))) (fun w48 => ck (inb (w48.1 709) 32) (lt (upA w48 41 (upd (w48.2.2.1 41) (w48.1 709).toNatClampNeg 0)) (fun w52 => X w52 r26)))))))))))))) B := by
  have n712 : m.1 712 = 0 := of_decide_eq_true (by have := hC.2; exact this)
  rw [show upI m 712 0 = m from upI_id n712, lt_e]
  refine l_put hC.1.2.2.1.1 hC.1.2.2.1.2.2 (fun ha => ?_)
  have k1 := XCS_put (x := 18) hC ha
  unfold jm_Co_hook jb_Co_hook_0
  rw [bnd_as2]
  refine l_put k1.1.2.2.1.1 k1.1.2.2.1.2.2 (fun ha1 => ?_)
  have k2 := XCS_put (x := 0) k1 ha1
  rw [bnd_s]
  have em : ptc (ptc m a 18) (a + 1) 0 = ptcs m a [18, 0] := rfl
  rw [em] at k2 ⊢
  have e441 : (ptcs m a [18, 0]).1 441 = I ((a + 1 + 1 : Nat) : Int) := k2.1.2.2.1.1
  have k2' : XCS m0 nm (ptcs m a [18, 0]) (a + 2) cm sc false := k2
  have pw : ∀ k z, [(18 : Int32), 0][k]? = some z → (ptcs m a [18, 0]).2.2.1 23 (a + k) = z := fun k z hz => ptcs_at hz
  have po : ∀ j, j < a → (ptcs m a [18, 0]).2.2.1 23 j = m.2.2.1 23 j := fun j hj => ptcs_o (Or.inl hj)
  have pr : ∀ k, k ≠ 23 → (ptcs m a [18, 0]).2.2.1 k = m.2.2.1 k := fun k hk => ptcs_r hk
  have pi : ∀ k, k ≠ 441 → (ptcs m a [18, 0]).1 k = m.1 k := fun k hk => ptcs_i hk
  rw [e441, I_sn]
  generalize ptcs m a [18, 0] = m1 at k2' pw po pr pi e441
  refine l_ck (fun _ => l_lt (l_ck (fun _ => l_lt ?_)))
  have e441' : (upA m1 30 (upd (m1.2.2.1 30) q (I (kk : Nat)))).1 441 = I ((a + 2 : Nat) : Int) := e441
  have h709 : m1.1 709 = I ((sc.length - 1 : Nat) : Int) := k2'.1.2.1.1
  have e709 : (upA (upA m1 30 (upd (m1.2.2.1 30) q (I (kk : Nat)))) 31 (upd ((upA m1 30 (upd (m1.2.2.1 30) q (I (kk : Nat)))).2.2.1 31) q (I ((a + 2 : Nat) : Int)))).1 709 = I ((sc.length - 1 : Nat) : Int) := h709
  rw [e441', e709, i_suc, show sc.length - 1 + 1 = sc.length by omega]
  have if31 : (if (31 : Int32) < I (sc.length : Nat) then 31 else I (sc.length : Nat)) = I (sc.length : Nat) := if_neg (fun z => by
    have := (I_lt (x := 31) (y := ((sc.length : Nat) : Int)) (by decide) (by decide) (by omega) (by omega)).mp z
    omega)
  rw [if31, lt_e]
  refine l_lt ?_
  have m30 : W46 m1 (upA m1 30 (upd (m1.2.2.1 30) q (I (kk : Nat)))) 30 q (I (kk : Nat)) := w46_of
  generalize upA m1 30 (upd (m1.2.2.1 30) q (I (kk : Nat))) = m2 at m30 e441'
  have m31 : W46 m2 (upA m2 31 (upd (m2.2.2.1 31) q (I ((a + 2 : Nat) : Int)))) 31 q (I ((a + 2 : Nat) : Int)) := w46_of
  generalize upA m2 31 (upd (m2.2.2.1 31) q (I ((a + 2 : Nat) : Int))) = m3 at m31
  rw [upI_at, i_nt2 (p := sc.length) (by omega)]
  refine l_ck (fun _ => l_lt ?_)
  have e706 : (upI m3 709 (I (sc.length : Nat))).1 706 = I (tot sc : Nat) := by
    rw [upI_ne (by decide), m31.1, m30.1]; exact k2'.1.2.1.2.2.1
  rw [e706]
  have m40 : W46 (upI m3 709 (I (sc.length : Nat))) (upA (upI m3 709 (I (sc.length : Nat))) 40 (upd ((upI m3 709 (I (sc.length : Nat))).2.2.1 40) sc.length (I (tot sc : Nat)))) 40 sc.length (I (tot sc : Nat)) := w46_of
  generalize upA (upI m3 709 (I (sc.length : Nat))) 40 (upd ((upI m3 709 (I (sc.length : Nat))).2.2.1 40) sc.length (I (tot sc : Nat))) = m4 at m40
  have e709b : m4.1 709 = I (sc.length : Nat) := by rw [m40.1, upI_at]
  rw [e709b, i_nt2 (p := sc.length) (by omega)]
  refine l_ck (fun _ => l_lt ?_)
  have m41 : W46 m4 (upA m4 41 (upd (m4.2.2.1 41) sc.length 0)) 41 sc.length 0 := w46_of
  generalize upA m4 41 (upd (m4.2.2.1 41) sc.length 0) = mC at m41
  have iC : ∀ k, k ≠ 709 → mC.1 k = m1.1 k := fun k hk => by rw [m41.1, m40.1, upI_ne hk, m31.1, m30.1]
  have i709 : mC.1 709 = I (sc.length : Nat) := by rw [m41.1]; exact e709b
  have rC : ∀ k n, ((k ≠ 30 ∧ k ≠ 31) ∨ n ≠ q) → ((k ≠ 40 ∧ k ≠ 41) ∨ n ≠ sc.length) → mC.2.2.1 k n = m1.2.2.1 k n := fun k n h1 h2 => by
    rw [m41.2.2.1 k n (by omega), m40.2.2.1 k n (by omega)]
    show m3.2.2.1 k n = _
    rw [m31.2.2.1 k n (by omega), m30.2.2.1 k n (by omega)]
  have rF : ∀ k, k ≠ 30 → k ≠ 31 → k ≠ 40 → k ≠ 41 → mC.2.2.1 k = m1.2.2.1 k := fun k a1 a2 a3 a4 => funext (fun n => rC k n (Or.inl ⟨a1, a2⟩) (Or.inl ⟨a3, a4⟩))
  have c40 : mC.2.2.1 40 sc.length = I (tot sc : Nat) := by rw [m41.2.2.1 40 _ (Or.inl (by decide))]; exact m40.2.2.2
  have c41 : mC.2.2.1 41 sc.length = 0 := m41.2.2.2
  have c30 : mC.2.2.1 30 q = I (kk : Nat) := by
    rw [m41.2.2.1 30 _ (Or.inl (by decide)), m40.2.2.1 30 _ (Or.inl (by decide))]
    show m3.2.2.1 30 q = _
    rw [m31.2.2.1 30 _ (Or.inl (by decide))]
    exact m30.2.2.2
  have c31 : mC.2.2.1 31 q = I ((a + 2 : Nat) : Int) := by
    rw [m41.2.2.1 31 _ (Or.inl (by decide)), m40.2.2.1 31 _ (Or.inl (by decide))]
    exact m31.2.2.2
  obtain ⟨⟨p1, p2, p3, p4, p5, p6, p7⟩, p8⟩ := k2'
  refine hh mC ⟨⟨⟨fun k hk => by rw [iC k (by omega)]; exact p1.1 k hk, fun k hk => by rw [rF k (by omega) (by omega) (by omega) (by omega)]; exact p1.2 k hk⟩, ⟨i709, ⟨by show 1 ≤ sc.length + 1; omega, by show sc.length + 1 ≤ 27; omega⟩, by rw [iC 706 (by decide)]; exact p2.2.2.1, p2.2.2.2.1, ⟨c40, fun k x hk => (by cases hk), CNl_fr2 p2.2.2.2.2 (fun j hj => rC 40 j (Or.inl (by decide)) (Or.inr (by omega))) (fun j _ => by rw [rF 39 (by decide) (by decide) (by decide) (by decide)])⟩⟩, ⟨by rw [iC 441 (by decide)]; exact p3.1, p3.2⟩, by rw [iC 713 (by decide)]; exact p4, c41, Nat.zero_le _, Nat.zero_le _⟩, by rw [iC 712 (by decide)]; exact p8⟩ (fun k h1 h2 => by rw [iC k h2, pi k h1]) i709 (fun k h1 h2 h3 h4 h5 => by rw [rF k h2 h3 h4 h5, pr k h1]) (fun j hj => by rw [rF 23 (by decide) (by decide) (by decide) (by decide), po j hj]) ⟨by rw [rF 23 (by decide) (by decide) (by decide) (by decide)]; exact pw 0 18 rfl, by rw [rF 23 (by decide) (by decide) (by decide) (by decide)]; exact pw 1 0 rfl⟩ (fun k j hk hj => by rw [rC k j (Or.inr hj) (Or.inl (by omega)), pr k (by omega)]) ⟨c30, c31⟩ (fun k j hk hj => by rw [rC k j (Or.inl (by omega)) (Or.inr hj), pr k (by omega)])
end
end
section
set_option maxRecDepth 100000
section
variable {α β : Type} {m0 w0 m w m2 w2 u v Z : MS} {K nm Nk W : Nat → Nat} {N T D a b c cm cmC q lo hi n : Nat} {sc t2 : SCT} {p2 : List Nat × Nat} {x712 : Int32}
theorem set_j (h : n < 24000) {x : Int32} : hm_Co_set N u (I (n : Nat)) x = some (upA u 23 (upd (u.2.2.1 23) n x), ()) := by
  have d1 : decide (I (n : Nat) < (0 : Int32)) = false := decide_eq_false (fun z => by
    have := (I_lt (x := ((n : Nat) : Int)) (y := 0) (by omega) (by omega) (by decide) (by decide)).mp z
    omega)
  have d3 : decide ((24000 : Int32) ≤ I (n : Nat)) = false := decide_eq_false (fun z => by
    have := (I_le (x := 24000) (y := ((n : Nat) : Int)) (by decide) (by decide) (by omega) (by omega)).mp z
    omega)
  unfold hm_Co_set hb_Co_set_0 hb_Co_set_18
  rw [d1, br_fq, d3, br_fq, i_inb (by omega) (by decide), ck_t, i_nt2 (p := n) (by omega), lt_e]
theorem XCS_A {k : Nat} {f : Nat → Int32} {g : Bool} (h : XCS m0 nm m a cm sc g) (hk : k = 23 ∨ (26 ≤ k ∧ k ≤ 35)) : XCS m0 nm (upA m k f) a cm sc g := by
  obtain ⟨⟨h1, h3, h4, h5, h6, h7⟩, h8⟩ := h
  exact ⟨⟨⟨h1.1, fun j hj => by rw [upA_no (by omega)]; exact h1.2 j hj⟩, ⟨h3.1, h3.2.1, h3.2.2.1, h3.2.2.2.1, CNl_fr h3.2.2.2.2 (upA_no (by omega)) (fun j _ => by rw [upA_no (by omega)])⟩, h4, h5, by rw [upA_no (by omega)]; exact h6, h7⟩, h8⟩
set_option maxHeartbeats 1000000 in
theorem fne_x {B : Option (MS × β)} {RU : MS → Unit → MS → β → Prop} {S : SF_Cm_fun} (c : CTZ m0 w0 K T nm Nk) (hC2 : XCS m0 nm m2 b cmC (([], p2) :: t2) false) (hcm : m2.2.2.1 41 (t2.length - 1) = I (cm : Nat) ∧ cm ≤ 4000 ∧ (hdS t2).1.length ≤ cm) (ht : 1 ≤ t2.length ∧ t2.length ≤ 26) (hx : x712 = 0) (hhk : m2.2.2.1 23 (a + 1) = 0 ∧ a + 1 < b) (hq : q < 400) (hn : n ≤ 8015) (h17 : A m0 17 n = ((lo : Nat) : Int)) (h20 : A m0 20 n = ((hi - 1 : Nat) : Int)) (hlh : lo ≤ hi ∧ 1 ≤ hi ∧ hi ≤ 4001) (htk : TKh m2 K nm Nk W lo hi)
    (hh : ∀ (mF : MS) (d : List Nat), d = hdn Nk K W (t2.length - 1) (hi - lo) lo [] → cmC + d.length ≤ 40 → XCS m0 nm mF (b + 4 + d.length) cm t2 false → (∀ k, k ≠ 441 → k ≠ 709 → mF.1 k = m2.1 k) → mF.1 709 = I ((t2.length - 1 : Nat) : Int) → (∀ k, k ≠ 23 → k ≠ 32 → mF.2.2.1 k = m2.2.2.1 k) → (∀ j, j < b → j ≠ a + 1 → mF.2.2.1 23 j = m2.2.2.1 23 j) → (mF.2.2.1 23 (a + 1) = I ((b + 1 : Nat) : Int) ∧ mF.2.2.1 23 b = 36 ∧ mF.2.2.1 23 (b + 1) = 6 ∧ mF.2.2.1 23 (b + 2) = I (q : Nat) ∧ mF.2.2.1 23 (b + 3) = I (d.length : Nat)) → (∀ k x, d[k]? = some x → mF.2.2.1 23 (b + 4 + k) = I (nm x : Nat) ∧ nm x ≤ 1401) → (mF.2.2.1 32 q = I ((b + 3 : Nat) : Int) ∧ ∀ j, j ≠ q → mF.2.2.1 32 j = m2.2.2.1 32 j) → PP RU (some (mF, ())) B) : PP RU (bnd (jm_Co_put N m2 36) (fun u65 _ => ck (inb (u65.1 709) 32) (lt (upI u65 709 ((u65.1 709) - 1)) (fun w72 => ck (isb x712) (lt (upI w72 712 x712) (fun w73 => bnd (hm_Co_arrive N w73 (I ((a + 1 : Nat) : Int))) (fun u75 _ => bnd (jm_Co_put N u75 6) (fun u78 _ => bnd (jm_Co_put N u78 (I (q : Nat))) (fun u81 _ => ck (inb (I (q : Nat)) 400) (lt (upA u81 32 (upd (u81.2.2.1 32) q (u81.1 441))) (fun w90 => bnd (jm_Co_put N w90 0) (fun u92 _ => ck (inb (I (n : Nat)) 8016) (ck (inb (I (n : Nat)) 8016) (bnd (jm_Cm_hold N u92 (u92.2.2.1 17 n) (u92.2.2.1 20 n)) (fun u104 r104 => ck (inb (I (q : Nat)) 400) (bnd (hm_Co_set N u104 (u104.2.2.1 32 q) r104) (fun u111 _ => br (decide ((u111.1 711) = 0)) (br (decide (((u65.2.2.1 41 (u65.1 709).toNatClampNeg) + r104) ≤ 40)) (jb_Cm_fun_308 N S () u111 (0)) (jb_Cm_fun_303 N S () u111)) (jb_Cm_fun_303 N S () u111)))))))))))))))))) B := by
  subst hx
  refine l_put hC2.1.2.2.1.1 hC2.1.2.2.1.2.2 (fun ha => ?_)
  have k1 := XCS_put (x := 36) hC2 ha
  have e1o : ∀ j, j ≠ b → (ptc m2 b 36).2.2.1 23 j = m2.2.2.1 23 j := fun j hj => ptc_o hj
  have e1b : (ptc m2 b 36).2.2.1 23 b = 36 := ptcs_at (l := [36]) (k := 0) rfl
  have e1r : ∀ k, k ≠ 23 → (ptc m2 b 36).2.2.1 k = m2.2.2.1 k := fun k hk => ptc_r hk
  have e1i : ∀ k, k ≠ 441 → (ptc m2 b 36).1 k = m2.1 k := fun k hk => ptc_i hk
  generalize ptc m2 b 36 = m3 at k1 e1o e1b e1r e1i
  have h709 : m3.1 709 = I (t2.length : Nat) := k1.1.2.1.1
  have e709 : m3.1 709 - 1 = I ((t2.length - 1 : Nat) : Int) := by
    rw [h709]
    exact (I_mn (a := t2.length) (c := 1) (by omega) rfl).trans rfl
  have h41 : m3.2.2.1 41 t2.length = I (cmC : Nat) := k1.1.2.2.2.2.1
  have cm40 : cmC ≤ 4000 := k1.1.2.2.2.2.2.1
  rw [e709, h709, i_nt2 (p := t2.length) (by omega), h41]
  refine l_ck (fun _ => l_lt ?_)
  have z712 : (upI m3 709 (I ((t2.length - 1 : Nat) : Int))).1 712 = 0 := by
    rw [upI_ne (by decide)]
    exact of_decide_eq_true (by have := k1.2; exact this)
  rw [show isb 0 = true from rfl, ck_t, show upI (upI m3 709 (I ((t2.length - 1 : Nat) : Int))) 712 0 = upI m3 709 (I ((t2.length - 1 : Nat) : Int)) from upI_id z712, lt_e]
  have k2 : XCS m0 nm (upI m3 709 (I ((t2.length - 1 : Nat) : Int))) (b + 1) cm t2 false := by
    obtain ⟨⟨p1, p2, p3, p4, p5, p6, p7⟩, p8⟩ := k1
    refine ⟨⟨⟨fun k hk => by rw [upI_ne (by omega)]; exact p1.1 k hk, p1.2⟩, ⟨upI_at, ⟨ht.1, by omega⟩, by rw [upI_ne (by decide)]; exact p2.2.2.1, p2.2.2.2.1, CNl_fr p2.2.2.2.2.2.2 rfl (fun _ _ => rfl)⟩, ⟨by rw [upI_ne (by decide)]; exact p3.1, p3.2⟩, by rw [upI_ne (by decide)]; exact p4, ?_, hcm.2⟩, by rw [upI_ne (by decide)]; exact p8⟩
    show m3.2.2.1 41 (t2.length - 1) = _
    rw [e1r 41 (by decide)]
    exact hcm.1
  have e2i : ∀ k, k ≠ 441 → k ≠ 709 → (upI m3 709 (I ((t2.length - 1 : Nat) : Int))).1 k = m2.1 k := fun k h1 h2 => by rw [upI_ne h2, e1i k h1]
  have e29 : (upI m3 709 (I ((t2.length - 1 : Nat) : Int))).1 709 = I ((t2.length - 1 : Nat) : Int) := upI_at
  have e2r : (upI m3 709 (I ((t2.length - 1 : Nat) : Int))).2.2.1 = m3.2.2.1 := rfl
  generalize upI m3 709 (I ((t2.length - 1 : Nat) : Int)) = m4 at k2 e2i e29 e2r
  refine arr_n (hs := [a + 1]) k2 ⟨rfl, ⟨by omega, by omega⟩, fun h' hm => (by cases hm), by rw [e2r, e1o (a + 1) (by omega)]; exact hhk.1⟩ (fun Z hZ hZC => ?_)
  obtain ⟨g1, g2, g3, g4, g5⟩ := hZ
  have z1 : Z.2.2.1 23 (a + 1) = I ((b + 1 : Nat) : Int) := g5 _ List.mem_cons_self
  have zo : ∀ j, j ≠ a + 1 → j ≠ b → Z.2.2.1 23 j = m2.2.2.1 23 j := fun j h1 h2 => by
    rw [g4 j (fun y => h1 (by simpa using y)), e2r, e1o j h2]
  have zb : Z.2.2.1 23 b = 36 := by rw [g4 b (fun y => absurd (List.mem_singleton.mp y) (by omega)), e2r]; exact e1b
  have zr : ∀ k, k ≠ 23 → Z.2.2.1 k = m2.2.2.1 k := fun k hk => by rw [g2 k hk, e2r, e1r k hk]
  have zi : ∀ k, k ≠ 441 → k ≠ 709 → Z.1 k = m2.1 k := fun k h1 h2 => by rw [g1]; exact e2i k h1 h2
  have z9 : Z.1 709 = I ((t2.length - 1 : Nat) : Int) := by rw [g1]; exact e29
  refine l_put hZC.1.2.2.1.1 hZC.1.2.2.1.2.2 (fun hb1 => ?_)
  have k3 := XCS_put (x := 6) hZC hb1
  refine l_put k3.1.2.2.1.1 k3.1.2.2.1.2.2 (fun hb2 => ?_)
  have k4 := XCS_put (x := I (q : Nat)) k3 hb2
  have em : ptc (ptc Z (b + 1) 6) (b + 1 + 1) (I (q : Nat)) = ptcs Z (b + 1) [6, I (q : Nat)] := rfl
  rw [em] at k4 ⊢
  have e441 : (ptcs Z (b + 1) [6, I (q : Nat)]).1 441 = I ((b + 3 : Nat) : Int) := k4.1.2.2.1.1
  refine l_ck (fun _ => ?_)
  rw [e441]
  refine l_lt ?_
  have k5 := XCS_A (k := 32) (f := upd ((ptcs Z (b + 1) [6, I (q : Nat)]).2.2.1 32) q (I ((b + 3 : Nat) : Int))) k4 (Or.inr ⟨by decide, by decide⟩)
  have q5w : ∀ k z, [(6 : Int32), I (q : Nat)][k]? = some z → (ptcs Z (b + 1) [6, I (q : Nat)]).2.2.1 23 (b + 1 + k) = z := fun k z hz => ptcs_at hz
  have q5o : ∀ j, j < b + 1 → (ptcs Z (b + 1) [6, I (q : Nat)]).2.2.1 23 j = Z.2.2.1 23 j := fun j hj => ptcs_o (Or.inl hj)
  have q5r : ∀ k, k ≠ 23 → (ptcs Z (b + 1) [6, I (q : Nat)]).2.2.1 k = Z.2.2.1 k := fun k hk => ptcs_r hk
  have q5i : ∀ k, k ≠ 441 → (ptcs Z (b + 1) [6, I (q : Nat)]).1 k = Z.1 k := fun k hk => ptcs_i hk
  have w32 : W46 (ptcs Z (b + 1) [6, I (q : Nat)]) (upA (ptcs Z (b + 1) [6, I (q : Nat)]) 32 (upd ((ptcs Z (b + 1) [6, I (q : Nat)]).2.2.1 32) q (I ((b + 3 : Nat) : Int)))) 32 q (I ((b + 3 : Nat) : Int)) := w46_of
  generalize upA (ptcs Z (b + 1) [6, I (q : Nat)]) 32 (upd ((ptcs Z (b + 1) [6, I (q : Nat)]).2.2.1 32) q (I ((b + 3 : Nat) : Int))) = m5 at k5 w32
  generalize ptcs Z (b + 1) [6, I (q : Nat)] = m4b at q5w q5o q5r q5i w32
  have k5' : XCS m0 nm m5 (b + 3) cm t2 false := k5
  refine l_put k5'.1.2.2.1.1 k5'.1.2.2.1.2.2 (fun hb3 => ?_)
  have k6 := XCS_put (x := 0) k5' hb3
  have q6o : ∀ j, j ≠ b + 3 → (ptc m5 (b + 3) 0).2.2.1 23 j = m5.2.2.1 23 j := fun j hj => ptc_o hj
  have q6r : ∀ k, k ≠ 23 → (ptc m5 (b + 3) 0).2.2.1 k = m5.2.2.1 k := fun k hk => ptc_r hk
  have q6i : ∀ k, k ≠ 441 → (ptc m5 (b + 3) 0).1 k = m5.1 k := fun k hk => ptc_i hk
  generalize ptc m5 (b + 3) 0 = m6 at k6 q6o q6r q6i
  have k6' : XCS m0 nm m6 (b + 4) cm t2 false := k6
  have r6 : ∀ k, k ≠ 23 → k ≠ 32 → m6.2.2.1 k = m2.2.2.1 k := fun k h1 h2 => by
    rw [q6r k h1, funext (fun n => w32.2.2.1 k n (Or.inl h2)), q5r k h1, zr k h1]
  have i6 : ∀ k, k ≠ 441 → k ≠ 709 → m6.1 k = m2.1 k := fun k h1 h2 => by rw [q6i k h1, w32.1, q5i k h1, zi k h1 h2]
  have i69 : m6.1 709 = I ((t2.length - 1 : Nat) : Int) := by rw [q6i 709 (by decide), w32.1, q5i 709 (by decide), z9]
  have r32 : m6.2.2.1 32 q = I ((b + 3 : Nat) : Int) := by rw [q6r 32 (by decide)]; exact w32.2.2.2
  have r32o : ∀ j, j ≠ q → m6.2.2.1 32 j = m2.2.2.1 32 j := fun j hj => by rw [q6r 32 (by decide), w32.2.2.1 32 j (Or.inr hj), q5r 32 (by decide), zr 32 (by decide)]
  have m5w : ∀ j, m5.2.2.1 23 j = m4b.2.2.1 23 j := fun j => w32.2.2.1 23 j (Or.inl (by decide))
  refine l_ck (fun _ => l_ck (fun _ => ?_))
  rw [tre (XCS_fr k6') (by decide) h17, tre (XCS_fr k6') (by decide) h20]
  have htk6 : TKh m6 K nm Nk W lo hi := fun j j1 j2 => by
    obtain ⟨t1, t2', t3⟩ := htk j j1 j2
    refine ⟨by rw [r6 6 (by decide) (by decide)]; exact t1, t2', fun k3 => ?_⟩
    obtain ⟨t4, t5, t6, t7⟩ := t3 k3
    exact ⟨by rw [r6 7 (by decide) (by decide)]; exact t4, t5, by rw [r6 42 (by decide) (by decide)]; exact t6, t7⟩
  have bb := k6'.1.2.2.1.2
  refine l_bnd (pk_mo (hdj_p c.2.2.1 ⟨by omega, bb.2⟩ ⟨hlh.1, hlh.2.1⟩ hlh.2.2 k6'.1.2.2.1.1 htk6 i69 (by omega)) (fun m7 r7 h7 => ?_))
  obtain ⟨⟨d1, d2, d3, d4, d5, d6⟩, rfl⟩ := h7
  generalize hd : hdn Nk K W (t2.length - 1) (hi - lo) lo [] = d at d2 d5 d6
  refine l_ck (fun _ => ?_)
  have e32 : m7.2.2.1 32 q = I ((b + 3 : Nat) : Int) := by rw [d3 32 (by decide)]; exact r32
  rw [e32, set_j (by omega), bnd_s]
  refine l_br (fun z711 => ?_) (fun _ => ?_)
  · refine l_br (fun z40 => ?_) (fun _ => ?_)
    · unfold jb_Cm_fun_308 hb_Cm_fun_308
      rw [show decide ((0 : Int32) = 0) = true from rfl, ck_t, show isb 0 = true from rfl, ck_t]
      rw [show upI (upA m7 23 (upd (m7.2.2.1 23) (b + 3) (I (d.length : Nat)))) 711 0 = upA m7 23 (upd (m7.2.2.1 23) (b + 3) (I (d.length : Nat))) from upI_id (of_decide_eq_true z711)]
      refine l_lt ?_
      have l40 : cmC + d.length ≤ 40 := by
        have := of_decide_eq_true z40
        rw [I_add] at this
        have := (I_le (x := ((cmC : Nat) : Int) + ((d.length : Nat) : Int)) (y := 40) (by omega) (by omega) (by decide) (by decide)).mp this
        omega
      have k7 : XCS m0 nm m7 (b + 4 + d.length) cm t2 false := by
        obtain ⟨⟨p1, p2, p3, p4, p5, p6, p7⟩, p8⟩ := k6'
        exact ⟨⟨⟨fun k hk => by rw [d1 k (by omega)]; exact p1.1 k hk, fun k hk => by rw [d3 k (by omega)]; exact p1.2 k hk⟩, ⟨by rw [d1 709 (by decide)]; exact p2.1, p2.2.1, by rw [d1 706 (by decide)]; exact p2.2.2.1, p2.2.2.2.1, CNl_fr p2.2.2.2.2 (d3 40 (by decide)) (fun j _ => by rw [d3 39 (by decide)])⟩, ⟨d2, by omega, d6⟩, by rw [d1 713 (by decide)]; exact p4, by rw [d3 41 (by decide)]; exact p5, p6, p7⟩, by rw [d1 712 (by decide)]; exact p8⟩
      have k8 := XCS_A (k := 23) (f := upd (m7.2.2.1 23) (b + 3) (I (d.length : Nat))) k7 (Or.inl rfl)
      have wS : W46 m7 (upA m7 23 (upd (m7.2.2.1 23) (b + 3) (I (d.length : Nat)))) 23 (b + 3) (I (d.length : Nat)) := w46_of
      generalize upA m7 23 (upd (m7.2.2.1 23) (b + 3) (I (d.length : Nat))) = mF at k8 wS
      have wo : ∀ j, j ≠ b + 3 → mF.2.2.1 23 j = m7.2.2.1 23 j := fun j hj => wS.2.2.1 23 j (Or.inr hj)
      have wr : ∀ k, k ≠ 23 → mF.2.2.1 k = m7.2.2.1 k := fun k hk => funext (fun n => wS.2.2.1 k n (Or.inl hk))
      have low : ∀ j, j < b + 3 → mF.2.2.1 23 j = m4b.2.2.1 23 j := fun j hj => by
        rw [wo j (by omega), d4 j (by omega), q6o j (by omega), m5w j]
      refine hh mF d hd.symm l40 k8 (fun k h1 h2 => by rw [wS.1, d1 k h1, i6 k h1 h2]) (by rw [wS.1, d1 709 (by decide)]; exact i69) (fun k h1 h2 => by rw [wr k h1, d3 k h1, r6 k h1 h2]) (fun j h1 h2 => by rw [low j (by omega), q5o j (by omega), zo j h2 (by omega)]) ⟨by rw [low (a + 1) (by omega), q5o (a + 1) (by omega)]; exact z1, by rw [low b (by omega), q5o b (by omega)]; exact zb, by rw [low (b + 1) (by omega)]; exact q5w 0 6 rfl, by rw [low (b + 2) (by omega)]; exact q5w 1 (I (q : Nat)) rfl, wS.2.2.2⟩ (fun k x hk => by rw [wo (b + 4 + k) (by omega)]; exact d5 k x hk) ⟨by rw [wr 32 (by decide)]; exact e32, fun j hj => by rw [wr 32 (by decide), d3 32 (by decide)]; exact r32o j hj⟩
    · unfold jb_Cm_fun_303 jb_Cm_fun_308
      rw [show decide ((1 : Int32) = 0) = false from rfl]
      exact pp_nl
  · unfold jb_Cm_fun_303 jb_Cm_fun_308
    rw [show decide ((1 : Int32) = 0) = false from rfl]
    exact pp_nl
end
end
