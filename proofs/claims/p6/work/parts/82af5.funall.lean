section
variable {Q : MS → Int32 → Prop} {u0 u v w x V X : MS} {N σ TN SN e j k n0 R0 : Nat} {bw : Nat → Nat} {p o n q c f h s wt g D d B l z t p1 n1 q1 c1 f1 h1 a : Int} {r v2 v3 v4 : Int32} {S : SG_M_behind} {G : MS → Int32 → Int32 → Int32 → Int32 → Option (MS × Int32)}
theorem tnc {x : Int} (h : 0 ≤ x) : x = ((x.toNat : Nat) : Int) := by omega
theorem tn1 {x : Int} (h : 0 ≤ x) : (x + 1).toNat = x.toNat + 1 := by omega
theorem tna {x y : Int} (h : 0 ≤ x) (h2 : 0 ≤ y) : x.toNat + y.toNat ≤ (x + y).toNat := by omega
theorem tnl {x y : Int} (h2 : 0 ≤ y) : x.toNat ≤ (x + y).toNat := by omega
theorem tnl1 {x : Int} : x.toNat ≤ (x + 1).toNat := by omega
theorem tlt {i : Nat} {x : Int} (h : i < x.toNat) : (i : Int) < x := by omega
theorem DLT_fun {p2 n2 q2 c2 f2 h2 hf : Int} {ν : Nat} (hp : 0 ≤ p) (hp2 : p + 5 ≤ p2) (fw : bw p.toNat + 3 ≤ bw (p.toNat + 1)) (dc : DLT bw 10 1 (5 + ν) (p + 1) (n + 1) q c (f + 1) h p2 n2 q2 c2 f2 h2) (fl : f2 - (f + 1) + 1 ≤ c2 - c) (en : bw p2.toNat + 4 ≤ bw (p2.toNat + 1) + ν) (hf0 : 0 ≤ hf ∧ hf ≤ 60) : DLT bw 2 1 1 p n q c f h (p2 + 1) (n2 + 1) q2 c2 f2 (h2 + hf) := by
  have e1 : (p + 1).toNat = p.toNat + 1 := by omega
  have e2 : (p2 + 1).toNat = p2.toNat + 1 := by omega
  unfold DLT at dc ⊢
  rw [e1] at dc
  rw [e2]
  omega
theorem fun_nb {p2 n2 q2 c2 f2 h2 : Int} {bb : Nat} (tk : TKW u0 TN SN bw) (hp2 : p + 1 ≤ p2 ∧ p2 ≤ TN) (hm : NM TN bw 0 0 0 σ p o n q c f h s wt) (dc : DLT bw 10 1 bb (p + 1) (n + 1) q c (f + 1) h p2 n2 q2 c2 f2 h2) : n + 1 ≤ n2 ∧ n2 ≤ 12000 ∧ h ≤ h2 ∧ h2 ≤ 21820 ∧ c ≤ c2 ∧ q ≤ q2 ∧ f + 1 ≤ f2 := by
  have b1 := bw_top tk (i := p2.toNat) (by omega)
  have p0 := hm.1.1
  have b2 := bw_mono tk (i := p.toNat) (m := (p + 1).toNat) (by omega) (by omega)
  obtain ⟨⟨a1, a2, a3⟩, a4, ⟨a5, a6⟩, -, -, -, ⟨a7, a8⟩, -⟩ := hm
  obtain ⟨d1, d2, d3, d4, -, d6, -, d8, -, d10, d11⟩ := dc
  refine ⟨d2, by omega, d10, ?_, d6, d4, d8⟩
  clear d3 d1 d4 d6 d8
  omega
theorem f221_F {c : Int} (hN : 100 ≤ N) (hT : TN ≤ 4000) (hσ : σ ≤ 25) (hD : D ≤ 2990) (hs : FSM u0 TN (σ + 1) D u) (hff : 0 ≤ f ∧ f < 1400) (hj : j < 16000) (ht : 0 ≤ t ∧ t < 4002) : OK (fun x _ => FSM u0 TN σ (D + 1) x) (fb_M_fun_221 N S (gg_M_fun N S N) u (I t) (I f) (I j) (I c)) := by
  have e65 : F u 65 = ((σ + 1 : Nat) : Int) := hs.2.2.2.1
  have h63 := hs.2.2.2.2.2.2.1 (σ + 1) (Nat.le_refl _)
  have n0 := hs.2.2.2.2.1
  have h0 := hs.2.2.2.2.2.1
  refine f221_ok (hf := A u 63 (σ + 1)) hN e65 ⟨by omega, by omega⟩ rfl h63 (by omega) hff hj (by omega) ht (fun y3 v hl nd => ?_)
  have s1 : FSM u0 TN (σ + 1) D (wa (wa (wa u 53 f.toNat c) 54 f.toNat (A u 63 (σ + 1))) 55 f.toNat (F u 58)) := FSM_wa (FSM_wa (FSM_wa hs (by decide)) (by decide)) (by decide)
  have s2 := FSM_dn s1 hl (by omega) (by omega)
  rw [show (((σ + 1 : Nat) : Int) - 1) = (σ : Int) by omega] at nd
  exact FSM_wa (FSM_nd (FSM_wa s2 (by decide)) nd.1) (by decide)
set_option maxRecDepth 100000 in
theorem f221_t {p2 n2 q2 c2 f2 h2 : Int} {x y1 : MS} (tk : TKW u0 TN SN bw) (hN : 100 ≤ N) (ho : 0 ≤ o ∧ o ≤ 25) (hσ : σ ≤ 24) (hs : ST u0 σ p o n q c f h s wt 0 u) (hl : LGS σ u) (hm : NM TN bw 0 0 0 σ p o n q c f h s wt) (ev : A u0 6 p.toNat = 3 ∧ A u0 7 p.toNat = 7)
    (sw : ST u0 (σ + 1) (p + 1) o (n + 1) q c (f + 1) h s wt 0 w) (kw : KPR σ u w) (w60 : A w 60 σ = A u 60 σ) (kjw : KND w n.toNat 26) (mw : mks w 0 = n.toNat + 1 ∧ mks w 1 = mks u 1 ∧ mks w 3 = mks u 3 + 1 ∧ ∀ i, mks u i ≤ mks w i)
    (sx : ST u0 (σ + 1) p2 o n2 q2 c2 f2 h2 s wt 0 x) (kx : KPR (σ + 1) w x) (dc : DLT bw 10 1 (5 + nu u0 p2.toNat) (p + 1) (n + 1) q c (f + 1) h p2 n2 q2 c2 f2 h2) (fl : f2 - (f + 1) + 1 ≤ c2 - c) (hp2 : p + 5 ≤ p2 ∧ p2 < TN) (ct : CTY TN SN (σ + 1) o (p2 - (p + 1) + 1) c w x) (hx67 : F x 67 = 0) (hend : A u0 6 p2.toNat = 3 ∧ A u0 7 p2.toNat = 6)
    (hy : y1 = nx1 x ∨ y1 = wi (nx1 x) 66 1) (hyt : F y1 66 = 0 → y1 = nx1 x ∧ A x 64 (σ + 1) + A x 63 (σ + 1) ≤ 40) : OK (fun x r => EXQ u0 TN SN bw σ (o - 1) p o n q c f h s wt 0 u x r) (fb_M_fun_221 N S (gg_M_fun N S N) y1 (I p) (I f) (I n.toNat) (I c)) := by
  have hT := tk.1.1
  have fs := NM_fs hm (by omega)
  obtain ⟨-, ⟨x69, -, x32, x39, x46, x56, x58, -, -, x83, -, x65⟩, -⟩ := id sx
  obtain ⟨-, ⟨u69, -, u32, u39, u46, u56, u58, -, -, -, -, -⟩, -⟩ := id hs
  obtain ⟨-, ⟨-, -, w32, w39, w46, w56, w58, -, -, -, -, -⟩, -⟩ := id sw
  have hb1 : 0 ≤ c ∧ c < 1399 ∧ 0 ≤ f ∧ f ≤ c ∧ 0 ≤ h ∧ 0 ≤ q := by unfold NM at hm; omega
  have nb := fun_nb tk (by omega) hm dc
  have sc := (sx.2.2.2.1 (σ + 1) (Nat.le_refl _))
  have hf0 : 0 ≤ A x 63 (σ + 1) ∧ A x 63 (σ + 1) ≤ 60 := ⟨sc.1.2.2.1, sc.1.2.2.2.1⟩
  have yA : ∀ r i, A y1 r i = A x r i := fun r i => by rcases hy with z | z <;> (rw [z]; rfl)
  have yF : ∀ k, k ≠ 66 → k ≠ 69 → F y1 k = F x k := fun k h1 h2 => by
    rcases hy with z | z
    · rw [z]; exact wi_ne h2
    · rw [z, wi_ne h1]; exact wi_ne h2
  have sy : ST u0 (σ + 1) (p2 + 1) o n2 q2 c2 f2 h2 s wt 0 y1 := by
    have := ST_nx sx (by omega)
    rcases hy with z | z
    · rw [z]; exact this
    · rw [z]; exact ST_66 this
  have ky : KPR (σ + 1) w y1 := by
    have := KPR_tr kx (KPR_w0 (KPR_rf (u := x) (σ := σ + 1)) (b := 69) (x := F x 69 + 1) (by decide))
    rcases hy with z | z
    · rw [z]; exact this
    · rw [z]; exact KPR_66 this
  clear hy
  have e65 : F y1 65 = ((σ + 1 : Nat) : Int) := (yF 65 (by decide) (by decide)).trans x65
  have e58 : F y1 58 = h2 := (yF 58 (by decide) (by decide)).trans x58
  have e32 : F y1 32 = n2 := (yF 32 (by decide) (by decide)).trans x32
  have y67 : F y1 67 = 0 := (yF 67 (by decide) (by decide)).trans hx67
  have y72 : F y1 72 = F x 72 := yF 72 (by decide) (by decide)
  refine f221_ok (hf := A x 63 (σ + 1)) hN e65 ⟨by omega, by omega⟩ (yA 63 (σ + 1)) hf0 (by omega) ⟨by omega, by omega⟩ (by omega) (by omega) (by omega) (fun y3 v hlp nd => ?_)
  rw [show (((σ + 1 : Nat) : Int) - 1) = (σ : Int) by omega, e32] at nd
  rw [e58] at hlp
  rw [e32]
  generalize ehf : A x 63 (σ + 1) = hf at *
  have sW : ST u0 (σ + 1) (p2 + 1) o n2 q2 c2 f2 h2 s wt 0 (wa (wa (wa y1 53 f.toNat c) 54 f.toNat hf) 55 f.toNat h2) := ST_wa (ST_wa (ST_wa sy (by decide)) (by decide)) (by decide)
  have kW : KPR σ u (wa (wa (wa y1 53 f.toNat c) 54 f.toNat hf) 55 f.toNat h2) := KPR_wf (KPR_wf (KPR_wf (KPR_tr kw (KPR_sdn ky).1) (by decide) (by omega)) (by decide) (by omega)) (by decide) (by omega)
  have pos : 0 ≤ n2 ∧ 0 ≤ f ∧ 0 ≤ c ∧ 0 ≤ hf ∧ 0 ≤ h2 := by omega
  have rh2 : RG h2 := ⟨by omega, by omega⟩
  have rhf : RG hf := ⟨by omega, by omega⟩
  have rc : RG c := ⟨by omega, by omega⟩
  have rf : RG f := ⟨by omega, by omega⟩
  have rn2 : RG n2 := ⟨by omega, by omega⟩
  have W53 : A (wa (wa (wa y1 53 f.toNat c) 54 f.toNat hf) 55 f.toNat h2) 53 f.toNat = c := by rw [wa_rne (by decide), wa_rne (by decide)]; exact wa_eq rc
  have W54 : A (wa (wa (wa y1 53 f.toNat c) 54 f.toNat hf) 55 f.toNat h2) 54 f.toNat = hf := by rw [wa_rne (by decide)]; exact wa_eq rhf
  have W55 : A (wa (wa (wa y1 53 f.toNat c) 54 f.toNat hf) 55 f.toNat h2) 55 f.toNat = h2 := wa_eq rh2
  have Wo : ∀ r i, r ∉ [53, 54, 55] → A (wa (wa (wa y1 53 f.toNat c) 54 f.toNat hf) 55 f.toNat h2) r i = A x r i := fun r i hr => by
    have h1 : r ≠ 53 := fun z => hr (by rw [z]; decide)
    have h2 : r ≠ 54 := fun z => hr (by rw [z]; decide)
    have h3 : r ≠ 55 := fun z => hr (by rw [z]; decide)
    rw [wa_rne h3, wa_rne h2, wa_rne h1]; exact yA r i
  have Wn : ∀ r i, i ≠ f.toNat → A (wa (wa (wa y1 53 f.toNat c) 54 f.toNat hf) 55 f.toNat h2) r i = A x r i := fun r i hi => by
    rw [wa_ne hi, wa_ne hi, wa_ne hi]; exact yA r i
  have WF : ∀ k, F (wa (wa (wa y1 53 f.toNat c) 54 f.toNat hf) 55 f.toNat h2) k = F y1 k := fun k => by rw [F_wa, F_wa, F_wa]
  generalize wa (wa (wa y1 53 f.toNat c) 54 f.toNat hf) 55 f.toNat h2 = W at *
  have s3 := ST_hl (h' := h2 + hf) sW hlp (by omega)
  have k3 := KPR_hl kW hlp
  have s4 := ST_dn s3 (by omega)
  have k4 : KPR σ u (wi y3 65 σ) := KPR_65 k3
  have W58 : F W 58 = h2 := (WF 58).trans e58
  obtain ⟨l1, l2, l3, l4⟩ := hlp
  rw [W58] at l2 l3 l4
  have y3A : ∀ r i, r ≠ 57 → A y3 r i = A W r i := fun r i hr => l1.A (by simpa using hr)
  have y3F : ∀ k, k ≠ 58 → F y3 k = F W k := fun k hk => l1.F (by simpa using hk)
  have jx : ∀ r, r ∈ [23, 24, 25, 26, 27, 28, 29, 30, 31] → A x r n.toNat = A w r n.toNat := fun r hr => kx.2.1.1 r n.toNat hr (by omega)
  have mE : ∀ r, r ∈ [23, 24, 25, 26, 27, 28, 29, 30, 31] → r ∉ [53, 54, 55] ∧ r ≠ 57 := by decide
  have j23 : A (wi y3 65 σ) 23 n.toNat ≠ 12 := by
    show A y3 23 n.toNat ≠ 12
    rw [y3A 23 _ (by decide), Wo 23 _ (by decide), jx 23 (by decide), kjw.1]; decide
  have s5 : ST u0 σ (p2 + 1) o n2 q2 c2 f2 (h2 + hf) s wt 0 (wa (wi y3 65 σ) 25 n.toNat n2) := ST_wa25 s4 j23
  have k5 : KPR σ u (wa (wi y3 65 σ) 25 n.toNat n2) := KPR_wn k4 (by decide) (by omega)
  have e325 : F (wa (wi y3 65 σ) 25 n.toNat n2) 32 = n2 := s5.2.1.2.2.1
  have nn : NEWN v n2.toNat 14 := by
    have := NEWN_of nd (by omega)
    rw [e325] at this
    exact this
  have nd1 := nd.1
  have s6 := ST_nd s5 nd1 (by omega) (by omega) (fun z => by omega)
  have s7 : ST u0 σ (p2 + 1) o (n2 + 1) q2 c2 f2 (h2 + hf) s wt 0 (wa v 25 n2.toNat f) := ST_wa25 s6 (by rw [nn.1]; decide)
  have k7 : KPR σ u (wa v 25 n2.toNat f) := KPR_wn (KPR_nd k5 nd1 (by omega)) (by decide) (by omega)
  have X5 : ∀ r i, i ≠ n2.toNat → A (wa v 25 n2.toNat f) r i = A (wa (wi y3 65 σ) 25 n.toNat n2) r i := fun r i hi => by
    rw [wa_ne hi]; exact nd1.2.2.2.2 r i (by rw [e325]; exact hi)
  have Xo : ∀ r i, r ∉ [23, 24, 25, 26, 27, 28, 29, 30, 31] → A (wa v 25 n2.toNat f) r i = A y3 r i := fun r i hr => by
    have h25 : r ≠ 25 := fun z => hr (by rw [z]; decide)
    rw [wa_rne h25, nd1.1.A hr, wa_rne h25]; rfl
  have Xn : ∀ r, r ≠ 25 → A (wa v 25 n2.toNat f) r n2.toNat = A v r n2.toNat := fun r hr => wa_rne hr
  have X25 : A (wa v 25 n2.toNat f) 25 n2.toNat = f := wa_eq rf
  have XF : ∀ k, k ≠ 32 → k ≠ 65 → F (wa v 25 n2.toNat f) k = F y3 k := fun k h1 h2 => by
    rw [F_wa, nd1.1.F (by simpa using h1), F_wa]; exact wi_ne h2
  generalize wa v 25 n2.toNat f = X at *
  have xr : ∀ r i, r ∈ [23, 24, 25, 26, 27, 28, 29, 30, 31] → i < n2.toNat → (r = 25 → i ≠ n.toNat) → A X r i = A x r i := fun r i hr hi hne => by
    rw [X5 r i (by omega)]
    have : A (wa (wi y3 65 σ) 25 n.toNat n2) r i = A y3 r i := by
      by_cases z : r = 25
      · rw [wa_ne (hne z)]; rfl
      · rw [wa_rne z]; rfl
    rw [this, y3A r i (mE r hr).2, Wo r i (mE r hr).1]
  have xj : A X 25 n.toNat = n2 := by
    rw [X5 25 _ (by omega)]; exact wa_eq rn2
  have X60 : A X 60 σ = A u 60 σ := by
    rw [Xo 60 σ (by decide), y3A 60 σ (by decide), Wo 60 σ (by decide), (KPR_sdn kx).2]; exact w60
  have X63 : A X 63 σ = A x 63 σ := by rw [Xo 63 σ (by decide), y3A 63 σ (by decide), Wo 63 σ (by decide)]
  have lX : LGS σ X := fun y => by rw [X60]; exact hl (k7.2.2.2.2.2.2 y)
  have X67 : F X 67 = 0 := by rw [XF 67 (by decide) (by decide), y3F 67 (by decide), WF 67]; exact y67
  refine ⟨X67, p2 + 1, n2 + 1, q2, c2, f2, h2 + hf, n2.toNat, by rw [show ((n2.toNat : Nat) : Int) = n2 by omega], s7, k7, by omega, ?_, ⟨by omega, by omega, ?_, ?_⟩, lX, fun z1 z2 z3 => ?_⟩
  · have nu0 : nu u0 (p2 + 1).toNat = 0 := nu_wd (Or.inl hend.1) (by omega)
    rw [nu0]
    exact DLT_fun (ν := nu u0 p2.toNat) (by omega) hp2.1 ((tk.2.2.2.1 p.toNat (by omega)).2.1 ev.1 (Or.inr ev.2)) dc fl ((tk.2.2.2.1 p2.toNat (by omega)).2.2.2.2 hend.1 hend.2) hf0
  · refine RTD_mo 0 _ _ ⟨by omega, ?_⟩ (by omega)
    rw [Xn 28 (by decide)]; exact nn.2.2.2.1
  · rw [Xn 29 (by decide)]; exact nn.2.2.2.2.1
  · have y66 : F X 66 = F y1 66 := by rw [XF 66 (by decide) (by decide), y3F 66 (by decide), WF 66]
    have yy := hyt (by rw [← y66]; exact z2)
    have x66 : F x 66 = 0 := by
      have : F y1 66 = F x 66 := by rw [yy.1]; exact wi_ne (by decide)
      rw [← this, ← y66]; exact z2
    have x72 : F x 72 = 0 := by
      rw [← y72, ← WF 72, ← y3F 72 (by decide), ← XF 72 (by decide) (by decide)]; exact z1
    obtain ⟨many, mm, X1, Y, r0, pt, t1, t2, t3, t4, t5, t6⟩ := ct x72 x66 z3
    have ple := PTD_le pt
    have mx0 : mks x 0 = n2.toNat := by show (F x 32).toNat = _; rw [x32]
    have mx3 : mks x 3 = f2.toNat := by show (F x 56).toNat = _; rw [x56]
    have mx4 : mks x 4 = h2.toNat := by show (F x 58).toNat = _; rw [x58]
    have mu0 : mks u 0 = n.toNat := by show (F u 32).toNat = _; rw [u32]
    have mu1 : mks u 1 = c.toNat := by show (F u 46).toNat = _; rw [u46]
    have mu3 : mks u 3 = f.toNat := by show (F u 56).toNat = _; rw [u56]
    have mE2 : ∀ r, r ∈ [40, 41, 42, 43, 45] → r ∉ [23, 24, 25, 26, 27, 28, 29, 30, 31] ∧ r ≠ 57 ∧ r ∉ [53, 54, 55] := by decide
    have mE3 : ∀ r, r ∈ [33, 35, 36, 37, 38] → r ∉ [23, 24, 25, 26, 27, 28, 29, 30, 31] ∧ r ≠ 57 ∧ r ∉ [53, 54, 55] := by decide
    have mE4 : ∀ r, r ∈ [53, 54, 55] → r ∉ [23, 24, 25, 26, 27, 28, 29, 30, 31] ∧ r ≠ 57 := by decide
    have xo : ∀ r i, r ∉ [23, 24, 25, 26, 27, 28, 29, 30, 31] → r ≠ 57 → r ∉ [53, 54, 55] → A X r i = A x r i := fun r i h1 h2 h3 => by rw [Xo r i h1, y3A r i h2, Wo r i h3]
    have ptX : PTD X SN true (-1) (mks w) (mks x) many 0 mm X1 Y (hlo (σ + 1) x) r0 := by
      refine PTD_ag pt ⟨?_, fun r i hr h1 h2 _ => xr r i hr (by omega) (fun _ => by omega), fun r i hr _ _ _ => xo r i (mE2 r hr).1 (mE2 r hr).2.1 (mE2 r hr).2.2, fun r i hr _ => xo r i (mE3 r hr).1 (mE3 r hr).2.1 (mE3 r hr).2.2, fun r i hr h1 _ => ?_, fun i h2 => ?_⟩
      · rw [XF 14 (by decide) (by decide), y3F 14 (by decide), WF 14]; exact yF 14 (by decide) (by decide)
      · rw [Xo r i (mE4 r hr).1, y3A r i (mE4 r hr).2, Wn r i (by omega)]
      · rw [Xo 57 i (by decide), l4 i (by omega), Wo 57 i (by decide)]
    have hlX : hlo σ X = (A x 63 σ).toNat := by unfold hlo; rw [X63]
    have nmX : nmo σ X = nmo σ u := by unfold nmo; rw [X60]
    have nmx : (A x 60 σ).toNat = nmo σ u := by unfold nmo; rw [(KPR_sdn kx).2, w60]
    have e4 : mks X 4 = (h2 + hf).toNat := by show (F X 58).toNat = _; rw [s7.2.1.2.2.2.2.2.2.1]
    have scX := (s7.2.2.2.1 σ (Nat.le_refl σ)).1
    have l9 := lX z2
    have nu40 : nmo σ u ≤ 40 ∧ ((nmo σ u : Nat) : Int) ≤ A X 64 σ := by unfold nmo; omega
    have kjX : KND X n.toNat 26 := by
      unfold KND at kjw ⊢
      rw [xr 23 _ (by decide) (by omega) (fun z => absurd z (by decide)), xr 24 _ (by decide) (by omega) (fun z => absurd z (by decide)), xr 28 _ (by decide) (by omega) (fun z => absurd z (by decide)), xr 29 _ (by decide) (by omega) (fun z => absurd z (by decide)), jx 23 (by decide), jx 24 (by decide), jx 28 (by decide), jx 29 (by decide)]
      exact kjw
    have keX : KND X n2.toNat 14 := by
      unfold KND
      rw [Xn 23 (by decide), Xn 24 (by decide), Xn 28 (by decide), Xn 29 (by decide)]
      exact ⟨nn.1, nn.2.1, nn.2.2.1, nn.2.2.2.1, nn.2.2.2.2.1⟩
    have hlx : hlo (σ + 1) x = hf.toNat := by unfold hlo; rw [ehf]
    have mle : ∀ i, mks x i ≤ mks X i := fun i => by
      obtain ⟨-, ⟨-, -, g1, g2, g3, g4, g5, -⟩, -⟩ := id s7
      unfold mks
      split
      · rw [g1, x32]; exact tnl1
      · split
        · rw [g3, x46]; exact Nat.le_refl _
        · split
          · rw [g2, x39]; exact Nat.le_refl _
          · split
            · rw [g4, x56]; exact Nat.le_refl _
            · rw [g5, x58]; exact tnl pos.2.2.2.1
    have sq := SEQ_fun (w := X) (a := mks u) (z := mks X) (u := f.toNat) (x := h2.toNat) (hf := hf.toNat) (m := nmo σ u) (lo := nmo σ u) (mm := nmo σ u) (X := 1) (Y := 0) (sh := hlo σ X) (e := n2.toNat) (j := n.toNat) ⟨mu0, mu3⟩ ⟨mw.1, mw.2.1, by rw [mw.2.2.1, mu3], mw.2.2.2⟩ ptX (by rw [mu1, xo 45 _ (by decide) (by decide) (by decide)]; exact t1) (by rw [xr 29 _ (by decide) (by omega) (fun z => absurd z (by decide))]; exact t2) ⟨mx0, by show (F X 32).toNat = _; rw [s7.2.1.2.2.1]; exact tn1 pos.1, by show (F X 46).toNat = (F x 46).toNat; rw [s7.2.1.2.2.2.2.1, x46], by show (F X 56).toNat = (F x 56).toNat; rw [s7.2.1.2.2.2.2.2.1, x56], mle⟩ kjX (by rw [xj]; exact tnc pos.1) keX (by rw [X25]; exact tnc pos.2.1) (by rw [Xo 53 _ (by decide), y3A 53 _ (by decide), W53, mu1]; exact tnc pos.2.2.1) (by rw [Xo 54 _ (by decide), y3A 54 _ (by decide), W54]; exact tnc pos.2.2.2.1) (by rw [Xo 55 _ (by decide), y3A 55 _ (by decide), W55]; exact tnc pos.2.2.2.2) (by rw [e4]; exact tna pos.2.2.2.2 pos.2.2.2.1) (fun i hi => by
        rw [Xo 57 _ (by decide), l3 i hi, Wo 62 _ (by decide), hlX, ← nmx]
        exact sc.2.2.2 i (tlt hi) (by omega)) ⟨by omega, by omega, by rw [hlx]; exact Nat.le_refl _, by omega⟩ ⟨Nat.le_refl _, Nat.le_refl _, Nat.le_refl _⟩
    refine ⟨nmo σ u, 1, 0, ?_, nu40.1, nu40.2, by omega, by omega⟩
    rw [nmX]
    exact sq
end
