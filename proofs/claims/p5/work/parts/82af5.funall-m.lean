section
section
variable {Q : MS → Int32 → Prop} {u0 u v w x V X : MS} {N σ TN SN e j k n0 R0 : Nat} {bw : Nat → Nat} {p o n q c f h s wt g D d B l z t p1 n1 q1 c1 f1 h1 a : Int} {r v2 v3 v4 : Int32} {S : SG_M_behind} {G : MS → Int32 → Int32 → Int32 → Int32 → Option (MS × Int32)}
theorem tnc {x : Int} (h : 0 ≤ x) : x = ((x.toNat : Nat) : Int) := by omega
theorem tn1 {x : Int} (h : 0 ≤ x) : (x + 1).toNat = x.toNat + 1 := by omega
theorem tna {x y : Int} (h : 0 ≤ x) (h2 : 0 ≤ y) : x.toNat + y.toNat ≤ (x + y).toNat := by omega
theorem tnl {x y : Int} (h2 : 0 ≤ y) : x.toNat ≤ (x + y).toNat := by omega
theorem tnl1 {x : Int} : x.toNat ≤ (x + 1).toNat := by omega
theorem tlt {i : Nat} {x : Int} (h : i < x.toNat) : (i : Int) < x := by omega
theorem DLT_fun {p2 n2 q2 c2 f2 h2 hf : Int} {ν : Nat} (hp : 0 ≤ p) (hp2 : p + 5 ≤ p2) (fw : bw p.toNat + 3 ≤ bw (p.toNat + 1)) (dc : DLT bw 10 1 (5 + ν) (p + 1) (n + 1) q c (f + 1) h p2 n2 q2 c2 f2 h2) (fl : f2 - (f + 1) + 1 ≤ c2 - c) (en : bw p2.toNat + 4 ≤ bw (p2.toNat + 1) + ν) (hf0 : 0 ≤ hf ∧ hf ≤ 60) : DLT bw 2 1 1 p n q c f h (p2 + 1) (n2 + 1) q2 c2 f2 (h2 + hf) := by
  have e1 : (p + 1).toNat = p.toNat + 1 := by omega
  have e2 : (p2 + 1).toNat = p2.toNat + 1 := by omega
  unfold DLT at dc ⊢
  rw [e1] at dc
  rw [e2]
  omega
theorem fun_nb {p2 n2 q2 c2 f2 h2 : Int} {bb : Nat} (tk : TKW u0 TN SN bw) (hp2 : p + 1 ≤ p2 ∧ p2 ≤ TN) (hm : NM TN bw 0 0 0 σ p o n q c f h s wt) (dc : DLT bw 10 1 bb (p + 1) (n + 1) q c (f + 1) h p2 n2 q2 c2 f2 h2) : n + 1 ≤ n2 ∧ n2 ≤ 12000 ∧ h ≤ h2 ∧ h2 ≤ 21820 ∧ c ≤ c2 ∧ q ≤ q2 ∧ f + 1 ≤ f2 := by
  have b1 := bw_top tk (i := p2.toNat) (by omega)
  have p0 := hm.1.1
  have b2 := bw_mono tk (i := p.toNat) (m := (p + 1).toNat) (by omega) (by omega)
  obtain ⟨⟨a1, a2, a3⟩, a4, ⟨a5, a6⟩, -, -, -, ⟨a7, a8⟩, -⟩ := hm
  obtain ⟨d1, d2, d3, d4, -, d6, -, d8, -, d10, d11⟩ := dc
  refine ⟨d2, by omega, d10, ?_, d6, d4, d8⟩
  clear d3 d1 d4 d6 d8
  omega
theorem f221_F {c : Int} (hN : 100 ≤ N) (hT : TN ≤ 4000) (hσ : σ ≤ 25) (hD : D ≤ 2990) (hs : FSM u0 TN (σ + 1) D u) (hff : 0 ≤ f ∧ f < 1400) (hj : j < 16000) (ht : 0 ≤ t ∧ t < 4002) : OK (fun x _ => FSM u0 TN σ (D + 1) x) (fb_M_fun_221 N S (gg_M_fun N S N) u (I t) (I f) (I j) (I c)) := by
  have e65 : F u 65 = ((σ + 1 : Nat) : Int) := hs.2.2.2.1
  have h63 := hs.2.2.2.2.2.2.1 (σ + 1) (Nat.le_refl _)
  have n0 := hs.2.2.2.2.1
  have h0 := hs.2.2.2.2.2.1
  refine f221_ok (hf := A u 63 (σ + 1)) hN e65 ⟨by omega, by omega⟩ rfl h63 (by omega) hff hj (by omega) ht (fun y3 v hl nd => ?_)
  have s1 : FSM u0 TN (σ + 1) D (wa (wa (wa u 53 f.toNat c) 54 f.toNat (A u 63 (σ + 1))) 55 f.toNat (F u 58)) := FSM_wa (FSM_wa (FSM_wa hs (by decide)) (by decide)) (by decide)
  have s2 := FSM_dn s1 hl (by omega) (by omega)
  rw [show (((σ + 1 : Nat) : Int) - 1) = (σ : Int) by omega] at nd
  exact FSM_wa (FSM_nd (FSM_wa s2 (by decide)) nd.1) (by decide)
set_option maxRecDepth 100000 in
theorem f221_t {p2 n2 q2 c2 f2 h2 : Int} {x y1 : MS} (tk : TKW u0 TN SN bw) (hN : 100 ≤ N) (ho : 0 ≤ o ∧ o ≤ 25) (hσ : σ ≤ 24) (hs : ST u0 σ p o n q c f h s wt 0 u) (hl : LGS σ u) (hm : NM TN bw 0 0 0 σ p o n q c f h s wt) (ev : A u0 6 p.toNat = 3 ∧ A u0 7 p.toNat = 7)
    (sw : ST u0 (σ + 1) (p + 1) o (n + 1) q c (f + 1) h s wt 0 w) (kw : KPR σ u w) (w60 : A w 60 σ = A u 60 σ) (kjw : KND w n.toNat 26) (mw : mks w 0 = n.toNat + 1 ∧ mks w 1 = mks u 1 ∧ mks w 3 = mks u 3 + 1 ∧ ∀ i, mks u i ≤ mks w i)
    (sx : ST u0 (σ + 1) p2 o n2 q2 c2 f2 h2 s wt 0 x) (kx : KPR (σ + 1) w x) (dc : DLT bw 10 1 (5 + nu u0 p2.toNat) (p + 1) (n + 1) q c (f + 1) h p2 n2 q2 c2 f2 h2) (fl : f2 - (f + 1) + 1 ≤ c2 - c) (hp2 : p + 5 ≤ p2 ∧ p2 < TN) (ct : CTY TN SN (σ + 1) o (p2 - (p + 1) + 1) c w x) (hx67 : F x 67 = 0) (hend : A u0 6 p2.toNat = 3 ∧ A u0 7 p2.toNat = 6)
    (hy : y1 = nx1 x ∨ y1 = wi (nx1 x) 66 1) (hyt : F y1 66 = 0 → y1 = nx1 x ∧ A x 64 (σ + 1) + A x 63 (σ + 1) ≤ 40) : OK (fun x r => EXQ u0 TN SN bw σ (o - 1) p o n q c f h s wt 0 u x r) (fb_M_fun_221 N S (gg_M_fun N S N) y1 (I p) (I f) (I n.toNat) (I c)) := by
  have hT := tk.1.1
  have fs := NM_fs hm (by omega)
  obtain ⟨-, ⟨x69, -, x32, x39, x46, x56, x58, -, -, x83, -, x65⟩, -⟩ := id sx
  obtain ⟨-, ⟨u69, -, u32, u39, u46, u56, u58, -, -, -, -, -⟩, -⟩ := id hs
  obtain ⟨-, ⟨-, -, w32, w39, w46, w56, w58, -, -, -, -, -⟩, -⟩ := id sw
  have hb1 : 0 ≤ c ∧ c < 1399 ∧ 0 ≤ f ∧ f ≤ c ∧ 0 ≤ h ∧ 0 ≤ q := by unfold NM at hm; omega
  have nb := fun_nb tk (by omega) hm dc
  have sc := (sx.2.2.2.1 (σ + 1) (Nat.le_refl _))
  have hf0 : 0 ≤ A x 63 (σ + 1) ∧ A x 63 (σ + 1) ≤ 60 := ⟨sc.1.2.2.1, sc.1.2.2.2.1⟩
  have yA : ∀ r i, A y1 r i = A x r i := fun r i => by rcases hy with z | z <;> (rw [z]; rfl)
  have yF : ∀ k, k ≠ 66 → k ≠ 69 → F y1 k = F x k := fun k h1 h2 => by
    rcases hy with z | z
    · rw [z]; exact wi_ne h2
    · rw [z, wi_ne h1]; exact wi_ne h2
  have sy : ST u0 (σ + 1) (p2 + 1) o n2 q2 c2 f2 h2 s wt 0 y1 := by
    have := ST_nx sx (by omega)
    rcases hy with z | z
    · rw [z]; exact this
    · rw [z]; exact ST_66 this
  have ky : KPR (σ + 1) w y1 := by
    have := KPR_tr kx (KPR_w0 (KPR_rf (u := x) (σ := σ + 1)) (b := 69) (x := F x 69 + 1) (by decide))
    rcases hy with z | z
    · rw [z]; exact this
    · rw [z]; exact KPR_66 this
  clear hy
  have e65 : F y1 65 = ((σ + 1 : Nat) : Int) := (yF 65 (by decide) (by decide)).trans x65
  have e58 : F y1 58 = h2 := (yF 58 (by decide) (by decide)).trans x58
  have e32 : F y1 32 = n2 := (yF 32 (by decide) (by decide)).trans x32
  have y67 : F y1 67 = 0 := (yF 67 (by decide) (by decide)).trans hx67
  have y72 : F y1 72 = F x 72 := yF 72 (by decide) (by decide)
  refine f221_ok (hf := A x 63 (σ + 1)) hN e65 ⟨by omega, by omega⟩ (yA 63 (σ + 1)) hf0 (by omega) ⟨by omega, by omega⟩ (by omega) (by omega) (by omega) (fun y3 v hlp nd => ?_)
  rw [show (((σ + 1 : Nat) : Int) - 1) = (σ : Int) by omega, e32] at nd
  rw [e58] at hlp
  rw [e32]
  generalize ehf : A x 63 (σ + 1) = hf at *
  have sW : ST u0 (σ + 1) (p2 + 1) o n2 q2 c2 f2 h2 s wt 0 (wa (wa (wa y1 53 f.toNat c) 54 f.toNat hf) 55 f.toNat h2) := ST_wa (ST_wa (ST_wa sy (by decide)) (by decide)) (by decide)
  have kW : KPR σ u (wa (wa (wa y1 53 f.toNat c) 54 f.toNat hf) 55 f.toNat h2) := KPR_wf (KPR_wf (KPR_wf (KPR_tr kw (KPR_sdn ky).1) (by decide) (by omega)) (by decide) (by omega)) (by decide) (by omega)
  have pos : 0 ≤ n2 ∧ 0 ≤ f ∧ 0 ≤ c ∧ 0 ≤ hf ∧ 0 ≤ h2 := by omega
  have rh2 : RG h2 := ⟨by omega, by omega⟩
  have rhf : RG hf := ⟨by omega, by omega⟩
  have rc : RG c := ⟨by omega, by omega⟩
  have rf : RG f := ⟨by omega, by omega⟩
  have rn2 : RG n2 := ⟨by omega, by omega⟩
  have W53 : A (wa (wa (wa y1 53 f.toNat c) 54 f.toNat hf) 55 f.toNat h2) 53 f.toNat = c := by rw [wa_rne (by decide), wa_rne (by decide)]; exact wa_eq rc
  have W54 : A (wa (wa (wa y1 53 f.toNat c) 54 f.toNat hf) 55 f.toNat h2) 54 f.toNat = hf := by rw [wa_rne (by decide)]; exact wa_eq rhf
  have W55 : A (wa (wa (wa y1 53 f.toNat c) 54 f.toNat hf) 55 f.toNat h2) 55 f.toNat = h2 := wa_eq rh2
  have Wo : ∀ r i, r ∉ [53, 54, 55] → A (wa (wa (wa y1 53 f.toNat c) 54 f.toNat hf) 55 f.toNat h2) r i = A x r i := fun r i hr => by
    have h1 : r ≠ 53 := fun z => hr (by rw [z]; decide)
    have h2 : r ≠ 54 := fun z => hr (by rw [z]; decide)
    have h3 : r ≠ 55 := fun z => hr (by rw [z]; decide)
    rw [wa_rne h3, wa_rne h2, wa_rne h1]; exact yA r i
  have Wn : ∀ r i, i ≠ f.toNat → A (wa (wa (wa y1 53 f.toNat c) 54 f.toNat hf) 55 f.toNat h2) r i = A x r i := fun r i hi => by
    rw [wa_ne hi, wa_ne hi, wa_ne hi]; exact yA r i
  have WF : ∀ k, F (wa (wa (wa y1 53 f.toNat c) 54 f.toNat hf) 55 f.toNat h2) k = F y1 k := fun k => by rw [F_wa, F_wa, F_wa]
  generalize wa (wa (wa y1 53 f.toNat c) 54 f.toNat hf) 55 f.toNat h2 = W at *
  have s3 := ST_hl (h' := h2 + hf) sW hlp (by omega)
  have k3 := KPR_hl kW hlp
  have s4 := ST_dn s3 (by omega)
  have k4 : KPR σ u (wi y3 65 σ) := KPR_65 k3
  have W58 : F W 58 = h2 := (WF 58).trans e58
  obtain ⟨l1, l2, l3, l4⟩ := hlp
  rw [W58] at l2 l3 l4
  have y3A : ∀ r i, r ≠ 57 → A y3 r i = A W r i := fun r i hr => l1.A (by simpa using hr)
  have y3F : ∀ k, k ≠ 58 → F y3 k = F W k := fun k hk => l1.F (by simpa using hk)
  have jx : ∀ r, r ∈ [23, 24, 25, 26, 27, 28, 29, 30, 31] → A x r n.toNat = A w r n.toNat := fun r hr => kx.2.1.1 r n.toNat hr (by omega)
  have mE : ∀ r, r ∈ [23, 24, 25, 26, 27, 28, 29, 30, 31] → r ∉ [53, 54, 55] ∧ r ≠ 57 := by decide
  have j23 : A (wi y3 65 σ) 23 n.toNat ≠ 12 := by
    show A y3 23 n.toNat ≠ 12
    rw [y3A 23 _ (by decide), Wo 23 _ (by decide), jx 23 (by decide), kjw.1]; decide
  have s5 : ST u0 σ (p2 + 1) o n2 q2 c2 f2 (h2 + hf) s wt 0 (wa (wi y3 65 σ) 25 n.toNat n2) := ST_wa25 s4 j23
  have k5 : KPR σ u (wa (wi y3 65 σ) 25 n.toNat n2) := KPR_wn k4 (by decide) (by omega)
  have e325 : F (wa (wi y3 65 σ) 25 n.toNat n2) 32 = n2 := s5.2.1.2.2.1
  have nn : NEWN v n2.toNat 14 := by
    have := NEWN_of nd (by omega)
    rw [e325] at this
    exact this
  have nd1 := nd.1
  have s6 := ST_nd s5 nd1 (by omega) (by omega) (fun z => by omega)
  have s7 : ST u0 σ (p2 + 1) o (n2 + 1) q2 c2 f2 (h2 + hf) s wt 0 (wa v 25 n2.toNat f) := ST_wa25 s6 (by rw [nn.1]; decide)
  have k7 : KPR σ u (wa v 25 n2.toNat f) := KPR_wn (KPR_nd k5 nd1 (by omega)) (by decide) (by omega)
  have X5 : ∀ r i, i ≠ n2.toNat → A (wa v 25 n2.toNat f) r i = A (wa (wi y3 65 σ) 25 n.toNat n2) r i := fun r i hi => by
    rw [wa_ne hi]; exact nd1.2.2.2.2 r i (by rw [e325]; exact hi)
  have Xo : ∀ r i, r ∉ [23, 24, 25, 26, 27, 28, 29, 30, 31] → A (wa v 25 n2.toNat f) r i = A y3 r i := fun r i hr => by
    have h25 : r ≠ 25 := fun z => hr (by rw [z]; decide)
    rw [wa_rne h25, nd1.1.A hr, wa_rne h25]; rfl
  have Xn : ∀ r, r ≠ 25 → A (wa v 25 n2.toNat f) r n2.toNat = A v r n2.toNat := fun r hr => wa_rne hr
  have X25 : A (wa v 25 n2.toNat f) 25 n2.toNat = f := wa_eq rf
  have XF : ∀ k, k ≠ 32 → k ≠ 65 → F (wa v 25 n2.toNat f) k = F y3 k := fun k h1 h2 => by
    rw [F_wa, nd1.1.F (by simpa using h1), F_wa]; exact wi_ne h2
  generalize wa v 25 n2.toNat f = X at *
  have xr : ∀ r i, r ∈ [23, 24, 25, 26, 27, 28, 29, 30, 31] → i < n2.toNat → (r = 25 → i ≠ n.toNat) → A X r i = A x r i := fun r i hr hi hne => by
    rw [X5 r i (by omega)]
    have : A (wa (wi y3 65 σ) 25 n.toNat n2) r i = A y3 r i := by
      by_cases z : r = 25
      · rw [wa_ne (hne z)]; rfl
      · rw [wa_rne z]; rfl
    rw [this, y3A r i (mE r hr).2, Wo r i (mE r hr).1]
  have xj : A X 25 n.toNat = n2 := by
    rw [X5 25 _ (by omega)]; exact wa_eq rn2
  have X60 : A X 60 σ = A u 60 σ := by
    rw [Xo 60 σ (by decide), y3A 60 σ (by decide), Wo 60 σ (by decide), (KPR_sdn kx).2]; exact w60
  have X63 : A X 63 σ = A x 63 σ := by rw [Xo 63 σ (by decide), y3A 63 σ (by decide), Wo 63 σ (by decide)]
  have lX : LGS σ X := fun y => by rw [X60]; exact hl (k7.2.2.2.2.2.2 y)
  have X67 : F X 67 = 0 := by rw [XF 67 (by decide) (by decide), y3F 67 (by decide), WF 67]; exact y67
  refine ⟨X67, p2 + 1, n2 + 1, q2, c2, f2, h2 + hf, n2.toNat, by rw [show ((n2.toNat : Nat) : Int) = n2 by omega], s7, k7, by omega, ?_, ⟨by omega, by omega, ?_, ?_⟩, lX, fun z1 z2 z3 => ?_⟩
  · have nu0 : nu u0 (p2 + 1).toNat = 0 := nu_wd (Or.inl hend.1) (by omega)
    rw [nu0]
    exact DLT_fun (ν := nu u0 p2.toNat) (by omega) hp2.1 ((tk.2.2.2.1 p.toNat (by omega)).2.1 ev.1 (Or.inr ev.2)) dc fl ((tk.2.2.2.1 p2.toNat (by omega)).2.2.2.2 hend.1 hend.2) hf0
  · refine RTD_mo 0 _ _ ⟨by omega, ?_⟩ (by omega)
    rw [Xn 28 (by decide)]; exact nn.2.2.2.1
  · rw [Xn 29 (by decide)]; exact nn.2.2.2.2.1
  · have y66 : F X 66 = F y1 66 := by rw [XF 66 (by decide) (by decide), y3F 66 (by decide), WF 66]
    have yy := hyt (by rw [← y66]; exact z2)
    have x66 : F x 66 = 0 := by
      have : F y1 66 = F x 66 := by rw [yy.1]; exact wi_ne (by decide)
      rw [← this, ← y66]; exact z2
    have x72 : F x 72 = 0 := by
      rw [← y72, ← WF 72, ← y3F 72 (by decide), ← XF 72 (by decide) (by decide)]; exact z1
    obtain ⟨many, mm, X1, Y, r0, pt, t1, t2, t3, t4, t5, t6⟩ := ct x72 x66 z3
    have ple := PTD_le pt
    have mx0 : mks x 0 = n2.toNat := by show (F x 32).toNat = _; rw [x32]
    have mx3 : mks x 3 = f2.toNat := by show (F x 56).toNat = _; rw [x56]
    have mx4 : mks x 4 = h2.toNat := by show (F x 58).toNat = _; rw [x58]
    have mu0 : mks u 0 = n.toNat := by show (F u 32).toNat = _; rw [u32]
    have mu1 : mks u 1 = c.toNat := by show (F u 46).toNat = _; rw [u46]
    have mu3 : mks u 3 = f.toNat := by show (F u 56).toNat = _; rw [u56]
    have mE2 : ∀ r, r ∈ [40, 41, 42, 43, 45] → r ∉ [23, 24, 25, 26, 27, 28, 29, 30, 31] ∧ r ≠ 57 ∧ r ∉ [53, 54, 55] := by decide
    have mE3 : ∀ r, r ∈ [33, 35, 36, 37, 38] → r ∉ [23, 24, 25, 26, 27, 28, 29, 30, 31] ∧ r ≠ 57 ∧ r ∉ [53, 54, 55] := by decide
    have mE4 : ∀ r, r ∈ [53, 54, 55] → r ∉ [23, 24, 25, 26, 27, 28, 29, 30, 31] ∧ r ≠ 57 := by decide
    have xo : ∀ r i, r ∉ [23, 24, 25, 26, 27, 28, 29, 30, 31] → r ≠ 57 → r ∉ [53, 54, 55] → A X r i = A x r i := fun r i h1 h2 h3 => by rw [Xo r i h1, y3A r i h2, Wo r i h3]
    have ptX : PTD X SN true (-1) (mks w) (mks x) many 0 mm X1 Y (hlo (σ + 1) x) r0 := by
      refine PTD_ag pt ⟨?_, fun r i hr h1 h2 _ => xr r i hr (by omega) (fun _ => by omega), fun r i hr _ _ _ => xo r i (mE2 r hr).1 (mE2 r hr).2.1 (mE2 r hr).2.2, fun r i hr _ => xo r i (mE3 r hr).1 (mE3 r hr).2.1 (mE3 r hr).2.2, fun r i hr h1 _ => ?_, fun i h2 => ?_⟩
      · rw [XF 14 (by decide) (by decide), y3F 14 (by decide), WF 14]; exact yF 14 (by decide) (by decide)
      · rw [Xo r i (mE4 r hr).1, y3A r i (mE4 r hr).2, Wn r i (by omega)]
      · rw [Xo 57 i (by decide), l4 i (by omega), Wo 57 i (by decide)]
    have hlX : hlo σ X = (A x 63 σ).toNat := by unfold hlo; rw [X63]
    have nmX : nmo σ X = nmo σ u := by unfold nmo; rw [X60]
    have nmx : (A x 60 σ).toNat = nmo σ u := by unfold nmo; rw [(KPR_sdn kx).2, w60]
    have e4 : mks X 4 = (h2 + hf).toNat := by show (F X 58).toNat = _; rw [s7.2.1.2.2.2.2.2.2.1]
    have scX := (s7.2.2.2.1 σ (Nat.le_refl σ)).1
    have l9 := lX z2
    have nu40 : nmo σ u ≤ 40 ∧ ((nmo σ u : Nat) : Int) ≤ A X 64 σ := by unfold nmo; omega
    have kjX : KND X n.toNat 26 := by
      unfold KND at kjw ⊢
      rw [xr 23 _ (by decide) (by omega) (fun z => absurd z (by decide)), xr 24 _ (by decide) (by omega) (fun z => absurd z (by decide)), xr 28 _ (by decide) (by omega) (fun z => absurd z (by decide)), xr 29 _ (by decide) (by omega) (fun z => absurd z (by decide)), jx 23 (by decide), jx 24 (by decide), jx 28 (by decide), jx 29 (by decide)]
      exact kjw
    have keX : KND X n2.toNat 14 := by
      unfold KND
      rw [Xn 23 (by decide), Xn 24 (by decide), Xn 28 (by decide), Xn 29 (by decide)]
      exact ⟨nn.1, nn.2.1, nn.2.2.1, nn.2.2.2.1, nn.2.2.2.2.1⟩
    have hlx : hlo (σ + 1) x = hf.toNat := by unfold hlo; rw [ehf]
    have mle : ∀ i, mks x i ≤ mks X i := fun i => by
      obtain ⟨-, ⟨-, -, g1, g2, g3, g4, g5, -⟩, -⟩ := id s7
      unfold mks
      split
      · rw [g1, x32]; exact tnl1
      · split
        · rw [g3, x46]; exact Nat.le_refl _
        · split
          · rw [g2, x39]; exact Nat.le_refl _
          · split
            · rw [g4, x56]; exact Nat.le_refl _
            · rw [g5, x58]; exact tnl pos.2.2.2.1
    have sq := SEQ_fun (w := X) (a := mks u) (z := mks X) (u := f.toNat) (x := h2.toNat) (hf := hf.toNat) (m := nmo σ u) (lo := nmo σ u) (mm := nmo σ u) (X := 1) (Y := 0) (sh := hlo σ X) (e := n2.toNat) (j := n.toNat) ⟨mu0, mu3⟩ ⟨mw.1, mw.2.1, by rw [mw.2.2.1, mu3], mw.2.2.2⟩ ptX (by rw [mu1, xo 45 _ (by decide) (by decide) (by decide)]; exact t1) (by rw [xr 29 _ (by decide) (by omega) (fun z => absurd z (by decide))]; exact t2) ⟨mx0, by show (F X 32).toNat = _; rw [s7.2.1.2.2.1]; exact tn1 pos.1, by show (F X 46).toNat = (F x 46).toNat; rw [s7.2.1.2.2.2.2.1, x46], by show (F X 56).toNat = (F x 56).toNat; rw [s7.2.1.2.2.2.2.2.1, x56], mle⟩ kjX (by rw [xj]; exact tnc pos.1) keX (by rw [X25]; exact tnc pos.2.1) (by rw [Xo 53 _ (by decide), y3A 53 _ (by decide), W53, mu1]; exact tnc pos.2.2.1) (by rw [Xo 54 _ (by decide), y3A 54 _ (by decide), W54]; exact tnc pos.2.2.2.1) (by rw [Xo 55 _ (by decide), y3A 55 _ (by decide), W55]; exact tnc pos.2.2.2.2) (by rw [e4]; exact tna pos.2.2.2.2 pos.2.2.2.1) (fun i hi => by
        rw [Xo 57 _ (by decide), l3 i hi, Wo 62 _ (by decide), hlX, ← nmx]
        exact sc.2.2.2 i (tlt hi) (by omega)) ⟨by omega, by omega, by rw [hlx]; exact Nat.le_refl _, by omega⟩ ⟨Nat.le_refl _, Nat.le_refl _, Nat.le_refl _⟩
    refine ⟨nmo σ u, 1, 0, ?_, nu40.1, nu40.2, by omega, by omega⟩
    rw [nmX]
    exact sq
end
end
section
section
variable {u0 : MS} {N TN SN : Nat} {bw : Nat → Nat} {o D : Int} {S : SG_M_behind}
set_option maxRecDepth 100000 in
theorem fun_ok (tk : TKW u0 TN SN bw) (hN : 20000 ≤ N) (hD : 0 ≤ D ∧ D ≤ 2890) (ho : 1 ≤ o ∧ o ≤ 25) (hcl : XCL u0 TN SN bw D o S.2.2.2.2.2.2.2.2.2.2.2.2.2.2.2.2) : XBL u0 TN SN bw (D + 10) o (fun u => IW u 7) (fm_M_fun N S) := by
  intro u σ p n q c f h s wt hs hf iw hm1 hl
  have hT := tk.1.1
  have hm := NM_j hm1
  have fs := NM_fs hm (by omega)
  have ev := ST_IW hs iw
  have ltp := tok_lt tk (by omega) (show ¬ (A u0 6 (p).toNat = 0 ∨ A u0 6 (p).toNat = 7) by omega)
  have ni : ¬ IW u 9 := fun y => by
    have := ST_IW hs y
    omega
  have hσ : σ ≤ 24 := by unfold NM at hm1; omega
  have hb1 : 0 ≤ c ∧ c < 1399 ∧ 0 ≤ f ∧ f ≤ c ∧ 0 ≤ h ∧ 0 ≤ q := by unfold NM at hm; omega
  have s1 := ST_nx hs (by omega)
  have k1 : KPR σ u (nx1 u) := KPR_w0 KPR_rf (by decide)
  have e69 : F (nx1 u) 69 = p + 1 := s1.2.1.1
  have e56 : F (nx1 u) 56 = f := s1.2.1.2.2.2.2.2.1
  have f1 : F (nx1 u) 67 = 0 := (wi_ne (by decide)).trans hf
  have u32 : F u 32 = n := hs.2.1.2.2.1
  have u56 : F u 56 = f := hs.2.1.2.2.2.2.2.1
  have exit : ∀ {x r} {d : Int}, d ≤ 10 → EXQ u0 TN SN bw σ (o - 1) p o n q c f h s wt 0 u x r ∨ FSM u0 TN σ (D + d) x → (EXQ u0 TN SN bw σ (o - 1) p o n q c f h s wt 0 u x r ∧ ¬ IW u 9) ∨ FSM u0 TN σ (D + 10) x := fun hd y => by
    rcases y with y | y
    · exact Or.inl ⟨y, ni⟩
    · exact Or.inr (FSM_mo y (by omega))
  unfold fm_M_fun fb_M_fun_0
  rw [nx1_e]
  refine ok_lt.mpr (k_at (k := 6) (n := 4002) rfl (by decide) (by omega) ?_)
  refine k_A (y := 1) rfl ⟨by decide, by decide⟩ (fun y => ?_) (fun _ => ?_)
  · rw [tn_F, e69, ST_A s1 (by decide)] at y
    have ltp2 := tok_lt tk (by omega) (show ¬ (A u0 6 (p + 1).toNat = 0 ∨ A u0 6 (p + 1).toNat = 7) by omega)
    rw [nx1_e, I_F' e69]
    refine ok_lt.mpr (ok_mono (refer_ok (D := D + 1) tk (by omega) hs hf hm hl ltp2 (by omega)) (fun x r hx => exit (d := 1) (by omega) hx))
  · have e56' : (nx1 u).1 56 + 1 = I (f + 1) := by rw [I_F' e56, lit1q, I_add]
    rw [e56', I_F' e56, wi_e]
    refine ok_lt.mpr ?_
    have s2 : ST u0 σ (p + 1) o n q c (f + 1) h s wt 0 (wi (nx1 u) 56 (f + 1)) := ST_56 s1 ⟨by omega, by omega⟩
    have k2 : KPR σ u (wi (nx1 u) 56 (f + 1)) := KPR_wi k1 (by decide) (by omega) ⟨by omega, by omega⟩
    have a2 : ∀ r i, A (wi (nx1 u) 56 (f + 1)) r i = A u r i := fun _ _ => rfl
    have f2 : F (wi (nx1 u) 56 (f + 1)) 67 = 0 := (wi_ne (by decide)).trans f1
    have m2 : mks (wi (nx1 u) 56 (f + 1)) 0 = mks u 0 ∧ mks (wi (nx1 u) 56 (f + 1)) 1 = mks u 1 ∧ mks (wi (nx1 u) 56 (f + 1)) 3 = mks u 3 + 1 := by
      refine ⟨?_, ?_, ?_⟩
      · show (F (wi (nx1 u) 56 (f + 1)) 32).toNat = (F u 32).toNat
        rw [wi_ne (by decide)]; unfold nx1; rw [wi_ne (by decide)]
      · show (F (wi (nx1 u) 56 (f + 1)) 46).toNat = (F u 46).toNat
        rw [wi_ne (by decide)]; unfold nx1; rw [wi_ne (by decide)]
      · show (F (wi (nx1 u) 56 (f + 1)) 56).toNat = (F u 56).toNat + 1
        rw [wi_eq ⟨by omega, by omega⟩, u56]; omega
    generalize wi (nx1 u) 56 (f + 1) = W at *
    have w32 : F W 32 = n := s2.2.1.2.2.1
    refine k_node (k := 26) (t := p) rfl (by decide) rfl (by omega) (by omega) (fun v hv => ?_)
    rw [w32]
    have nd := hv.1
    have s3 := ST_nd s2 nd (by omega) (by omega) (fun z => by omega)
    have k3 : KPR σ u v := KPR_nd k2 nd (by omega)
    have v65 : F v 65 = σ := s3.2.1.2.2.2.2.2.2.2.2.2.2.2
    have nn : NEWN v n.toNat 26 := by
      have := NEWN_of hv (by omega)
      rw [w32] at this
      exact this
    have on : ONE (mks W) (mks v) n.toNat := by
      have := ONE_nd nd (by omega)
      rw [w32] at this
      exact this
    have v67 : F v 67 = 0 := (nd.1.F (by decide)).trans f2
    have z0 : ∀ (w : MS) (k i : Nat), upA w k (upd (w.2.2.1 k) i 0) = wa w k i 0 := fun _ _ _ => rfl
    have e65 : v.1 65 + 1 = I ((σ : Int) + 1) := by rw [I_F' v65, lit1q, I_add]
    rw [e65, wi_e]
    have g65 : F (wi v 65 ((σ : Int) + 1)) 65 = (σ : Int) + 1 := wi_eq ⟨by omega, by omega⟩
    refine ok_lt.mpr (k_at (k := 60) (n := 27) rfl (by decide) (by omega) (ok_lt.mpr ?_))
    rw [I_F' g65, I_tn (x := (σ : Int) + 1) (by omega) (by omega), z0, show ((σ : Int) + 1).toNat = σ + 1 by omega]
    have g65b : F (wa (wi v 65 ((σ : Int) + 1)) 60 (σ + 1) 0) 65 = (σ : Int) + 1 := by rw [F_wa]; exact g65
    refine k_at (k := 63) (n := 27) rfl (by decide) (by omega) (ok_lt.mpr ?_)
    rw [I_F' g65b, I_tn (x := (σ : Int) + 1) (by omega) (by omega), z0, show ((σ : Int) + 1).toNat = σ + 1 by omega]
    have g65c : F (wa (wa (wi v 65 ((σ : Int) + 1)) 60 (σ + 1) 0) 63 (σ + 1) 0) 65 = (σ : Int) + 1 := by rw [F_wa]; exact g65b
    refine k_at (k := 64) (n := 27) rfl (by decide) (by omega) (ok_lt.mpr ?_)
    rw [I_F' g65c, I_tn (x := (σ : Int) + 1) (by omega) (by omega), z0, show ((σ : Int) + 1).toNat = σ + 1 by omega]
    have eU : wa (wa (wa (wi v 65 ((σ : Int) + 1)) 60 (σ + 1) 0) 63 (σ + 1) 0) 64 (σ + 1) 0 = scU v σ := rfl
    rw [eU]
    have s4 := ST_up s3 (by omega)
    have k4 : KPR σ u (scU v σ) := KPR_tr k3 (KPR_up (by omega))
    have w60 : A (scU v σ) 60 σ = A u 60 σ := by rw [scU_A (Or.inr (by omega)), nd.1.A (by decide)]; exact a2 60 σ
    have kj : KND (scU v σ) n.toNat 26 := by
      unfold KND
      rw [scU_A (Or.inl (by decide)), scU_A (Or.inl (by decide)), scU_A (Or.inl (by decide)), scU_A (Or.inl (by decide))]
      exact ⟨nn.1, nn.2.1, nn.2.2.1, nn.2.2.2.1, nn.2.2.2.2.1⟩
    have m4 : mks (scU v σ) = mks v := mks_c (fun k hk => scU_F (by
      have : ∀ k, k ∈ [32, 39, 46, 56, 58] → k ≠ 65 := by decide
      exact this k hk))
    have mw : mks (scU v σ) 0 = n.toNat + 1 ∧ mks (scU v σ) 1 = mks u 1 ∧ mks (scU v σ) 3 = mks u 3 + 1 ∧ ∀ i, mks u i ≤ mks (scU v σ) i := by
      refine ⟨?_, ?_, ?_, fun i => ?_⟩
      · rw [m4]; exact on.2.1
      · rw [m4, on.2.2.1]; exact m2.2.1
      · rw [m4, on.2.2.2.1]; exact m2.2.2
      · have kk := k4.2.2.2.2.1
        unfold mks
        split
        · omega
        · split
          · omega
          · split
            · omega
            · split
              · omega
              · omega
    have f4 : F (scU v σ) 67 = 0 := (scU_F (by decide)).trans v67
    have nm4 : NM TN bw 0 0 0 (σ + 1) (p + 1) o (n + 1) q c f h s wt := by
      have b1 := bw_mono tk (i := p.toNat) (m := (p + 1).toNat) (by omega) (by omega)
      have b2 := bw_top tk (i := (p + 1).toNat) (by omega)
      unfold NM at hm1 ⊢
      omega
    have c60 := scU_60 (u := v) (σ := σ)
    generalize scU v σ = V at *
    refine ok_bnd.mpr (ok_mono (hcl V (σ + 1) _ _ _ _ _ f _ _ _ p s4 f4 ⟨c60, by omega, by omega, by omega, by omega⟩ nm4) (fun x r hx => ?_))
    obtain ⟨hr, hx⟩ := hx
    rw [hr]
    have jn : (I n : Int32) = I ((n.toNat : Nat) : Int) := by rw [show ((n.toNat : Nat) : Int) = n by omega]
    have bad : ∀ y, FSM u0 TN (σ + 1) D y → OK (fun x r => (EXQ u0 TN SN bw σ (o - 1) p o n q c f h s wt 0 u x r ∧ ¬ IW u 9) ∨ FSM u0 TN σ (D + 10) x) (ck (inb (y.1 65) (ln 64)) (ck (inb (y.1 65) (ln 63)) (br (decide (((y.2.2.1 64 (y.1 65).toNatClampNeg) + (y.2.2.1 63 (y.1 65).toNatClampNeg)) ≤ 40)) (fb_M_fun_221 N S (gg_M_fun N S N) y (I p) (I f) (I n) (I c)) (lt (upI y 66 1) (fun w23 => fb_M_fun_221 N S (gg_M_fun N S N) w23 (I p) (I f) (I n) (I c)))))) := fun y hy => by
      have y65 : F y 65 = ((σ + 1 : Nat) : Int) := hy.2.2.2.1
      refine k_at (k := 64) (n := 27) rfl (by decide) (by omega) (k_at (k := 63) (n := 27) rfl (by decide) (by omega) (ok_br.mpr ⟨fun _ => ?_, fun _ => ok_lt.mpr ?_⟩))
      · rw [jn]
        exact ok_mono (f221_F (by omega) hT (by omega) (by omega) hy (by omega) (by omega) (by omega)) (fun x r hx => Or.inr (FSM_mo hx (by omega)))
      · rw [jn, lit1q, wi_e]
        exact ok_mono (f221_F (by omega) hT (by omega) (by omega) (FSM_wi hy (by decide)) (by omega) (by omega) (by omega)) (fun x r hx => Or.inr (FSM_mo hx (by omega)))
    rcases hx with ⟨x0, p2, n2, q2, c2, f2', h2, x1, x2, x3, ⟨x4, x5, x6⟩, x7, x8⟩ | hx
    · have x69 : F x 69 = p2 := x1.2.1.1
      have nb := fun_nb tk (by omega) hm x4
      refine k_needWord (s := 6) rfl ⟨by decide, by decide⟩ (by omega) (fun _ zz => ?_) (fun v2 h3 h4 => bad v2 (FSM_of (ST_67 x1 h3) (by omega) (by omega) (by omega) h4))
      have z2 := ST_IW x1 zz
      have ltp3 := tok_lt tk (by omega) (show ¬ (A u0 6 (p2).toNat = 0 ∨ A u0 6 (p2).toNat = 7) by omega)
      have s5 := ST_nx x1 (by omega)
      have y65 : F (nx1 x) 65 = ((σ + 1 : Nat) : Int) := s5.2.1.2.2.2.2.2.2.2.2.2.2.2
      have y64 : (nx1 x).2.2.1 64 ((nx1 x).1 65).toNatClampNeg = I (A x 64 (σ + 1)) := by
        rw [tn_F, y65, show (((σ + 1 : Nat) : Int)).toNat = σ + 1 by omega]; exact I_A
      have y63 : (nx1 x).2.2.1 63 ((nx1 x).1 65).toNatClampNeg = I (A x 63 (σ + 1)) := by
        rw [tn_F, y65, show (((σ + 1 : Nat) : Int)).toNat = σ + 1 by omega]; exact I_A
      have sc := (x1.2.2.2.1 (σ + 1) (Nat.le_refl _)).1
      refine k_at (k := 64) (n := 27) rfl (by decide) (by omega) (k_at (k := 63) (n := 27) rfl (by decide) (by omega) ?_)
      rw [y64, y63, I_add, jn]
      refine k_le (x := A x 64 (σ + 1) + A x 63 (σ + 1)) (y := 40) ⟨by omega, by omega⟩ ⟨by decide, by decide⟩ (fun yy => ?_) (fun yy => ok_lt.mpr ?_)
      · exact ok_mono (f221_t tk (by omega) (by omega) hσ hs hl hm ev s4 k4 w60 kj mw x1 x2 x4 x5 ⟨by omega, ltp3⟩ x8 x0 z2 (Or.inl rfl) (fun _ => ⟨rfl, yy⟩)) (fun x r hx => Or.inl ⟨hx, ni⟩)
      · rw [lit1q, wi_e]
        exact ok_mono (f221_t tk (by omega) (by omega) hσ hs hl hm ev s4 k4 w60 kj mw x1 x2 x4 x5 ⟨by omega, ltp3⟩ x8 x0 z2 (Or.inr rfl) (fun y => by
          have : F (wi (nx1 x) 66 1) 66 = 1 := wi_eq ⟨by decide, by decide⟩
          omega)) (fun x r hx => Or.inl ⟨hx, ni⟩)
    · refine k_needWord (s := 6) rfl ⟨by decide, by decide⟩ (FSM_p hx hT) (fun z _ => absurd z hx.2.1) (fun v2 h3 h4 => bad v2 (FSM_67 hx h3 h4))
end
end
section
section
variable {u0 : MS} {N TN SN : Nat} {bw : Nat → Nat} {o D : Int} {S : SG_M_behind}
theorem guard_N : XGN (fm_M_guard N S) := fun u hf hp => by
  unfold fm_M_guard fb_M_guard_0
  rw [show (14 : Int32) = I 14 from rfl, takeWord_0 hp ⟨by decide, by decide⟩ (Or.inl hf), bnd_so, br00]
theorem grp_F (hN : 20000 ≤ N) : ∀ d, 2 ≤ d → XNO (rc_M_behind N d).2.2.2.2.2.2.2.2.2.2.2.2.2.1 ∧ XNO (rc_M_behind N d).2.2.2.2.1 ∧ XNO (rc_M_behind N d).2.2.2.2.2.2.2.2.2.2.1 ∧ (∀ D, 0 ≤ D → XSF u0 TN D (rc_M_behind N d).2.2.2.2.2.2.2.2.2.2.2.2.1) ∧ XGN (rc_M_behind N d).2.2.2.2.2.2.2.2.2.2.2.2.2.2.2.1 ∧ XPN (rc_M_behind N d).2.2.1 := fun d hd => by
  obtain ⟨d', rfl⟩ : ∃ d', d = d' + 1 + 1 := ⟨d - 2, by omega⟩
  exact ⟨expression_F, body_F, primary_F, fun D h => simple_F (by omega) h (worked_F (by omega)), guard_N, fun u a b hf => parts_F hf (by omega)⟩
def eR (o : Int) : Int := 10 * (25 - o) + 5
def GRP (u0 : MS) (TN SN : Nat) (bw : Nat → Nat) (S : SG_M_behind) (d : Nat) : Prop := ∀ o D : Int, 0 ≤ o → o ≤ 25 → D ≤ 2890 →
  ((eR o ≤ d → 10 * eR o ≤ D → XSP u0 TN SN bw D 3 0 0 0 o S.2.2.2.2.2.2.2.2.2.2.2.2.2.1 ∧ XSB u0 TN SN bw D o S.2.2.2.2.1 ∧ XSP u0 TN SN bw D 3 0 0 0 o S.1) ∧
  (eR o + 1 ≤ d → 10 * eR o + 10 ≤ D → XGC u0 TN SN bw D o S.2.2.2.2.2.2.2.2.2.2.2.2.2.2.1 ∧ XWP u0 TN SN bw D o (fun u => IS u 2 ∨ IS u 4) S.2.2.2.2.2.2.2.1 ∧ XAR u0 TN SN bw D o S.2.2.2.2.2.2.2.2.2.1 ∧ (1 ≤ o → XMT u0 TN SN bw D o S.2.1)) ∧
  (eR o + 2 ≤ d → 10 * eR o + 20 ≤ D → XGD u0 TN SN bw D o S.2.2.2.2.2.2.2.2.2.2.2.2.2.2.2.1) ∧
  (eR o + 3 ≤ d → 10 * eR o + 30 ≤ D → XCL u0 TN SN bw D o S.2.2.2.2.2.2.2.2.2.2.2.2.2.2.2.2 ∧ XPT u0 TN SN bw D o S.2.2.1) ∧
  (eR o + 4 ≤ d → 10 * eR o + 40 ≤ D → XRC u0 TN SN bw D o S.2.2.2.1 ∧ (1 ≤ o → XBL u0 TN SN bw D o (fun u => IW u 7) S.2.2.2.2.2.2.1)) ∧
  (eR o + 5 ≤ d → 10 * eR o + 50 ≤ D → XBL u0 TN SN bw D o (fun u => TSO u = 3) S.2.2.2.2.2.1) ∧
  (1 ≤ o → eR o + 6 ≤ d → 10 * eR o + 60 ≤ D → XWP u0 TN SN bw D o (fun _ => True) S.2.2.2.2.2.2.2.2.1) ∧
  (1 ≤ o → eR o + 7 ≤ d → 10 * eR o + 70 ≤ D → XPR u0 TN SN bw D o S.2.2.2.2.2.2.2.2.2.2.1) ∧
  (1 ≤ o → eR o + 8 ≤ d → 10 * eR o + 80 ≤ D → XSP u0 TN SN bw D 0 1 0 1 o S.2.2.2.2.2.2.2.2.2.2.2.1) ∧
  (1 ≤ o → eR o + 9 ≤ d → 10 * eR o + 90 ≤ D → XSP u0 TN SN bw D 0 1 1 1 o S.2.2.2.2.2.2.2.2.2.2.2.2.1))
theorem grp_ok (tk : TKW u0 TN SN bw) (hN : 20000 ≤ N) : ∀ d, GRP u0 TN SN bw (rc_M_behind N d) d := by
  intro d
  induction d with
  | zero =>
    intro o D h1 h2 h3
    have : 5 ≤ eR o := by unfold eR; omega
    refine ⟨fun y => by omega, fun y => by omega, fun y => by omega, fun y => by omega, fun y => by omega, fun y => by omega, fun _ y => by omega, fun _ y => by omega, fun _ y => by omega, fun _ y => by omega⟩
  | succ d ih =>
    intro o D h1 h2 h3
    have e5 : 5 ≤ eR o := by unfold eR; omega
    have up : eR (o + 1) = eR o - 10 := by unfold eR; omega
    have eD : D = (D - 10) + 10 := by omega
    have I0 := ih o (D - 10) h1 h2 (by omega)
    obtain ⟨i0, i1, i2, i3, i4, i5, i6, i7, i8, i9⟩ := I0
    have ff : 4 ≤ d → XNO (rc_M_behind N d).2.2.2.2.2.2.2.2.2.2.2.2.2.1 ∧ XNO (rc_M_behind N d).2.2.2.2.1 ∧ XNO (rc_M_behind N d).2.2.2.2.2.2.2.2.2.2.1 ∧ (∀ D, 0 ≤ D → XSF u0 TN D (rc_M_behind N d).2.2.2.2.2.2.2.2.2.2.2.2.1) ∧ XGN (rc_M_behind N d).2.2.2.2.2.2.2.2.2.2.2.2.2.2.2.1 ∧ XPN (rc_M_behind N d).2.2.1 := fun h => grp_F hN d (by omega)
    refine ⟨fun y z => ?_, fun y z => ?_, fun y z => ?_, fun y z => ?_, fun y z => ?_, fun y z => ?_, fun ho y z => ?_, fun ho y z => ?_, fun ho y z => ?_, fun ho y z => ?_⟩
    · obtain ⟨f1, f2, f3, f4, f5, f6⟩ := ff (by omega)
      have hsim : o ≤ 24 → XSP u0 TN SN bw (D - 10) 0 1 1 1 (o + 1) (rc_M_behind N d).2.2.2.2.2.2.2.2.2.2.2.2.1 := fun q => (ih (o + 1) (D - 10) (by omega) (by omega) (by omega)).2.2.2.2.2.2.2.2.2 (by omega) (by omega) (by omega)
      have hex : o ≤ 24 → XSP u0 TN SN bw (D - 10) 3 0 0 0 (o + 1) (rc_M_behind N d).2.2.2.2.2.2.2.2.2.2.2.2.2.1 := fun q => ((ih (o + 1) (D - 10) (by omega) (by omega) (by omega)).1 (by omega) (by omega)).1
      rw [eD]
      exact ⟨expression_ok tk (by omega) ⟨h1, h2⟩ hsim (f4 _ (by omega)) hex f1, body_ok tk (by omega) (by omega) ⟨h1, h2⟩ hex f1, behind_ok tk (by omega) ⟨h1, h2⟩ hsim (f4 _ (by omega))⟩
    · obtain ⟨j1, j2, j3⟩ := i0 (by omega) (by omega)
      rw [eD]
      exact ⟨guardCode_ok tk (by omega) (by omega) ⟨h1, h2⟩ j1, row_ok tk (by omega) (by omega) ⟨h1, h2⟩ j1, arguments_ok tk (by omega) (by omega) h2 j1, fun q => matched_ok tk hN (by omega) ⟨q, h2⟩ j3⟩
    · have j := i1 (by omega) (by omega)
      rw [eD]
      exact guard_ok tk (by omega) j.1
    · obtain ⟨f1, f2, f3, f4, f5, f6⟩ := ff (by omega)
      have j0 := i0 (by omega) (by omega)
      have j1 := i1 (by omega) (by omega)
      have j2 := i2 (by omega) (by omega)
      rw [eD]
      exact ⟨clause_ok tk hN (by omega) ⟨h1, h2⟩ j2 f5 j0.2.1 f2, parts_ok tk hN (by omega) ⟨h1, h2⟩ j2 f5 j1.1 j0.2.1 f2⟩
    · obtain ⟨f1, f2, f3, f4, f5, f6⟩ := ff (by omega)
      have j0 := i0 (by omega) (by omega)
      have j3 := i3 (by omega) (by omega)
      rw [eD]
      exact ⟨receive_ok tk (by omega) ⟨h1, h2⟩ j3.2 j0.1 j0.2.1 f2, fun q => fun_ok tk hN (by omega) ⟨q, h2⟩ j3.1⟩
    · obtain ⟨f1, f2, f3, f4, f5, f6⟩ := ff (by omega)
      have j0 := i0 (by omega) (by omega)
      have j3 := i3 (by omega) (by omega)
      have j4 := i4 (by omega) (by omega)
      rw [eD]
      exact block_ok tk (by omega) ⟨h1, h2⟩ j3.2 f6 j4.1 j0.1 j0.2.1
    · have j0 := i0 (by omega) (by omega)
      have j1 := i1 (by omega) (by omega)
      have j4 := i4 (by omega) (by omega)
      have j5 := i5 (by omega) (by omega)
      rw [eD]
      exact alone_ok tk (by omega) (by omega) ⟨ho, h2⟩ j0.1 j1.2.1 (j4.2 ho) j5
    · have j1 := i1 (by omega) (by omega)
      have j6 := i6 ho (by omega) (by omega)
      rw [eD]
      exact primary_ok tk (by omega) (by omega) ⟨ho, h2⟩ j1.2.2.1 j6
    · obtain ⟨f1, f2, f3, f4, f5, f6⟩ := ff (by omega)
      have hp : ∀ o1, o ≤ o1 → o1 ≤ 25 → XPR u0 TN SN bw (D - 10) o1 (rc_M_behind N d).2.2.2.2.2.2.2.2.2.2.1 := fun o1 q1 q2 => by
        have ee : eR o1 ≤ eR o := by unfold eR; omega
        exact (ih o1 (D - 10) (by omega) q2 (by omega)).2.2.2.2.2.2.2.1 (by omega) (by omega) (by omega)
      rw [eD]
      exact worked_ok tk hN (by omega) ⟨ho, h2⟩ hp f3
    · have j0 := i0 (by omega) (by omega)
      have j1 := i1 (by omega) (by omega)
      have j8 := i8 ho (by omega) (by omega)
      rw [eD]
      exact simple_ok tk hN (by omega) ⟨ho, h2⟩ j8 (j1.2.2.2 ho) j0.2.2
theorem clause_all (tk : TKW u0 TN SN bw) (hN : 20000 ≤ N) : XCL u0 TN SN bw 2890 0 (fr_M_clause N) :=
  ((grp_ok tk hN 300 0 2890 (by omega) (by omega) (by omega)).2.2.2.1 (by unfold eR; omega) (by unfold eR; omega)).1
end
end
section
def pst (k : Nat) : Nat := [0, 6, 13, 19, 27, 34, 43, 49, 55, 61, 68, 75, 82, 87, 93, 101, 108, 115, 120, 131, 140, 149, 159, 167, 179, 187, 191, 195, 203, 212, 218].getD k 0
def plen (k : Nat) : Nat := [4, 5, 4, 6, 5, 7, 4, 4, 4, 5, 5, 5, 3, 4, 6, 5, 5, 3, 9, 7, 7, 8, 6, 10, 6, 2, 2, 6, 7, 4].getD k 0
def TBL (w : MS) : Prop := ∀ k, k < 30 → A w 2 (pst k) = ((npre k : Nat) : Int) ∧ A w 2 (pst k + 1) = ((plen k : Nat) : Int)
theorem pst_f : ∀ k, k < 30 → pst (k + 1) = pst k + plen k + 2 ∧ pst (k + 1) ≤ 218 ∧ plen k ≤ 10 ∧ npre k ≤ 2 := by decide
theorem pst_30 : pst 30 = 218 := rfl
section
variable {Q : MS → Int32 → Prop} {u : MS} {N : Nat} {a : Int} {v2 : Int32}
def PDQ (u : MS) (v2 : Int32) (v : MS) (r : Int32) : Prop := v = u ∧ (r = -1 ∨ ∃ k : Nat, k < 30 ∧ r = I k ∧ v2 = I (npre k))
theorem pd_inner (ha : 0 ≤ a ∧ a < 2199) (h13 : 0 ≤ A u 13 a.toNat ∧ A u 13 a.toNat ≤ A u 13 (a.toNat + 1) ∧ A u 13 (a.toNat + 1) ≤ 5000) {k : Nat} (hk : k < 30) {m0 : Nat} (hO : ∀ m, m0 ≤ m → OK (PDQ u v2) ((gg_M_predefinedOf N m).1 u (I a) v2 (I (pst (k + 1))) (I ((k + 1 : Nat) : Int)))) : ∀ (d i : Nat) (s : Int32), i + d = plen k → (s = 0 ∨ (s = 1 ∧ v2 = I (npre k) ∧ A u 13 (a.toNat + 1) - A u 13 a.toNat = plen k)) → ∀ m, m0 + d + 1 ≤ m → OK (PDQ u v2) ((gg_M_predefinedOf N m).2 u (I a) v2 (I (pst k)) (I k) (I (plen k)) s (I i)) := by
  have pf := pst_f k hk
  have e1 : I (pst k) + (I (plen k) + 2) = I (pst (k + 1)) := by rw [show (2 : Int32) = I 2 from rfl, I_add, I_add]; congr 1; omega
  have e2 : I (k : Int) + 1 = I ((k + 1 : Nat) : Int) := by rw [lit1q, I_add]; rfl
  have f117 : ∀ (s : Int32) (m : Nat), m0 ≤ m → (s = 0 ∨ (s = 1 ∧ v2 = I (npre k))) → OK (PDQ u v2) (fb_M_predefinedOf_117 N (gg_M_predefinedOf N m) u (I a) v2 (I (pst k)) (I k) (I (plen k)) s) := fun s m hm hs => by
    unfold fb_M_predefinedOf_117
    rcases hs with hs | ⟨hs, h2⟩
    · rw [hs, br00, e1, e2]; exact hO m hm
    · rw [hs, br10]; exact ok_some.mpr ⟨rfl, Or.inr ⟨k, hk, rfl, h2⟩⟩
  intro d
  induction d with
  | zero =>
    intro i s hi hs m hm
    obtain ⟨m', rfl⟩ : ∃ m', m = m' + 1 := ⟨m - 1, by omega⟩
    show OK _ (fb_M_predefinedOf_64 N (gg_M_predefinedOf N m') u (I a) v2 (I (pst k)) (I k) (I (plen k)) s (I i))
    unfold fb_M_predefinedOf_64
    refine k_le (x := (plen k : Int)) (y := (i : Int)) ⟨by omega, by omega⟩ ⟨by omega, by omega⟩ (fun _ => f117 s m' (by omega) ?_) (fun y => by omega)
    rcases hs with hs | hs
    · exact Or.inl hs
    · exact Or.inr ⟨hs.1, hs.2.1⟩
  | succ d ih =>
    intro i s hi hs m hm
    obtain ⟨m', rfl⟩ : ∃ m', m = m' + 1 := ⟨m - 1, by omega⟩
    show OK _ (fb_M_predefinedOf_64 N (gg_M_predefinedOf N m') u (I a) v2 (I (pst k)) (I k) (I (plen k)) s (I i))
    unfold fb_M_predefinedOf_64
    refine k_le (x := (plen k : Int)) (y := (i : Int)) ⟨by omega, by omega⟩ ⟨by omega, by omega⟩ (fun y => by omega) (fun _ => ?_)
    rcases hs with hs | ⟨hs, h2, h3⟩
    · rw [hs, br00]; exact f117 0 m' (by omega) (Or.inl rfl)
    · rw [hs, br10]
      have e3 : I (pst k) + 2 + I i = I ((pst k : Int) + 2 + i) := by rw [show (2 : Int32) = I 2 from rfl, I_add, I_add]
      have e4 : u.2.2.1 13 (I a).toNatClampNeg + I i = I (A u 13 a.toNat + i) := by
        rw [I_tn (by omega) (by omega), I_A, I_add]
      have e5 : I (i : Int) + 1 = I ((i + 1 : Nat) : Int) := by rw [lit1q, I_add]; rfl
      rw [e3, e4]
      refine k_in (k := 2) (n := 218) rfl (by decide) (by omega) (k_in (k := 13) (n := 2200) rfl (by decide) (by omega) (k_in (k := 12) (n := 5000) rfl (by decide) (by omega) (ok_br.mpr ⟨fun _ => ?_, fun _ => ?_⟩)))
      · unfold fb_M_predefinedOf_109
        rw [e5]
        exact ih (i + 1) 1 (by omega) (Or.inr ⟨rfl, h2, h3⟩) m' (by omega)
      · unfold fb_M_predefinedOf_109
        rw [e5]
        exact ih (i + 1) 0 (by omega) (Or.inl rfl) m' (by omega)
theorem pd_outer (tb : TBL u) (ha : 0 ≤ a ∧ a < 2199) (h13 : 0 ≤ A u 13 a.toNat ∧ A u 13 a.toNat ≤ A u 13 (a.toNat + 1) ∧ A u 13 (a.toNat + 1) ≤ 5000) : ∀ (d k : Nat), k + d = 30 → ∀ m, 20 * d + 1 ≤ m → OK (PDQ u v2) ((gg_M_predefinedOf N m).1 u (I a) v2 (I (pst k)) (I k)) := by
  intro d
  induction d with
  | zero =>
    intro k hk m hm
    obtain ⟨m', rfl⟩ : ∃ m', m = m' + 1 := ⟨m - 1, by omega⟩
    obtain rfl : k = 30 := by omega
    show OK _ (fb_M_predefinedOf_5 N (gg_M_predefinedOf N m') u (I a) v2 (I (pst 30)) (I (30 : Nat)))
    unfold fb_M_predefinedOf_5
    exact ok_some.mpr ⟨rfl, Or.inl rfl⟩
  | succ d ih =>
    intro k hk m hm
    obtain ⟨m', rfl⟩ : ∃ m', m = m' + 1 := ⟨m - 1, by omega⟩
    have hk3 : k < 30 := by omega
    have pf := pst_f k hk3
    have t := tb k hk3
    show OK _ (fb_M_predefinedOf_5 N (gg_M_predefinedOf N m') u (I a) v2 (I (pst k)) (I k))
    unfold fb_M_predefinedOf_5
    have e0 : Int32.ofNat (ln 2) = I 218 := rfl
    have e1 : I (pst k) + 1 = I ((pst k + 1 : Nat) : Int) := by rw [lit1q, I_add]; rfl
    have e2 : I a + 1 = I (a + 1) := by rw [lit1q, I_add]
    rw [e0, e1, e2]
    refine k_le (x := 218) (y := (pst k : Int)) ⟨by decide, by decide⟩ ⟨by omega, by omega⟩ (fun y => by omega) (fun _ => ?_)
    refine k_in (k := 2) (n := 218) rfl (by decide) (by omega) (ok_lt.mpr (k_in (k := 2) (n := 218) rfl (by decide) (by omega) ?_))
    have y1 : u.2.2.1 2 (I ((pst k + 1 : Nat) : Int)).toNatClampNeg = I (plen k) := by
      rw [I_tn (by omega) (by omega), show ((pst k + 1 : Nat) : Int).toNat = pst k + 1 by omega]; exact I_A' t.2
    have y0 : u.2.2.1 2 (I ((pst k : Nat) : Int)).toNatClampNeg = I (npre k) := by
      rw [I_tn (by omega) (by omega), show ((pst k : Nat) : Int).toNat = pst k by omega]; exact I_A' t.1
    rw [y1, y0]
    have inn : ∀ s : Int32, (s = 0 ∨ (s = 1 ∧ v2 = I (npre k) ∧ A u 13 (a.toNat + 1) - A u 13 a.toNat = plen k)) → OK (PDQ u v2) ((gg_M_predefinedOf N m').2 u (I a) v2 (I (pst k)) (I k) (I (plen k)) s (I (0 : Nat))) := fun s hs => pd_inner ha h13 hk3 (m0 := 20 * d + 1) (fun m hm => ih (k + 1) (by omega) m hm) (plen k) 0 s (by omega) hs m' (by omega)
    refine ok_br.mpr ⟨fun h => ?_, fun _ => inn 0 (Or.inl rfl)⟩
    have h2 : v2 = I (npre k) := (of_decide_eq_true h).symm
    refine k_in (k := 13) (n := 2200) rfl (by decide) (by omega) (k_in (k := 13) (n := 2200) rfl (by decide) (by omega) ?_)
    have e4 : u.2.2.1 13 (I (a + 1)).toNatClampNeg - u.2.2.1 13 (I a).toNatClampNeg = I (A u 13 (a.toNat + 1) - A u 13 a.toNat) := by
      rw [I_tn (x := a + 1) (by omega) (by omega), I_tn (x := a) (by omega) (by omega), show (a + 1).toNat = a.toNat + 1 by omega, I_A (i := a.toNat + 1), I_A (i := a.toNat), I_sub]
    rw [e4]
    have r1 := ARG1 u 13 (a.toNat + 1)
    have r2 := ARG1 u 13 a.toNat
    unfold RG at r1 r2
    by_cases z : A u 13 (a.toNat + 1) - A u 13 a.toNat = plen k
    · rw [z, decide_eq_true rfl, br_tq]
      exact inn 1 (Or.inr ⟨rfl, h2, z⟩)
    · rw [decE (by omega) (by omega) (by omega) (by omega), decide_eq_false z, br_fq]
      exact inn 0 (Or.inl rfl)
theorem predefinedOf_ok (hN : 1000 ≤ N) (tb : TBL u) (at' : ATM u) (ha : 0 ≤ a ∧ a < F u 14) : OK (PDQ u v2) (fm_M_predefinedOf N u (I a) v2) := by
  unfold fm_M_predefinedOf fb_M_predefinedOf_0
  obtain ⟨a1, a2, a3⟩ := at'
  have h := a3 a.toNat (by omega)
  exact pd_outer tb ⟨ha.1, by omega⟩ h 30 0 rfl N (by omega)
end
end
