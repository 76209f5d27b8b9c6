set_option maxRecDepth 100000
section
variable {α : Type} {R : MS → α → MS → Int32 → Prop} {A : Option (MS × α)} {m0 w0 m w v u m2 m3 w2 x y z xB xC mF : MS} {K nm Nk W W1 W2 WA WB : Nat → Nat} {T p n N q X Y X1 X2 XA n2 n3 lo p2 p4 ν μ a b L L' k d o M D : Nat} {sc sc1 sc2 sc3 sc4 sc5 t t2 t3 t4 t5 : SCT} {e e2 e3 e4 e5 : List Nat × List Nat × Nat} {gd Rf Rg Zf : Bool} {BC : MS → Prop} {v1 v2 r : Int32} {S : SG_M_behind} {NC : Nat → Prop} {CL CM : Int32 × Int32 × Int32 → Prop}
def MTB (w y x : MS) (a b L : Nat) : Prop := MID w x a b L ∧ (x.1 32 = w.1 32 ∧ x.1 72 = w.1 72 ∧ (x.1 66 = 0 ↔ w.1 66 = 0)) ∧ (x.1 67 = y.1 67 ∧ x.1 69 = y.1 69 ∧ x.1 70 = y.1 70) ∧ (∀ i, i < L → x.2.2.1 60 i = w.2.2.1 60 i ∧ x.2.2.1 63 i = y.2.2.1 63 i) ∧ ∀ k, k ≠ 60 → k ≠ 63 → k ≠ 78 → x.2.2.1 k = y.2.2.1 k
theorem mat_lps (hR : RNs w (e :: t)) (md : MID w y a b (t.length + 1)) (k : ∀ (M : Nat) (x : MS), MTB w y x a b (t.length + 1) → PP R A (br (decide (x.1 73 = 0)) (fb_M_matched_154 N S (gg_M_matched N S M) x v1 v2) (bnd (fm_M_rule N x 7 v2) (fun u10 _ => fb_M_matched_154 N S (gg_M_matched N S M) u10 v1 v2)))) : PP R A ((gg_M_matched N S N).1 y v1 v2 0) := by
  have hl : 1 ≤ t.length + 1 ∧ t.length + 1 ≤ 27 := hR.2.1
  have w65 : w.1 65 = I (t.length : Nat) := hR.1
  have y65 : y.1 65 = I (t.length : Nat) := by rw [md.2.1 65 (by decide)]; exact w65
  refine mc1 (L := t.length) y65 (by omega) (fun M s s1 s2 s3 => ?_) N 0 y (Nat.zero_le _) rfl (fun _ _ => rfl) (fun j hj => absurd hj (by omega))
  have ms : MID w s a b (t.length + 1) := MID_g md (fun k _ => by rw [s1]) (fun k hk => s2 k (by omega)) hl.2
  refine r_bnd (pk_mo (mat_tb hR ms) (fun x _ h => ?_))
  obtain ⟨h1, h2⟩ := h
  have x65 : x.1 65 = I (t.length : Nat) := by rw [h2.2.1 65 (by decide)]; exact w65
  refine mc2 (L := t.length) x65 (by omega) (fun M z z1 z2 z3 => ?_) M 0 x (Nat.zero_le _) rfl (fun _ _ => rfl) (fun j hj => absurd hj (by omega))
  refine k M z ⟨MID_g h2 (fun k _ => by rw [z1]) (fun k hk => z2 k (by omega)) hl.2, by rw [z1]; exact h1.1, ?_, fun i hi => ?_, fun k k1 k2 k3 => ?_⟩
  · rw [z1, h1.2.1 67 (by decide), h1.2.1 69 (by decide), h1.2.1 70 (by decide), s1]
    exact ⟨rfl, rfl, rfl⟩
  · rw [z2 60 (by decide), (h1.2.2.2.1 i hi).1, z3 i hi, h1.2.2.1 78 (by decide) (by decide), s3 i hi]
    exact ⟨rfl, rfl⟩
  · rw [z2 k k2, h1.2.2.1 k k1 k2, s2 k k3]
theorem mat_W (hA : WCN Nk K nm WA p q (e :: t)) (h2 : WCN Nk K nm W2 p q sc4) (hB : SCX ((e.1, e3.2.1, e3.2.2) :: t3) sc4 X1) (sB : SNW X1 ((e.1, e3.2.1, e3.2.2) :: t3) sc4) (hx : BDs t t3) : ∀ j, p ≤ j → j < q → K j = 3 → WA j + 1 < (e :: t).length → W2 j ≤ WA j := fun j h1 h3 h4 h5 => by
  obtain ⟨a1, a2⟩ := hA j h1 h3 h4
  obtain ⟨b1, b2⟩ := h2 j h1 h3 h4
  by_cases z : nm (Nk j) ≠ 0 ∧ fnb (Nk j) (e :: t) = true
  · have f1 : fnb (Nk j) ((e.1, e3.2.1, e3.2.2) :: t3) = true := by
      rw [fnb_cons, BDs_fnb hx, ← fnb_cons (e := e)]; exact z.2
    have l1 : lvx (Nk j) ((e.1, e3.2.1, e3.2.2) :: t3) = lvx (Nk j) (e :: t) := by
      rw [lvx_cons, lvx_cons, BDs_lvx hx, (BDs_len hx).1]
    rw [a1 z.1 z.2, b1 z.1 (SCX_fnb hB f1), lvx_up hB sB f1, l1]
    exact Nat.le_refl _
  · exfalso
    have := a2 (by
      by_cases y : nm (Nk j) = 0
      · exact Or.inl y
      · refine Or.inr ?_
        cases i : fnb (Nk j) (e :: t) with
        | false => rfl
        | true => exact absurd ⟨y, i⟩ z)
    omega
theorem SMS_fg (h : SMS w v) : SMS (fgt w) (fgt v) := by
  obtain ⟨h1, h2, h3⟩ := h
  refine ⟨fun k hk => ?_, h2, fun a ha hb => ?_⟩
  · by_cases z : k = 75
    · subst z; unfold fgt; rw [upI_ne (by decide), upI_at, upI_ne (by decide), upI_at, h1 75 (by decide)]
    by_cases z2 : k = 77
    · subst z2; unfold fgt; rw [upI_at, upI_at, h1 77 (by decide)]
    rw [fgt_i z z2, fgt_i z z2]; exact h1 k hk
  · rw [fgt_i (by decide) (by decide)] at ha
    obtain ⟨b, b1, b2, b3⟩ := h3 a ha hb
    exact ⟨b, ⟨by rw [fgt_i (by decide) (by decide)]; exact b1.1, b1.2⟩, b2, b3⟩
theorem mat_fin (c : CTZ m0 w0 K T nm Nk) (hw : RLP m0 w0 T p m w) (hR : RNs w (e :: t)) (h70 : w.1 70 = I ((o + 1 : Nat) : Int)) (hq : p < q) (k30 : K q = 30) (hn0 : n ≤ 2 * p)
    (kp : KPO n m m2) (pc : PCG m m2) (nb : m2.1 306 = I (n2 : Nat) ∧ n ≤ n2 ∧ n2 + 2 * p + 1 ≤ n + 2 * q) (hμ : n < μ ∧ μ ≤ n2)
    (hA : SCX (e :: t) (e3 :: t3) XA) (dA : HDs Nk K WA p q (e :: t) (e3 :: t3)) (ok3 : e3.1.Nodup) (cA : WCN Nk K nm WA p q (e :: t)) (pA : PNM Nk K nm p q (e :: t) (e3 :: t3) XA)
    (hP : PTX N w0 K T nm Nk m2 n n2 μ p q o NC0 X)
    (hp : ∀ (d : Nat) (w : MS) (sc : SCT) (o' : Nat), WP w K T p → Ktc w0 w → w.1 67 = 0 → w.1 70 = I (o' : Nat) → o' ≤ o → RNs w sc → PK (fun w2 (_ : Int32) => PZW Nk K nm T p q sc w w2 (fun sc2 X W => PTN N K nm m2 n n2 μ false p q sc sc2 X W)) ((rc_M_rowPattern N d).2 w 0))
    (xb : MTB w y xB a b (t.length + 1)) (y70 : y.1 70 = w.1 70) (ny : ∀ A : Nat, w.1 32 = I (A : Nat) → A ≤ 100000 → NKP A w y) (hxC : (gd = false ∧ xC = xB) ∨ (gd = true ∧ xC.1 72 ≠ 0 ∧ (∀ k, k ≠ 71 → k ≠ 72 → xC.1 k = xB.1 k) ∧ xC.2.2.1 = xB.2.2.1))
    (hkk : ∃ k : Nat, (k = 1 → p + 1 = q) ∧ (k ≠ 1 → K p = 1 → NC0 (K (p + 1))))
    {CL : Int32 × Int32 × Int32 → Prop} {xr : Nat} (st : STQ m0 w0 K T Nk gd (advc m2 q) (adv xC q) (q + 1) n2 ((e.1, e3.2.1, e3.2.2) :: t3) 1 m3 u p4 n3 sc4 X1 W1 Rf Zf CL) (hr4 : q + 1 < p4) (hxr : n2 < xr ∧ xr ≤ n3) (ex : EXN N K nm gd m3 n2 n3 xr (q + 1) p4 ((e.1, e3.2.1, e3.2.2) :: t3) sc4 X1 W1 Rf Zf (BCo N CL)) :
    PK (fun v r => EXZ N m0 w0 K T nm Nk p n gd (e :: t) o NC1 m w (adN m3 n3 20 (I (q : Nat)) (I (μ : Nat)) (I (xr : Nat)) 0) (.inl (I ((n3 + 1 : Nat) : Int))) (fgt v) r) (lt (upI u 69 (I (p : Nat))) (fun w3 => lt (upI w3 70 ((w3.1 70) - 1)) (fun w4 => bnd (fr_M_patternAt N w4 0) (fun u5 r5 => lt (upI u5 70 ((u5.1 70) + 1)) (fun w6 => lt (upI w6 69 (u.1 69)) (fun w7 => bnd (fm_M_node N w7 16 (I (q : Nat))) (fun u8 r8 => ck (inb r8 (ln 25)) (lt (upA u8 25 (upd (u8.2.2.1 25) r8.toNatClampNeg r5)) (fun w9 => some (w9, r8)))))))))) := by
  have hl : 1 ≤ t.length + 1 ∧ t.length + 1 ≤ 27 := hR.2.1
  obtain ⟨s1, s2, s3, s4, s5, s6, s7⟩ := st
  obtain ⟨f1, f2, f3, f4, f5, f6, f7, A0, B0, f8, f9, f10⟩ := s5
  have T4 := c.1.1.1
  have pT : p4 ≤ T := s1.2.2.2.2.1
  have cI : ∀ k, k ≠ 71 → k ≠ 72 → xC.1 k = xB.1 k := fun k k1 k2 => by
    rcases hxC with ⟨-, z⟩ | ⟨-, -, z, -⟩
    · rw [z]
    · exact z k k1 k2
  have cR : xC.2.2.1 = xB.2.2.1 := by
    rcases hxC with ⟨-, z⟩ | ⟨-, -, -, z⟩
    · rw [z]
    · exact z
  have aI : ∀ k, k ≠ 69 → k ≠ 71 → k ≠ 72 → (adv xC q).1 k = xB.1 k := fun k k0 k1 k2 => by
    unfold adv
    rw [upI_ne k0]; exact cI k k1 k2
  have aR : (adv xC q).2.2.1 = xB.2.2.1 := cR
  have mC : MID w (adv xC q) a b (t.length + 1) := MID_g xb.1 (fun k hk => aI k (by rintro rfl; revert hk; decide) (by rintro rfl; revert hk; decide) (by rintro rfl; revert hk; decide)) (fun k _ => by rw [aR]) hl.2
  have mU : MID w u a b (t.length + 1) := MID_e mC hl.2 f7
  have ku := MID_kt mU hw.2.1
  have u67 : u.1 67 = 0 := s1.2.2.2.2.2.2
  have u69 : u.1 69 = I (p4 : Nat) := s1.2.2.2.1
  have u70 : u.1 70 = w.1 70 := by
    rw [f7.1 70 (by decide), aI 70 (by decide) (by decide) (by decide), xb.2.2.1.2.2, y70]
  have u70' : u.1 70 = I ((o + 1 : Nat) : Int) := u70.trans h70
  refine pk_lt (pk_lt (pk_bnd (pk_mo (pk_and (hp 60 (p1s u p) sc4 o (p1s_w c ku hw.2.2.2.2.1) (p1s_k ku) (by rw [p1s_i (by decide) (by decide)]; exact u67) (p1s_70 u70') (Nat.le_refl _) (p1s_r f1)) (yj_fr_M_patternAt (u0 := p1s u p) (v1 := 0) (N := N) Kj_rf)) (fun v r5 h => ?_))))
  obtain ⟨⟨sc5, X2, W2, g1, g2, g3, g4, ⟨g5, g5b⟩, g6, g7, g8, g9, g10⟩, kj⟩ := h
  refine pk_lt (pk_lt ?_)
  generalize hw7 : upI (upI v 70 (v.1 70 + 1)) 69 (u.1 69) = w7
  have i7 : ∀ k, k ≠ 69 → k ≠ 70 → w7.1 k = v.1 k := fun k k1 k2 => by rw [← hw7, upI_ne k1, upI_ne k2]
  have r7 : w7.2.2.1 = v.2.2.1 := by rw [← hw7]; rfl
  have w69 : w7.1 69 = I (p4 : Nat) := by rw [← hw7, upI_at]; exact u69
  have w70 : w7.1 70 = w.1 70 := by
    rw [← hw7, upI_ne (by decide), upI_at, g7.1 70 (by decide), p1s_70 u70', h70]
    exact i_suc
  clear hw7
  have m7 : MID w w7 a b (t.length + 1) := by
    have mv : MID w v a b (t.length + 1) := MID_j (MID_g mU (fun k hk => p1s_i (by rintro rfl; revert hk; decide) (by rintro rfl; revert hk; decide)) (fun _ _ => rfl) hl.2) hl.2 kj
    exact MID_g mv (fun k hk => i7 k (by rintro rfl; revert hk; decide) (by rintro rfl; revert hk; decide)) (fun k _ => by rw [r7]) hl.2
  have w67 : w7.1 67 = 0 := by rw [i7 67 (by decide) (by decide), g7.1 67 (by decide), p1s_i (by decide) (by decide)]; exact u67
  have rn7 : RNs w7 sc5 := RNs_e g2 (i7 65 (by decide) (by decide)) (fun k _ _ => by rw [r7])
  cases sc4 with
  | nil => exact f2.elim
  | cons e4 t4 =>
  cases sc5 with
  | nil => exact g3.elim
  | cons e5 t5 =>
  have okl : e.1.length ≤ e.2.2 := hR.2.2.2.1.2.2.2.1
  have hX := mat_X ok3 okl hA pA f2 s7 g3 g9
  have scx := mat_SCX hA f2 g3 hX
  have lt5 := (BDs_len hA.2.2).2
  have totB : tot ((e.1, e3.2.1, e3.2.2) :: t3) = tot (e :: t) := by
    show tot t3 + e.1.length = tot t + e.1.length
    rw [lt5]
  rw [totB] at f4
  have nmB : nms ((e.1, e3.2.1, e3.2.2) :: t3) = nms (e :: t) := by
    show e.1 :: nms t3 = e.1 :: nms t
    rw [BDs_nm hA.2.2]
  have sn : SNW (max X1 X2) (e :: t) (e5 :: t5) := by
    have := SNW_tr s7 f2 (PNM_sn g9)
    refine ⟨fun x hx => ?_, this.2⟩
    rcases this.1 x hx with z | z
    · exact Or.inl z
    · refine Or.inr ?_
      rw [fnb_cons, BDs_fnb hA.2.2] at z
      rw [fnb_cons]; exact z
  have hds : HDs Nk K (mrg q W2 W1) p p4 (e :: t) (e5 :: t5) := HDs_mat ⟨by omega, by omega⟩ (by omega) dA (HDs_B (e2 := e3) f3 rfl) g4 (mat_W cA g8 f2 s7 hA.2.2)
  have n32 : w7.1 32 = u.1 32 := by rw [i7 32 (by decide) (by decide), kj.1 32 (by decide), p1s_i (by decide) (by decide)]
  have r23 : ∀ k, k < 33 → w7.2.2.1 k = u.2.2.1 k := fun k hk => by rw [r7, kj.2 k (Or.inl hk)]; rfl
  have w32 : w.1 32 = I (A0 : Nat) := by rw [← xb.2.1.1, ← aI 32 (by decide) (by decide) (by decide)]; exact f8.1
  have nyC : NKP A0 w (adv xC q) := fun j hj => by
    have := ny A0 w32 (by omega) j hj
    rw [aR, xb.2.2.2.2 23 (by decide) (by decide) (by decide), xb.2.2.2.2 25 (by decide) (by decide) (by decide), xb.2.2.2.2 26 (by decide) (by decide) (by decide), xb.2.2.2.2 27 (by decide) (by decide) (by decide)]
    exact this
  have stq : STQ m0 w0 K T Nk gd m w p n (e :: t) 2 m3 (fgt w7) p4 n3 (e5 :: t5) (max X1 X2) (mrg q W2 W1) (gd || Rf) Zf CL := by
    refine ⟨⟨s1.1, ?_, s1.2.2.1, by rw [fgt_i (by decide) (by decide)]; exact w69, pT, by rw [fgt_i (by decide) (by decide), w70, ← u70]; exact s1.2.2.2.2.2.1, by rw [fgt_i (by decide) (by decide)]; exact w67⟩, ⟨by omega, s2.2.1, by omega, by omega⟩, KPO_tr kp s3 (by omega), PCG_tr (PCG_I pc (Or.inr (Or.inr rfl))) s4, ⟨RNs_fg rn7, scx, hds, ⟨by omega, by omega⟩, ?_, ?_, MID_fg m7 (by rw [w67, hw.2.2.2.2.2.2]) w70, A0, B0, ⟨w32, by rw [fgt_i (by decide) (by decide), n32]; exact f8.2.1, f8.2.2⟩, fun x => ?_, NKP_tr nyC (NKP_tr f10 (fun j hj => ?_) (Nat.le_refl _)) (Nat.le_refl _)⟩, fun g z => ?_, sn⟩
    · exact Kt_I (Kt_I (MID_kt m7 hw.2.1) (by decide)) (by decide)
    · rw [fgt_i (by decide) (by decide), i7 66 (by decide) (by decide)]
      refine mat_lg (g1 := xB.1 66) (g2 := u.1 66) hA f2 hX xb.2.1.2.2 ?_ ?_
      · rw [f5, aI 66 (by decide) (by decide) (by decide)]
      · rw [g6, p1s_i (by decide) (by decide)]
    · rw [fgt_i (by decide) (by decide), i7 72 (by decide) (by decide), g7.1 72 (by decide), p1s_i (by decide) (by decide), f6]
      unfold adv
      rw [upI_ne (by decide)]
      rcases hxC with ⟨z1, z2⟩ | ⟨z1, z2, -, -⟩
      · rw [z1, z2, xb.2.1.2.1, Bool.false_or]
      · rw [z1, Bool.true_or]
        exact ⟨fun z => absurd z.1 z2, fun z => Bool.noConfusion z.2⟩
    · have : CSY (fgt w7) A0 B0 x ↔ CSY u A0 B0 x := by
        unfold CSY
        show (∃ j, (A0 ≤ j ∧ j < B0) ∧ ((w7.2.2.1 23 j = 12 ∧ x.2.2 = if w7.2.2.1 27 j = 1 then 1 else 0) ∨ (w7.2.2.1 23 j = 15 ∧ x.2.2 = 2)) ∧ w7.2.2.1 25 j = x.1 ∧ w7.2.2.1 26 j = x.2.1) ↔ _
        rw [r23 23 (by decide), r23 25 (by decide), r23 26 (by decide), r23 27 (by decide)]
      rw [this]; exact f9 x
    · show w7.2.2.1 23 j = _ ∧ (_ → w7.2.2.1 25 j = _ ∧ w7.2.2.1 26 j = _ ∧ w7.2.2.1 27 j = _)
      rw [r23 23 (by decide), r23 25 (by decide), r23 26 (by decide), r23 27 (by decide)]
      exact ⟨rfl, fun _ => ⟨rfl, rfl, rfl⟩⟩
    · rw [g] at z; cases z
  refine pk_bnd (pk_mo (node_s (kd := 16) (tk := I (q : Nat)) (N := N) (w := w7) (by decide)) (fun u8 r8 h8 => pk_ck (fun _ => pk_lt (pk_some ?_))))
  obtain ⟨b1, b2, -, av, ⟨b3, b3'⟩, b4, b5, b6, b7⟩ := h8
  have sms := SMS_B (k := 25) (x := r5) (a := av) b1 (Or.inl rfl) (by rw [b6]; decide)
  rw [b7]
  generalize hx9 : upA u8 25 (upd (u8.2.2.1 25) av r5) = x9 at sms ⊢
  have x69 : x9.1 69 = w7.1 69 := by rw [← hx9]; exact b2
  clear hx9
  have st9 := STQ_s stq (SMS_fg sms) (by rw [fgt_i (by decide) (by decide), fgt_i (by decide) (by decide)]; exact x69)
  have nn : n3 ≤ 8014 := by omega
  have hn : nod (adN m3 n3 20 (I (q : Nat)) (I (μ : Nat)) (I (xr : Nat)) 0) (n3 + 1) = (I ((20 : Nat) : Int), I (q : Nat), I (μ : Nat), I (xr : Nat), 0) := adN_nod.1
  have kc : Kcc m2 m3 := Kc_tr (PCG_k (PCG_I (m := m2) PCG_rf (Or.inr (Or.inr rfl)) : PCG m2 (advc m2 q))) (PCG_k s4)
  have kcF : Kcc m3 (adN m3 n3 20 (I (q : Nat)) (I (μ : Nat)) (I (xr : Nat)) 0) := PCG_k (PCG_add PCG_rf)
  refine ⟨p4, n3 + 1, n3 + 1, e5 :: t5, max X1 X2, mrg q W2 W1, gd || Rf, Zf, CL, rfl, ⟨by omega, Nat.le_refl _⟩, by omega, STQ_add st9, adN_nod.2, ?_, PTX_der hP hn (by omega) (Nat.le_refl _) (by omega) (by decide) (by decide) (by decide) (fun _ z => Or.inl z) (Or.inr (Or.inl k30)), 20, ?_, by decide, fun z => absurd z (by decide), fun _ z => ?_, q, by omega, ?_⟩
  · cases gd with
    | true => exact exn_ng (kd := 20) (by unfold CMK; omega) ⟨by decide, by decide⟩ hn (by omega) (by omega) (Nat.le_refl _) (by omega)
    | false =>
      refine exn_mat (gd := false) (q := p) (q2 := q) (q3 := q + 1) (q4 := p4) (sc1 := e4 :: t4) (m0 := m2) (l0 := n) (n0 := n2) (m1 := m3) (li := n2) (n1 := n3) hn (by omega) (by omega) (Nat.le_refl _) (by omega) ⟨Nat.le_refl _, by omega, by omega, by omega, Nat.le_refl _⟩ (fun j h1 h2 => absurd h2 (by omega)) (fun j h1 h2 => by rw [show j = q by omega]; omega) (fun j h1 h2 => absurd h2 (by omega)) (PTN_w (fun j _ h2 => mrg_l h2) g10) (Nat.le_refl _) (KPO_tr s3 adN_o (by omega)) (Kc_tr kc kcF) (by omega) (EXN_nm nmB (EXN_w (fun j h1 _ => mrg_r (by omega)) ex)) (by omega) adN_o kcF (by omega) ⟨by omega, by rw [SCX_len f2]; show t3.length + 1 = t.length + 1; rw [(BDs_len hA.2.2).1], by omega⟩
  · rw [adN_16, upd_at]; rfl
  · obtain ⟨kk, h1, h2⟩ := hkk
    by_cases z1 : kk = 1
    · rw [h1 z1, k30]; exact Or.inr (Or.inl rfl)
    · exact Or.inl (h2 z1 z)
  · rw [adN_17, upd_at]
end
