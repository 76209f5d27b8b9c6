/-! patterns: LISTS, both; all patterns -/
set_option maxRecDepth 100000
section
variable {m0 w0 m w mS m2 w2 m3 w3 : MS} {K nm Nk W : Nat → Nat} {T N n lo hi mid f s a a0 b cm cm2 cm3 pi pj kk first last d D xb r kd cl : Nat} {sc sc2 sc3 : SCT} {own : Bool} {x v1 v2 v3 : Int32}
theorem PTL_le {C : Nat → Int} {R : Nat → Nat → Int} {J : Nat → Int64} {H : List Nat} {k i p l j : Nat} {O O2 : List Nat} (h : PTL C R J H f s k i p O j l O2) : 1 ≤ k := by
  cases k with
  | zero => exact h.elim
  | succ k => omega
/-- the end of a LIST without a rest: three words there -/
theorem lst_fin {S : SG_M_rowPattern} {G : MS → Int32 → Int32 → Int32 → Int32 → Int32 → Int32 → Int32 → Option (MS × Int32)} (c : CTZ m0 w0 K T nm Nk) (hlo : lo < T) (hk : K lo = 24) (hp5 : pi < 5000) (hlh : lo + 2 ≤ hi) (hkk : kk ≤ 8) (ra : RWA m0 w0 K T nm Nk f 1 (lo + 1) own a cm pi sc m (wRW w pi 6 lo) kk first last m2 w2 (hi - 1) b cm2 pj sc2) (hC : PCS m0 nm m3 (b + 3) cm2 sc2 own) (hf : CFP m2 m3 b (sc2.length - 1)) (h42 : m3.2.2.1 42 = m2.2.2.1 42) (hw : A m3 23 b = 1 ∧ A m3 23 (b + 1) = 6 ∧ A m3 23 (b + 2) = 0) : PP (fun m3 z v r => PTZ m0 w0 K T nm Nk (f + 1) lo hi own a cm pi sc m w m3 z (upI v 70 (v.1 70 - 1)) r) (some (m3, ())) (kb_M_rowPattern_194 N S G w2 5 (I (pi : Nat)) (I (kk : Nat))) := by
  obtain ⟨r1, r2, r3, r4, ⟨W, r5, r6⟩, r7, r8, r9, r10⟩ := ra
  obtain ⟨x1, x2, x3⟩ := wRW_at (w := w) (pi := pi) (x := 6) (lo := lo)
  have sl : sc2.length = sc.length := NMX_len r4.1
  rw [sl] at hf
  refine rowd_fin (x := 6) (v2 := 0) (kd := 24) (cl := 25) (W := W) c hlo hk (Or.inr ⟨rfl, rfl, rfl, rfl, rfl⟩) hp5 hlh hC r2 r3.2.2 (by omega) r4.1 (by have := r4.2; omega) r5 ?_ ?_ r8 ?_ (fun C R J H gc gr gp gh => ?_)
  · rw [h42, r6]
  · exact CFP_tr r7 hf (by omega)
  · rw [r9.2.2]; exact x2
  · obtain ⟨g1, g2, g3, g4, -, -⟩ := gp pi (Nat.le_refl _) r3.2.2
    have p33 : R 33 pi = 6 := by
      rw [g1]
      show ((upA w2 35 _).2.2.1 33 pi).toInt = 6
      rw [upA_no (by decide), r9.1, x1]; rfl
    have p35 : R 35 pi = ((kk : Nat) : Int) := by
      rw [g2]
      show ((upA w2 35 _).2.2.1 35 pi).toInt = _
      rw [upA_at, upd_at]
      exact I_ti (by omega) (by omega)
    have p36 : R 36 pi = (w2.2.2.1 36 pi).toInt := by
      rw [g3]
      show ((upA w2 35 _).2.2.1 36 pi).toInt = _
      rw [upA_no (by decide)]
    have p38 : R 38 pi = 0 := by
      rw [g4]
      show ((upA w2 35 _).2.2.1 38 pi).toInt = _
      rw [upA_no (by decide), r9.2.1, x3]; rfl
    have cb0 : C b = 1 := (gc b (by omega) (by omega)).trans hw.1
    have cb1 : C (b + 1) = 6 := (gc (b + 1) (by omega) (by omega)).trans hw.2.1
    have cb2 : C (b + 2) = 0 := (gc (b + 2) (by omega) (by omega)).trans hw.2.2
    refine Or.inr (Or.inr (Or.inr (Or.inr (Or.inr (Or.inr ⟨p33, kk, ⟨p35, hkk⟩, ?_⟩)))))
    rcases r10 with ⟨y1, y2, y3, y4, y5⟩ | ⟨y1, y2, y3, y4, y5⟩
    · subst y1
      subst y4
      subst y2
      exact ⟨fun _ => b, fun _ => 0, fun _ => Onm nm sc2, rfl, rfl, fun z => by omega, fun k hk => by omega, Or.inl ⟨p38, cb0, cb1, cb2, rfl, rfl⟩⟩
    · obtain ⟨ci, cp, co, h1, h2, h3, h4, h5, h6, h7⟩ := PTL_fn (y5 C R J H (AGC_sub (p := b) (b := b + 3) gc (fun j hj => hf.2.2.1 j hj) (by omega)) gr (agp_1 gp y3.2.1) gh)
      have pj5 := r2.2.2.2.2.2.2
      have hfi : R 36 pi = ((first : Nat) : Int) := by
        rw [p36, y2]
        exact I_ti (by omega) (by omega)
      exact ⟨ci, cp, co, h1, h3, fun _ => by rw [hfi, h5], fun k hk => ⟨(h7 k hk).1 rfl, (h7 k hk).2.1, (h7 k hk).2.2⟩, Or.inl ⟨p38, by rw [h2]; exact cb0, by rw [h2]; exact cb1, by rw [h2]; exact cb2, by rw [h2], h4.symm⟩⟩
/-- the end of a LIST with a rest -/
theorem lst_bar {S : SG_M_rowPattern} {G : MS → Int32 → Int32 → Int32 → Int32 → Int32 → Int32 → Int32 → Option (MS × Int32)} (c : CTZ m0 w0 K T nm Nk) (hlo : lo < T) (hk : K lo = 24) (hp5 : pi < 5000) (hlh : lo + 2 ≤ hi) (hkk : kk ≤ 8) (hk1 : 1 ≤ kk) (hmid : lo + 1 ≤ mid ∧ mid + 1 ≤ hi - 1) (k29 : K mid = 29) (ra : RWA m0 w0 K T nm Nk f 1 (lo + 1) own a cm pi sc m (wRW w pi 6 lo) kk first last m2 w2 mid b cm2 pj sc2) {y : Int32} {z : Unit} (hz : PTZ m0 w0 K T nm Nk f (mid + 1) (hi - 1) own b cm2 pj sc2 m2 (adv w2 mid) m3 z w3 y) : PP (fun m3 z v r => PTZ m0 w0 K T nm Nk (f + 1) lo hi own a cm pi sc m w m3 z (upI v 70 (v.1 70 - 1)) r) (some (m3, ())) (br (decide (I (last : Nat) = (-1 : Int32))) (kb_M_rowPattern_186 N S G w3 5 (I (pi : Nat)) (I (kk : Nat))) (ck (inb (I (last : Nat)) (ln 37)) (lt (upA w3 37 (upd (w3.2.2.1 37) (I (last : Nat)).toNatClampNeg y)) (fun w6 => kb_M_rowPattern_186 N S G w6 5 (I (pi : Nat)) (I (kk : Nat)))))) := by
  obtain ⟨r1, r2, r3, r4, ⟨W, r5, r6⟩, r7, r8, r9, r10⟩ := ra
  obtain ⟨x1, x2, x3⟩ := wRW_at (w := w) (pi := pi) (x := 6) (lo := lo)
  have sl : sc2.length = sc.length := NMX_len r4.1
  obtain ⟨pn, b3, pj3, cm3, sc3, W3, e1, e2, e3, e4, e5, e6, e7, e8, e9, e10, e11⟩ := hz
  rw [sl] at e9
  rcases r10 with ⟨y1, -⟩ | ⟨y1, y2, y3, y4, y5⟩
  · omega
  · have pj5 := r2.2.2.2.2.2.2
    have pj53 := e5.2.2.2.2.2.2
    have hl9 : mid < T := c.1.1.lt r2.2.1.2 (by omega) (by omega)
    rw [decide_eq_false (nat_ne2 (by omega)), br_f]
    refine r_ck (fun _ => r_lt ?_)
    rw [i_nt2 (by omega)]
    unfold kb_M_rowPattern_186
    refine r_ck (fun _ => r_lt ?_)
    rw [i_nt2 (by omega), show vp_nar .boolean 1 = 1 from rfl]
    subst e1
    -- the state behind
    have old : ∀ k q, q < pj → k < 59 → w3.2.2.1 k q = w2.2.2.1 k q := fun k q hq hk => e10.2.2.1 k q hq hk
    have q5 : PRd w0 T (upA w3 37 (upd (w3.2.2.1 37) last (I (pn : Nat)))) (hi - 1) pj3 sc3 := PRS_k e5 (fun _ _ _ _ => rfl) (fun k hk => upA_no (by omega)) e5.2.1.1 e5.2.1.2 e5.2.2.2.2.2.1 e5.2.2.2.2.2.2
    have q8 : RFP (wRW w pi 6 lo) (upA w3 37 (upd (w3.2.2.1 37) last (I (pn : Nat)))) pi := RFP_A (RFP_tr r8 (RFP_tr (RFP_I RFP_rf (Or.inr (Or.inr rfl))) e10 (Nat.le_refl _)) (by omega)) (by decide) (by omega)
    have o37 : ∀ k q, k ≠ 37 → (upA w3 37 (upd (w3.2.2.1 37) last (I (pn : Nat)))).2.2.1 k q = w3.2.2.1 k q := fun k q h => by rw [upA_no h]
    have n37 : ∀ q, q ≠ last → (upA w3 37 (upd (w3.2.2.1 37) last (I (pn : Nat)))).2.2.1 37 q = w3.2.2.1 37 q := fun q h => by rw [upA_at, upd_no h]
    have l37 : (upA w3 37 (upd (w3.2.2.1 37) last (I (pn : Nat)))).2.2.1 37 last = I (pn : Nat) := by rw [upA_at, upd_at]
    have j37 : (upA w3 37 (upd (w3.2.2.1 37) last (I (pn : Nat)))).2.2.2 = w3.2.2.2 := rfl
    generalize upA w3 37 (upd (w3.2.2.1 37) last (I (pn : Nat))) = w4 at q5 q8 o37 n37 l37 j37
    have s5 : PRd w0 T (upA w4 38 (upd (w4.2.2.1 38) pi 1)) (hi - 1) pj3 sc3 := PRS_k q5 (fun _ _ _ _ => rfl) (fun k hk => upA_no (by omega)) q5.2.1.1 q5.2.1.2 q5.2.2.2.2.2.1 q5.2.2.2.2.2.2
    have s8 : RFP (wRW w pi 6 lo) (upA w4 38 (upd (w4.2.2.1 38) pi 1)) pi := RFP_A q8 (by decide) (Nat.le_refl _)
    have o38 : ∀ k q, k ≠ 38 → (upA w4 38 (upd (w4.2.2.1 38) pi 1)).2.2.1 k q = w4.2.2.1 k q := fun k q h => by rw [upA_no h]
    have n38 : ∀ q, q ≠ pi → (upA w4 38 (upd (w4.2.2.1 38) pi 1)).2.2.1 38 q = w4.2.2.1 38 q := fun q h => by rw [upA_at, upd_no h]
    have l38 : (upA w4 38 (upd (w4.2.2.1 38) pi 1)).2.2.1 38 pi = 1 := by rw [upA_at, upd_at]
    have j38 : (upA w4 38 (upd (w4.2.2.1 38) pi 1)).2.2.2 = w4.2.2.2 := rfl
    generalize upA w4 38 (upd (w4.2.2.1 38) pi 1) = w5 at s5 s8 o38 n38 l38 j38
    have gap : ∀ j, mid ≤ j → j < mid + 1 → K j ≠ 3 := fun j a b => by rw [show j = mid by omega]; omega
    have hHD : HDw own nm Nk K (mrw (mid + 1) W W3) (lo + 1) (hi - 1) sc sc3 := mrw_tr (by omega) (by omega) (HDw_tr hmid.1 (by omega) r5 (HDw_gap gap)) e7
    refine rowd_fin (x := 6) (v2 := 0) (kd := 24) (cl := 25) (W := mrw (mid + 1) W W3) c hlo hk (Or.inr ⟨rfl, rfl, rfl, rfl, rfl⟩) hp5 hlh e4 s5 (by omega) (by omega) (NMX_tr r4.1 e6.1) (by have := r4.2; have := e6.2; omega) hHD ?_ ?_ s8 ?_ (fun C R J H gc gr gp gh => ?_)
    · rw [e8, r6, ← wup_ex1 (K := K) (W := W) (g := m.2.2.1 42) hmid.1 (by omega), mrw_wup (by omega) (by omega)]
    · exact CFP_tr r7 e9 (by omega)
    · rw [o38 37 _ (by decide), n37 pi (by omega), old 37 pi (by omega) (by decide), r9.2.2]; exact x2
    · -- rows at the end
      have fin : ∀ q, pi ≤ q → q < pj3 → (R 33 q = A w3 33 q ∧ R 36 q = A w3 36 q) ∧ (q ≠ pi → R 35 q = A w3 35 q ∧ R 38 q = A w3 38 q) ∧ J q = w3.2.2.2 34 q ∧ (q ≠ pi → q ≠ last → R 37 q = A w3 37 q) ∧ (q = last → R 37 q = ((pn : Nat) : Int)) := fun q q1 q2 => by
        obtain ⟨g1, g2, g3, g4, g5, g6⟩ := gp q q1 q2
        refine ⟨⟨?_, ?_⟩, fun z => ⟨?_, ?_⟩, ?_, fun z z2 => ?_, fun z => ?_⟩
        · rw [g1]
          show ((upA w5 35 _).2.2.1 33 q).toInt = _
          rw [upA_no (by decide), o38 33 q (by decide), o37 33 q (by decide)]; rfl
        · rw [g3]
          show ((upA w5 35 _).2.2.1 36 q).toInt = _
          rw [upA_no (by decide), o38 36 q (by decide), o37 36 q (by decide)]; rfl
        · rw [g2]
          show ((upA w5 35 _).2.2.1 35 q).toInt = _
          rw [upA_at, upd_no z, o38 35 q (by decide), o37 35 q (by decide)]; rfl
        · rw [g4]
          show ((upA w5 35 _).2.2.1 38 q).toInt = _
          rw [upA_no (by decide), n38 q z, o37 38 q (by decide)]; rfl
        · rw [g5]
          show w5.2.2.2 34 q = _
          rw [j38, j37]
        · rw [g6 z]
          show ((upA w5 35 _).2.2.1 37 q).toInt = _
          rw [upA_no (by decide), o38 37 q (by decide), n37 q z2]; rfl
        · rw [g6 (by omega)]
          show ((upA w5 35 _).2.2.1 37 q).toInt = _
          rw [upA_no (by decide), o38 37 q (by decide), z, l37]
          exact I_ti (by omega) (by omega)
      obtain ⟨-, g2, -, g4, -, -⟩ := gp pi (Nat.le_refl _) (by omega)
      obtain ⟨⟨p33, p36⟩, -⟩ := fin pi (Nat.le_refl _) (by omega)
      have ow : ∀ k q, q < pj → k < 59 → A w3 k q = A w2 k q := fun k q hq hk => by
        show (w3.2.2.1 k q).toInt = _
        rw [old k q hq hk]; rfl
      have p33 : R 33 pi = 6 := by
        rw [p33, ow 33 pi (by omega) (by decide)]
        show (w2.2.2.1 33 pi).toInt = 6
        rw [r9.1, x1]; rfl
      have p36 : R 36 pi = ((first : Nat) : Int) := by
        rw [p36, ow 36 pi (by omega) (by decide)]
        show (w2.2.2.1 36 pi).toInt = _
        rw [y2]
        exact I_ti (by omega) (by omega)
      have p35 : R 35 pi = ((kk : Nat) : Int) := by
        rw [g2]
        show ((upA w5 35 _).2.2.1 35 pi).toInt = _
        rw [upA_at, upd_at]
        exact I_ti (by omega) (by omega)
      have p38 : R 38 pi = 1 := by
        rw [g4]
        show ((upA w5 35 _).2.2.1 38 pi).toInt = _
        rw [upA_no (by decide), l38]; rfl
      have agL : AGP R J w2 (pi + 1) pj last := fun q q1 q2 => by
        obtain ⟨⟨f1, f2⟩, f3, f4, f5, -⟩ := fin q (by omega) (by omega)
        refine ⟨f1.trans (ow 33 q q2 (by decide)), (f3 (by omega)).1.trans (ow 35 q q2 (by decide)), f2.trans (ow 36 q q2 (by decide)), (f3 (by omega)).2.trans (ow 38 q q2 (by decide)), f4.trans (e10.2.2.2 34 q (Or.inl q2)), fun z => (f5 (by omega) z).trans (ow 37 q q2 (by decide))⟩
      have agT : AGP R J w3 pj pj3 pn := fun q q1 q2 => by
        obtain ⟨⟨f1, f2⟩, f3, f4, f5, -⟩ := fin q (by omega) (by omega)
        exact ⟨f1, (f3 (by omega)).1, f2, (f3 (by omega)).2, f4, fun z => f5 (by omega) (by omega)⟩
      obtain ⟨ci, cp, co, h1, h2, h3, h4, h5, h6, h7⟩ := PTL_fn (y5 C R J H (AGC_sub (p := b) (b := b3) gc (fun j hj => e9.2.2.1 j hj) (by omega)) gr agL (HPX_mo e7.1 gh))
      have tl := e11 C R J H (fun k k1 k2 => gc k (by omega) k2) gr agT gh
      refine Or.inr (Or.inr (Or.inr (Or.inr (Or.inr (Or.inr ⟨p33, kk, ⟨p35, hkk⟩, ci, fun q => if q = kk then pn else cp q, co, h1, h3, fun _ => ?_, fun k hk => ⟨(h7 k hk).1 rfl, ?_, fun z => ?_⟩, Or.inr ⟨p38, by omega, ?_, ?_⟩⟩)))))
      · show R 36 pi = ((if 0 = kk then pn else cp 0 : Nat) : Int)
        rw [if_neg (by omega), p36, h5]
      · show PTs C R J H f (ci k + 1) (if k = kk then pn else cp k) (co k) (ci (k + 1)) (co (k + 1))
        rw [if_neg (by omega)]
        exact (h7 k hk).2.1
      · show R 37 (if k = kk then pn else cp k) = ((if k + 1 = kk then pn else cp (k + 1) : Nat) : Int)
        rw [if_neg (by omega), if_neg (by omega)]
        exact (h7 k hk).2.2 z
      · show R 37 (if kk - 1 = kk then pn else cp (kk - 1)) = ((if kk = kk then pn else cp kk : Nat) : Int)
        rw [if_neg (by omega), if_pos rfl, h6]
        exact (fin last (by omega) (by omega)).2.2.2.2 rfl
      · show PTs C R J H f (ci kk) (if kk = kk then pn else cp kk) (co kk) b3 (Onm nm sc3)
        rw [if_pos rfl, h2, h4]
        exact tl
/-- a LIST -/
theorem pt_lst (c : CTZ m0 w0 K T nm Nk) (IH : HPT N m0 w0 K T nm Nk f) (hC : PCS m0 nm m a cm sc own) (hR : PRd w0 T w lo pi sc) (hn : n ≤ 8015) (h16 : A m0 16 n = 7) (xa q : Nat) (hT : TLcK m0 (PAcK m0 f) n lo hi xa q r) (htot : tot sc + (hi - lo) ≤ 4000) (ho : decide (v1 = 0) = !own) : PP (PTZ m0 w0 K T nm Nk (f + 1) lo hi own a cm pi sc m w) (jm_Cm_pattern N (jrc_Cm_listPattern N D) m (I (n : Nat))) (km_M_patternAt N (krc_M_rowPattern N d) w v1) := by
  obtain ⟨kk, n1, mid, c1, s1, e18, e19, ⟨hkk, k24, k25⟩, hO, hB⟩ := hT
  have fr := hC.1
  have k0 : K lo = 24 := kA c hR.2.1.2 k24
  have aa := hC.2.2.1
  unfold jm_Cm_pattern jb_Cm_pattern_0
  refine l_ck (fun hb => ?_)
  rw [i_nt2 (by omega), tre fr (by decide) h16]
  rw [decide_eq_false (show ¬ (I 7 = (1 : Int32)) by decide), br_f, decide_eq_false (show ¬ (I 7 = (2 : Int32)) by decide), br_f, decide_eq_false (show ¬ (I 7 = (3 : Int32)) by decide), br_f, decide_eq_false (show ¬ (I 7 = (4 : Int32)) by decide), br_f, decide_eq_false (show ¬ (I 7 = (5 : Int32)) by decide), br_f, decide_eq_false (show ¬ (I 7 = (6 : Int32)) by decide), br_f, decide_eq_true (show (I 7 = (7 : Int32)) by decide), br_t]
  refine rr_start (x := 6) (v2 := 0) (v3 := 5) c hR k0 (Or.inr ⟨rfl, rfl, rfl, rfl, rfl⟩) (fun d2 hl h5 hS => ?_)
  refine pp_lb (pp_mo (R := fun m3 z v r => PTZ m0 w0 K T nm Nk (f + 1) lo hi own a cm pi sc m w m3 z (upI v 70 (v.1 70 - 1)) r) ?_ (fun m3 z v r h => pk_some h))
  cases D with
  | zero => exact pp_nl
  | succ D =>
    show PP _ (jm_Cm_listPattern N (jrc_Cm_listPattern N D) m (I (n : Nat))) _
    unfold jm_Cm_listPattern jb_Cm_listPattern_0
    refine l_ck (fun _ => ?_)
    rw [i_nt2 (by omega), tre fr (by decide) e18]
    have ra0 := RWA_0 (K := K) (Nk := Nk) (f := f) (s := 1) hC hS
    -- the class's end without a rest
    have endc : ∀ (M1 : Nat) (m2 w2 : MS) (b cm2 pj : Nat) (sc2 : SCT) (f2 l2 : Nat) (G : MS → Int32 → Int32 → Int32 → Int32 → Int32 → Int32 → Int32 → Option (MS × Int32)), A m0 20 n = 0 → lo + 2 ≤ hi → RWA m0 w0 K T nm Nk f 1 (lo + 1) own a cm pi sc m (wRW w pi 6 lo) kk f2 l2 m2 w2 (hi - 1) b cm2 pj sc2 → PP (fun m3 z v r => PTZ m0 w0 K T nm Nk (f + 1) lo hi own a cm pi sc m w m3 z (upI v 70 (v.1 70 - 1)) r) (jg_Cm_listPattern N (jrc_Cm_listPattern N D) M1 m2 (I (n : Nat)) (I 0)) (kb_M_rowPattern_194 N (krc_M_rowPattern N d2) G w2 5 (I (pi : Nat)) (I (kk : Nat))) := fun M1 m2 w2 b cm2 pj sc2 f2 l2 G h20 hlh ra => by
      cases M1 with
      | zero => exact pp_nl
      | succ M1 =>
        show PP _ (jb_Cm_listPattern_10 N (jrc_Cm_listPattern N D) (jg_Cm_listPattern N (jrc_Cm_listPattern N D) M1) m2 (I (n : Nat)) (I 0)) _
        unfold jb_Cm_listPattern_10 jb_Cm_listPattern_84
        rw [decide_eq_true (show I 0 = (0 : Int32) from rfl), br_t]
        refine l_ck (fun _ => ?_)
        rw [i_nt2 (by omega), tre ra.1.1 (by decide) h20, decide_eq_true (show I 0 = (0 : Int32) from rfl), br_t]
        refine l_put ra.1.2.2.1.1 ra.1.2.2.1.2.2 (fun ha => ?_)
        have cp := PCS_put (x := 1) ra.1 ha
        refine l_two cp (fun m3 h1 h2 h3 h4 => ?_)
        refine lst_fin c hl k0 h5 hlh hkk ra h1 (CFP_tr (CFP_put CFP_rf (Nat.le_refl _)) h2 (by omega)) (by rw [h3, ptc_r (by decide)]) ⟨?_, ?_, ?_⟩
        · show (m3.2.2.1 23 b).toInt = 1
          rw [h2.2.2.1 b (by omega), ptc_n]; rfl
        · rw [h4.1]; rfl
        · rw [h4.2]; rfl
    rcases hO with ⟨y1, y2, y3, y4, y5⟩ | ⟨y1, hrw⟩
    · -- none
      rcases hB with ⟨h20, hm, -, -⟩ | ⟨⟨h1, -⟩, -⟩
      · subst y1
        subst y2
        have e2 : hi = lo + 2 := by omega
        subst e2
        have k1 : K (lo + 1) = 25 := kA c hS.2.1.2 k25
        rw [if_pos k1]
        exact endc N m (wRW w pi 6 lo) a cm (pi + 1) sc 0 0 _ h20 (by omega) ra0
      · omega
    · have hdr := (RW_hdK (PA_bdK _) hrw).1
      unfold HDc at hdr
      have k1 : K (lo + 1) ≠ 25 := Kne c hS.2.1.2 (rw_k1 hrw).2.2.1
      rw [if_neg k1]
      have hmh : mid + 1 ≤ hi := by
        rcases hB with ⟨-, hm, -, -⟩ | ⟨-, x, c2, -, hE, -⟩
        · omega
        · have := PA_bdK _ _ _ _ _ _ _ _ hE
          unfold HDc at this
          omega
      have hcn : c1 ≤ 8015 := by
        rcases hB with ⟨-, -, -, hm⟩ | ⟨-, x, c2, -, hE, hm⟩
        · omega
        · have := PA_bdK _ _ _ _ _ _ _ _ hE
          unfold HDc at this
          omega
      have htt : tot sc + (mid - (lo + 1)) ≤ 4000 := by
        clear hB
        omega
      refine rowd_lp (CL := fun M m y => jg_Cm_listPattern N (jrc_Cm_listPattern N D) M m (I (n : Nat)) y) (D := D) (s := 1) (xb := c1) (r := s1) (hi := mid) c IH (fun _ _ => rfl) (fun M m n2 h1 h2 => by
          show jb_Cm_listPattern_10 N (jrc_Cm_listPattern N D) (jg_Cm_listPattern N (jrc_Cm_listPattern N D) M) m (I ((n : Nat) : Int)) (I ((n2 : Nat) : Int)) = _
          unfold jb_Cm_listPattern_10 stp
          rw [decide_eq_false (nat_n0 h1 (by omega)), br_f, if_neg (by omega), i_nt2 (p := n2) (by omega)]) (by omega) (by omega) hcn htt ho (fun h => ?_) hkk (fun M1 M2 m2 w2 b cm2 pj sc2 f2 l2 ra2 => ?_) kk n1 (lo + 1) xa q N N 0 0 0 _ _ a cm (pi + 1) sc (-1) hrw ra0 (Or.inl ⟨rfl, rfl⟩) (by omega)
      · rcases hB with ⟨-, hm, -, -⟩ | ⟨⟨-, h29⟩, -⟩
        · have := kA (k := 25) (p := mid) c h (by rw [show mid = hi - 1 by omega]; exact k25)
          omega
        · have := kA (k := 29) (p := mid) c h h29
          omega
      · have hw2 := PRS_w c ra2.2.1
        unfold kb_M_rowPattern_151
        rw [show decide ((0 : Int32) = 0) = true from rfl, br_t, tkS_e (k := 29) (s := 9) hw2 ra2.2.1.2.2.1 (by decide) rfl]
        rcases hB with ⟨h20, hm, -, -⟩ | ⟨⟨-, h29⟩, x, c2, h20, hE, hc2⟩
        · have := kA (k := 25) (p := mid) c ra2.2.1.2.1.2 (by rw [show mid = hi - 1 by omega]; exact k25)
          rw [if_neg (by omega), bnd_s, show decide ((0 : Int32) = 0) = true from rfl, br_t]
          rw [show mid = hi - 1 by omega] at ra2
          exact endc M1 m2 w2 b cm2 pj sc2 f2 l2 _ h20 (by omega) ra2
        · have k29 := kA (k := 29) (p := mid) c ra2.2.1.2.1.2 h29
          have hl2 : mid < T := c.1.1.lt ra2.2.1.2.1.2 (by omega) (by omega)
          have hdx := PA_bdK _ _ _ _ _ _ _ _ hE
          unfold HDc at hdx
          rw [if_pos k29, bnd_s, show decide ((1 : Int32) = 0) = false from rfl, br_f]
          cases M1 with
          | zero => exact pp_nl
          | succ M1 =>
            show PP _ (jb_Cm_listPattern_10 N (jrc_Cm_listPattern N D) (jg_Cm_listPattern N (jrc_Cm_listPattern N D) M1) m2 (I (n : Nat)) (I 0)) _
            unfold jb_Cm_listPattern_10 jb_Cm_listPattern_84
            rw [decide_eq_true (show I 0 = (0 : Int32) from rfl), br_t]
            refine l_ck (fun _ => ?_)
            rw [i_nt2 (p := n) (by omega), tre ra2.1.1 (by decide) h20, decide_eq_false (nat_n0 (by omega) (by omega)), br_f]
            refine l_ck (fun _ => ?_)
            have t2 := ra2.2.2.2.1.2
            refine pp_bb (pp_mo (IH D d2 x (mid + 1) (hi - 1) c1 c2 s1 r m2 (adv w2 mid) b cm2 pj sc2 own v1 hE (by omega) ra2.1 (PRS_ad ra2.2.1 hl2) (by omega) ho) (fun m3 z w3 y hz => ?_))
            exact lst_bar c hl k0 h5 (by omega) hkk y1 ⟨by omega, by omega⟩ k29 ra2 hz
/-- all patterns -/
theorem pt_all (c : CTZ m0 w0 K T nm Nk) (cv : CTV m0 w0 K T) : ∀ f, HPT N m0 w0 K T nm Nk f
  | 0 => fun D d n lo hi xa xb q r m w a cm pi sc own v1 h => h.elim
  | f + 1 => fun D d n lo hi xa xb q r m w a cm pi sc own v1 h hxb hC hR ht ho => by
    cases D with
    | zero => exact pp_nl
    | succ D =>
      cases d with
      | zero => exact pp_nr
      | succ d =>
        have hd := PA_bdK _ _ _ _ _ _ _ _ h
        unfold HDc at hd
        show PP _ (jm_Cm_pattern N (jrc_Cm_listPattern N D) m (I (n : Nat))) (km_M_patternAt N (krc_M_rowPattern N d) w v1)
        obtain ⟨-, -, -, h⟩ := h
        rcases h with ⟨h1, h2⟩ | ⟨h16, n1, h18, hn1, h1, h2, h3, h4⟩ | ⟨h16, n1, c1, h18, pa, hc1, h2, h3⟩ | ⟨h16, h⟩ | ⟨h16, h⟩
        · subst h2
          exact pt_leaf c cv hC hR (by omega) h1 (by omega) ho
        · subst h3
          exact ptd_neg c cv hC hR (by omega) (by omega) h16 h18 h1 h2 h4
        · have hdp := PA_bdK _ _ _ _ _ _ _ _ pa
          unfold HDc at hdp
          exact ptd_grp c (pt_all c cv f) hC hR (by omega) h16 h18 pa (by omega) h2 h3 (by omega) ht ho
        · have hlh : lo + 2 ≤ hi := by
            obtain ⟨kk, n1, c1, e18, e19, ⟨hkk, k22, k23⟩, hO, hcn⟩ := h
            by_cases z : hi = lo + 1
            · rw [z, show lo + 1 - 1 = lo by omega] at k23
              omega
            · omega
          exact pt_tup c (pt_all c cv f) hC hR (by omega) h16 xa q h hlh ht ho
        · exact pt_lst c (pt_all c cv f) hC hR (by omega) h16 xa q h ht ho
end
