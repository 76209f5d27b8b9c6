/-! expressions: CALLS by name; what is PRIMARY and stands alone -/
set_option maxRecDepth 100000
section
variable {α β : Type} {m0 w0 m w m2 w2 m3 w3 v u mS wS : MS} {K nm Nk W W2 : Nat → Nat} {N T D d o a a0 b c cm cm0 cm2 cm3 q q0 r s lo lo0 mid hi i j f f2 n k kk p σ tk x xa xb M m1 : Nat} {Q Q0 Q2 Q3 Q4 : Nat → Nat} {sc sc0 sc2 sc3 t : SCT} {e : List Nat × List Nat × Nat} {g lst l2 : Bool} {L L1 L2 : List Nat} {idc fof cvr : Int → Int → Int} {z : Unit} {rt v1 v2 v3 v5 : Int32} {fc : MS → Unit → Option (MS × Unit)} {RR : MS → Unit → MS → Int32 → Prop} {A' : Option (MS × Unit)} {B' : Option (MS × Int32)}
theorem pp_lx (h : PP RR (fc m ()) B') : PP (fun m z w r => PK (fun v q => RR v q w r) (fc m z)) (some (m, ())) B' := by
  intro m9 z9 w9 r9 e1 e2 v q e3
  injection e1 with e1
  injection e1 with e4 e5
  subst e4
  exact h v q w9 r9 e3 e2
theorem x_call (c : CTZ m0 w0 K T nm Nk) (cv : CTV m0 w0 K T) (cx : CVX N m0 w0 K T idc fof cvr) (IH : HXE N m0 w0 K T nm Nk fof cvr f) (hC : XCS m0 nm m a cm sc g) (hR : XRS w0 T w lo Q sc) (hq : Q 56 = q) (hn : n ≤ 8015) (h16 : A m0 16 n = 14) (h17 : A m0 17 n = ((lo : Nat) : Int)) (h19 : A m0 19 n = ((m1 : Nat) : Int)) (h20 : A m0 20 n = ((k : Nat) : Int)) (hk6 : k ≤ 6) (hE : ORcK m0 1 26 (XPcK m0 f o 3) k m1 (lo + 2) (hi - 1) xa xb q r) (hxb : xb ≤ 8015) (h6 : A m0 6 lo = 2 ∧ A m0 6 (lo + 1) = 20 ∧ A m0 6 (hi - 1) = 21 ∧ A m0 18 n = A m0 7 lo) (hlh : lo + 3 ≤ hi) (hr4 : r ≤ 400) (hiT : hi ≤ T) (htot : tot sc + (hi - lo) ≤ 4000 ∧ sc.length ≤ o + 1) (hh : ∀ m2 w2 rt, XZ m0 w0 K T nm Nk fof cvr lst g lo hi a cm q r Q sc m w m2 () w2 rt → PP RR (fc m2 ()) (kg_M_primary N (krc_M_behind N d) N w2 (I (lo : Nat)) rt)) : PP RR (bnd (jm_Cm_expression N (jrc_Cm_fun N D) m (I (n : Nat)) (lsI lst)) fc) (km_M_primary N (krc_M_behind N d) w) := by
  have fr := XCS_fr hC
  have t4 := c.2.1.1.1
  obtain ⟨a0, a1, a2, a3⟩ := h6
  have k0 : K lo = 2 := kA c (by omega : lo ≤ T) a0
  have k1 : K (lo + 1) = 20 := kA c (by omega) a1
  have k2 : K (hi - 1) = 21 := kA c (by omega) a2
  have e18 : A m0 18 n = A w0 7 lo := a3.trans (congrArg Int32.toInt ((cv lo (by omega)).2.1 (Or.inr k0)))
  have hw := XRS_wp c hR
  refine pp_lb ?_
  refine exd_14 hn (tre fr (by decide) h16) (l_id ?_)
  cases D with
  | zero => exact pp_nl
  | succ D =>
  show PP _ (jb_Cm_call_0 N (jrc_Cm_fun N D) () m (I (n : Nat)) (lsI lst)) _
  unfold jb_Cm_call_0
  rw [i_nt2 (show n ≤ 100000 by omega), tre fr (by decide) e18, tre fr (by decide) h20, tre fr (by decide) h17]
  refine l_ck (fun _ => l_ck (fun _ => l_ck (fun _ => l_bnd (pk_mo (cx.1 m (A w0 7 lo) ((k : Nat) : Int) fr) (fun v r h2 => ?_)))))
  rw [h2.1, h2.2]
  refine l_ck (fun _ => ?_)
  rw [tre fr (by decide) e18]
  refine l_seek cx fr ?_
  obtain ⟨cf, cp⟩ := cx.2.2 (A w0 7 lo) ((k : Nat) : Int) ⟨lo, by omega, k0, rfl⟩
  obtain ⟨ci, -, -⟩ := cp (by omega) (by omega)
  -- behind what is asked
  have e96 : (idc (A w0 7 lo) ((k : Nat) : Int) = -1 → fof (A w0 7 lo) ((k : Nat) : Int) ≠ -1 ∧ g = false) → PP (fun m z w r => PK (fun v q => RR v q w r) (fc m z)) (jb_Cm_call_96 N (jrc_Cm_fun N D) () m (I (n : Nat)) (lsI lst) (I (lo : Nat)) (I (k : Nat)) (I (idc (A w0 7 lo) ((k : Nat) : Int))) (I (fof (A w0 7 lo) ((k : Nat) : Int)))) (km_M_primary N (krc_M_behind N d) w) := fun hid => by
    unfold jb_Cm_call_96
    refine l_ck (fun _ => ?_)
    rw [i_nt2 (show n ≤ 100000 by omega), tre fr (by decide) h19]
    unfold km_M_primary kb_M_primary_0
    have h69 := hR.1.2.1.1
    obtain ⟨-, b1, -⟩ := tkd_6 c hR
    have s1 : decide (w.2.2.1 6 lo = 1) = decide (K lo = 2) := srt_dc hw srK_1
    rw [decide_eq_true hR.1.2.2.1, br_t, b1, s1, decide_eq_true k0, br_t, h69, i_suc, i_nt (p := lo + 1) (by omega)]
    refine r_ck (fun _ => r_opn hw.1 (by omega) (fun _ => r_lt ?_) (fun z => absurd k1 z))
    have ht := XTR_ad (K := K) (nm := nm) (Nk := Nk) (fof := fof) (cvr := cvr) (lst := lst) (mid := lo) (XTR_rf hC hR hq) (by omega) (by omega)
    refine args_x (n := m1) (k := k) (hi := hi) (lo := lo + 1) (lo0 := lo) c IH hxb hr4 hk6 (by rw [show lo + 1 + 1 = lo + 2 by omega]; exact hE) k1 k2 (by omega) hiT htot ht (fun m2 w2 b cm2 Q2 sc2 ht2 h84 => ?_)
    have := call_w (N := N) (S := jrc_Cm_fun N D) (F := fun w7 r10 => kg_M_primary N (krc_M_behind N d) N w7 (I (lo : Nat)) r10) (fc := fun u _ => some (u, ())) (RR := fun m z w r => PK (fun v q => RR v q w r) (fc m z)) c cv cx k0 (show lo < hi by omega) hk6 ht2 hiT h84 hid (fun m3 v hz => pp_lx (hh m3 v _ hz))
    rw [i_nt (p := lo) (by omega)] at this
    intro m9 z9 w9 r9 x1 x2
    refine this m9 z9 w9 r9 ?_ x2
    rw [x1]
    rfl
  have e91 : (idc (A w0 7 lo) ((k : Nat) : Int) = -1 → fof (A w0 7 lo) ((k : Nat) : Int) ≠ -1) → PP (fun m z w r => PK (fun v q => RR v q w r) (fc m z)) (jb_Cm_call_91 N (jrc_Cm_fun N D) () m (I (n : Nat)) (lsI lst) (I (lo : Nat)) (I (k : Nat)) (I (idc (A w0 7 lo) ((k : Nat) : Int))) (I (fof (A w0 7 lo) ((k : Nat) : Int)))) (km_M_primary N (krc_M_behind N d) w) := fun hid => by
    unfold jb_Cm_call_91
    exact l_ntg (tk := lo) hC.2 rfl (by omega) (fun hg => e96 (fun z => ⟨hid z, hg⟩))
  have e77 : (idc (A w0 7 lo) ((k : Nat) : Int) = -1 → fof (A w0 7 lo) ((k : Nat) : Int) ≠ -1) → PP (fun m z w r => PK (fun v q => RR v q w r) (fc m z)) (jb_Cm_call_77 N (jrc_Cm_fun N D) () m (I (n : Nat)) (lsI lst) (I (lo : Nat)) (I (k : Nat)) (I (idc (A w0 7 lo) ((k : Nat) : Int))) (I (fof (A w0 7 lo) ((k : Nat) : Int)))) (km_M_primary N (krc_M_behind N d) w) := fun hid => by
    unfold jb_Cm_call_77
    rw [show (17 : Int32) = I 17 from rfl, show (28 : Int32) = I 28 from rfl, decide_eq_decide.mpr (I_lt (x := idc (A w0 7 lo) ((k : Nat) : Int)) (y := 17) (by omega) (by omega) (by decide) (by decide)), decide_eq_decide.mpr (I_le (x := idc (A w0 7 lo) ((k : Nat) : Int)) (y := 28) (by omega) (by omega) (by decide) (by decide))]
    by_cases z1 : idc (A w0 7 lo) ((k : Nat) : Int) < 17
    · rw [decide_eq_true z1, br_t]; exact e91 hid
    rw [decide_eq_false z1, br_f]
    by_cases z2 : idc (A w0 7 lo) ((k : Nat) : Int) ≤ 28
    · rw [decide_eq_true z2, br_t]; exact e96 (fun z => by omega)
    · rw [decide_eq_false z2, br_f]; exact e91 hid
  have id1 : decide (I (idc (A w0 7 lo) ((k : Nat) : Int)) = (-1 : Int32)) = decide (idc (A w0 7 lo) ((k : Nat) : Int) = -1) := decide_eq_decide.mpr (I_eq (y := -1) (by omega) (by omega) (by decide) (by decide))
  have id2 : decide (I (fof (A w0 7 lo) ((k : Nat) : Int)) = (-1 : Int32)) = decide (fof (A w0 7 lo) ((k : Nat) : Int) = -1) := decide_eq_decide.mpr (I_eq (y := -1) (by omega) (by omega) (by decide) (by decide))
  rw [id1, id2]
  by_cases z1 : idc (A w0 7 lo) ((k : Nat) : Int) = -1
  · rw [decide_eq_true z1, br_t]
    by_cases z2 : fof (A w0 7 lo) ((k : Nat) : Int) = -1
    · rw [decide_eq_true z2, br_t]
      exact l_flt (tk := lo) (k := 6) rfl rfl (by omega) (by decide)
    · rw [decide_eq_false z2, br_f]
      exact e77 (fun _ => z2)
  · rw [decide_eq_false z1, br_f]
    exact e77 (fun z => absurd z z1)
/-- what is PRIMARY and no CALL by name -/
theorem pr_al (c : CTZ m0 w0 K T nm Nk) (hR : XRS w0 T w lo Q sc) (hl : lo < T) (hnc : ¬ (K lo = 2 ∧ K (lo + 1) = 20)) {X : Option (MS × Unit)} (hX : ∀ d, PP (XZ m0 w0 K T nm Nk fof cvr lst g lo hi a cm q r Q sc m w) X (km_M_alone N (krc_M_behind N d) w (I (lo : Nat)))) (hh : ∀ m2 w2 rt, XZ m0 w0 K T nm Nk fof cvr lst g lo hi a cm q r Q sc m w m2 () w2 rt → PP RR (fc m2 ()) (kg_M_primary N (krc_M_behind N d) N w2 (I (lo : Nat)) rt)) : PP RR (bnd X fc) (km_M_primary N (krc_M_behind N d) w) := by
  have t4 := c.2.1.1.1
  have hw := XRS_wp c hR
  have h69 := hR.1.2.1.1
  obtain ⟨-, b1, -⟩ := tkd_6 c hR
  have s1 : decide (w.2.2.1 6 lo = 1) = decide (K lo = 2) := srt_dc hw srK_1
  unfold km_M_primary kb_M_primary_0
  rw [decide_eq_true hR.1.2.2.1, br_t, b1, s1, h69, i_suc, i_nt (p := lo + 1) (by omega)]
  have e122 : PP RR (bnd X fc) (kb_M_primary_122 N (krc_M_behind N d) (kg_M_primary N (krc_M_behind N d) N) w (I (lo : Nat))) := by
    unfold kb_M_primary_122
    cases d with
    | zero => exact pp_nr
    | succ d =>
      exact pp_bb (pp_mo (hX d) (fun m2 z w2 rt h => hh m2 w2 rt h))
  refine r_ck (fun _ => ?_)
  by_cases z : K lo = 2
  · rw [decide_eq_true z, br_t]
    exact r_opn hw.1 (by omega) (fun y => absurd ⟨z, y⟩ hnc) (fun _ => e122)
  · rw [decide_eq_false z, br_f]
    exact e122
end
