/-! expressions: units, both -/
set_option maxRecDepth 100000
/-- behind the signs that are worked off -/
def wkG (N : Nat) (S : SG_M_behind) (M : Nat) (v1 : Int32) (lv : Nat) (u12 : MS) (r12 : Int32) : Option (MS × Int32) := if lv = 0 then some (u12, r12) else br (decide (I (lv : Nat) = 3)) (br (decide ((u12.1 83) ≤ v1)) (kb_M_worked_189 N S (kg_M_worked N S M) u12 v1 r12 1 (I (lv : Nat))) (ck (inb ((u12.1 83) - 1) (ln 79)) (br (decide ((u12.2.2.1 79 ((u12.1 83) - 1).toNatClampNeg) = 3)) (bnd (km_M_wrong N u12 2) (fun u13 _ => kb_M_worked_189 N S (kg_M_worked N S M) u13 v1 r12 1 (I (lv : Nat)))) (kb_M_worked_189 N S (kg_M_worked N S M) u12 v1 r12 1 (I (lv : Nat)))))) (kb_M_worked_189 N S (kg_M_worked N S M) u12 v1 r12 1 (I (lv : Nat)))
/-- units, as deep as f -/
def HXU (N : Nat) (m0 w0 : MS) (K : Nat → Nat) (T : Nat) (nm Nk : Nat → Nat) (fof cvr : Int → Int → Int) (f : Nat) : Prop := ∀ (D d M o n lo hi xa xb q r b0 : Nat) (m w : MS) (a cm : Nat) (Q : Nat → Nat) (sc : SCT) (g lst : Bool) (RR : MS → Unit → MS → Int32 → Prop) (fc : MS → Unit → Option (MS × Unit)), XPcK m0 f o 1 n lo hi xa xb q r → xb ≤ 8015 → r ≤ 400 → (K hi ≠ 20 ∧ hi ≤ T) → XCS m0 nm m a cm sc g → XRS w0 T w lo Q sc → Q 56 = q → (tot sc + (hi - lo) ≤ 4000 ∧ sc.length ≤ o + 1) → b0 ≤ Q 83 → (∀ M M' m2 w2 rt, XZ m0 w0 K T nm Nk fof cvr lst g lo hi a cm q r Q sc m w m2 () w2 rt → PP RR (fc m2 ()) (bnd (gg_M_reduce N M' w2 (I (b0 : Nat)) (I (rkK (K hi) : Nat)) rt 1) (wkG N (krc_M_behind N d) M (I (b0 : Nat)) (rkK (K hi))))) → PP RR (bnd ((jrc_Cm_fun N D).2.2.2.2.2.2.2.2.2.2.1 m (I (n : Nat)) (lsI lst)) fc) ((kg_M_worked N (krc_M_behind N d) M).2 w (I (b0 : Nat)))
section
variable {α β : Type} {m0 w0 m w m2 w2 m3 w3 v u w1 : MS} {K nm Nk W W2 : Nat → Nat} {N T D d o a a0 b b0 c cm cm0 cm2 cm3 q q0 r s lo lo0 mid hi i j f f2 n k kk p σ tk x xa xb M m1 lv : Nat} {Q Q0 Q2 Q3 Q4 : Nat → Nat} {sc sc0 sc2 sc3 t : SCT} {e : List Nat × List Nat × Nat} {g lst l2 : Bool} {L L1 L2 : List Nat} {idc fof cvr : Int → Int → Int} {z : Unit} {rt v1 v2 v3 v5 : Int32} {fc : MS → Unit → Option (MS × Unit)} {RR : MS → Unit → MS → Int32 → Prop} {A' : Option (MS × Unit)} {B' : Option (MS × Int32)} {RU : MS → α → MS → β → Prop} {AA : Option (MS × α)}
/-- behind a PRIMARY: the signs that wait are worked off first -/
theorem wkg_e {S : SG_M_behind} {RR : MS → α → MS → Int32 → Prop} {r : Int32} (hw : WP w K T p) (h67 : w.1 67 = 0) (h : ∀ M, PP RR AA (bnd (gg_M_reduce N N w v1 (I (rkK (K p) : Nat)) r 1) (wkG N S M v1 (rkK (K p))))) : PP RR AA (br (decide ((w.1 67) = 0)) (bnd (fm_M_level N w) (fun u15 r15 => kb_M_worked_129 N S (kg_M_worked N S M) u15 v1 r r15)) (kb_M_worked_129 N S (kg_M_worked N S M) w v1 r 0)) := by
  have k46 := hw.1.1.k46 hw.2.2
  have rk6 : rkK (K p) ≤ 6 := by
    have : ∀ k, k < 46 → rkK k ≤ 6 := by decide
    exact this _ k46
  rw [decide_eq_true h67, br_t, lvl_m hw, bnd_s]
  unfold kb_M_worked_129 kb_M_worked_141
  rw [show (0 : Int32) = I ((0 : Nat) : Int) from rfl, decI (by omega) (by omega) (by omega) (by omega)]
  by_cases z : rkK (K p) = 0
  · rw [decide_eq_true (by omega), br_t, show decide (I ((0 : Nat) : Int) = I ((0 : Nat) : Int)) = true from decide_eq_true rfl, br_t]
    unfold kb_M_worked_331
    cases M with
    | zero => exact pp_nr
    | succ M =>
      show PP RR AA (kb_M_worked_9 N S (kg_M_worked N S M) w v1 r 0)
      unfold kb_M_worked_9 kb_M_worked_334
      rw [show decide ((0 : Int32) = 0) = true from rfl, br_t, decide_eq_true h67, br_t]
      have := h 0
      rw [z] at this
      exact this
  · rw [decide_eq_false (by omega), br_f, show decide ((1 : Int32) = I ((0 : Nat) : Int)) = false from rfl, br_f]
    have := h M
    unfold wkG at this
    rw [show (fun (u12 : MS) (r12 : Int32) => if rkK (K p) = 0 then some (u12, r12) else _) = (fun (u12 : MS) (r12 : Int32) => _) from funext (fun u => funext (fun r => if_neg z))] at this
    exact this
/-- one unary sign is worked off: a node -/
theorem redd_7 {RR : MS → α → MS → Int32 → Prop} {r : Int32} {f : MS → Int32 → Option (MS × Int32)} {tok : Nat} (hR : TWK w K T) (htk : tok ≤ T) (ht : p < 3000) (h83 : w.1 83 = I ((p + 1 : Nat) : Int)) (hb : b0 ≤ p) (h79 : w.2.2.1 79 p = 7) (h80 : w.2.2.1 80 p = I (tok : Nat)) (hlv : lv ≤ 6) (hk : K tok = 14 ∨ K tok = 34) (hG : ∀ M' x, PP RR AA (bnd (fm_M_node N (upI (upI w 83 (I (p : Nat))) 70 x) (if K tok = 14 then 7 else 8) (I (tok : Nat))) (fun u r => bnd (gg_M_reduce N M' u (I (b0 : Nat)) (I (lv : Nat)) r 1) f))) : PP RR AA (bnd (gg_M_reduce N M w (I (b0 : Nat)) (I (lv : Nat)) r 1) f) := by
  have t4 := hR.1.1
  cases M with
  | zero => exact pp_nr
  | succ M =>
    show PP RR AA (bnd (fb_M_reduce_6 N (gg_M_reduce N M) w (I (b0 : Nat)) (I (lv : Nat)) r 1) f)
    unfold fb_M_reduce_6 fb_M_reduce_56 fb_M_reduce_61
    rw [show decide ((1 : Int32) = 0) = false from rfl, br_f, h83, decI (by omega) (by omega) (by omega) (by omega), decide_eq_false (by omega), br_f, I_sn, bnd_ck]
    refine r_ck (fun _ => ?_)
    rw [bnd_lt]
    refine r_lt ?_
    rw [tnI (n := p) rfl (by omega), h79, show (7 : Int32) = I ((7 : Nat) : Int) from rfl, decide_eq_true ((I_lt (by omega) (by omega) (by omega) (by omega)).mpr (by omega)), br_t, br_f, bnd_lt]
    refine r_lt ?_
    rw [show decide (I ((7 : Nat) : Int) = I ((7 : Nat) : Int)) = true from decide_eq_true rfl, br_t, bnd_lt]
    refine r_lt ?_
    have e70 : (upI w 83 (I (p : Nat))).1 70 = w.1 70 := upI_ne (by decide)
    rw [e70]
    have hG := fun M' => hG M' (w.1 70 - 1)
    have e83 : (upI (upI w 83 (I (p : Nat))) 70 (w.1 70 - 1)).1 83 = I (p : Nat) := by rw [upI_ne (by decide), upI_at]
    have e80 : (upI (upI w 83 (I (p : Nat))) 70 (w.1 70 - 1)).2.2.1 80 p = I (tok : Nat) := h80
    have e6 : (upI (upI w 83 (I (p : Nat))) 70 (w.1 70 - 1)).2.2.1 6 tok = I (srK (K tok) : Nat) := hR.2.1 tok htk
    generalize upI (upI w 83 (I (p : Nat))) 70 (w.1 70 - 1) = w9 at hG e83 e80 e6 ⊢
    rw [e83, tnI (n := p) rfl (by omega), e80, i_nt (p := tok) (by omega), e6]
    rw [bnd_ck]
    refine r_ck (fun _ => ?_)
    rw [bnd_ck]
    refine r_ck (fun _ => ?_)
    have go : ∀ t1 : Int32, t1 = (if K tok = 14 then 7 else 8) → PP RR AA (bnd (fb_M_reduce_121 N (gg_M_reduce N M) w9 (I (b0 : Nat)) (I (lv : Nat)) 1 t1) f) := fun t1 h1 => by
      unfold fb_M_reduce_121 fb_M_reduce_255
      rw [bnd_ck]
      refine r_ck (fun _ => ?_)
      rw [bnd_as2, e83, tnI (n := p) rfl (by omega), e80, h1]
      exact hG M
    rcases hk with hk | hk
    · rw [hk, show decide (I (srK 14 : Nat) = (3 : Int32)) = true from rfl, br_t]
      exact go 7 (by rw [if_pos hk])
    · rw [hk, show decide (I (srK 34 : Nat) = (3 : Int32)) = false from rfl, br_f]
      exact go 8 (by rw [if_neg (by omega)])
/-- the reader, but for its marks -/
theorem PRS_x {pi : Nat} (h : PRd w0 T w p pi sc) (hi : ∀ k, k ∈ [5, 9, 10, 11, 14, 17, 20, 39, 65, 67] → v.1 k = w.1 k) (hr : ∀ k, k < 23 ∨ (59 ≤ k ∧ k ≤ 64) → v.2.2.1 k = w.2.2.1 k) (h69 : v.1 69 = I (p : Nat)) : PRd w0 T v p pi sc := by
  obtain ⟨h1, h2, h3, h4, h5, h6⟩ := h
  refine ⟨⟨fun k hk => ?_, fun k hk => ?_⟩, ⟨h69, h2.2⟩, (hi 67 (by decide)).trans h3, RNs_e h4 (hi 65 (by decide)) (fun k a b => hr k (by omega)), HFl_fr h4.2.2.2 h5 (fun j _ => by rw [hr 62 (by omega)]), (hi 39 (by decide)).trans h6.1, h6.2⟩
  · have : k ∈ [5, 9, 10, 11, 14, 17, 20, 39, 65, 67] := by
      unfold TIN at hk
      simp only [List.mem_cons, List.not_mem_nil, or_false] at hk ⊢
      omega
    rw [hi k this]; exact h1.1 k hk
  · have : k < 23 := by unfold TRW at hk; simp only [List.mem_cons, List.not_mem_nil, or_false] at hk; omega
    rw [hr k (Or.inl this)]; exact h1.2 k hk
/-- a stretch that began behind what waits -/
theorem XTR_83 (h : XTR m0 w0 K T nm Nk fof cvr lst g L mid hi a b cm cm2 q r (qst Q 83 (p + 1)) Q2 sc sc2 m w1 m2 w2) (hp : Q 83 = p) (hQ : QRR Q w w1) (hlm : lo ≤ mid) (gap : ∀ j, lo ≤ j → j < mid → K j ≠ 3) : XTR m0 w0 K T nm Nk fof cvr lst g L lo hi a b cm cm2 q r Q (qst Q2 83 p) sc sc2 m w m2 (upI w2 83 (I (p : Nat))) := by
  obtain ⟨a1, a2, a3, a4, ⟨W, a5, a6⟩, a7, a8, a9, a10, a11⟩ := h
  have hq2 : p + 1 ≤ Q2 83 := by have := a8.2.1 83 (by decide); rw [qst_at] at this; exact this
  have p24 : p ≤ 24000 := by have := (a3.1.2 83 (by decide)).2; omega
  have e1 : ∀ j, j ≠ 83 → qst Q 83 (p + 1) j = Q j := fun j hj => qst_no hj
  have e2 : ∀ j, j ≠ 83 → qst Q2 83 p j = Q2 j := fun j hj => qst_no hj
  refine ⟨⟨by omega, a1.2⟩, a2, ⟨⟨?_, QMK_st a3.1.2 p24⟩, by rw [e2 56 (by decide)]; exact a3.2⟩, by omega, ⟨W, HDx_tr hlm a1.1 (HDx_gap gap) a5, ?_⟩, a7, ⟨?_, fun k hk => ?_, ?_⟩, a9, fun n hn => ?_, fun C P R J H fi hx => ?_⟩
  · have := a3.1.1
    rw [e2 39 (by decide)]
    exact PRS_x this (fun k hk => upI_ne (by rintro rfl; revert hk; decide)) (fun _ _ => rfl) (by rw [upI_ne (by decide)]; exact this.2.1.1)
  · rw [a6, ← wup_tr (p := lo) (q := mid) (p2 := hi) hlm a1.1, wup_0 (p := lo) gap]
  · exact QRR_I (QRR_tr (Q2 := qst Q 83 (p + 1)) hQ a8.1 (QLE_st QLE_rf (by omega)))
  · by_cases z : k = 83
    · rw [z, qst_at]; omega
    · rw [e2 k z]
      have := a8.2.1 k hk
      rw [e1 k z] at this
      exact this
  · rw [e2 75 (by decide), e2 77 (by decide), qst_at, a8.2.2.1, a8.2.2.2.1, e1 75 (by decide), e1 77 (by decide)]
    exact ⟨rfl, rfl, hp.symm⟩
  · have := a10 n hn
    rw [e1 32 (by decide)] at this
    rw [e2 32 (by decide)]
    exact this
  · obtain ⟨g1, g2, g3, ⟨g4, g5, g6, g7⟩, g8⟩ := fi
    rw [e2 32 (by decide)] at g5 g6 g8
    rw [e2 39 (by decide)] at g7
    have in83 : ∀ k, grp k ∈ [32, 39, 46, 56, 58] → grp k ≠ 83 := fun k hk z => by rw [z] at hk; revert hk; decide
    have := a11 C P R J H ⟨g1, g2, g3, ⟨fun k n z1 z2 z3 z4 z5 z6 z7 => g4 k n z1 z2 z3 z4 z5 (by rw [e1 _ (in83 k z5)] at z6; exact z6) (by rw [e2 _ (in83 k z5)]; exact z7), by rw [e1 32 (by decide)]; exact g5, by rw [e1 32 (by decide)]; exact g6, by rw [e1 39 (by decide)]; exact g7⟩, by rw [e1 32 (by decide)]; exact g8⟩ hx
    rw [e1 32 (by decide)] at this
    rw [e2 32 (by decide)]
    exact this
end
