/-! expressions: SEND, what is saved, both -/
set_option maxRecDepth 100000
/-- all but CATCH, as deep as f -/
def HXS (N : Nat) (m0 w0 : MS) (K : Nat → Nat) (T : Nat) (nm Nk : Nat → Nat) (fof cvr : Int → Int → Int) (f : Nat) : Prop := ∀ (D d o n lo hi xa xb q r : Nat) (m w : MS) (a cm : Nat) (Q : Nat → Nat) (sc : SCT) (g lst : Bool), XPcK m0 f o 3 n lo hi xa xb q r → A m0 6 lo ≠ 9 → xb ≤ 8015 → r ≤ 400 → (NEC (K hi) ∧ hi ≤ T) → XCS m0 nm m a cm sc g → XRS w0 T w lo Q sc → Q 56 = q → (tot sc + (hi - lo) ≤ 4000 ∧ sc.length ≤ o + 1) → PP (XZ m0 w0 K T nm Nk fof cvr lst g lo hi a cm q r Q sc m w) ((jrc_Cm_fun N D).2.2.2.2.2.2.2.2.2.2.1 m (I (n : Nat)) (lsI lst)) (km_M_simple N (krc_M_behind N d) w)
/-- MATCH, as deep as f -/
def HXM (N : Nat) (m0 w0 : MS) (K : Nat → Nat) (T : Nat) (nm Nk : Nat → Nat) (fof cvr : Int → Int → Int) (f : Nat) : Prop := ∀ (D d o n lo hi xa xb q r : Nat) (m w : MS) (a cm : Nat) (Q : Nat → Nat) (sc : SCT) (g lst : Bool), XPcK m0 f o 3 n lo hi xa xb q r → A m0 16 n = 20 → xb ≤ 8015 → r ≤ 400 → (NEC (K hi) ∧ hi ≤ T) → XCS m0 nm m a cm sc g → XRS w0 T w lo Q sc → Q 56 = q → (tot sc + (hi - lo) ≤ 4000 ∧ sc.length ≤ o + 1) → PP (XZ m0 w0 K T nm Nk fof cvr lst g lo hi a cm q r Q sc m w) ((jrc_Cm_fun N D).2.2.2.2.2.2.2.2.2.2.1 m (I (n : Nat)) (lsI lst)) (km_M_simple N (krc_M_behind N d) w)
section
variable {α β : Type} {m0 w0 m w m2 w2 m3 w3 v u w1 mS wS : MS} {K nm Nk W W2 : Nat → Nat} {N T D d o a a0 b b0 c cm cm0 cm2 cm3 q q0 r s lo lo0 mid hi i j f f2 n k kk p p2 σ tk x xa xb cc M M' m1 lv y t tok : Nat} {Q Q0 Q2 Q3 Q4 Qa : Nat → Nat} {sc sc0 sc2 sc3 : SCT} {g lst l2 : Bool} {L L1 L2 S : List Nat} {idc fof cvr : Int → Int → Int} {z : Unit} {rt v1 v2 v3 v4 v5 r0 : Int32} {fc : MS → Unit → Option (MS × Unit)} {RR : MS → Unit → MS → Int32 → Prop} {A' : Option (MS × Unit)} {B' : Option (MS × Int32)}
/-- a stretch that began behind what is saved -/
theorem XTR_mk (h : XTR m0 w0 K T nm Nk fof cvr lst g L lo hi a b cm cm2 q r Qa Q2 sc sc2 m w1 m2 w2) (hq1 : ∀ k, k ≠ 75 → k ≠ 77 → k ≠ 83 → Qa k = Q k) (hle : QLE Q Qa) (hQ : QRR Q w w1) (hq2 : ∀ k, k ≠ 75 → k ≠ 77 → k ≠ 83 → Q3 k = Q2 k) (hq3 : Q3 75 = Q 75 ∧ Q3 77 = Q 77 ∧ Q3 83 = Q 83) (hv : XRS w0 T v hi Q3 sc2) (hv2 : v.2 = w2.2) : XTR m0 w0 K T nm Nk fof cvr lst g L lo hi a b cm cm2 q r Q Q3 sc sc2 m w m2 v := by
  obtain ⟨a1, a2, a3, a4, a5, a7, a8, a9, a10, a11⟩ := h
  obtain ⟨v1, vr⟩ := v
  have hv2 : vr = w2.2 := hv2
  subst hv2
  have e1 := hq1
  have e2 := hq2
  refine ⟨a1, a2, ⟨hv, by rw [e2 56 (by decide) (by decide) (by decide)]; exact a3.2⟩, a4, a5, a7, ⟨?_, fun k hk => ?_, hq3⟩, a9, fun n hn => ?_, fun C P R J H fi hx => ?_⟩
  · exact QRR_e (QRR_tr (Q2 := Qa) hQ a8.1 hle) rfl rfl
  · by_cases z : k = 75 ∨ k = 77 ∨ k = 83
    · rcases z with rfl | rfl | rfl
      · exact Nat.le_of_eq hq3.1.symm
      · exact Nat.le_of_eq hq3.2.1.symm
      · exact Nat.le_of_eq hq3.2.2.symm
    · rw [e2 k (by omega) (by omega) (by omega)]
      have := a8.2.1 k hk
      rw [e1 k (by omega) (by omega) (by omega)] at this
      exact this
  · have := a10 n hn
    rw [e1 32 (by decide) (by decide) (by decide)] at this
    rw [e2 32 (by decide) (by decide) (by decide)]
    exact this
  · obtain ⟨g1, g2, g3, ⟨g4, g5, g6, g7⟩, g8⟩ := fi
    rw [e2 32 (by decide) (by decide) (by decide)] at g5 g6 g8
    rw [e2 39 (by decide) (by decide) (by decide)] at g7
    have in83 : ∀ k, grp k ∈ [32, 39, 46, 56, 58] → grp k ≠ 75 ∧ grp k ≠ 77 ∧ grp k ≠ 83 := fun k hk => ⟨fun z => by rw [z] at hk; revert hk; decide, fun z => by rw [z] at hk; revert hk; decide, fun z => by rw [z] at hk; revert hk; decide⟩
    have := a11 C P R J H ⟨g1, g2, g3, ⟨fun k n z1 z2 z3 z4 z5 z6 z7 => g4 k n z1 z2 z3 z4 z5 (by rw [e1 _ (in83 k z5).1 (in83 k z5).2.1 (in83 k z5).2.2] at z6; exact z6) (by rw [e2 _ (in83 k z5).1 (in83 k z5).2.1 (in83 k z5).2.2]; exact z7), by rw [e1 32 (by decide) (by decide) (by decide)]; exact g5, by rw [e1 32 (by decide) (by decide) (by decide)]; exact g6, by rw [e1 39 (by decide) (by decide) (by decide)]; exact g7⟩, by rw [e1 32 (by decide) (by decide) (by decide)]; exact g8⟩ hx
    rw [e1 32 (by decide) (by decide) (by decide)] at this
    rw [e2 32 (by decide) (by decide) (by decide)]
    exact this
/-- the marks behind what is saved -/
def QSV (Q : Nat → Nat) : Nat → Nat := qst (qst Q 75 (Q 75 + 8)) 77 (Q 77 + 54)
theorem QSV_n {k : Nat} (h1 : k ≠ 75) (h2 : k ≠ 77) : QSV Q k = Q k := (qst_no h2).trans (qst_no h1)
theorem QSV_75 : QSV Q 75 = Q 75 + 8 := (qst_no (by decide)).trans qst_at
theorem QSV_77 : QSV Q 77 = Q 77 + 54 := qst_at
theorem QSV_le : QLE Q (QSV Q) := fun k _ => by
  by_cases h1 : k = 75
  · rw [h1, QSV_75]; omega
  by_cases h2 : k = 77
  · rw [h2, QSV_77]; omega
  rw [QSV_n h1 h2]; exact Nat.le_refl _
/-- what is saved -/
theorem sv_x {F : MS → Unit → Option (MS × β)} {R : MS → α → MS → β → Prop} {X : Option (MS × α)} (hR : XRS w0 T w p Q sc) (h : ∀ v, XRS w0 T v p (QSV Q) sc → QRR Q w v → PP R X (F v ())) : PP R X (bnd (fm_M_save N w) F) := by
  intro m9 z9 w9 r9 x1 x2
  refine (pk_bnd (Q := fun w9 r9 => R m9 z9 w9 r9) (pk_mo (pk_andq (save_p hR.1.2.2.2.1) (Q2 := fun v _ => Kv9c w v) (fun v r e => yv9_fm_M_save Kv9_rf v r e)) (fun v z hz => ?_))) w9 r9 x2
  obtain ⟨⟨a, b, ⟨s1, s2, s3, s4⟩, ⟨s5, s6⟩, s7, s8, s9, s10, -⟩, k1, -⟩ := hz
  have q75 := hR.2 75 (by decide)
  have q77 := hR.2 77 (by decide)
  have ea : a = Q 75 := by
    have := (I_eq (x := ((a : Nat) : Int)) (y := ((Q 75 : Nat) : Int)) (by omega) (by omega) (by omega) (by omega)).mp (s1.symm.trans q75.1)
    omega
  have eb : b = Q 77 := by
    have := (I_eq (x := ((b : Nat) : Int)) (y := ((Q 77 : Nat) : Int)) (by omega) (by omega) (by omega) (by omega)).mp (s2.symm.trans q77.1)
    omega
  subst ea
  subst eb
  refine fun w9 r9 x2 => h v ⟨?_, fun k hk => ?_⟩ ⟨fun k z1 z2 z3 => ?_, fun k n z1 z2 => ?_, fun k n _ => by rw [k1]⟩ m9 z9 w9 r9 x1 x2
  · rw [QSV_n (by decide) (by decide)]
    exact PRS_x hR.1 (fun k hk => s7 k (by rintro rfl; revert hk; decide) (by rintro rfl; revert hk; decide)) (fun k hk => s8 k (by omega) (by omega)) (by rw [s7 69 (by decide) (by decide)]; exact hR.1.2.1.1)
  · by_cases h1 : k = 75
    · rw [h1, QSV_75]; exact ⟨s5, by omega⟩
    by_cases h2 : k = 77
    · rw [h2, QSV_77]; exact ⟨s6, by omega⟩
    rw [QSV_n h1 h2, s7 k h1 h2]; exact hR.2 k hk
  · exact s8 k (fun e => by rw [e] at z1; exact absurd z1 (by decide)) (fun e => by rw [e] at z1; exact absurd z1 (by decide))
  · by_cases h1 : k = 74
    · subst h1; exact s9 n z2
    by_cases h2 : k = 76
    · subst h2; exact s10 n z2
    rw [s8 k h1 h2]
/-- and is forgotten -/
theorem fgs_x {F : MS → Unit → Option (MS × β)} {R : MS → β → Prop} (hR : XRS w0 T w p Q2 sc) (hq : Q2 75 = Q 75 + 8 ∧ Q2 77 = Q 77 + 54) (h : ∀ v, XRS w0 T v p (qst (qst Q2 75 (Q 75)) 77 (Q 77)) sc → v.2 = w.2 → PK R (F v ())) : PK R (bnd (fm_M_forgetSaved N w) F) := by
  have q75 := hR.2 75 (by decide)
  have q77 := hR.2 77 (by decide)
  rw [hq.1] at q75
  rw [hq.2] at q77
  have e1 : w.1 75 - 8 = I (Q 75 : Nat) := by rw [q75.1]; exact (I_mn (a := Q 75 + 8) (c := 8) (by omega) rfl).trans (by congr 2)
  have e2 : (upI w 75 (I (Q 75 : Nat))).1 77 - 54 = I (Q 77 : Nat) := by rw [upI_ne (by decide), q77.1]; exact (I_mn (a := Q 77 + 54) (c := 54) (by omega) rfl).trans (by congr 2)
  show PK R (bnd (fb_M_forgetSaved_0 N () w) F)
  unfold fb_M_forgetSaved_0
  rw [e1, bnd_lt, lt_e, e2, bnd_lt, lt_e, bnd_s]
  refine h _ ⟨?_, QMK_st (QMK_st hR.2 (by omega)) (by omega)⟩ rfl
  rw [qst_no (by decide), qst_no (by decide)]
  exact PRS_x hR.1 (fun k hk => by rw [upI_ne (by rintro rfl; revert hk; decide), upI_ne (by rintro rfl; revert hk; decide)]) (fun _ _ => rfl) (by rw [upI_ne (by decide), upI_ne (by decide)]; exact hR.1.2.1.1)
theorem XZ_mk (hz : XZ m0 w0 K T nm Nk fof cvr lst g lo hi a cm q r (QSV Q) sc m w1 m2 z w2 rt) (hQ : QRR Q w w1) {F : MS → Unit → Option (MS × Int32)} (hF : ∀ v, F v () = some (v, rt)) : PK (fun v r0 => XZ m0 w0 K T nm Nk fof cvr lst g lo hi a cm q r Q sc m w m2 z v r0) (bnd (fm_M_forgetSaved N w2) F) := by
  obtain ⟨b, cm3, Q3, sc3, rn, f, L, z1, z2, z3, z4, z5, z6⟩ := hz
  have hm := z3.2.2.2.2.2.2.1.2.2
  rw [QSV_75, QSV_77, QSV_n (by decide) (by decide)] at hm
  refine fgs_x z3.2.2.1.1 ⟨hm.1, hm.2.1⟩ (fun v hv hv2 => ?_)
  rw [hF v]
  have e2 : ∀ k, k ≠ 75 → k ≠ 77 → qst (qst Q3 75 (Q 75)) 77 (Q 77) k = Q3 k := fun k h1 h2 => (qst_no h2).trans (qst_no h1)
  have e32 := e2 32 (by decide) (by decide)
  rw [QSV_n (by decide) (by decide)] at z2 z5
  have hx := XTR_mk (Q := Q) (w := w) (Q3 := qst (qst Q3 75 (Q 75)) 77 (Q 77)) (v := v) z3 (fun k h1 h2 _ => QSV_n h1 h2) QSV_le hQ (fun k h1 h2 _ => e2 k h1 h2) ⟨(qst_no (by decide)).trans qst_at, qst_at, (e2 83 (by decide) (by decide)).trans hm.2.2⟩ hv hv2
  obtain ⟨v1, vr⟩ := v
  have hv2 : vr = w2.2 := hv2
  subst hv2
  exact pk_some ⟨b, cm3, _, sc3, rn, f, L, z1, by rw [e32]; exact z2, hx, z4, by rw [e32]; exact (RT_fr (w := w2) (v := (v1, w2.2)) f).2 _ rn L (fun _ _ _ => ⟨rfl, rfl⟩) (fun _ _ _ => rfl) z5, z6⟩
theorem bnd_idl {X : Option (MS × Unit)} : bnd X (fun u _ => some (u, ())) = X := by cases X <;> rfl
end
