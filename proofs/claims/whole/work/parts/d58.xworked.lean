/-! expressions: all but MATCH, SEND, CATCH, both -/
set_option maxRecDepth 100000
/-- what worked() reads, as deep as f -/
def HXW (N : Nat) (m0 w0 : MS) (K : Nat → Nat) (T : Nat) (nm Nk : Nat → Nat) (fof cvr : Int → Int → Int) (f : Nat) : Prop := ∀ (D d o n lo hi xa xb q r : Nat) (m w : MS) (a cm : Nat) (Q : Nat → Nat) (sc : SCT) (g lst : Bool) (RR : MS → Unit → MS → Int32 → Prop) (fc : MS → Unit → Option (MS × Unit)), XPcK m0 f o 2 n lo hi xa xb q r → xb ≤ 8015 → r ≤ 400 → (K hi ≠ 20 ∧ hi ≤ T ∧ rkK (K hi) = 0) → XCS m0 nm m a cm sc g → XRS w0 T w lo Q sc → Q 56 = q → (tot sc + (hi - lo) ≤ 4000 ∧ sc.length ≤ o + 1) → (∀ m2 w2 rt, XZ m0 w0 K T nm Nk fof cvr lst g lo hi a cm q r Q sc m w m2 () w2 rt → PP RR (fc m2 ()) (some (w2, rt))) → PP RR (bnd ((jrc_Cm_fun N D).2.2.2.2.2.2.2.2.2.2.1 m (I (n : Nat)) (lsI lst)) fc) (km_M_worked N (krc_M_behind N d) w)
section
variable {α β : Type} {m0 w0 m w m2 w2 m3 w3 v u w1 mS wS : MS} {K nm Nk W W2 : Nat → Nat} {N T D d o a a0 b b0 c cm cm0 cm2 cm3 q q0 r s lo lo0 mid hi i j f f2 n k kk p p2 σ tk x xa xb cc M M' m1 lv y t tok : Nat} {Q Q0 Q2 Q3 Q4 : Nat → Nat} {sc sc0 sc2 sc3 : SCT} {g lst l2 : Bool} {L L1 L2 S : List Nat} {idc fof cvr : Int → Int → Int} {z : Unit} {rt v1 v2 v3 v4 v5 r0 : Int32} {fc : MS → Unit → Option (MS × Unit)} {RR : MS → Unit → MS → Int32 → Prop} {A' : Option (MS × Unit)} {B' : Option (MS × Int32)} {F : MS → Int32 → Option (MS × Int32)} {E : Nat → Nat → Nat → Nat → Nat → Nat → Nat → Prop}
theorem xp_1 {u : MS} {q r hi lo n f : Nat} (h : XPcK u f o 2 n lo hi a b q r) (n22 : A u 16 n ≠ 22) : XPcK u f o 1 n lo hi a b q r := by
  cases f with
  | zero => exact h.elim
  | succ f =>
    obtain ⟨h1, h2, h3, h4⟩ := h
    refine ⟨h1, h2, h3, ?_⟩
    rcases h4 with h | h | h | h | h | h | h | h | h | h | h | h | h | h | h | h | h
    · exact Or.inl h
    · exact Or.inr (Or.inl h)
    · exact Or.inr (Or.inr (Or.inl h))
    · exact Or.inr (Or.inr (Or.inr (Or.inl h)))
    · exact Or.inr (Or.inr (Or.inr (Or.inr (Or.inl h))))
    · exact Or.inr (Or.inr (Or.inr (Or.inr (Or.inr (Or.inl h)))))
    · exact Or.inr (Or.inr (Or.inr (Or.inr (Or.inr (Or.inr (Or.inl h))))))
    · exact Or.inr (Or.inr (Or.inr (Or.inr (Or.inr (Or.inr (Or.inr (Or.inl h)))))))
    · exact Or.inr (Or.inr (Or.inr (Or.inr (Or.inr (Or.inr (Or.inr (Or.inr (Or.inl h))))))))
    · exact Or.inr (Or.inr (Or.inr (Or.inr (Or.inr (Or.inr (Or.inr (Or.inr (Or.inr (Or.inl h)))))))))
    · exact Or.inr (Or.inr (Or.inr (Or.inr (Or.inr (Or.inr (Or.inr (Or.inr (Or.inr (Or.inr (Or.inl h))))))))))
    · exact Or.inr (Or.inr (Or.inr (Or.inr (Or.inr (Or.inr (Or.inr (Or.inr (Or.inr (Or.inr (Or.inr (Or.inl ⟨h.1, Nat.le_refl _, h.2.2⟩)))))))))))
    · exact Or.inr (Or.inr (Or.inr (Or.inr (Or.inr (Or.inr (Or.inr (Or.inr (Or.inr (Or.inr (Or.inr (Or.inr (Or.inl ⟨h.1, Nat.le_refl _, h.2.2⟩))))))))))))
    · exact absurd h.2.1 (by decide)
    · exact absurd h.2.1 (by decide)
    · exact absurd h.2.1 (by decide)
    · exact absurd h.1 n22
/-- worked(), from its start -/
theorem wk_0 {S : SG_M_behind} (hR : XRS w0 T w lo Q sc) (h : ∀ M, PP RR A' ((kg_M_worked N S M).2 w (I (Q 83 : Nat)))) : PP RR A' (km_M_worked N S w) := by
  have h83 := hR.2 83 (by decide)
  unfold km_M_worked kb_M_worked_0
  cases N with
  | zero => exact pp_nr
  | succ N =>
    show PP RR A' (kb_M_worked_9 (N + 1) S (kg_M_worked (N + 1) S N) w (w.1 83) (-1) 1)
    unfold kb_M_worked_9
    rw [show decide ((1 : Int32) = 0) = false from rfl, br_f, decide_eq_true hR.1.2.2.1, br_t, h83.1]
    exact h N
theorem x_wk1 (c : CTZ m0 w0 K T nm Nk) (I1 : HXU N m0 w0 K T nm Nk fof cvr f) (hE : XPcK m0 f o 1 n lo hi xa xb q r) (hxb : xb ≤ 8015) (hr4 : r ≤ 400) (hcl : K hi ≠ 20 ∧ hi ≤ T ∧ rkK (K hi) = 0) (hC : XCS m0 nm m a cm sc g) (hR : XRS w0 T w lo Q sc) (hq : Q 56 = q) (htot : tot sc + (hi - lo) ≤ 4000 ∧ sc.length ≤ o + 1) (hh : ∀ m2 w2 rt, XZ m0 w0 K T nm Nk fof cvr lst g lo hi a cm q r Q sc m w m2 () w2 rt → PP RR (fc m2 ()) (some (w2, rt))) : PP RR (bnd ((jrc_Cm_fun N D).2.2.2.2.2.2.2.2.2.2.1 m (I (n : Nat)) (lsI lst)) fc) (km_M_worked N (krc_M_behind N d) w) := by
  refine wk_0 hR (fun M => ?_)
  refine I1 D d M o n lo hi xa xb q r (Q 83) m w a cm Q sc g lst RR fc hE hxb hr4 ⟨hcl.1, hcl.2.1⟩ hC hR hq htot (Nat.le_refl _) (fun M2 M3 m2 w2 rt hz => ?_)
  have h := hh m2 w2 rt hz
  obtain ⟨b2, cm2, Q2, sc2, rn, f2, L, rfl, hrn, ht, -⟩ := hz
  have h83 := ht.2.2.1.1.2 83 (by decide)
  have e83 : Q2 83 = Q 83 := ht.2.2.2.2.2.2.1.2.2.2.2
  rw [e83] at h83
  rw [hcl.2.2]
  refine rdc_0 h83.1 h83.2 ?_
  unfold wkG
  rw [if_pos rfl]
  exact h
theorem x_wk (c : CTZ m0 w0 K T nm Nk) (I1 : HXU N m0 w0 K T nm Nk fof cvr (f + 1)) (IU : HXU N m0 w0 K T nm Nk fof cvr f) : HXW N m0 w0 K T nm Nk fof cvr (f + 1) := by
  intro D d o n lo hi xa xb q r m w a cm Q sc g lst RR fc hE hxb hr4 hcl hC hR hq htot hh
  by_cases z22 : A m0 16 n = 22
  · have t4 := c.2.1.1.1
    have hd := xp_hd hE
    have fr := XCS_fr hC
    have hn : n ≤ 8015 := by omega
    have h4 := hE.2.2.2
    rcases h4 with h | h | h | h | h | h | h | h | h | h | h | h | h | h | h | h | h
    · have := h.1.1; have := h.1.2.1; omega
    · have := h.1; omega
    · have := h.1; omega
    · have := h.1; omega
    · have := h.1; omega
    · have := h.1; omega
    · have := h.1; omega
    · have := h.1; omega
    · have := h.1; omega
    · have := h.1; omega
    · have := h.1; omega
    · have := h.1; omega
    · rcases h.1 with z | z <;> omega
    · have := h.1; omega
    · have := h.1; omega
    · have := h.1; omega
    · obtain ⟨-, -, j, x, c1, h18, hs, hc1, hj⟩ := h
      refine wk_0 hR (fun M => ?_)
      cases D with
      | zero => exact pp_nl
      | succ D =>
      refine pp_lb ?_
      show PP _ (jm_Cm_expression N (jrc_Cm_fun N D) m (I (n : Nat)) (lsI lst)) _
      refine exd_22 hn (tre fr (by decide) z22) ?_
      rw [tre fr (by decide) h18]
      refine l_ck (fun _ => l_id ?_)
      cases D with
      | zero => exact pp_nl
      | succ D =>
      show PP _ (jm_Cm_signs N (jrc_Cm_fun N D) m (I (x : Nat))) _
      unfold jm_Cm_signs jb_Cm_signs_0
      have hS : SGA m0 w0 K T nm Nk fof cvr lst g lo a cm q Q sc m w [] lo a cm q Q sc m w 0 0 0 0 := XTR_rf hC hR hq
      have e : ∀ m w a2 cm2 Q2 sc2 rn, a < a2 → XTR m0 w0 K T nm Nk fof cvr lst g [] lo hi a a2 cm cm2 q r Q Q2 sc sc2 _ _ m w → (Q 32 ≤ rn ∧ rn < Q2 32) → A w 28 rn = -1 → (A w 23 rn ≠ 12 ∧ A w 23 rn ≠ 13) → PP (fun m z w r => PK (fun v q => RR v q w r) (fc m z)) (some (m, ())) (some (w, I (rn : Nat))) := fun m2 w2 a2 cm2 Q2 sc2 rn ha ht hrn h28 h23 => pp_lx (hh m2 w2 (I (rn : Nat)) ⟨a2, cm2, Q2, sc2, rn, 2, [], rfl, hrn, ht, ⟨ha, by omega⟩, RTd_1 h28 h23 rfl hrn, fun n hn => by cases hn⟩)
      have := (sgn_x (N := N) (D := D) (d := d) (o := o) (fc := fun u _ => some (u, ())) (RR := fun m z w r => PK (fun v q => RR v q w r) (fc m z)) c IU (by omega) hr4 hcl htot e j).2 M N x lo xa q [] a cm Q sc m w 0 0 0 0 hs hS (fun _ => hj)
      rw [show ∀ X : Option (MS × Unit), bnd X (fun u _ => some (u, ())) = X from fun X => by cases X <;> rfl] at this
      exact this
  · exact x_wk1 c I1 (xp_1 hE z22) hxb hr4 hcl hC hR hq htot hh
end
