/-! expressions: one level more, both -/
set_option maxRecDepth 100000
/-- CATCH, as deep as f: behind the opening -/
def HXC (N : Nat) (m0 w0 : MS) (K : Nat → Nat) (T : Nat) (nm Nk : Nat → Nat) (fof cvr : Int → Int → Int) (f : Nat) : Prop := ∀ (D d o n lo hi xa xb q r : Nat) (m w : MS) (a cm : Nat) (Q : Nat → Nat) (sc : SCT) (g lst : Bool), XPcK m0 f o 3 n lo hi xa xb q r → A m0 16 n = 19 → xb ≤ 8015 → r ≤ 400 → (NEC (K hi) ∧ hi ≤ T) → XCS m0 nm m a cm sc g → XRS w0 T w lo Q sc → Q 56 = q → (tot sc + (hi - lo) ≤ 4000 ∧ sc.length ≤ o + 1) → PP (XZ m0 w0 K T nm Nk fof cvr lst g lo hi a cm q r Q sc m w) ((jrc_Cm_fun N D).2.2.2.2.2.2.2.2.2.2.1 m (I (n : Nat)) (lsI lst)) (kb_M_expression_60 N (krc_M_behind N d) () w)
section
variable {α β : Type} {m0 w0 m w m2 w2 m3 w3 v u w1 mS wS : MS} {K nm Nk W W2 : Nat → Nat} {N T D d o a a0 b b0 c cm cm0 cm2 cm3 q q0 r s lo lo0 mid hi i j f f2 n k kk p p2 σ tk x xa xb cc M M' m1 lv y t tok : Nat} {Q Q0 Q2 Q3 Q4 Qa : Nat → Nat} {sc sc0 sc2 sc3 : SCT} {g lst l2 : Bool} {L L1 L2 S : List Nat} {idc fof cvr : Int → Int → Int} {z : Unit} {rt v1 v2 v3 v4 v5 r0 : Int32} {fc : MS → Unit → Option (MS × Unit)} {RR : MS → Unit → MS → Int32 → Prop} {A' : Option (MS × Unit)} {B' : Option (MS × Int32)}
theorem xs_step (c : CTZ m0 w0 K T nm Nk) (IM : HXM N m0 w0 K T nm Nk fof cvr (f + 1)) (IW1 : HXW N m0 w0 K T nm Nk fof cvr (f + 1)) (IW : HXW N m0 w0 K T nm Nk fof cvr f) (IS : HXS N m0 w0 K T nm Nk fof cvr f) : HXS N m0 w0 K T nm Nk fof cvr (f + 1) := by
  intro D d o n lo hi xa xb q r m w a cm Q sc g lst hE h9 hxb hr4 hcl hC hR hq htot
  by_cases z20 : A m0 16 n = 20
  · exact IM D d o n lo hi xa xb q r m w a cm Q sc g lst hE z20 hxb hr4 hcl hC hR hq htot
  by_cases z21 : A m0 16 n = 21
  · exact x_snd c IW IS hE z21 hxb hr4 hcl hC hR hq htot
  have n19 : A m0 16 n ≠ 19 := fun z => by
    have h4 := hE.2.2.2
    rcases h4 with h | h | h | h | h | h | h | h | h | h | h | h | h | h | h | h | h
    · have := h.1.1; have := h.1.2.1; omega
    · have := h.1; omega
    · have := h.1; omega
    · have := h.1; omega
    · have := h.1; omega
    · have := h.1; omega
    · have := h.1; omega
    · have := h.1; omega
    · have := h.1; omega
    · have := h.1; omega
    · have := h.1; omega
    · have := h.1; omega
    · rcases h.1 with z | z <;> omega
    · obtain ⟨-, -, x, c1, -, -, -, h⟩ := h
      exact h9 h
    · have := h.1; omega
    · have := h.1; omega
    · have := h.1; omega
  exact x_smp1 c IW1 (xp_2 hE n19 z20 z21) hxb hr4 hcl hC hR hq htot
theorem pa_beg9 {u : MS} {q r hi lo n f : Nat} (h : PAcK u f n lo hi a b q r) : A u 6 lo ≠ 9 := by
  cases f with
  | zero => exact h.elim
  | succ f =>
    obtain ⟨-, -, -, h⟩ := h
    rcases h with ⟨h, -⟩ | ⟨-, x, -, -, -, -, -, h⟩ | ⟨-, x, c1, -, -, -, h, -⟩ | ⟨-, k, m, c1, -, -, ⟨-, h, -⟩, -⟩ | ⟨-, k, m, mid, c1, s, -, -, ⟨-, h, -⟩, -⟩
    · have := h.2.1; omega
    · omega
    · omega
    · omega
    · omega
theorem xp_beg2 : ∀ {f o cl n lo hi a b q r : Nat} {u : MS}, XPcK u f o cl n lo hi a b q r → cl ≤ 2 → A u 6 lo ≠ 9
  | 0, _, _, _, _, _, _, _, _, _, _, h, _ => h.elim
  | f + 1, o, cl, n, lo, hi, a, b, q, r, u, h, hcl => by
    have h4 := h.2.2.2
    rcases h4 with ⟨h4, -⟩ | ⟨h4, m, c, h5, h6, h7, hk, -⟩ | ⟨h4, h5, hk⟩ | ⟨h4, h5, hk⟩ | ⟨h4, k, m, c, h5, h6, h7, hk, -⟩ | ⟨h4, x, mid, c, s, k, m, c2, h5, h6, h7, h8, h9, hk, -⟩ | ⟨h4, k, m, c, h5, h6, h7, hk, -⟩ | ⟨h4, k, m, m1, c1, s1, h5, h6, h7⟩ | ⟨h4, k, m, ph, c, h5, h6, h7, h8, h9, h10, h11, h12, hk, -⟩ | h4 | ⟨h4, h5, k, m, a2, c, h6, h7, h8, h9, h10, h11, hk, -⟩ | ⟨h4, h5, x, mid, c, s, k, m, -, hx, -⟩ | ⟨h4, h5, m, c, h6, h7, h8, hk, hk2⟩ | ⟨h4, h5, -⟩ | ⟨h4, h5, -⟩ | ⟨h4, h5, -⟩ | ⟨h4, h5, j, m, c, h6, hs, h7, h8⟩
    · have := h4.2.1; omega
    · omega
    · obtain ⟨-, -, -, -, -, ⟨-, h, -⟩, -⟩ := h5; omega
    · obtain ⟨-, -, -, -, -, -, -, ⟨-, h, -⟩, -⟩ := h5; omega
    · omega
    · omega
    · omega
    · rcases h7 with ⟨-, -, -, -, -, -, hk, -⟩ | ⟨x, m2, c2, s2, kb, mb, c3, -, -, -, -, -, -, hk, -⟩
      · omega
      · omega
    · omega
    · have := h4.2.1.2.1; omega
    · omega
    · exact (xp_beg0 hx).2.2
    · rcases h4 with z | z
      · have := hk z; omega
      · have := hk2 z; omega
    · omega
    · omega
    · omega
    · cases j with
      | zero => omega
      | succ j =>
        obtain ⟨-, n2, x2, c2, q2, S2, g2, h1, -⟩ := hs
        rcases h1 with ⟨⟨mm, e, -⟩, -⟩ | ⟨-, z, -⟩
        · exact xp_beg2 e (by decide)
        · cases z
theorem xp_cat {u : MS} {q r hi lo n f : Nat} (h : XPcK u (f + 1) o 3 n lo hi a b q r) (h9 : A u 6 lo = 9) : A u 16 n = 19 := by
  by_cases z19 : A u 16 n = 19
  · exact z19
  exfalso
  by_cases z20 : A u 16 n = 20 ∨ A u 16 n = 21
  · have h4 := h.2.2.2
    rcases h4 with h | h | h | h | h | h | h | h | h | h | h | h | h | h | h | h | h
    · have := h.1.1; have := h.1.2.1; omega
    · have := h.1; omega
    · have := h.1; omega
    · have := h.1; omega
    · have := h.1; omega
    · have := h.1; omega
    · have := h.1; omega
    · have := h.1; omega
    · have := h.1; omega
    · have := h.1; omega
    · have := h.1; omega
    · have := h.1; omega
    · rcases h.1 with z | z <;> omega
    · exact z19 h.1
    · obtain ⟨-, -, x, y, mid, c, c2, -, hp, -⟩ := h
      exact pa_beg9 hp h9
    · obtain ⟨-, -, x, y, mid, c, c2, s, -, hx, -⟩ := h
      exact xp_beg2 hx (by decide) h9
    · have := h.1; omega
  · exact xp_beg2 (xp_2 h z19 (fun z => z20 (Or.inl z)) (fun z => z20 (Or.inr z))) (by decide) h9
theorem xe_step (c : CTZ m0 w0 K T nm Nk) (I1 : HXS N m0 w0 K T nm Nk fof cvr (f + 1)) (IC : HXC N m0 w0 K T nm Nk fof cvr (f + 1)) : HXE N m0 w0 K T nm Nk fof cvr (f + 1) := by
  intro D d o n lo hi xa xb q r m w a cm Q sc g lst hE hxb hr4 hcl hC hR hq htot
  have hd := xp_hd hE
  cases d with
  | zero => exact pp_nr
  | succ d =>
  show PP _ _ (km_M_expression N (krc_M_behind N d) w)
  have hi1 := XTR_I (k := 70) (x := w.1 70 + 1) (XTR_rf (lst := lst) (K := K) (Nk := Nk) (fof := fof) (cvr := cvr) hC hR hq) (by decide) (by decide)
  have hR1 := hi1.2.2.1.1
  have e31 : PP (XZ m0 w0 K T nm Nk fof cvr lst g lo hi a cm q r Q sc m w) ((jrc_Cm_fun N D).2.2.2.2.2.2.2.2.2.2.1 m (I (n : Nat)) (lsI lst)) (kb_M_expression_31 N (krc_M_behind N d) () w) := by
    unfold kb_M_expression_31
    refine r_opens ?_
    rw [isV_e (k := 9) (s := 4) (XRS_wp c hR1) (by decide) rfl, bnd_s]
    by_cases z9 : K lo = 9
    · have h6 : A m0 6 lo = 9 := by
        show (m0.2.2.1 6 lo).toInt = 9
        rw [c.1.2 lo (by omega), z9]; rfl
      rw [if_pos z9, show decide ((1 : Int32) = 0) = false from rfl, br_f]
      have e60 : ∀ w3, XTR m0 w0 K T nm Nk fof cvr lst g [] lo lo a a cm cm q q Q Q sc sc m w m w3 → PP (XZ m0 w0 K T nm Nk fof cvr lst g lo hi a cm q r Q sc m w) ((jrc_Cm_fun N D).2.2.2.2.2.2.2.2.2.2.1 m (I (n : Nat)) (lsI lst)) (kb_M_expression_60 N (krc_M_behind N d) () w3) := fun w3 ht3 => pp_mo (IC D d o n lo hi xa xb q r m w3 a cm Q sc g lst hE (xp_cat hE h6) hxb hr4 hcl hC ht3.2.2.1.1 hq htot) (fun m2 z w2 rt hz => XZ_in ht3 hz)
      exact r_br (fun _ => e60 _ hi1) (fun _ => r_rul (fun v hv => e60 v (XTR_mv hi1 (RUL_x hv hR1) hv.2 (Nat.le_refl _) (fun j a b => by omega))))
    · have h6 : A m0 6 lo ≠ 9 := fun z => z9 (kA c (by omega) z)
      rw [if_neg z9, show decide ((0 : Int32) = 0) = true from rfl, br_t]
      cases d with
      | zero => exact pp_nr
      | succ d =>
      refine pp_rb (pp_mo (I1 D d o n lo hi xa xb q r m _ a cm Q sc g lst hE h6 hxb hr4 hcl hC hR1 hq htot) (fun m2 z w2 rt hz => ?_))
      unfold kb_M_expression_137
      refine pk_ltq (pk_some ?_)
      exact XZ_out (XZ_in hi1 hz) (fun Q2 sc2 h => XRS_I h (by decide) (by decide)) rfl (Nat.le_refl _) (fun j a b => by omega)
  unfold km_M_expression kb_M_expression_0
  rw [decide_eq_true hR.1.2.2.1, br_t, bU_m (XRS_wp c hR), bnd_s, isV_e (k := 9) (s := 4) (XRS_wp c hR) (by decide) rfl, bnd_s]
  cases bUK (K lo) with
  | false =>
    rw [show decide (b2c false = 0) = true from rfl, br_t]
    by_cases z9 : K lo = 9
    · rw [if_pos z9, show decide ((1 : Int32) = 0) = false from rfl, br_f]
      exact e31
    · rw [if_neg z9, show decide ((0 : Int32) = 0) = true from rfl, br_t]
      exact pp_nr
  | true =>
    rw [show decide (b2c true = 0) = false from rfl, br_f]
    exact e31
end
