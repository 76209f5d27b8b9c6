/-! a FUNCTION, both -/
set_option maxRecDepth 100000
/-- what a FUNCTION leaves -/
def FNRq (m0 w0 : MS) (T : Nat) (nm : Nat → Nat) (fof cvr : Int → Int → Int) (f a0 q0 : Nat) (Q0 : Nat → Nat) (mS wS : MS) (p r : Nat) (m w : MS) : Prop := ∃ (a cm : Nat) (Q : Nat → Nat), XCS m0 nm m a cm [([], [], 0)] false ∧ (XRn w0 T w p Q ∧ Q 56 = r) ∧ (a0 ≤ a ∧ q0 ≤ r ∧ QLE Q0 Q) ∧ XFC mS m a0 q0 r 0 ∧ ((∀ k n, grp k ≠ 0 → n < Q0 (grp k) → w.2.2.1 k n = wS.2.2.1 k n) ∧ ∀ n, n < Q0 39 → w.2.2.2 34 n = wS.2.2.2 34 n) ∧ (w.1 52 = wS.1 52 ∧ ∀ k n, 47 ≤ k → k ≤ 50 → n ≠ f → w.2.2.1 k n = wS.2.2.1 k n) ∧ ∃ k1 : Nat, k1 < 16000 ∧ w.2.2.1 50 f = I (k1 : Nat) ∧ w.2.2.1 48 f = m0.2.2.1 25 f ∧ ∀ (C : Nat → Int) (P R : Nat → Nat → Int) (J : Nat → Int64), FNx w0 fof cvr C P R J m w a0 a q0 r Q0 Q false [] [] [] → (∀ u, q0 ≤ u → u < r → FUX C P R J u) ∧ ∃ g, ZRs C R J (CRs C R J g) 0 0 [] [] g a0 ((k1 : Nat) : Int)
section
variable {α β : Type} {m0 w0 m w m2 w2 m3 w3 v u mS wS : MS} {K nm Nk W : Nat → Nat} {N T f p p0 lo hi q r n n0 k k0 k1 kl i a a0 b cm cm2 q0 xa xb kc first : Nat} {Q Q0 Q2 : Nat → Nat} {sc sc2 : SCT} {idc fof cvr : Int → Int → Int} {RU : MS → Unit → MS → Unit → Prop}
theorem FNI_ad (h : FNI m0 w0 T nm fof cvr f a0 q0 Q0 mS wS (some kl) m w p a cm q Q sc) (hp : p < T) : FNI m0 w0 T nm fof cvr f a0 q0 Q0 mS wS (some kl) m (adv w p) (p + 1) a cm q Q sc := by
  obtain ⟨h1, h2, h3, h4, h5, h6, h7⟩ := h
  refine ⟨h1, ⟨XRn_ad h2.1 hp, h2.2⟩, h3, h4, h5, ⟨(show (adv w p).1 52 = w.1 52 from upI_ne (by decide)).trans h6.1, h6.2⟩, ?_⟩
  rcases h7 with ⟨z, -⟩ | ⟨k1, kl2, z1, z2, z3, z4⟩
  · cases z
  · exact Or.inr ⟨k1, kl2, z1, z2, z3, fun C P R J fi hc => z4 C P R J fi hc⟩
theorem fnq_lp (c : CTZ m0 w0 K T nm Nk) (cv : CTV m0 w0 K T) (cx : CVX N m0 w0 K T idc fof cvr) (hxb : xb ≤ 8015) (hr4 : r ≤ 400) (hcl : K hi = 28 ∧ hi ≤ T) (hf : f ≤ 666)
    (hend : ∀ M M2 m2 w2 b cm2 Q2 sc2 kl, FNI m0 w0 T nm fof cvr f a0 q0 Q0 mS wS (some kl) m2 w2 hi b cm2 r Q2 sc2 → PP RU (jg_Cm_oneFunction N M m2 (I (f : Nat)) (I ((0 : Nat) : Int))) ((kg_M_function0 N M2).1 w2 (I (f : Nat)) (I (kl : Nat)) 0)) :
    ∀ (k n lo xa q M M2 : Nat) (last : Option Nat) (m w : MS) (a cm : Nat) (Q : Nat → Nat) (sc : SCT), RWcK m0 1 27 (CLScK m0) k n lo hi xa xb q r → FNI m0 w0 T nm fof cvr f a0 q0 Q0 mS wS last m w lo a cm q Q sc → PP RU (jg_Cm_oneFunction N M m (I (f : Nat)) (I (n : Nat))) ((kg_M_function0 N M2).1 w (I (f : Nat)) (optI last) 1)
  | 0, _, _, _, _, _, _, _, _, _, _, _, _, _, h, _ => h.elim
  | k + 1, n, lo, xa, q, 0, M2, last, m, w, a, cm, Q, sc, _, _ => pp_nl
  | k + 1, n, lo, xa, q, M + 1, 0, last, m, w, a, cm, Q, sc, _, _ => pp_nr
  | k + 1, n, lo, xa, q, M + 1, M2 + 1, last, m, w, a, cm, Q, sc, h, hI => by
    obtain ⟨mid, c1, s1, hE, h⟩ := h
    have hd := CLS_bdK _ _ _ _ _ _ _ hE
    unfold HDc at hd
    have hdm : mid ≤ hi ∧ c1 ≤ xb ∧ s1 ≤ r := by
      rcases h with ⟨-, -, rfl, rfl, rfl⟩ | ⟨-, n2, -, h3⟩
      · exact ⟨Nat.le_refl _, Nat.le_refl _, Nat.le_refl _⟩
      · have := (RW_hdK CLS_bdK h3).1
        unfold HDc at this
        omega
    have hcm : K mid = 27 ∨ K mid = 28 := by
      rcases h with ⟨-, -, rfl, -⟩ | ⟨⟨-, h2⟩, -⟩
      · exact Or.inr hcl.1
      · exact Or.inl (kA c (by omega) (h2 rfl))
    refine fn_cls c cv cx hE (by omega) (by omega) ⟨hcm, by omega⟩ hI hf (fun m2 w2 b cm2 Q2 sc2 hI2 => ?_)
    have fr2 := XCS_fr hI2.1
    rcases h with ⟨rfl, h21, rfl, rfl, rfl⟩ | ⟨⟨h1, h2⟩, n2, h21, h3⟩
    · rw [if_neg (by omega), tre fr2 (by decide) (v := ((0 : Nat) : Int)) h21]
      exact hend M M2 m2 w2 b cm2 Q2 sc2 _ hI2
    · have k27 : K mid = 27 := kA c (by omega) (h2 rfl)
      have hl : mid < T := by
        have := (RW_hdK CLS_bdK h3).1
        unfold HDc at this
        omega
      rw [if_pos k27, tre fr2 (by decide) h21]
      exact fnq_lp c cv cx hxb hr4 hcl hf hend k n2 (mid + 1) c1 s1 M M2 _ m2 (adv w2 mid) b cm2 Q2 sc2 h3 (FNI_ad hI2 hl)
/-- the end of a FUNCTION -/
theorem fn_fin (c : CTZ m0 w0 K T nm Nk) (hI : FNI m0 w0 T nm fof cvr f a0 q0 Q0 mS wS (some kl) m w p a cm r Q sc) (h : K p = 28 → ∀ m2 w2, p < T → FNRq m0 w0 T nm fof cvr f a0 q0 Q0 mS wS (p + 1) r m2 w2 → PP RU (some (m2, ())) (some (w2, ()))) {M M2 : Nat} : PP RU (jg_Cm_oneFunction N M m (I (f : Nat)) (I ((0 : Nat) : Int))) ((kg_M_function0 N M2).1 w (I (f : Nat)) (I (kl : Nat)) 0) := by
  obtain ⟨hC, ⟨hR, hq56⟩, ⟨ha0, hq0, hQ0⟩, hx, hold, htab, hlast⟩ := hI
  cases M with
  | zero => exact pp_nl
  | succ M =>
  show PP RU (jb_Cm_oneFunction_129 N (jg_Cm_oneFunction N M) m (I (f : Nat)) (I ((0 : Nat) : Int))) _
  unfold jb_Cm_oneFunction_129 jb_Cm_oneFunction_263
  rw [show decide (I ((0 : Nat) : Int) = (0 : Int32)) = true from rfl, br_t]
  refine l_put hC.1.2.2.1.1 hC.1.2.2.1.2.2 (fun ha => ?_)
  have k1' := XCS_put (x := 36) hC ha
  have e268 : ∀ (u : MS) B, PP RU (jb_Cm_oneFunction_268 N (jg_Cm_oneFunction N M) u 1) B := fun u B => by
    unfold jb_Cm_oneFunction_268
    rw [show decide ((1 : Int32) = 0) = false from rfl]
    exact pp_nl
  refine l_br (fun z711 => l_ck (fun _ => l_br (fun z40 => ?_) (fun _ => e268 _ _))) (fun _ => e268 _ _)
  have z711 := of_decide_eq_true z711
  have z40 := of_decide_eq_true z40
  have h41 : (ptc m a 36).2.2.1 41 0 = I (cm : Nat) := k1'.1.2.2.2.2.1
  have cmb : cm ≤ 4000 := k1'.1.2.2.2.2.2.1
  have cm40 : cm ≤ 40 := by
    rw [show (0 : Int32).toNatClampNeg = 0 from rfl, h41] at z40
    have := (I_le (x := ((cm : Nat) : Int)) (y := 40) (by omega) (by omega) (by decide) (by decide)).mp z40
    omega
  unfold jb_Cm_oneFunction_268 hb_Cm_oneFunction_268
  rw [show decide ((0 : Int32) = 0) = true from rfl, ck_t, show isb 0 = true from rfl, ck_t, lt_e, upI_id z711]
  refine r_228 c hR (fun k28 v hv => ?_)
  have hpT : p < T := c.2.1.1.lt hR.2.1.2 (by omega) (by omega)
  have XV := XRn_rul hv (XRn_ad hR hpT)
  have rv : v.2.2.1 = w.2.2.1 := by rw [hv.2]; rfl
  have jv : v.2.2.2 = w.2.2.2 := by rw [hv.2]; rfl
  rcases hlast with ⟨z, -⟩ | ⟨k1, kl2, z1, hkl, hrow, hA⟩
  · cases z
  injection z1 with z1
  subst z1
  refine h k28 _ v hpT ⟨a + 1, cm, Q, k1', ⟨XV, hq56⟩, ⟨by omega, hq0, hQ0⟩, XFC_put hx ha0, ⟨fun k n g0 hn => by rw [rv]; exact hold.1 k n g0 hn, fun n hn => by rw [jv]; exact hold.2 n hn⟩, ⟨by
    rw [hv.1 52 (by decide) (by decide)]
    exact (show (adv w p).1 52 = w.1 52 from upI_ne (by decide)).trans htab.1, fun k n k1 k2 hn => by rw [rv]; exact htab.2 k n k1 k2 hn⟩, k1, hkl.2.2.2, by rw [rv]; exact hrow.1, by rw [rv]; exact hrow.2.1, fun C P R J fi => ?_⟩
  have f1 : FNx w0 fof cvr C P R J m w a0 a q0 r Q0 Q false [] [] [kl] := FNx_mo fi ⟨Nat.le_refl _, by omega⟩ ⟨Nat.le_refl _, Nat.le_refl _⟩ QLE_rf QLE_rf (fun j _ z _ => ptc_o (by omega)) (fun k u z1 z2 _ _ => by rw [ptc_r (by omega)]) (fun k n _ _ _ _ _ _ => by rw [rv]) (fun n _ _ => by rw [jv]) (fun n _ _ => by rw [show A v 30 n = A w 30 n from by unfold A; rw [rv]]) (fun j hm _ _ => hm) (fun j hm _ _ => (by cases hm))
  obtain ⟨n1, n2⟩ := hA C P R J f1 cm40
  refine ⟨n1, n2 ⟨1, ?_⟩⟩
  have r45 : R 45 kl = -1 := by
    rw [fi.2.2.2.1.1 45 kl (by decide) (by decide) (by decide) (by decide) (by decide) hkl.1 hkl.2.1 (fun _ y => by cases y)]
    show (v.2.2.1 45 kl).toInt = _
    rw [rv, hrow.2.2]; rfl
  have c36 : C a = 36 := by
    rw [fi.1 a ha0 (by omega) (fun y => by cases y)]
    show ((ptc m a 36).2.2.1 23 a).toInt = _
    rw [ptc_n]; rfl
  rw [r45]
  exact ⟨by omega, Or.inl ⟨rfl, Or.inl ⟨rfl, c36⟩⟩⟩
end
