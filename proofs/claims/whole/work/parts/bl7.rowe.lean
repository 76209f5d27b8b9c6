/-! rows of E's, both sides -/
set_option maxRecDepth 100000
/-- behind the E's l of a row that began at p0 -/
def RWE (N : Nat) (m0 w0 : MS) (K : Nat → Nat) (T : Nat) (nm Nk : Nat → Nat) (gd : Bool) (mB wB : MS) (p0 n0 : Nat) (sc : SCT) (o : Nat) (m w : MS) (p : Nat) (l : List Nat) : Prop := ∃ (n : Nat) (sc2 : SCT) (X : Nat) (W : Nat → Nat) (Rf Zf : Bool) (CL : Int32 × Int32 × Int32 → Prop), (l ≠ [] ∧ p0 < p ∧ 2 * l.length + p0 ≤ p + 1) ∧ STQ m0 w0 K T Nk gd mB wB p0 n0 sc 1 m w p n sc2 X W Rf Zf CL ∧ ERW N K nm gd m n0 n W l p0 p sc sc2 X Rf Zf (BCo N CL) ∧ m.2.2.1 21 (l.getLastD 0) = 0 ∧ n0 < l.headD 0 ∧ PXR N w0 K T nm Nk m n0 n o l p0 p X
section
variable {β : Type} {m0 w0 m w v u mB wB m2 w2 m3 w3 : MS} {K nm Nk W : Nat → Nat} {T p n N q X n2 p0 n0 p2 ν o s L : Nat} {sc sc1 sc2 sc3 t : SCT} {gd Rf Zf : Bool} {l : List Nat} {r : Int32} {fc : MS → Option (MS × (Int32 ⊕ Nat))} {fw : MS → Option (MS × Int32)} {CL CM : Int32 × Int32 × Int32 → Prop} {B1 B2 : MS → Prop} {NC : Nat → Prop}
theorem ERW_bc (hb : ∀ m, B2 m ↔ B1 m) (h : ERW N K nm gd m2 n0 n2 W l p p2 sc sc2 X Rf Zf B1) : ERW N K nm gd m2 n0 n2 W l p p2 sc sc2 X Rf Zf B2 := by
  cases l with
  | nil => exact ⟨h.1, h.2.1, h.2.2.1, h.2.2.2.1, h.2.2.2.2.1, fun m z => h.2.2.2.2.2 m ((hb m).mp z)⟩
  | cons ν l =>
    obtain ⟨q, q2, sc1, X1, X2, R1, R2, Z1, Z2, b1, b2, h1, g1, h2, h3, h4, h5, h6, h7, h8, h9, h10, h11⟩ := h
    exact ⟨q, q2, sc1, X1, X2, R1, R2, Z1, Z2, b1, b2, h1, g1, h2, h3, h4, h5, h6, h7, h8, h9, fun m => (hb m).trans (h10 m), h11⟩
/-- what follows a node is set -/
theorem STQ_21 {y : Int32} (h : STQ m0 w0 K T Nk gd mB wB p0 n0 sc s m w p n sc2 X W Rf Zf CL) (hL : n0 < L) : STQ m0 w0 K T Nk gd mB wB p0 n0 sc s (upA m 21 (upd (m.2.2.1 21) L y)) w p n sc2 X W Rf Zf CL := by
  obtain ⟨a1, a2, a3, a4, a5⟩ := h
  obtain ⟨h1, h2⟩ := a1
  refine ⟨⟨Kc_tr h1 ⟨fun _ _ => rfl, fun k hk => upA_no (by omega)⟩, h2⟩, a2, fun j hj => ?_, PCG_A a4 (by omega), a5⟩
  have e : nod (upA m 21 (upd (m.2.2.1 21) L y)) j = nod m j := by
    unfold nod
    rw [upA_no (by decide), upA_no (by decide), upA_no (by decide), upA_no (by decide), upA_no (by decide)]
  refine ⟨e.trans (a3 j hj).1, ?_⟩
  rw [upA_at, upd_no (by omega)]
  exact (a3 j hj).2
theorem RWE_s (h : RWE N m0 w0 K T nm Nk gd mB wB p0 n0 sc o m w p l) (k : SMS w v) (hv : v.1 69 = w.1 69) : RWE N m0 w0 K T nm Nk gd mB wB p0 n0 sc o m v p l := by
  obtain ⟨n, sc2, X, W, Rf, Zf, CL, a0, a1, a2⟩ := h
  exact ⟨n, sc2, X, W, Rf, Zf, CL, a0, STQ_s a1 k hv, a2⟩
/-- the first one -/
theorem RWE_1 {v3 : Int32} (h : EXZ N m0 w0 K T nm Nk p n gd sc o NC1 m w m2 (.inl r) w2 v3) : ∃ ν p2, r = I (ν : Nat) ∧ RWE N m0 w0 K T nm Nk gd m w p n sc o m2 w2 p2 [ν] := by
  obtain ⟨p2, n2, ν, sc2, X, W, Rf, Zf, CL, a1, a2, a3, a4, a5, a6, a7, a8⟩ := h
  have st := a4.2.2.2.2.1
  refine ⟨ν, p2, a1, n2, sc2, X, W, Rf, Zf, CL, ⟨(fun z => by cases z), a3, by show 2 * 1 + p ≤ p2 + 1; omega⟩, a4, ERW_1 a6 (by omega) ⟨by omega, a2.2⟩ a2.1 a5 st.2.2.2.1.1 (SCX_len st.2.1) st.2.2.2.1.2, a5, a2.1, PXR_1 a7 a2 a5 a3⟩
/-- one more, behind a comma -/
theorem RWE_next (c : CTZ m0 w0 K T nm Nk) (hn0 : n0 ≤ 2 * p0) (h70 : wB.1 70 = I (o : Nat)) (ho : o ≤ 25) (hg : decide (wB.1 73 = 0) = !gd) (h : RWE N m0 w0 K T nm Nk gd mB wB p0 n0 sc o m w p l) (hk : K p = 26) (hP : EXS N m0 w0 K T nm Nk 0 NC1 fc fw) (s3 : SMS (adv w p) w3) (h69 : w3.1 69 = (adv w p).1 69) : PP (fun m2 z w2 _ => match z with
    | .inr _ => FLW w2
    | .inl ε => ∃ ν p2, ε = I (ν : Nat) ∧ RWE N m0 w0 K T nm Nk gd mB wB p0 n0 sc o (upA m2 21 (upd (m2.2.2.1 21) (l.getLastD 0) (I (ν : Nat)))) w2 p2 (l ++ [ν])) (fc (advc m p)) (fw w3) := by
  obtain ⟨n, sc1, X1, W1, R1, Z1, CL1, b0, b1, b2, b3, b4, b5⟩ := h
  have pT := b1.1.2.2.2.2.1
  have hl : p < T := TWK_lt c pT (by omega) (by omega)
  obtain ⟨d1, d2, d3⟩ := ERW_hd b2 b0.1
  have st := STQ_s (STQ_ad b1 hl (by omega)) s3 h69
  have e7 : ∀ k, k ∈ [70, 73] → w3.1 k = wB.1 k := fun k hk => by
    rw [s3.1 k (by simp only [List.mem_cons, List.not_mem_nil, or_false] at hk; rcases hk with rfl | rfl <;> decide)]
    unfold adv
    rw [upI_ne (by rintro rfl; revert hk; decide), b1.2.2.2.2.1.2.2.2.2.2.2.1.1 k (by simp only [List.mem_cons, List.not_mem_nil, or_false] at hk ⊢; omega)]
  have nb := b1.2.1
  refine pp_mo (hP (advc m p) w3 (p + 1) n sc1 gd o st.1 st.2.1.2.1 (by omega) (STQ_rn st) (STQ_nd st) (by rw [e7 70 (by decide)]; exact h70) (by omega) (by rw [e7 73 (by decide)]; exact hg)) (fun m2 z w2 r q => ?_)
  cases z with
  | inr k => exact q
  | inl ε =>
    obtain ⟨p2, n2, ν, sc2, X, W, Rf, Zf, CL, a1, a2, a3, a4, a5, a6, a7, a8⟩ := q
    refine ⟨ν, p2, a1, ?_⟩
    have all := STQ_s2 (s2 := 1) (STQ_21 (L := l.getLastD 0) (y := I (ν : Nat)) (STQ_tr st a4) (by omega)) (by omega)
    generalize hL : l.getLastD 0 = L at d1 d3 b3 all
    have r21 : (upA m2 21 (upd (m2.2.2.1 21) L (I (ν : Nat)))).2.2.1 21 = upd (m2.2.2.1 21) L (I (ν : Nat)) := upA_at
    have ro : ∀ k, k ≠ 21 → (upA m2 21 (upd (m2.2.2.1 21) L (I (ν : Nat)))).2.2.1 k = m2.2.2.1 k := fun k hk => upA_no hk
    have ri : ∀ k, (upA m2 21 (upd (m2.2.2.1 21) L (I (ν : Nat)))).1 k = m2.1 k := fun _ => rfl
    generalize hm3 : upA m2 21 (upd (m2.2.2.1 21) L (I (ν : Nat))) = m3 at r21 ro ri all
    have nd3 : ∀ j, nod m3 j = nod m2 j := fun j => by
      unfold nod
      rw [ro 16 (by decide), ro 17 (by decide), ro 18 (by decide), ro 19 (by decide), ro 20 (by decide)]
    have a5' := a4.2.2.1
    have k2 : Kcc m m3 := Kc_tr (Kc_tr (v := advc m p) ⟨fun k hk => by unfold advc; exact upI_ne (by omega), fun _ _ => rfl⟩ (PCG_k a4.2.2.2.1)) ⟨fun k _ => ri k, fun k hk => ro k (by omega)⟩
    have hs : ∀ j, j ≤ n → nod m3 j = nod m j ∧ (j ≠ L → m3.2.2.1 21 j = m.2.2.1 21 j) := fun j hj => ⟨by rw [nd3, (a5' j hj).1]; rfl, fun z => by rw [r21, upd_no z, (a5' j hj).2]; rfl⟩
    have gp : ∀ j, p ≤ j → j < p + 1 → K j ≠ 3 := fun j h1 h2 => by rw [show j = p by omega]; omega
    have s5 := a4.2.2.2.2.1
    have kx : KPX n n2 ν m2 m3 := ⟨fun j h0 hj => ⟨nd3 j, fun _ => by rw [r21, upd_no (by omega)]⟩, ⟨fun k _ => ri k, fun k hk => ro k (by omega)⟩⟩
    have h21 : m3.2.2.1 21 ν = 0 := by rw [r21, upd_no (by omega)]; exact a5
    rw [← hL] at hs
    refine ⟨n2, sc2, max X1 X, mrg (p + 1) W1 W, R1 || Rf, Z1 || Zf, fun x => CL1 x ∨ CL x, ⟨(fun z => by simp at z), by omega, ?_⟩, all, ERW_bc (fun m => BCo_or) (ERW_snoc (mi := m2) (li := n) (ni := n2) k2 b0.1 hs (by rw [r21, hL, upd_at]) (ERW_w (fun j _ h => mrg_l (by omega)) b2) gp ⟨by omega, by omega⟩ (EXN_w (fun j h _ => mrg_r h) a6) kx ⟨by omega, a2.2, Nat.le_refl _⟩ ⟨by omega, a2.1⟩ h21 s5.2.2.2.1.1 (SCX_len s5.2.1) s5.2.2.2.1.2 BCo_st), ?_, ?_, PXR_snoc (mi := m2) (li := n) (ni := n2) (by omega) k2 ⟨by omega, a2.2, Nat.le_refl _⟩ ⟨by omega, a2.1⟩ a7 kx h21 (by omega) hk hs (by rw [r21, hL, upd_at]) b5⟩
    · rw [List.length_append, List.length_singleton]; omega
    · rw [getLastD_snoc]; exact h21
    · rw [headD_snoc b0.1]; exact b4
/-- the loop over a row of E's; RA: what the reference does behind an E -/
theorem erow_lp {SC : SF_Pa_matched} {fC : MS → Int32 → Option (MS × (Int32 ⊕ Nat))} {R : MS → Int32 ⊕ Nat → MS → β → Prop} {RA : Nat → Nat → MS → Option (MS × β)} {mx : Nat} (hmx : mx ≤ 4000) (c : CTZ m0 w0 K T nm Nk) (c45 : ∀ p, p ≤ T → K p ≠ 45) (hn0 : n0 ≤ 2 * p0) (h70 : wB.1 70 = I (o : Nat)) (ho : o ≤ 25) (hg : decide (wB.1 73 = 0) = !gd) (hP : EXS N m0 w0 K T nm Nk 0 NC1 (fun m => SC.2.2.2.2.2.2.2.2.2.2.2.2.2.2.1 m 1) fw)
    (hNo : ∀ (M : Nat) (m w : MS) (p k : Nat) (l : List Nat), RWE N m0 w0 K T nm Nk gd mB wB p0 n0 sc o m w p l → K p ≠ 26 → l.length = k → k ≤ mx → PP R (fC m (I ((l.headD 0 : Nat) : Int))) (RA M k w))
    (hYes : ∀ (M k p : Nat) (w : MS) (a : Option (MS × (Int32 ⊕ Nat))), WP w K T p → w.1 67 = 0 → K p = 26 → 1 ≤ k → k < mx → (∀ w3 M', SMS (adv w p) w3 → w3.1 69 = (adv w p).1 69 → PP R a (bnd (fw w3) (fun u _ => RA M' (k + 1) u))) → PP R a (RA M k w))
    (hMax : ∀ (M k p : Nat) (w : MS), mx ≤ 8 → WP w K T p → w.1 67 = 0 → K p = 26 → k = mx → PK (fun w2 _ => FLW w2) (RA M k w))
    (hFl : ∀ (M k : Nat) (w : MS), FLW w → PK (fun w2 _ => FLW w2) (RA M k w))
    (hF : ∀ (m : MS) (p : Nat) (φ : Int32), mx ≤ 8 → CP m K T p → K p = 26 → RFS (fC m φ)) (hW : ∀ m k w r, FLW w → R m (.inr k) w r) (hmx1 : mx ≤ 8 ∨ mx = 4000) : ∀ (j k M M' : Nat) (m w : MS) (p : Nat) (l : List Nat), k + j = mx → 1 ≤ k → l.length = k → RWE N m0 w0 K T nm Nk gd mB wB p0 n0 sc o m w p l → PP R (bTm (hg_Pa_row N SC M m 0 (I (mx : Nat)) (I ((l.headD 0 : Nat) : Int)) (I ((l.getLastD 0 : Nat) : Int)) (I (k : Nat))) fC) (RA M' k w) := by
  intro j
  induction j with
  | zero =>
    intro k M M' m w p l hkj hk1 hlk hI
    obtain ⟨n, sc1, X1, W1, R1, Z1, CL1, b0, b1, b2⟩ := id hI
    have hc := RLP_c c b1.1
    have hw := RLP_w c b1.1
    have h0 := b1.1.2.2.2.2.2.2
    have t4 := c.1.1.1
    have pT := b1.1.2.2.2.2.1
    cases M with
    | zero => exact pp_nl
    | succ M =>
      show PP R (bTm (hb_Pa_row_23 N SC (hg_Pa_row N SC M) m 0 (I (mx : Nat)) (I ((l.headD 0 : Nat) : Int)) (I ((l.getLastD 0 : Nat) : Int)) (I (k : Nat))) fC) _
      unfold hb_Pa_row_23 hb_Pa_row_78
      rw [decI (by omega) (by omega) (by omega) (by omega), decide_eq_true (by omega), br_t, bTm_l]
      by_cases k26 : K p = 26
      · have m8 : mx ≤ 8 := by
          rcases hmx1 with z | z
          · exact z
          · exfalso; omega
        exact pp_rf (hF m p _ m8 hc k26) (fun m2 => pk_mo (hMax M' k p w m8 hw h0 k26 (by omega)) (fun w2 r z => hW _ _ _ _ z))
      · exact hNo M' m w p k l hI k26 hlk (by omega)
  | succ j ih =>
    intro k M M' m w p l hkj hk1 hlk hI
    obtain ⟨n, sc1, X1, W1, R1, Z1, CL1, b0, b1, b2, b3, b4, b5⟩ := id hI
    have hc := RLP_c c b1.1
    have hw := RLP_w c b1.1
    have h0 := b1.1.2.2.2.2.2.2
    have t4 := c.1.1.1
    have pT := hc.2.2
    have nn := b1.2.1
    obtain ⟨d1, d2, d3⟩ := ERW_hd b2 b0.1
    cases M with
    | zero => exact pp_nl
    | succ M =>
      show PP R (bTm (hb_Pa_row_23 N SC (hg_Pa_row N SC M) m 0 (I (mx : Nat)) (I ((l.headD 0 : Nat) : Int)) (I ((l.getLastD 0 : Nat) : Int)) (I (k : Nat))) fC) _
      unfold hb_Pa_row_23 hb_Pa_row_78
      rw [decI (by omega) (by omega) (by omega) (by omega), decide_eq_false (by omega), br_f, look_e hc (c45 p pT), bTm_l]
      by_cases k26 : K p = 26
      · rw [k26, show decide (I ((26 : Nat) : Int) = 26) = true from rfl, br_t]
        refine hYes M' k p w _ hw h0 k26 hk1 (by omega) (fun w3 M2 s3 h69 => ?_)
        show PP R (bTm (lt (upI m 665 (m.1 665 + 1)) (fun w4 => br (decide ((0 : Int32) = 0)) _ _)) fC) _
        rw [hc.2.1, i_suc, show decide ((0 : Int32) = 0) = true from rfl]
        show PP R (bTm (br true (bTm (SC.2.2.2.2.2.2.2.2.2.2.2.2.2.2.1 (advc m p) 1) _) _) fC) _
        rw [br_t, bTm_as]
        refine pp_bTn (RWE_next (N := N) c hn0 h70 ho hg hI k26 hP s3 h69) (fun m2 ε w2 r q => ?_) (fun m2 kk w2 r q => ?_)
        · obtain ⟨ν, p3, e1, q⟩ := q
          rw [e1]
          unfold hb_Pa_row_67 hm_Pa_chain hb_Pa_chain_0
          rw [bnd_as, tnI (n := l.getLastD 0) rfl (by omega), i_suc]
          refine l_bnd ?_
          refine pk_ck (fun _ => pk_lt (pk_some ?_))
          have := ih (k + 1) M M2 _ w2 p3 (l ++ [ν]) (by omega) (by omega) (by rw [List.length_append, List.length_singleton]; omega) q
          rw [headD_snoc b0.1, getLastD_snoc] at this
          exact this
        · exact pk_mo (hFl M2 (k + 1) w2 q) (fun w2 r z => hW _ _ _ _ z)
      · have k46 := hc.1.1.k46 hc.2.2
        rw [I_dn (a := K p) (b := 26) (s := 26) (by omega) (by decide) rfl, decide_eq_false k26, br_f, bTm_l]
        exact hNo M' m w p k l hI k26 hlk (by omega)
end
