set_option maxRecDepth 100000
section
variable {m0 w0 m w v u mB wB m2 w2 m3 w3 : MS} {K nm Nk W : Nat → Nat} {T p n N q X n2 p0 n0 p2 ν : Nat} {sc sc1 sc2 sc3 t : SCT} {own : Bool} {l : List Nat} {r v1 v2 v3 v4 : Int32} {S : SG_M_rowPattern} {SC SC1 SC2 : SF_Pa_matched}
theorem len_lp : ∀ (M : Nat) (a b : Int32), PK (fun v _ => v = u) (hg_Tr_length N M u a b)
  | 0, _, _ => pk_none
  | M + 1, a, b => by
    show PK _ (hb_Tr_length_4 N (hg_Tr_length N M) u a b)
    unfold hb_Tr_length_4
    exact pk_br (fun _ => pk_some rfl) (fun _ => pk_ck (fun _ => len_lp M _ _))
theorem len_s {x : Int32} : PK (fun v _ => v = u) (hm_Tr_length N u x) := len_lp N _ _
theorem row_end {k9 : Nat} {s9 z9 kd c9 : Int32} (c : CTZ m0 w0 K T nm Nk) (hn2 : n ≤ 2 * p) (h : RLP m0 w0 T p m w) (h1 : RLP m0 w0 T q m2 w2) (hk : K p ≠ 3) (hk9 : 20 ≤ k9 ∧ k9 ≤ 44) (hs9 : s9 = I (k9 : Nat)) (hz9 : z9 = I (svK k9 : Nat)) (hb : p < q ∧ m2.1 306 = I (n2 : Nat) ∧ n2 + 2 * p + 1 ≤ n + 2 * q) (hn : n ≤ n2) (ho : KPO n m m2) (hpc : PCF m m2) (hr : RNs w2 sc2) (hx : SCO own sc sc2 X) (hd : HDs Nk K W p q sc sc2) (ht : tot sc2 ≤ tot sc + (q - p) ∧ X ≤ 1400) (hg : w2.1 66 = lgS sc X (w.1 66)) (hf : WFP w w2) {φ : Int32} {v4 v6 : Int32}
    (hq : ∀ mf : MS, KPO n2 m2 mf → Kcc m2 mf → (∃ r7, nod mf (n2 + 1) = (kd, I (p : Nat), φ, r7, c9)) → K q = k9 → PTN N K nm mf n (n2 + 1) (n2 + 1) own p (q + 1) sc sc2 X W) : PP (PAZ N m0 w0 K T nm Nk p n own sc m w) (bTm (hm_Pa_need N m2 s9) (fun u1 r1 => bnd (hm_Tr_length N u1 φ) (fun u7 r7 => bnd (hm_Tr_add N u7 kd (I (p : Nat)) φ r7 c9) (fun u9 r9 => some (u9, .inl r9))))) (ck (inb v4 (ln 35)) (lt (upA w2 35 (upd (w2.2.2.1 35) v4.toNatClampNeg v6)) (fun w1 => bnd (fm_M_needSign N w1 z9) (fun u2 _ => some (u2, v4))))) := by
  have hc := RLP_c c h1
  have hw := RLP_w c h1
  have t4 := c.1.1.1
  have qT := h1.2.2.2.2.1
  refine r_ck (fun _ => r_lt ?_)
  generalize hw3 : upA w2 35 (upd (w2.2.2.1 35) v4.toNatClampNeg v6) = w3
  have r3 : ∀ k, k ≠ 35 → w3.2.2.1 k = w2.2.2.1 k := fun k hk => by rw [← hw3]; exact upA_no hk
  have i3 : ∀ k, w3.1 k = w2.1 k := fun k => by rw [← hw3]; rfl
  have hw3 : WP w3 K T q := WP_e hw (by rw [i3]; exact hw.2.1) hw.2.2 (r3 6 (by decide)) (r3 7 (by decide))
  have h0 : w3.1 67 = 0 := by rw [i3]; exact h1.2.2.2.2.2.2
  by_cases e9 : K q = k9
  · have hl : q < T := TWK_lt c qT (by omega) (by omega)
    rw [need_e hc e9 (by omega) hs9, bTm_l, ndS_1 hw3 h0 hk9 hz9 e9, bnd_s]
    refine l_bnd (pk_mo len_s (fun u7 r7 e7 => ?_))
    subst e7
    have An : (advc m2 q).1 306 = I (n2 : Nat) := by unfold advc; rw [upI_ne (by decide)]; exact hb.2.1
    show PP _ _ _
    rw [add_e An (by omega), bnd_s]
    refine pp_end ?_
    have Ei : ∀ k, k ≠ 306 → k ≠ 665 → (adN (advc m2 q) n2 kd (I (p : Nat)) φ r7 c9).1 k = m2.1 k := fun k h1 h2 => by rw [adN_i h1]; unfold advc; exact upI_ne h2
    have E5 : (adN (advc m2 q) n2 kd (I (p : Nat)) φ r7 c9).1 665 = I ((q + 1 : Nat) : Int) := by rw [adN_i (by decide)]; unfold advc; exact upI_at
    have En : (adN (advc m2 q) n2 kd (I (p : Nat)) φ r7 c9).1 306 = I ((n2 + 1 : Nat) : Int) := adN_n
    have Er : ∀ k, k < 16 ∨ 21 < k → (adN (advc m2 q) n2 kd (I (p : Nat)) φ r7 c9).2.2.1 k = m2.2.2.1 k := fun k hk => by rw [adN_r hk]; rfl
    have Eo : KPO n2 m2 (adN (advc m2 q) n2 kd (I (p : Nat)) φ r7 c9) := adN_o (m := advc m2 q)
    have Ex := adN_nod (m := advc m2 q) (n := n2) (a := kd) (b := I (p : Nat)) (c := φ) (d := r7) (f := c9)
    generalize hE : adN (advc m2 q) n2 kd (I (p : Nat)) φ r7 c9 = E at Ei E5 En Er Eo Ex
    have kc : Kcc m2 E := ⟨fun k hk => Ei k (by omega) (by omega), fun k hk => Er k (by omega)⟩
    have pcf : PCF m E := PCF_tr hpc ⟨fun k hk => Ei k (fun z => hk (by rw [z]; decide)) (fun z => hk (by rw [z]; decide)), Er⟩
    have wfp : WFP w (adv w3 q) := WFP_tr hf ⟨fun k hk => by unfold adv; rw [upI_ne (fun z => hk (by rw [z]; decide))]; exact i3 k, fun k hk => r3 k (by omega)⟩
    have g2 : ∀ j, q ≤ j → j < q + 1 → K j ≠ 3 := fun j h1 h2 => by rw [show j = q by omega]; omega
    refine ⟨q + 1, n2 + 1, n2 + 1, sc2, X, W, rfl, ⟨by omega, Nat.le_refl _⟩, ⟨Kc_tr h.1 (PCF_k pcf), Kt_tr h.2.1 (WFP_k wfp), E5, by unfold adv; exact upI_at, hl, by rw [pcf.1 666 (by decide), wfp.1 70 (by decide)]; exact h.2.2.2.2.2.1, by rw [wfp.1 67 (by decide)]; exact h.2.2.2.2.2.2⟩, ⟨by omega, En, by omega⟩, KPO_tr ho Eo hn, Ex.2, pcf, RNs_e hr (by unfold adv; rw [upI_ne (by decide)]; exact i3 65) (fun k h1 h2 => r3 k (by omega)), hx, HDs_ext (Nat.le_refl _) (by omega) (fun j h1 h2 => absurd h2 (by omega)) g2 hd, ⟨by omega, ht.2⟩, by unfold adv; rw [upI_ne (by decide), i3]; exact hg, wfp, hq E Eo kc ⟨r7, Ex.1⟩ e9⟩
  · refine pp_rf (RFS_T (need_x hc e9 (by omega) hs9)) (fun mm => ?_)
    exact pk_bnd (pk_mo (ndS_0 (N := N) hw3 h0 hk9 hz9 e9) (fun v r2 z => pk_some z))
end
