set_option maxRecDepth 100000
def EXB (N : Nat) (m0 w0 : MS) (K : Nat → Nat) (T : Nat) (nm Nk : Nat → Nat) (p n : Nat) (sc : SCT) (o : Nat) (m w m2 : MS) (z : Int32 ⊕ Nat) (w2 : MS) (_ : Int32) : Prop := match z with
  | .inr _ => FLW w2
  | .inl ε => ∃ (p2 n2 ν : Nat) (sc2 : SCT) (X : Nat) (W : Nat → Nat) (Rf Zf : Bool) (CL : Int32 × Int32 × Int32 → Prop), ε = I (ν : Nat) ∧ (n < ν ∧ ν ≤ n2) ∧ p < p2 ∧ STQ m0 w0 K T Nk false m w p n sc 1 m2 w2 p2 n2 sc2 X W Rf Zf CL ∧ m2.2.2.1 21 ν = 0 ∧ (∀ gd, EXN N K nm gd m2 n n2 ν p p2 sc sc2 X W (gd || Rf) Zf (BCo N CL)) ∧ PTX N w0 K T nm Nk m2 n n2 ν p p2 o NC0 X ∧ ∃ k : Nat, m2.2.2.1 16 ν = I (k : Nat) ∧ k < 23 ∧ k ≠ 1 ∧ ∃ tok : Nat, tok ≤ 4000 ∧ m2.2.2.1 17 ν = I (tok : Nat)
def HBl (N : Nat) (m0 w0 : MS) (K : Nat → Nat) (T : Nat) (nm Nk : Nat → Nat) (d : Nat) : Prop := ∀ (D : Nat) (m w : MS) (p n : Nat) (sc : SCT) (o : Nat), RLP m0 w0 T p m w → m.1 306 = I (n : Nat) → n ≤ 2 * p → RNs w sc → ND w → w.1 70 = I ((o + 1 : Nat) : Int) → o + 1 ≤ 25 → w.1 73 = 0 → 5 ≤ K p → K p ≤ 19 → K p ≠ 12 → PP (EXB N m0 w0 K T nm Nk p n sc o m w) (hm_Pa_primary N (hrc_Pa_matched N D) m) ((rc_M_behind N d).2.2.2.2.2.1 w (I (p : Nat)))
def HFu (N : Nat) (m0 w0 : MS) (K : Nat → Nat) (T : Nat) (nm Nk : Nat → Nat) (d : Nat) : Prop := ∀ (D : Nat) (m w : MS) (p n : Nat) (sc : SCT) (o : Nat), RLP m0 w0 T p m w → m.1 306 = I (n : Nat) → n ≤ 2 * p → RNs w sc → ND w → w.1 70 = I ((o + 1 : Nat) : Int) → o + 1 ≤ 25 → w.1 73 = 0 → K p = 12 → PP (EXB N m0 w0 K T nm Nk p n sc o m w) (hm_Pa_primary N (hrc_Pa_matched N D) m) ((rc_M_behind N d).2.2.2.2.2.2.1 w (I (p : Nat)))
section
variable {m0 w0 m w v u mB wB m2 w2 m3 w3 mi : MS} {K nm Nk W W2 : Nat → Nat} {T p n N q X Y n2 p0 n0 n3 p2 ν μ κ o s L d D k q1 q2 lo li ni : Nat} {sc sc1 sc2 sc3 t : SCT} {gd Rf Zf Rg Zg : Bool} {l : List Nat} {r v1 v2 v3 v4 v5 x y : Int32} {CL CM : Int32 × Int32 × Int32 → Prop} {NC : Nat → Prop} {B1 B2 BC : MS → Prop}
theorem EXB_E {ε : Int32} {w1 : MS} (h : EXB N m0 w0 K T nm Nk p n sc o m w1 m2 (.inl ε) w2 r) (hw1 : ∃ v, w1 = upI v 73 0 ∧ ((gd = false ∧ v = w) ∨ (gd = true ∧ v.1 72 ≠ 0 ∧ (∀ k, k ≠ 71 → k ≠ 72 → v.1 k = w.1 k) ∧ v.2.2.1 = w.2.2.1))) (hR : RNs w sc) (nd : ND w) (hk : K p ≠ 1) (hy : y = w.1 73) : EXZ N m0 w0 K T nm Nk p n gd sc o NC0 m w m2 (.inl ε) (upI w2 73 y) v3 := by
  obtain ⟨p2, n2, ν, sc2, X, W, Rf, Zf, CL, a1, a2, a3, a4, a5, a6, a7, k, k1, k2, k3, k4⟩ := h
  obtain ⟨v, rfl, hv⟩ := hw1
  obtain ⟨b1, b2, b3, b4, b5, b6, b7⟩ := a4
  have v73 : v.1 73 = w.1 73 := by
    rcases hv with ⟨-, rfl⟩ | ⟨-, -, z, -⟩
    · rfl
    · exact z 73 (by decide) (by decide)
  have s1 := STW_k (k := 73) (Or.inr rfl) b5 (y := y) (by rw [v73]; exact hy)
  have s2 : STW Nk K p p2 sc sc2 X W (gd || Rf) Zf CL w (upI w2 73 y) := by
    rcases hv with ⟨rfl, rfl⟩ | ⟨rfl, z1, z2, z3⟩
    · exact s1
    · have s0 := STW_rule (STW_0 (Nk := Nk) (K := K) (p := p) (W := W) hR nd) z1 z2 z3
      have s3 := STW_tr (Nat.le_refl _) (Nat.le_of_lt a3) s0 s1
      rw [show max 0 X = X by omega, Bool.true_or, Bool.false_or] at s3
      rw [Bool.true_or]
      exact STW_cl (fun x => ⟨fun z => z.elim False.elim id, Or.inr⟩) s3
  obtain ⟨c1, c2, c3, c4, c5, c6, c7⟩ := b1
  have r1 : RLP m0 w0 T p2 m2 (upI w2 73 y) := ⟨c1, ⟨fun k hk => by rw [upI_ne (by rintro rfl; revert hk; decide)]; exact c2.1 k hk, c2.2⟩, c3, by rw [upI_ne (by decide)]; exact c4, c5, by rw [upI_ne (by decide)]; exact c6, by rw [upI_ne (by decide)]; exact c7⟩
  refine ⟨p2, n2, ν, sc2, X, W, gd || Rf, Zf, CL, a1, a2, a3, ⟨r1, b2, b3, b4, s2, fun g z => ?_, b7⟩, a5, a6 gd, a7, k, k1, k2, fun z => absurd z k3, fun _ z => absurd z hk, k4⟩
  rw [g] at z
  cases z
theorem al347 {t0 : Int32} {S : SG_M_behind} (h : FLW w) : PK (fun w2 (_ : Int32) => FLW w2) (fb_M_alone_347 N S () w v3 t0) := by
  unfold fb_M_alone_347 fb_M_alone_361
  exact pk_ck (fun _ => pk_lt (pk_some (by show (upI w 73 v3).1 67 ≠ 0; rw [upI_ne (by decide)]; exact h)))
theorem wrd_ex (c : CTZ m0 w0 K T nm Nk) (hB : HBl N m0 w0 K T nm Nk d) (hF : HFu N m0 w0 K T nm Nk d) (h : RLP m0 w0 T p m w) (hn : m.1 306 = I (n : Nat)) (hn2 : n ≤ 2 * p) (hR : RNs w sc) (nd : ND w) (h70 : w.1 70 = I ((o + 1 : Nat) : Int)) (ho : o + 1 ≤ 25) (hk : 5 ≤ K p ∧ K p ≤ 19) (hv : (gd = false ∧ v = w) ∨ (gd = true ∧ v.1 72 ≠ 0 ∧ (∀ k, k ≠ 71 → k ≠ 72 → v.1 k = w.1 k) ∧ v.2.2.1 = w.2.2.1)) : PP (EXZ N m0 w0 K T nm Nk p n gd sc o NC0 m w) (hm_Pa_primary N (hrc_Pa_matched N D) m) (fb_M_alone_315 N (rc_M_behind N d) () v (I (p : Nat))) := by
  have f : (∀ k, k ≠ 71 → k ≠ 72 → v.1 k = w.1 k) ∧ v.2.2.1 = w.2.2.1 := by
    rcases hv with ⟨-, rfl⟩ | ⟨-, -, z⟩
    · exact ⟨fun _ _ _ => rfl, rfl⟩
    · exact z
  have Di : ∀ k, k ≠ 71 → k ≠ 72 → k ≠ 73 → (upI v 73 0).1 k = w.1 k := fun k h1 h2 h3 => by rw [upI_ne h3]; exact f.1 k h1 h2
  have rl : RLP m0 w0 T p m (upI v 73 0) := by
    obtain ⟨b1, b2, b3, b4, b5, b6, b7⟩ := h
    exact ⟨b1, Kt_tr b2 ⟨fun k hk => Di k (by rintro rfl; revert hk; decide) (by rintro rfl; revert hk; decide) (by rintro rfl; revert hk; decide), fun k hk => by show v.2.2.1 k = _; rw [f.2]⟩, b3, by rw [Di 69 (by decide) (by decide) (by decide)]; exact b4, b5, by rw [Di 70 (by decide) (by decide) (by decide)]; exact b6, by rw [Di 67 (by decide) (by decide) (by decide)]; exact b7⟩
  have nd1 : ND (upI v 73 0) := by
    obtain ⟨a, x, y⟩ := nd
    exact ⟨a, by rw [Di 32 (by decide) (by decide) (by decide)]; exact x, y⟩
  have rn1 : RNs (upI v 73 0) sc := WFP_rn hR (Di 65 (by decide) (by decide) (by decide)) f.2
  have d70 : (upI v 73 0).1 70 = I ((o + 1 : Nat) : Int) := by rw [Di 70 (by decide) (by decide) (by decide)]; exact h70
  have hw1 := RLP_w c rl
  have v73 : v.1 73 = w.1 73 := f.1 73 (by decide) (by decide)
  unfold fb_M_alone_315
  refine r_lt ?_
  rw [isV_e (k := 12) (s := 7) hw1 (by decide) rfl, bnd_s]
  have fin : ∀ {b : Option (MS × Int32)}, PP (EXB N m0 w0 K T nm Nk p n sc o m (upI v 73 0)) (hm_Pa_primary N (hrc_Pa_matched N D) m) b → PP (EXZ N m0 w0 K T nm Nk p n gd sc o NC0 m w) (hm_Pa_primary N (hrc_Pa_matched N D) m) (bnd b (fun u4 r4 => fb_M_alone_347 N (rc_M_behind N d) () u4 (v.1 73) (r4))) := fun {b} hb => by
    have := pp_bTn (R := EXZ N m0 w0 K T nm Nk p n gd sc o NC0 m w) (f := fun u r => some (u, .inl r)) (g := fun u4 r4 => fb_M_alone_347 N (rc_M_behind N d) () u4 (v.1 73) (r4)) hb (fun m2 ε w2 r2 q => ?_) (fun m2 kk w2 r2 q => al347 q)
    · rw [bTm_id] at this
      exact this
    · unfold fb_M_alone_347 fb_M_alone_361
      exact r_ck (fun _ => r_lt (pp_end (EXB_E (y := v.1 73) q ⟨v, rfl, hv⟩ hR nd (by omega) v73)))
  by_cases k12 : K p = 12
  · rw [if_pos k12, show decide ((1 : Int32) = 0) = false from rfl, br_fq]
    exact fin (hF D m _ p n sc o rl hn hn2 rn1 nd1 d70 ho upI_at k12)
  · rw [if_neg k12, show decide ((0 : Int32) = 0) = true from rfl, br_tq]
    exact fin (hB D m _ p n sc o rl hn hn2 rn1 nd1 d70 ho upI_at hk.1 hk.2 k12)
theorem pr_leaf (h : CP m K T p) (c45 : K p ≠ 45) (hk : K p = 1 ∨ K p = 3 ∨ K p = 4) {SC : SF_Pa_matched} : hm_Pa_primary N SC m = bnd (hm_Pa_leaf N m) (fun u3 r3 => some (u3, .inl r3)) := by
  unfold hm_Pa_primary hb_Pa_primary_0
  rw [look_e h c45, bTm_l]
  rcases hk with hk | hk | hk
  · rw [hk, show decide (I ((1 : Nat) : Int) = 1) = true from rfl, br_tq]
  · rw [hk, show decide (I ((3 : Nat) : Int) = 1) = false from rfl, br_fq, show decide (I ((3 : Nat) : Int) = 2) = false from rfl, br_fq, show decide (I ((3 : Nat) : Int) = 3) = true from rfl, br_tq]
  · rw [hk, show decide (I ((4 : Nat) : Int) = 1) = false from rfl, br_fq, show decide (I ((4 : Nat) : Int) = 2) = false from rfl, br_fq, show decide (I ((4 : Nat) : Int) = 3) = false from rfl, br_fq, show decide (I ((4 : Nat) : Int) = 4) = true from rfl, br_tq]
theorem pr_none (h : CP m K T p) (c45 : K p ≠ 45) (hk : K p = 0 ∨ K p = 21 ∨ K p = 23 ∨ 25 ≤ K p) {SC : SF_Pa_matched} : RFS (hm_Pa_primary N SC m) := by
  have k46 := h.1.1.k46 h.2.2
  unfold hm_Pa_primary hb_Pa_primary_0
  rw [look_e h c45, bTm_l]
  have rf : ∀ {α β : Type} {f : MS → Unit → Option (MS × (α ⊕ Nat))}, RFS (bTm (hm_Pa_refuse N m 2) f) := fun {α β f} => RFS_T (rfs_e h)
  rcases hk with hk | hk | hk | hk
  · rw [hk, show decide (I ((0 : Nat) : Int) = 1) = false from rfl, br_fq, show decide (I ((0 : Nat) : Int) = 2) = false from rfl, br_fq, show decide (I ((0 : Nat) : Int) = 3) = false from rfl, br_fq, show decide (I ((0 : Nat) : Int) = 4) = false from rfl, br_fq, show decide (I ((0 : Nat) : Int) = 5) = false from rfl, br_fq, show decide (I ((0 : Nat) : Int) = 6) = false from rfl, br_fq, show decide (I ((0 : Nat) : Int) = 7) = false from rfl, br_fq, show decide (I ((0 : Nat) : Int) = 8) = false from rfl, br_fq, show decide (I ((0 : Nat) : Int) = 9) = false from rfl, br_fq, show decide (I ((0 : Nat) : Int) = 10) = false from rfl, br_fq, show decide (I ((0 : Nat) : Int) = 11) = false from rfl, br_fq, show decide (I ((0 : Nat) : Int) = 12) = false from rfl, br_fq, show decide (I ((0 : Nat) : Int) = 13) = false from rfl, br_fq, show decide (I ((0 : Nat) : Int) = 14) = false from rfl, br_fq, show decide (I ((0 : Nat) : Int) = 15) = false from rfl, br_fq, show decide (I ((0 : Nat) : Int) = 16) = false from rfl, br_fq, show decide (I ((0 : Nat) : Int) = 17) = false from rfl, br_fq, show decide (I ((0 : Nat) : Int) = 18) = false from rfl, br_fq, show decide (I ((0 : Nat) : Int) = 19) = false from rfl, br_fq, show decide (I ((0 : Nat) : Int) = 20) = false from rfl, br_fq, show decide (I ((0 : Nat) : Int) = 21) = false from rfl, br_fq, show decide (I ((0 : Nat) : Int) = 22) = false from rfl, br_fq, show decide (I ((0 : Nat) : Int) = 23) = false from rfl, br_fq, show decide (I ((0 : Nat) : Int) = 24) = false from rfl, br_fq]
    exact RFS_T (rfs_e h)
  · rw [hk, show decide (I ((21 : Nat) : Int) = 1) = false from rfl, br_fq, show decide (I ((21 : Nat) : Int) = 2) = false from rfl, br_fq, show decide (I ((21 : Nat) : Int) = 3) = false from rfl, br_fq, show decide (I ((21 : Nat) : Int) = 4) = false from rfl, br_fq, show decide (I ((21 : Nat) : Int) = 5) = false from rfl, br_fq, show decide (I ((21 : Nat) : Int) = 6) = false from rfl, br_fq, show decide (I ((21 : Nat) : Int) = 7) = false from rfl, br_fq, show decide (I ((21 : Nat) : Int) = 8) = false from rfl, br_fq, show decide (I ((21 : Nat) : Int) = 9) = false from rfl, br_fq, show decide (I ((21 : Nat) : Int) = 10) = false from rfl, br_fq, show decide (I ((21 : Nat) : Int) = 11) = false from rfl, br_fq, show decide (I ((21 : Nat) : Int) = 12) = false from rfl, br_fq, show decide (I ((21 : Nat) : Int) = 13) = false from rfl, br_fq, show decide (I ((21 : Nat) : Int) = 14) = false from rfl, br_fq, show decide (I ((21 : Nat) : Int) = 15) = false from rfl, br_fq, show decide (I ((21 : Nat) : Int) = 16) = false from rfl, br_fq, show decide (I ((21 : Nat) : Int) = 17) = false from rfl, br_fq, show decide (I ((21 : Nat) : Int) = 18) = false from rfl, br_fq, show decide (I ((21 : Nat) : Int) = 19) = false from rfl, br_fq, show decide (I ((21 : Nat) : Int) = 20) = false from rfl, br_fq, show decide (I ((21 : Nat) : Int) = 21) = true from rfl, br_tq]
    exact RFS_T (rfs_e h)
  · rw [hk, show decide (I ((23 : Nat) : Int) = 1) = false from rfl, br_fq, show decide (I ((23 : Nat) : Int) = 2) = false from rfl, br_fq, show decide (I ((23 : Nat) : Int) = 3) = false from rfl, br_fq, show decide (I ((23 : Nat) : Int) = 4) = false from rfl, br_fq, show decide (I ((23 : Nat) : Int) = 5) = false from rfl, br_fq, show decide (I ((23 : Nat) : Int) = 6) = false from rfl, br_fq, show decide (I ((23 : Nat) : Int) = 7) = false from rfl, br_fq, show decide (I ((23 : Nat) : Int) = 8) = false from rfl, br_fq, show decide (I ((23 : Nat) : Int) = 9) = false from rfl, br_fq, show decide (I ((23 : Nat) : Int) = 10) = false from rfl, br_fq, show decide (I ((23 : Nat) : Int) = 11) = false from rfl, br_fq, show decide (I ((23 : Nat) : Int) = 12) = false from rfl, br_fq, show decide (I ((23 : Nat) : Int) = 13) = false from rfl, br_fq, show decide (I ((23 : Nat) : Int) = 14) = false from rfl, br_fq, show decide (I ((23 : Nat) : Int) = 15) = false from rfl, br_fq, show decide (I ((23 : Nat) : Int) = 16) = false from rfl, br_fq, show decide (I ((23 : Nat) : Int) = 17) = false from rfl, br_fq, show decide (I ((23 : Nat) : Int) = 18) = false from rfl, br_fq, show decide (I ((23 : Nat) : Int) = 19) = false from rfl, br_fq, show decide (I ((23 : Nat) : Int) = 20) = false from rfl, br_fq, show decide (I ((23 : Nat) : Int) = 21) = false from rfl, br_fq, show decide (I ((23 : Nat) : Int) = 22) = false from rfl, br_fq, show decide (I ((23 : Nat) : Int) = 23) = true from rfl, br_tq]
    exact RFS_T (rfs_e h)
  · have no : ∀ j : Nat, j < 25 → ∀ s : Int32, s = I (j : Nat) → decide (I (K p : Nat) = s) = false := fun j hj s hs => by
      rw [I_dn (a := K p) (b := j) (by omega) (by omega) hs]
      exact decide_eq_false (by omega)
    rw [no 1 (by decide) 1 rfl, br_fq, no 2 (by decide) 2 rfl, br_fq, no 3 (by decide) 3 rfl, br_fq, no 4 (by decide) 4 rfl, br_fq, no 5 (by decide) 5 rfl, br_fq, no 6 (by decide) 6 rfl, br_fq, no 7 (by decide) 7 rfl, br_fq, no 8 (by decide) 8 rfl, br_fq, no 9 (by decide) 9 rfl, br_fq, no 10 (by decide) 10 rfl, br_fq, no 11 (by decide) 11 rfl, br_fq, no 12 (by decide) 12 rfl, br_fq, no 13 (by decide) 13 rfl, br_fq, no 14 (by decide) 14 rfl, br_fq, no 15 (by decide) 15 rfl, br_fq, no 16 (by decide) 16 rfl, br_fq, no 17 (by decide) 17 rfl, br_fq, no 18 (by decide) 18 rfl, br_fq, no 19 (by decide) 19 rfl, br_fq, no 20 (by decide) 20 rfl, br_fq, no 21 (by decide) 21 rfl, br_fq, no 22 (by decide) 22 rfl, br_fq, no 23 (by decide) 23 rfl, br_fq, no 24 (by decide) 24 rfl, br_fq]
    exact RFS_T (rfs_e h)
theorem HAl_s (c : CTZ m0 w0 K T nm Nk) (c45 : ∀ p, p ≤ T → K p ≠ 45) (hE : HE N m0 w0 K T nm Nk d) (hRo : HRo N m0 w0 K T nm Nk d) (hB : HBl N m0 w0 K T nm Nk d) (hF : HFu N m0 w0 K T nm Nk d) : HAl N m0 w0 K T nm Nk (d + 1) := by
  intro D m w p n sc gd o h hn hn2 hR nd h70 ho hg hnc
  show PP _ _ (fm_M_alone N (rc_M_behind N d) w (I (p : Nat)))
  have hc := RLP_c c h
  have hw := RLP_w c h
  have t4 := c.1.1.1
  have pT := h.2.2.2.2.1
  have k45 := c45 p pT
  have h0 := h.2.2.2.2.2.2
  have k46 := hc.1.1.k46 hc.2.2
  by_cases k4 : K p = 1 ∨ K p = 2 ∨ K p = 3 ∨ K p = 4
  · have hl : p < T := TWK_lt c pT (by omega) (by omega)
    obtain ⟨mf, f1, f2, f3, f4, f5, f6, f7, f8⟩ := lf_f (N := N) hc hl hn (by omega)
    have cls : (K p = 2 → ∃ D', D = D' + 1) → hm_Pa_primary N (hrc_Pa_matched N D) m = some (mf, .inl (I ((n + 1 : Nat) : Int))) := fun hD => by
      by_cases k2 : K p = 2
      · obtain ⟨D', rfl⟩ := hD k2
        unfold hm_Pa_primary hb_Pa_primary_0
        rw [look_e hc k45, bTm_l, k2, show decide (I ((2 : Nat) : Int) = 1) = false from rfl, br_fq, show decide (I ((2 : Nat) : Int) = 2) = true from rfl, br_tq]
        show bTm (hm_Pa_atomOrCall N (hrc_Pa_matched N D') m) _ = _
        unfold hm_Pa_atomOrCall hb_Pa_atomOrCall_0
        rw [f1, bnd_s, look_e f8 (c45 _ hl), bTm_l]
        have k46b := f8.1.1.k46 f8.2.2
        rw [I_dn (a := K (p + 1)) (b := 20) (s := 20) (by omega) (by decide) rfl, decide_eq_false (fun z => hnc ⟨k2, z⟩), br_fq, bTm_l]
      · clear hD
        rw [pr_leaf hc k45 (by omega), f1, bnd_s]
    by_cases hD : K p = 2 ∧ D = 0
    · obtain ⟨k2, rfl⟩ := hD
      unfold hm_Pa_primary hb_Pa_primary_0
      rw [look_e hc k45, bTm_l, k2, show decide (I ((2 : Nat) : Int) = 1) = false from rfl, br_fq, show decide (I ((2 : Nat) : Int) = 2) = true from rfl, br_tq]
      exact pp_nl
    · rw [cls (fun k2 => by
        cases D with
        | zero => exact absurd ⟨k2, rfl⟩ hD
        | succ D => exact ⟨D, rfl⟩)]
      refine pp_l ?_
      rcases k4 with k4 | k4 | k4 | k4
      · exact ex_lit c h hn hn2 hR nd (by omega) (Or.inl k4) f2 f3 f4 f5 f6 f7
      · exact ex_lit c h hn hn2 hR nd (by omega) (Or.inr k4) f2 f3 f4 f5 f6 f7
      · exact ex_name c h hn hn2 hR nd (by omega) k4 f2 f3 f4 f5 f6 f7
      · exact ex_str c h hn hn2 hR nd (by omega) hg k4 f2 f3 f4 f5 f6 f7
  · by_cases k20 : K p = 20
    · exact grp_ex c c45 hE h hn hn2 hR nd h70 ho hg k20
    · refine alone_r hw h0 (by omega) ?_
      rw [if_neg k20, if_neg k20]
      unfold alB
      rw [show decide ((0 : Int32) = 0) = true from rfl, br_tq, isS_e (k := 22) (s := 2) hw (by decide) rfl, bnd_s]
      by_cases k22 : K p = 22
      · rw [if_pos k22, show decide ((1 : Int32) = 0) = false from rfl, br_fq]
        unfold hm_Pa_primary hb_Pa_primary_0 fb_M_alone_270 fb_M_alone_361
        rw [look_e hc k45, bTm_l, k22, show decide (I ((22 : Nat) : Int) = 1) = false from rfl, br_fq, show decide (I ((22 : Nat) : Int) = 2) = false from rfl, br_fq, show decide (I ((22 : Nat) : Int) = 3) = false from rfl, br_fq, show decide (I ((22 : Nat) : Int) = 4) = false from rfl, br_fq, show decide (I ((22 : Nat) : Int) = 5) = false from rfl, br_fq, show decide (I ((22 : Nat) : Int) = 6) = false from rfl, br_fq, show decide (I ((22 : Nat) : Int) = 7) = false from rfl, br_fq, show decide (I ((22 : Nat) : Int) = 8) = false from rfl, br_fq, show decide (I ((22 : Nat) : Int) = 9) = false from rfl, br_fq, show decide (I ((22 : Nat) : Int) = 10) = false from rfl, br_fq, show decide (I ((22 : Nat) : Int) = 11) = false from rfl, br_fq, show decide (I ((22 : Nat) : Int) = 12) = false from rfl, br_fq, show decide (I ((22 : Nat) : Int) = 13) = false from rfl, br_fq, show decide (I ((22 : Nat) : Int) = 14) = false from rfl, br_fq, show decide (I ((22 : Nat) : Int) = 15) = false from rfl, br_fq, show decide (I ((22 : Nat) : Int) = 16) = false from rfl, br_fq, show decide (I ((22 : Nat) : Int) = 17) = false from rfl, br_fq, show decide (I ((22 : Nat) : Int) = 18) = false from rfl, br_fq, show decide (I ((22 : Nat) : Int) = 19) = false from rfl, br_fq, show decide (I ((22 : Nat) : Int) = 20) = false from rfl, br_fq, show decide (I ((22 : Nat) : Int) = 21) = false from rfl, br_fq, show decide (I ((22 : Nat) : Int) = 22) = true from rfl, br_tq, bTm_id]
        cases D with
        | zero => exact pp_nl
        | succ D =>
          have e : ∀ b : Option (MS × Int32), bnd b (fun u6 r6 => some (u6, r6)) = b := fun b => by cases b <;> rfl
          rw [e]
          exact (hRo D m w p n sc gd o h hn hn2 hR nd h70 ho hg).1 k22
      · rw [if_neg k22, show decide ((0 : Int32) = 0) = true from rfl, br_tq, isS_e (k := 24) (s := 4) hw (by decide) rfl, bnd_s]
        by_cases k24 : K p = 24
        · rw [if_pos k24, show decide ((1 : Int32) = 0) = false from rfl, br_fq]
          unfold hm_Pa_primary hb_Pa_primary_0 fb_M_alone_270 fb_M_alone_361
          rw [look_e hc k45, bTm_l, k24, show decide (I ((24 : Nat) : Int) = 1) = false from rfl, br_fq, show decide (I ((24 : Nat) : Int) = 2) = false from rfl, br_fq, show decide (I ((24 : Nat) : Int) = 3) = false from rfl, br_fq, show decide (I ((24 : Nat) : Int) = 4) = false from rfl, br_fq, show decide (I ((24 : Nat) : Int) = 5) = false from rfl, br_fq, show decide (I ((24 : Nat) : Int) = 6) = false from rfl, br_fq, show decide (I ((24 : Nat) : Int) = 7) = false from rfl, br_fq, show decide (I ((24 : Nat) : Int) = 8) = false from rfl, br_fq, show decide (I ((24 : Nat) : Int) = 9) = false from rfl, br_fq, show decide (I ((24 : Nat) : Int) = 10) = false from rfl, br_fq, show decide (I ((24 : Nat) : Int) = 11) = false from rfl, br_fq, show decide (I ((24 : Nat) : Int) = 12) = false from rfl, br_fq, show decide (I ((24 : Nat) : Int) = 13) = false from rfl, br_fq, show decide (I ((24 : Nat) : Int) = 14) = false from rfl, br_fq, show decide (I ((24 : Nat) : Int) = 15) = false from rfl, br_fq, show decide (I ((24 : Nat) : Int) = 16) = false from rfl, br_fq, show decide (I ((24 : Nat) : Int) = 17) = false from rfl, br_fq, show decide (I ((24 : Nat) : Int) = 18) = false from rfl, br_fq, show decide (I ((24 : Nat) : Int) = 19) = false from rfl, br_fq, show decide (I ((24 : Nat) : Int) = 20) = false from rfl, br_fq, show decide (I ((24 : Nat) : Int) = 21) = false from rfl, br_fq, show decide (I ((24 : Nat) : Int) = 22) = false from rfl, br_fq, show decide (I ((24 : Nat) : Int) = 23) = false from rfl, br_fq, show decide (I ((24 : Nat) : Int) = 24) = true from rfl, br_tq, bTm_id]
          cases D with
          | zero => exact pp_nl
          | succ D =>
            have e : ∀ b : Option (MS × Int32), bnd b (fun u6 r6 => some (u6, r6)) = b := fun b => by cases b <;> rfl
            rw [e]
            exact (hRo D m w p n sc gd o h hn hn2 hR nd h70 ho hg).2 k24
        · rw [if_neg k24, show decide ((0 : Int32) = 0) = true from rfl, br_tq]
          refine r_ck (fun _ => ?_)
          rw [(WP_i hw).2.1, (WP_i hw).2.2]
          by_cases kw : 5 ≤ K p ∧ K p ≤ 19
          · rw [decide_eq_true ((srK_3 (K p) k46).mpr kw), br_tq]
            refine r_br (fun z => ?_) (fun z => ?_)
            · rw [hg] at z
              exact wrd_ex c hB hF h hn hn2 hR nd h70 ho kw (Or.inl ⟨(by cases gd <;> first | rfl | (cases z)), rfl⟩)
            · rw [hg] at z
              have gT : gd = true := by cases gd <;> first | rfl | (cases z)
              rw [isV_e (k := 14) (s := 9) hw (by decide) rfl, bnd_s]
              by_cases k14 : K p = 14
              · rw [if_pos k14, show decide ((1 : Int32) = 0) = false from rfl, br_fq]
                have rf : RFS (hm_Pa_primary N (hrc_Pa_matched N D) m) := by
                  unfold hm_Pa_primary hb_Pa_primary_0
                  rw [look_e hc k45, bTm_l, k14, show decide (I ((14 : Nat) : Int) = 1) = false from rfl, br_fq, show decide (I ((14 : Nat) : Int) = 2) = false from rfl, br_fq, show decide (I ((14 : Nat) : Int) = 3) = false from rfl, br_fq, show decide (I ((14 : Nat) : Int) = 4) = false from rfl, br_fq, show decide (I ((14 : Nat) : Int) = 5) = false from rfl, br_fq, show decide (I ((14 : Nat) : Int) = 6) = false from rfl, br_fq, show decide (I ((14 : Nat) : Int) = 7) = false from rfl, br_fq, show decide (I ((14 : Nat) : Int) = 8) = false from rfl, br_fq, show decide (I ((14 : Nat) : Int) = 9) = false from rfl, br_fq, show decide (I ((14 : Nat) : Int) = 10) = false from rfl, br_fq, show decide (I ((14 : Nat) : Int) = 11) = false from rfl, br_fq, show decide (I ((14 : Nat) : Int) = 12) = false from rfl, br_fq, show decide (I ((14 : Nat) : Int) = 13) = false from rfl, br_fq, show decide (I ((14 : Nat) : Int) = 14) = true from rfl, br_tq]
                  exact RFS_T (rfs_e hc)
                obtain ⟨mx, ex⟩ := rf
                have q := wrd_ex (D := D) (gd := false) c hB hF h hn hn2 hR nd h70 ho kw (Or.inl ⟨rfl, rfl⟩)
                exact pp_rf ⟨mx, ex⟩ (fun mm w2 r2 e2 => q mx (.inr 3) w2 r2 ex e2)
              · rw [if_neg k14, show decide ((0 : Int32) = 0) = true from rfl, br_tq]
                exact r_bnd (pk_mo (rule_p (by decide)) (fun v _ y => wrd_ex c hB hF h hn hn2 hR nd h70 ho kw (Or.inr ⟨gT, y⟩)))
          · rw [decide_eq_false (fun z => kw ((srK_3 (K p) k46).mp z)), br_fq]
            refine pp_rf (pr_none hc k45 (by omega)) (fun mm => ?_)
            unfold fb_M_alone_361
            exact pk_bnd (fun v r z => pk_some (wrong_s (u0 := w) (by decide) v r z))
end
