section
set_option maxRecDepth 100000
section
variable {m0 w0 m w v u m1 m2 m3 w2 mf : MS} {K nm Nk W : Nat → Nat} {T p n N q X n2 lo p2 ν μ x o : Nat} {sc sc1 sc2 t : SCT} {gd : Bool} {NC : Nat → Prop} {S : SG_M_behind} {SC : SF_Pa_matched} {v1 : Int32}
theorem lf_f (h : CP m K T p) (hl : p < T) (hn : m.1 306 = I (n : Nat)) (h8 : n + 1 < 8016) : ∃ mf, hm_Pa_leaf N m = some (mf, I ((n + 1 : Nat) : Int)) ∧ PCG m mf ∧ KPO n m mf ∧ mf.1 306 = I ((n + 1 : Nat) : Int) ∧ mf.1 665 = I ((p + 1 : Nat) : Int) ∧ nod mf (n + 1) = (I (K p : Nat), I (p : Nat), m.2.2.1 7 p, 0, 0) ∧ mf.2.2.1 21 (n + 1) = 0 ∧ CP mf K T (p + 1) := by
  refine ⟨_, lf_e h hn h8, PCG_I (PCG_add PCG_rf) (Or.inr (Or.inr rfl)), fun j hj => adN_o j hj, ?_, upI_at, adN_nod.1, adN_nod.2, ⟨h.1.1, fun j hj => ?_⟩, upI_at, hl⟩
  · rw [upI_ne (by decide)]; exact adN_n
  · show (adN _ _ _ _ _ _ _).2.2.1 6 j = _
    rw [adN_r (by decide)]; exact h.1.2 j hj
theorem RLP_go (h : RLP m0 w0 T p m w) (hp : p < T) (hm : PCG m mf) (h5 : mf.1 665 = I ((p + 1 : Nat) : Int)) (hk : Ktc w w2) (h9 : w2.1 69 = I ((p + 1 : Nat) : Int)) (h70 : w2.1 70 = w.1 70) (h67 : w2.1 67 = w.1 67) : RLP m0 w0 T (p + 1) mf w2 := ⟨Kc_tr h.1 (PCG_k hm), Kt_tr h.2.1 hk, h5, h9, hp, by rw [hm.1 666 (by decide), h70]; exact h.2.2.2.2.2.1, by rw [h67]; exact h.2.2.2.2.2.2⟩
theorem SMS_k (h : SMS w v) : Ktc w v := ⟨fun j hj => h.1 j (by unfold TIN at hj; unfold SMI; simp only [List.mem_cons, List.not_mem_nil, or_false] at hj ⊢; omega), fun j hj => h.2.1 j (by unfold TRW at hj; unfold SMX; simp only [List.mem_cons, List.not_mem_nil, or_false] at hj; omega)⟩
theorem EXN_no {gd Rf Zf : Bool} (h : EXN N K nm gd m2 lo n2 ν p p2 sc sc2 X W Rf Zf (fun _ => False)) : EXN N K nm gd m2 lo n2 ν p p2 sc sc2 X W Rf Zf (BCo N (fun _ => False)) := EXN_bc (fun m => ⟨fun z => (BCo_no z).elim, fun z => z.elim⟩) h
theorem decT {a : Int32} {b : Bool} (h : decide (a = 0) = !b) : b = true → a ≠ 0 := by
  rintro rfl; exact of_decide_eq_false h
theorem decF {a : Int32} {b : Bool} (h : decide (a = 0) = !b) : b = false → a = 0 := by
  rintro rfl; exact of_decide_eq_true h
theorem ex_end {k : Nat} {Rf : Bool} (c : CTZ m0 w0 K T nm Nk) (h : RLP m0 w0 T p m w) (hl : p < T) (hn2 : n ≤ 2 * p) (hm : PCG m mf) (ho : KPO n m mf) (hn : mf.1 306 = I ((n + 1 : Nat) : Int)) (h5 : mf.1 665 = I ((p + 1 : Nat) : Int)) (hR : RNs w sc) (nd : ND w) (s1 : SMS w u) (ru : (Rf = false ∧ v = u) ∨ (Rf = true ∧ v.1 72 ≠ 0 ∧ (∀ k, k ≠ 71 → k ≠ 72 → v.1 k = u.1 k) ∧ v.2.2.1 = u.2.2.1)) (s2 : SMS v w2) (h9 : w2.1 69 = I ((p + 1 : Nat) : Int)) (hk3 : K p ≠ 3) (hgd : gd = true → Rf = false → True) (h21 : mf.2.2.1 21 (n + 1) = 0) (hE : EXN N K nm gd mf n (n + 1) (n + 1) p (p + 1) sc sc 0 (fun _ => 32) Rf false (fun _ => False)) (hX : PTX N w0 K T nm Nk mf n (n + 1) (n + 1) p (p + 1) o NC 0) (hK : mf.2.2.1 16 (n + 1) = I (k : Nat) ∧ k < 23 ∧ (k = 1 ↔ K p = 1)) (h17 : mf.2.2.1 17 (n + 1) = I (p : Nat)) {r : Int32} : EXZ N m0 w0 K T nm Nk p n gd sc o NC m w mf (.inl (I ((n + 1 : Nat) : Int))) w2 r := by
  have gp : ∀ j, p ≤ j → j < p + 1 → K j ≠ 3 := fun j h1 h2 => by rw [show j = p by omega]; exact hk3
  have st : STW Nk K p p sc sc 0 (fun _ => 32) Rf false (fun _ => False) w v ∧ Ktc u v ∧ v.1 70 = u.1 70 ∧ v.1 67 = u.1 67 := by
    have s0 := STW_s (STW_0 (Nk := Nk) (K := K) (p := p) (W := fun _ => 32) hR nd) s1
    rcases ru with ⟨rfl, rfl⟩ | ⟨rfl, r1, r2, r3⟩
    · exact ⟨s0, Kt_rf, rfl, rfl⟩
    · exact ⟨STW_rule s0 r1 r2 r3, ⟨fun k hk => r2 k (by rintro rfl; revert hk; decide) (by rintro rfl; revert hk; decide), fun k hk => by rw [r3]⟩, r2 70 (by decide) (by decide), r2 67 (by decide) (by decide)⟩
  refine ⟨p + 1, n + 1, n + 1, sc, 0, fun _ => 32, Rf, false, fun _ => False, rfl, ⟨by omega, Nat.le_refl _⟩, by omega, ⟨RLP_go h hl hm h5 (Kt_tr (SMS_k s1) (Kt_tr st.2.1 (SMS_k s2))) h9 (by rw [s2.1 70 (by decide), st.2.2.1, s1.1 70 (by decide)]) (by rw [s2.1 67 (by decide), st.2.2.2, s1.1 67 (by decide)]), ⟨by omega, hn, by omega, by omega⟩, ho, hm, STW_gap (STW_s st.1 s2) ⟨Nat.le_refl _, by omega⟩ (fun j h1 h2 => absurd h2 (by omega)) gp, fun _ _ => rfl, SNW_rf⟩, h21, EXN_no hE, hX, k, hK.1, hK.2.1, fun z => ⟨hK.2.2.mp z, rfl, rfl⟩, fun z y => absurd (hK.2.2.mpr y) z, p, by have := c.1.1.1; omega, h17⟩
theorem nod_17 {a b c d f : Int32} (h : nod m ν = (a, b, c, d, f)) : m.2.2.1 17 ν = b := congrArg (fun z => z.2.1) h
theorem nod_16 {a b c d f : Int32} (h : nod m ν = (a, b, c, d, f)) : m.2.2.1 16 ν = a := congrArg (fun z => z.1) h
theorem ex_lit (c : CTZ m0 w0 K T nm Nk) (h : RLP m0 w0 T p m w) (hn : m.1 306 = I (n : Nat)) (hn2 : n ≤ 2 * p) (hR : RNs w sc) (nd : ND w) (ho : o < 25) (hk : K p = 1 ∨ K p = 2) (hm : PCG m mf) (hko : KPO n m mf) (hmn : mf.1 306 = I ((n + 1 : Nat) : Int)) (hm5 : mf.1 665 = I ((p + 1 : Nat) : Int)) (hx : nod mf (n + 1) = (I (K p : Nat), I (p : Nat), m.2.2.1 7 p, 0, 0)) (h21 : mf.2.2.1 21 (n + 1) = 0) : PK (fun w2 r => EXZ N m0 w0 K T nm Nk p n gd sc o NC m w mf (.inl (I ((n + 1 : Nat) : Int))) w2 r) (fm_M_alone N S w (I (p : Nat))) := by
  have hw := RLP_w c h
  have hl : p < T := TWK_lt c h.2.2.2.2.1 (by omega) (by omega)
  have t4 := c.1.1.1
  have fin : PK (fun w2 r => EXZ N m0 w0 K T nm Nk p n gd sc o NC m w mf (.inl (I ((n + 1 : Nat) : Int))) w2 r) (fb_M_alone_28 N S () w (I (p : Nat))) := by
    unfold fb_M_alone_28 fb_M_alone_58 fb_M_alone_361
    refine pk_bnd (pk_mo (node_s (w := w) (by decide)) (fun u r q => ?_))
    obtain ⟨s1, u69, -, a, ha, hr, h32, h23, hra⟩ := q
    refine pk_ck (fun _ => ?_)
    have go : ∀ y : Int32, PK (fun w2 r => EXZ N m0 w0 K T nm Nk p n gd sc o NC m w mf (.inl (I ((n + 1 : Nat) : Int))) w2 r) (ck (isK 25 4) (ck (inb r (ln 25)) (lt (upA u 25 (upd (u.2.2.1 25) r.toNatClampNeg y)) (fun w13 => ck (inb (w13.1 69) (ln 7)) (ck (inb r (ln 26)) (lt (upA w13 26 (upd (w13.2.2.1 26) r.toNatClampNeg (w13.2.2.1 7 (w13.1 69).toNatClampNeg))) (fun w14 => lt (upI w14 69 ((w14.1 69) + 1)) (fun w15 => some (w15, r))))))))) := fun y => by
      refine pk_ck (fun _ => pk_ck (fun _ => pk_ltq (pk_ck (fun _ => pk_ck (fun _ => pk_ltq (pk_ltq (pk_some ?_)))))))
      have nc : u.2.2.1 23 r.toNatClampNeg ≠ 12 ∧ u.2.2.1 23 r.toNatClampNeg ≠ 15 := by rw [hra, h23]; decide
      have s2 := SMS_B (x := y) (SMS_rf (w := u)) (Or.inl rfl) nc
      have s3 := SMS_I (x := ((upA (upA u 25 (upd (u.2.2.1 25) r.toNatClampNeg y)) 26 (upd ((upA u 25 (upd (u.2.2.1 25) r.toNatClampNeg y)).2.2.1 26) r.toNatClampNeg ((upA u 25 (upd (u.2.2.1 25) r.toNatClampNeg y)).2.2.1 7 ((upA u 25 (upd (u.2.2.1 25) r.toNatClampNeg y)).1 69).toNatClampNeg))).1 69) + 1) (k := 69) (SMS_B (x := (upA u 25 (upd (u.2.2.1 25) r.toNatClampNeg y)).2.2.1 7 ((upA u 25 (upd (u.2.2.1 25) r.toNatClampNeg y)).1 69).toNatClampNeg) (k := 26) s2 (Or.inr (Or.inl rfl)) (by rw [upA_no (by decide)]; exact nc)) (by decide) (by decide)
      refine ex_end (u := u) (v := u) (k := K p) (Rf := false) c h hl hn2 hm hko hmn hm5 hR nd s1 (Or.inl ⟨rfl, rfl⟩) s3 ?_ (by omega) (fun _ _ => trivial) h21 (exn_lit (k := K p) hx (by omega) (Nat.le_refl _) (by omega) hk (fun j h1 h2 => by rw [show j = p by omega]; omega)) (PTX_leaf hx (by omega) (Nat.le_refl _) (by omega) (by omega) hl ho) ⟨nod_16 hx, by omega, Iff.rfl⟩ (nod_17 hx)
      rw [upI_at]
      show u.1 69 + 1 = _
      rw [u69, hw.2.1, i_suc]
    exact pk_br (fun _ => go 0) (fun _ => go 1)
  show PK _ (fb_M_alone_0 N S () w (I (p : Nat)))
  unfold fb_M_alone_0
  refine pk_ck (fun _ => ?_)
  rw [(WP_i hw).2.1, srt_dc hw srK_4, srt_dc hw srK_1]
  refine pk_br (fun _ => fin) (fun z => pk_ck (fun _ => ?_))
  have z := of_decide_eq_false z
  rw [decide_eq_true (show K p = 2 by omega), br_tq]
  exact fin
theorem ex_str (c : CTZ m0 w0 K T nm Nk) (h : RLP m0 w0 T p m w) (hn : m.1 306 = I (n : Nat)) (hn2 : n ≤ 2 * p) (hR : RNs w sc) (nd : ND w) (ho : o < 25) (hg : decide (w.1 73 = 0) = !gd) (hk : K p = 4) (hm : PCG m mf) (hko : KPO n m mf) (hmn : mf.1 306 = I ((n + 1 : Nat) : Int)) (hm5 : mf.1 665 = I ((p + 1 : Nat) : Int)) (hx : nod mf (n + 1) = (I (K p : Nat), I (p : Nat), m.2.2.1 7 p, 0, 0)) (h21 : mf.2.2.1 21 (n + 1) = 0) : PK (fun w2 r => EXZ N m0 w0 K T nm Nk p n gd sc o NC m w mf (.inl (I ((n + 1 : Nat) : Int))) w2 r) (fm_M_alone N S w (I (p : Nat))) := by
  have hw := RLP_w c h
  have hl : p < T := TWK_lt c h.2.2.2.2.1 (by omega) (by omega)
  have t4 := c.1.1.1
  have fin : ∀ v, ((gd = false ∧ v = w) ∨ (gd = true ∧ v.1 72 ≠ 0 ∧ (∀ k, k ≠ 71 → k ≠ 72 → v.1 k = w.1 k) ∧ v.2.2.1 = w.2.2.1)) → PK (fun w2 r => EXZ N m0 w0 K T nm Nk p n gd sc o NC m w mf (.inl (I ((n + 1 : Nat) : Int))) w2 r) (fb_M_alone_114 N S () v (I (p : Nat))) := fun v hv => by
    have v69 : v.1 69 = w.1 69 := by
      rcases hv with ⟨-, rfl⟩ | ⟨-, -, z, -⟩
      · rfl
      · exact z 69 (by decide) (by decide)
    unfold fb_M_alone_114 fb_M_alone_361
    refine pk_bnd (pk_mo (node_s (w := v) (by decide)) (fun u r q => ?_))
    obtain ⟨s1, u69, -, a, ha, hr, h32, h23, hra⟩ := q
    refine pk_ck (fun _ => pk_ck (fun _ => pk_ltq (pk_ltq (pk_some ?_))))
    have nc : u.2.2.1 23 r.toNatClampNeg ≠ 12 ∧ u.2.2.1 23 r.toNatClampNeg ≠ 15 := by rw [hra, h23]; decide
    have s3 := SMS_I (x := (upA u 25 (upd (u.2.2.1 25) r.toNatClampNeg (u.2.2.1 7 (u.1 69).toNatClampNeg))).1 69 + 1) (k := 69) (SMS_B (x := u.2.2.1 7 (u.1 69).toNatClampNeg) (k := 25) s1 (Or.inl rfl) nc) (by decide) (by decide)
    rw [hk] at hx
    refine ex_end (u := w) (v := v) (k := 4) (Rf := gd) c h hl hn2 hm hko hmn hm5 hR nd SMS_rf hv s3 ?_ (by omega) (fun _ _ => trivial) h21 (exn_str hx (by omega) (Nat.le_refl _) (by omega) (by omega) (fun j h1 h2 => by rw [show j = p by omega]; omega)) (PTX_leaf (by rw [hk]; exact hx) (by omega) (Nat.le_refl _) (by omega) (by omega) hl ho) ⟨nod_16 hx, by decide, by omega⟩ (nod_17 hx)
    rw [upI_at]
    show u.1 69 + 1 = _
    rw [u69, v69, hw.2.1, i_suc]
  show PK _ (fb_M_alone_0 N S () w (I (p : Nat)))
  unfold fb_M_alone_0
  refine pk_ck (fun _ => ?_)
  rw [(WP_i hw).2.1, srt_dc hw srK_4, srt_dc hw srK_1, srt_dc hw srK_5, decide_eq_false (show ¬ K p = 1 by omega), br_fq]
  refine pk_ck (fun _ => ?_)
  rw [decide_eq_false (show ¬ K p = 2 by omega), br_fq]
  refine pk_ck (fun _ => ?_)
  rw [decide_eq_true hk, br_tq]
  cases gd with
  | false =>
    rw [decide_eq_true (decF hg rfl), br_tq]
    exact fin w (Or.inl ⟨rfl, rfl⟩)
  | true =>
    rw [decide_eq_false (decT hg rfl), br_fq]
    exact pk_bnd (pk_mo (rule_p (by decide)) (fun v _ z => fin v (Or.inr ⟨rfl, z⟩)))
theorem ex_name (c : CTZ m0 w0 K T nm Nk) (h : RLP m0 w0 T p m w) (hn : m.1 306 = I (n : Nat)) (hn2 : n ≤ 2 * p) (hR : RNs w sc) (nd : ND w) (ho : o < 25) (hk : K p = 3) (hm : PCG m mf) (hko : KPO n m mf) (hmn : mf.1 306 = I ((n + 1 : Nat) : Int)) (hm5 : mf.1 665 = I ((p + 1 : Nat) : Int)) (hx : nod mf (n + 1) = (I (K p : Nat), I (p : Nat), m.2.2.1 7 p, 0, 0)) (h21 : mf.2.2.1 21 (n + 1) = 0) : PK (fun w2 r => EXZ N m0 w0 K T nm Nk p n gd sc o NC m w mf (.inl (I ((n + 1 : Nat) : Int))) w2 r) (fm_M_alone N S w (I (p : Nat))) := by
  have hw := RLP_w c h
  have hl : p < T := TWK_lt c h.2.2.2.2.1 (by omega) (by omega)
  have t4 := c.1.1.1
  obtain ⟨a7, b7, hx1, hu⟩ := c.2.2.2 p hl hk
  have w7 : w.2.2.1 7 p = I (Nk p : Nat) := by rw [h.2.1.2 7 (by decide)]; exact b7
  have m7 : m.2.2.1 7 p = I (nm (Nk p) : Nat) := by rw [h.1.2 7 (by decide)]; exact a7
  rw [hk, m7] at hx
  have ok := hR.2.2.2
  have sl := hR.2.1
  have ne : sc ≠ [] := fun z => by rw [z] at sl; exact absurd sl.1 (by decide)
  have fin : ∀ (v : MS) (r y : Int32) (a : Nat), r.toNatClampNeg = a → v.2.2.1 23 a = vp_nar .byte ((3 : Int32).toInt8.toInt32) → v.1 69 = w.1 69 → v.1 70 = w.1 70 → v.1 67 = w.1 67 → Ktc w v → ((y = -1 ∧ (nm (Nk p) = 0 ∨ fnb (Nk p) sc = false) ∧ STW Nk K p p sc sc 0 (fun _ => 32) false false (fun _ => False) w v) ∨ (y ≠ -1 ∧ nm (Nk p) ≠ 0 ∧ fnb (Nk p) sc = true ∧ STW Nk K p (p + 1) sc (hld (Nk p) sc) 0 (fun _ => lvx (Nk p) sc) false false (fun _ => False) w v)) → PK (fun w2 r => EXZ N m0 w0 K T nm Nk p n gd sc o NC m w mf (.inl (I ((n + 1 : Nat) : Int))) w2 r) (fb_M_alone_201 N S () v (I (p : Nat)) r y) := fun v r y a hra h23 v69 v70 v67 kv hv => by
    have tail : ∀ (v : MS) (sc2 : SCT) (W : Nat → Nat) (Rf : Bool), v.2.2.1 23 a = vp_nar .byte ((3 : Int32).toInt8.toInt32) → v.1 69 = w.1 69 → v.1 70 = w.1 70 → v.1 67 = w.1 67 → Ktc w v → STW Nk K p (p + 1) sc sc2 0 W Rf false (fun _ => False) w v → (sc2 = if nm (Nk p) ≠ 0 ∧ fnb (Nk p) sc = true then hld (Nk p) sc else sc) → Rf = (!(decide (nm (Nk p) ≠ 0) && fnb (Nk p) sc)) → (nm (Nk p) ≠ 0 → fnb (Nk p) sc = true → W p = lvx (Nk p) sc) → PK (fun w2 r => EXZ N m0 w0 K T nm Nk p n gd sc o NC m w mf (.inl (I ((n + 1 : Nat) : Int))) w2 r) (fb_M_alone_213 N S () v r y) := fun v sc2 W Rf h23 v69 v70 v67 kv st e2 eR hW => by
      unfold fb_M_alone_213 fb_M_alone_361
      refine pk_ck (fun _ => pk_ltq (pk_ltq (pk_some ?_)))
      have nc : v.2.2.1 23 r.toNatClampNeg ≠ 12 ∧ v.2.2.1 23 r.toNatClampNeg ≠ 15 := by rw [hra, h23]; decide
      have s3 := SMS_I (x := (upA v 25 (upd (v.2.2.1 25) r.toNatClampNeg y)).1 69 + 1) (k := 69) (SMS_B (x := y) (k := 25) (SMS_rf (w := v)) (Or.inl rfl) nc) (by decide) (by decide)
      have sn : SNW 0 sc sc2 := by
        rw [e2]
        split
        · exact SNW_nm (BDs_nm hld_BD)
        · exact SNW_rf
      have tt : tot sc2 = tot sc := by
        rw [e2]
        split
        · exact tot_hld
        · rfl
      refine ⟨p + 1, n + 1, n + 1, sc2, 0, W, Rf, false, fun _ => False, rfl, ⟨by omega, Nat.le_refl _⟩, by omega, ⟨RLP_go h hl hm hm5 (Kt_tr kv (SMS_k s3)) ?_ (by rw [s3.1 70 (by decide), v70]) (by rw [s3.1 67 (by decide), v67]), ⟨by omega, hmn, by omega, by omega⟩, hko, hm, STW_s st s3, fun _ _ => tt, sn⟩, h21, ?_, PTX_name c hx (by omega) (Nat.le_refl _) (by omega) hk hl ho, 3, nod_16 hx, by decide, fun z => absurd z (by decide), fun _ z => by omega, p, by omega, nod_17 hx⟩
      · rw [upI_at]
        show v.1 69 + 1 = _
        rw [v69, hw.2.1, i_suc]
      · rw [e2, eR]
        exact EXN_no (exn_name c.2.2.1 hx (by omega) (Nat.le_refl _) (by omega) (by omega) ok hx1 hk hW)
    unfold fb_M_alone_201
    rcases hv with ⟨rfl, hf, st⟩ | ⟨hy, hf0, hf, st⟩
    · rw [show decide ((-1 : Int32) = -1) = true from rfl, br_tq]
      refine pk_bnd (pk_mo (rule_p (w := v) (by decide)) (fun v2 _ z => ?_))
      obtain ⟨z1, z2, z3⟩ := z
      have gp : ∀ j, p ≤ j → j < p + 1 → K j = 3 → sc.length ≤ (fun _ => 32) j + 1 := fun j _ _ _ => by show sc.length ≤ 33; omega
      have st2 := STW_rule st z1 z2 z3
      obtain ⟨b1, b2, b3, b4, b5⟩ := st2
      refine tail v2 sc (fun _ => 32) true (by rw [z3]; exact h23) (by rw [z2 69 (by decide) (by decide)]; exact v69) (by rw [z2 70 (by decide) (by decide)]; exact v70) (by rw [z2 67 (by decide) (by decide)]; exact v67) (Kt_tr kv ⟨fun k hk => z2 k (by rintro rfl; revert hk; decide) (by rintro rfl; revert hk; decide), fun k hk => by rw [z3]⟩) ⟨b1, b2, HDs_no (fun j a b c => ⟨gp j a b c, Nat.le_refl _⟩), ⟨by omega, b4.2⟩, b5⟩ ?_ ?_ ?_
      · rw [if_neg]
        rintro ⟨i, j⟩
        rcases hf with hf | hf
        · exact i hf
        · rw [hf] at j; cases j
      · rcases hf with hf | hf
        · rw [hf]; rfl
        · rw [hf, Bool.and_false]; rfl
      · intro i j
        rcases hf with hf | hf
        · exact absurd hf i
        · rw [hf] at j; cases j
    · rw [decide_eq_false hy, br_fq]
      refine tail v _ _ false h23 v69 v70 v67 kv st ?_ ?_ (fun _ _ => rfl)
      · rw [if_pos ⟨hf0, hf⟩]
      · rw [hf, decide_eq_true hf0]; rfl
  show PK _ (fb_M_alone_0 N S () w (I (p : Nat)))
  unfold fb_M_alone_0
  refine pk_ck (fun _ => ?_)
  rw [(WP_i hw).2.1, srt_dc hw srK_4, srt_dc hw srK_1, srt_dc hw srK_5, srt_dc hw srK_2, decide_eq_false (show ¬ K p = 1 by omega), br_fq]
  refine pk_ck (fun _ => ?_)
  rw [decide_eq_false (show ¬ K p = 2 by omega), br_fq]
  refine pk_ck (fun _ => ?_)
  rw [decide_eq_false (show ¬ K p = 4 by omega), br_fq]
  refine pk_ck (fun _ => ?_)
  rw [decide_eq_true hk, br_tq]
  refine pk_bnd (pk_mo (node_s (w := w) (by decide)) (fun u r q => ?_))
  obtain ⟨s1, u69, -, a, ha, hr, h32, h23, hra⟩ := q
  have hu69 : u.1 69 = I (p : Nat) := by rw [u69]; exact hw.2.1
  have u7 : u.2.2.1 7 p = I (Nk p : Nat) := by rw [s1.2.1 7 (by unfold SMX; omega)]; exact w7
  have hu2 : UND u (Nk p) ↔ nm (Nk p) = 0 := by
    unfold UND at hu ⊢
    rw [s1.2.1 16 (by unfold SMX; omega), s1.2.1 15 (by unfold SMX; omega), h.2.1.2 16 (by decide), h.2.1.2 15 (by decide)]
    exact hu
  have st0 := STW_s (STW_0 (Nk := Nk) (K := K) (p := p) (W := fun _ => 32) hR nd) s1
  rw [hu69]
  refine pk_bnd (pk_mo (und_p hx1 (by omega) u7) (fun u2 r2 q2 => ?_))
  obtain ⟨rfl, q2⟩ := q2
  rcases q2 with ⟨rfl, q2⟩ | ⟨rfl, q2⟩
  · rw [show decide ((1 : Int32) = 0) = false from rfl, br_fq]
    exact fin u2 r (-1) a hra h23 u69 (s1.1 70 (by decide)) (s1.1 67 (by decide)) (SMS_k s1) (Or.inl ⟨rfl, Or.inl (hu2.mp q2), st0⟩)
  · rw [show decide ((0 : Int32) = 0) = true from rfl, br_tq]
    refine pk_ck (fun _ => ?_)
    have nz : nm (Nk p) ≠ 0 := fun z => q2 (hu2.mpr z)
    have rn := st0.1
    rw [hu69, tnI (n := p) rfl (by omega), u7, rn.1]
    refine pk_bnd (pk_mo (fnd_d (N := N) hx1 _ sc u2 rn.2.2.1 ok ne sl.2) (fun u3 r3 q3 => ?_))
    rcases q3 with ⟨rfl, e3, hf⟩ | ⟨h3, hf, f1, f2, f3⟩
    · rw [e3]
      exact fin u2 r (-1) a hra h23 u69 (s1.1 70 (by decide)) (s1.1 67 (by decide)) (SMS_k s1) (Or.inl ⟨rfl, Or.inr hf, st0⟩)
    · have rn3 : RNs u3 (hld (Nk p) sc) := ⟨by rw [f1.1 65, hld_len]; exact rn.1, by rw [hld_len]; exact sl, f3, hld_ok ok⟩
      obtain ⟨b1, b2, b3, b4, b5, b6, b7, a0, b0, b8, b9, b10⟩ := st0
      have row : ∀ k, k < 61 ∨ 64 ≤ k → u3.2.2.1 k = u2.2.2.1 k := f1.2
      refine fin u3 r r3 a hra (by rw [row 23 (by omega)]; exact h23) (by rw [f1.1 69]; exact u69) (by rw [f1.1 70]; exact s1.1 70 (by decide)) (by rw [f1.1 67]; exact s1.1 67 (by decide)) (Kt_tr (SMS_k s1) ⟨fun k _ => f1.1 k, fun k hk => row k (by unfold TRW at hk; simp only [List.mem_cons, List.not_mem_nil, or_false] at hk; omega)⟩) (Or.inr ⟨h3, nz, hf, ?_⟩)
      refine ⟨rn3, hld_SCX ne, hld_HD rfl hk (by omega) ok hf rfl, ⟨by rw [tot_hld]; omega, by omega⟩, by rw [f1.1 66]; exact b5, by rw [f1.1 72]; exact b6, WFE_tr b7 ⟨fun k _ => f1.1 k, fun k hk => row k (by omega), fun j _ => by rw [row 74 (by omega)], fun j _ => by rw [row 76 (by omega)], fun i i1 i2 j _ => by rw [row i (by omega)]⟩, a0, b0, ⟨b8.1, by rw [f1.1 32]; exact b8.2.1, b8.2.2⟩, fun x => ?_, ?_⟩
      · rw [← b9]; unfold CSY; rw [row 23 (by omega), row 25 (by omega), row 26 (by omega), row 27 (by omega)]
      · unfold NKP; rw [row 23 (by omega), row 25 (by omega), row 26 (by omega), row 27 (by omega)]; exact b10
end
end
section
set_option maxRecDepth 100000
def RWE (N : Nat) (m0 w0 : MS) (K : Nat → Nat) (T : Nat) (nm Nk : Nat → Nat) (gd : Bool) (mB wB : MS) (p0 n0 : Nat) (sc : SCT) (o : Nat) (m w : MS) (p : Nat) (l : List Nat) : Prop := ∃ (n : Nat) (sc2 : SCT) (X : Nat) (W : Nat → Nat) (Rf Zf : Bool) (CL : Int32 × Int32 × Int32 → Prop), (l ≠ [] ∧ p0 < p ∧ 2 * l.length + p0 ≤ p + 1) ∧ STQ m0 w0 K T Nk gd mB wB p0 n0 sc 1 m w p n sc2 X W Rf Zf CL ∧ ERW N K nm gd m n0 n W l p0 p sc sc2 X Rf Zf (BCo N CL) ∧ m.2.2.1 21 (l.getLastD 0) = 0 ∧ n0 < l.headD 0 ∧ PXR N w0 K T nm Nk m n0 n o l p0 p X
section
variable {β : Type} {m0 w0 m w v u mB wB m2 w2 m3 w3 : MS} {K nm Nk W : Nat → Nat} {T p n N q X n2 p0 n0 p2 ν o s L : Nat} {sc sc1 sc2 sc3 t : SCT} {gd Rf Zf : Bool} {l : List Nat} {r : Int32} {fc : MS → Option (MS × (Int32 ⊕ Nat))} {fw : MS → Option (MS × Int32)} {CL CM : Int32 × Int32 × Int32 → Prop} {B1 B2 : MS → Prop} {NC : Nat → Prop}
theorem ERW_bc (hb : ∀ m, B2 m ↔ B1 m) (h : ERW N K nm gd m2 n0 n2 W l p p2 sc sc2 X Rf Zf B1) : ERW N K nm gd m2 n0 n2 W l p p2 sc sc2 X Rf Zf B2 := by
  cases l with
  | nil => exact ⟨h.1, h.2.1, h.2.2.1, h.2.2.2.1, h.2.2.2.2.1, fun m z => h.2.2.2.2.2 m ((hb m).mp z)⟩
  | cons ν l =>
    obtain ⟨q, q2, sc1, X1, X2, R1, R2, Z1, Z2, b1, b2, h1, g1, h2, h3, h4, h5, h6, h7, h8, h9, h10, h11⟩ := h
    exact ⟨q, q2, sc1, X1, X2, R1, R2, Z1, Z2, b1, b2, h1, g1, h2, h3, h4, h5, h6, h7, h8, h9, fun m => (hb m).trans (h10 m), h11⟩
theorem STQ_21 {y : Int32} (h : STQ m0 w0 K T Nk gd mB wB p0 n0 sc s m w p n sc2 X W Rf Zf CL) (hL : n0 < L) : STQ m0 w0 K T Nk gd mB wB p0 n0 sc s (upA m 21 (upd (m.2.2.1 21) L y)) w p n sc2 X W Rf Zf CL := by
  obtain ⟨a1, a2, a3, a4, a5⟩ := h
  obtain ⟨h1, h2⟩ := a1
  refine ⟨⟨Kc_tr h1 ⟨fun _ _ => rfl, fun k hk => upA_no (by omega)⟩, h2⟩, a2, fun j hj => ?_, PCG_A a4 (by omega), a5⟩
  have e : nod (upA m 21 (upd (m.2.2.1 21) L y)) j = nod m j := by
    unfold nod
    rw [upA_no (by decide), upA_no (by decide), upA_no (by decide), upA_no (by decide), upA_no (by decide)]
  refine ⟨e.trans (a3 j hj).1, ?_⟩
  rw [upA_at, upd_no (by omega)]
  exact (a3 j hj).2
theorem RWE_s (h : RWE N m0 w0 K T nm Nk gd mB wB p0 n0 sc o m w p l) (k : SMS w v) (hv : v.1 69 = w.1 69) : RWE N m0 w0 K T nm Nk gd mB wB p0 n0 sc o m v p l := by
  obtain ⟨n, sc2, X, W, Rf, Zf, CL, a0, a1, a2⟩ := h
  exact ⟨n, sc2, X, W, Rf, Zf, CL, a0, STQ_s a1 k hv, a2⟩
theorem RWE_1 {v3 : Int32} (h : EXZ N m0 w0 K T nm Nk p n gd sc o NC1 m w m2 (.inl r) w2 v3) : ∃ ν p2, r = I (ν : Nat) ∧ RWE N m0 w0 K T nm Nk gd m w p n sc o m2 w2 p2 [ν] := by
  obtain ⟨p2, n2, ν, sc2, X, W, Rf, Zf, CL, a1, a2, a3, a4, a5, a6, a7, a8⟩ := h
  have st := a4.2.2.2.2.1
  refine ⟨ν, p2, a1, n2, sc2, X, W, Rf, Zf, CL, ⟨(fun z => by cases z), a3, by show 2 * 1 + p ≤ p2 + 1; omega⟩, a4, ERW_1 a6 (by omega) ⟨by omega, a2.2⟩ a2.1 a5 st.2.2.2.1.1 (SCX_len st.2.1) st.2.2.2.1.2, a5, a2.1, PXR_1 a7 a2 a5 a3⟩
theorem RWE_next (c : CTZ m0 w0 K T nm Nk) (hn0 : n0 ≤ 2 * p0) (h70 : wB.1 70 = I (o : Nat)) (ho : o ≤ 25) (hg : decide (wB.1 73 = 0) = !gd) (h : RWE N m0 w0 K T nm Nk gd mB wB p0 n0 sc o m w p l) (hk : K p = 26) (hP : EXS N m0 w0 K T nm Nk 0 NC1 fc fw) (s3 : SMS (adv w p) w3) (h69 : w3.1 69 = (adv w p).1 69) : PP (fun m2 z w2 _ => match z with
    | .inr _ => FLW w2
    | .inl ε => ∃ ν p2, ε = I (ν : Nat) ∧ RWE N m0 w0 K T nm Nk gd mB wB p0 n0 sc o (upA m2 21 (upd (m2.2.2.1 21) (l.getLastD 0) (I (ν : Nat)))) w2 p2 (l ++ [ν])) (fc (advc m p)) (fw w3) := by
  obtain ⟨n, sc1, X1, W1, R1, Z1, CL1, b0, b1, b2, b3, b4, b5⟩ := h
  have pT := b1.1.2.2.2.2.1
  have hl : p < T := TWK_lt c pT (by omega) (by omega)
  obtain ⟨d1, d2, d3⟩ := ERW_hd b2 b0.1
  have st := STQ_s (STQ_ad b1 hl (by omega)) s3 h69
  have e7 : ∀ k, k ∈ [70, 73] → w3.1 k = wB.1 k := fun k hk => by
    rw [s3.1 k (by simp only [List.mem_cons, List.not_mem_nil, or_false] at hk; rcases hk with rfl | rfl <;> decide)]
    unfold adv
    rw [upI_ne (by rintro rfl; revert hk; decide), b1.2.2.2.2.1.2.2.2.2.2.2.1.1 k (by simp only [List.mem_cons, List.not_mem_nil, or_false] at hk ⊢; omega)]
  have nb := b1.2.1
  refine pp_mo (hP (advc m p) w3 (p + 1) n sc1 gd o st.1 st.2.1.2.1 (by omega) (STQ_rn st) (STQ_nd st) (by rw [e7 70 (by decide)]; exact h70) (by omega) (by rw [e7 73 (by decide)]; exact hg)) (fun m2 z w2 r q => ?_)
  cases z with
  | inr k => exact q
  | inl ε =>
    obtain ⟨p2, n2, ν, sc2, X, W, Rf, Zf, CL, a1, a2, a3, a4, a5, a6, a7, a8⟩ := q
    refine ⟨ν, p2, a1, ?_⟩
    have all := STQ_s2 (s2 := 1) (STQ_21 (L := l.getLastD 0) (y := I (ν : Nat)) (STQ_tr st a4) (by omega)) (by omega)
    generalize hL : l.getLastD 0 = L at d1 d3 b3 all
    have r21 : (upA m2 21 (upd (m2.2.2.1 21) L (I (ν : Nat)))).2.2.1 21 = upd (m2.2.2.1 21) L (I (ν : Nat)) := upA_at
    have ro : ∀ k, k ≠ 21 → (upA m2 21 (upd (m2.2.2.1 21) L (I (ν : Nat)))).2.2.1 k = m2.2.2.1 k := fun k hk => upA_no hk
    have ri : ∀ k, (upA m2 21 (upd (m2.2.2.1 21) L (I (ν : Nat)))).1 k = m2.1 k := fun _ => rfl
    generalize hm3 : upA m2 21 (upd (m2.2.2.1 21) L (I (ν : Nat))) = m3 at r21 ro ri all
    have nd3 : ∀ j, nod m3 j = nod m2 j := fun j => by
      unfold nod
      rw [ro 16 (by decide), ro 17 (by decide), ro 18 (by decide), ro 19 (by decide), ro 20 (by decide)]
    have a5' := a4.2.2.1
    have k2 : Kcc m m3 := Kc_tr (Kc_tr (v := advc m p) ⟨fun k hk => by unfold advc; exact upI_ne (by omega), fun _ _ => rfl⟩ (PCG_k a4.2.2.2.1)) ⟨fun k _ => ri k, fun k hk => ro k (by omega)⟩
    have hs : ∀ j, j ≤ n → nod m3 j = nod m j ∧ (j ≠ L → m3.2.2.1 21 j = m.2.2.1 21 j) := fun j hj => ⟨by rw [nd3, (a5' j hj).1]; rfl, fun z => by rw [r21, upd_no z, (a5' j hj).2]; rfl⟩
    have gp : ∀ j, p ≤ j → j < p + 1 → K j ≠ 3 := fun j h1 h2 => by rw [show j = p by omega]; omega
    have s5 := a4.2.2.2.2.1
    have kx : KPX n n2 ν m2 m3 := ⟨fun j h0 hj => ⟨nd3 j, fun _ => by rw [r21, upd_no (by omega)]⟩, ⟨fun k _ => ri k, fun k hk => ro k (by omega)⟩⟩
    have h21 : m3.2.2.1 21 ν = 0 := by rw [r21, upd_no (by omega)]; exact a5
    rw [← hL] at hs
    refine ⟨n2, sc2, max X1 X, mrg (p + 1) W1 W, R1 || Rf, Z1 || Zf, fun x => CL1 x ∨ CL x, ⟨(fun z => by simp at z), by omega, ?_⟩, all, ERW_bc (fun m => BCo_or) (ERW_snoc (mi := m2) (li := n) (ni := n2) k2 b0.1 hs (by rw [r21, hL, upd_at]) (ERW_w (fun j _ h => mrg_l (by omega)) b2) gp ⟨by omega, by omega⟩ (EXN_w (fun j h _ => mrg_r h) a6) kx ⟨by omega, a2.2, Nat.le_refl _⟩ ⟨by omega, a2.1⟩ h21 s5.2.2.2.1.1 (SCX_len s5.2.1) s5.2.2.2.1.2 BCo_st), ?_, ?_, PXR_snoc (mi := m2) (li := n) (ni := n2) (by omega) k2 ⟨by omega, a2.2, Nat.le_refl _⟩ ⟨by omega, a2.1⟩ a7 kx h21 (by omega) hk hs (by rw [r21, hL, upd_at]) b5⟩
    · rw [List.length_append, List.length_singleton]; omega
    · rw [getLastD_snoc]; exact h21
    · rw [headD_snoc b0.1]; exact b4
theorem erow_lp {SC : SF_Pa_matched} {fC : MS → Int32 → Option (MS × (Int32 ⊕ Nat))} {R : MS → Int32 ⊕ Nat → MS → β → Prop} {RA : Nat → Nat → MS → Option (MS × β)} {mx : Nat} (hmx : mx ≤ 4000) (c : CTZ m0 w0 K T nm Nk) (c45 : ∀ p, p ≤ T → K p ≠ 45) (hn0 : n0 ≤ 2 * p0) (h70 : wB.1 70 = I (o : Nat)) (ho : o ≤ 25) (hg : decide (wB.1 73 = 0) = !gd) (hP : EXS N m0 w0 K T nm Nk 0 NC1 (fun m => SC.2.2.2.2.2.2.2.2.2.2.2.2.2.2.1 m 1) fw)
    (hNo : ∀ (M : Nat) (m w : MS) (p k : Nat) (l : List Nat), RWE N m0 w0 K T nm Nk gd mB wB p0 n0 sc o m w p l → K p ≠ 26 → l.length = k → k ≤ mx → PP R (fC m (I ((l.headD 0 : Nat) : Int))) (RA M k w))
    (hYes : ∀ (M k p : Nat) (w : MS) (a : Option (MS × (Int32 ⊕ Nat))), WP w K T p → w.1 67 = 0 → K p = 26 → 1 ≤ k → k < mx → (∀ w3 M', SMS (adv w p) w3 → w3.1 69 = (adv w p).1 69 → PP R a (bnd (fw w3) (fun u _ => RA M' (k + 1) u))) → PP R a (RA M k w))
    (hMax : ∀ (M k p : Nat) (w : MS), mx ≤ 8 → WP w K T p → w.1 67 = 0 → K p = 26 → k = mx → PK (fun w2 _ => FLW w2) (RA M k w))
    (hFl : ∀ (M k : Nat) (w : MS), FLW w → PK (fun w2 _ => FLW w2) (RA M k w))
    (hF : ∀ (m : MS) (p : Nat) (φ : Int32), mx ≤ 8 → CP m K T p → K p = 26 → RFS (fC m φ)) (hW : ∀ m k w r, FLW w → R m (.inr k) w r) (hmx1 : mx ≤ 8 ∨ mx = 4000) : ∀ (j k M M' : Nat) (m w : MS) (p : Nat) (l : List Nat), k + j = mx → 1 ≤ k → l.length = k → RWE N m0 w0 K T nm Nk gd mB wB p0 n0 sc o m w p l → PP R (bTm (hg_Pa_row N SC M m 0 (I (mx : Nat)) (I ((l.headD 0 : Nat) : Int)) (I ((l.getLastD 0 : Nat) : Int)) (I (k : Nat))) fC) (RA M' k w) := by
  intro j
  induction j with
  | zero =>
    intro k M M' m w p l hkj hk1 hlk hI
    obtain ⟨n, sc1, X1, W1, R1, Z1, CL1, b0, b1, b2⟩ := id hI
    have hc := RLP_c c b1.1
    have hw := RLP_w c b1.1
    have h0 := b1.1.2.2.2.2.2.2
    have t4 := c.1.1.1
    have pT := b1.1.2.2.2.2.1
    cases M with
    | zero => exact pp_nl
    | succ M =>
      show PP R (bTm (hb_Pa_row_23 N SC (hg_Pa_row N SC M) m 0 (I (mx : Nat)) (I ((l.headD 0 : Nat) : Int)) (I ((l.getLastD 0 : Nat) : Int)) (I (k : Nat))) fC) _
      unfold hb_Pa_row_23 hb_Pa_row_78
      rw [decI (by omega) (by omega) (by omega) (by omega), decide_eq_true (by omega), br_tq, bTm_l]
      by_cases k26 : K p = 26
      · have m8 : mx ≤ 8 := by
          rcases hmx1 with z | z
          · exact z
          · exfalso; omega
        exact pp_rf (hF m p _ m8 hc k26) (fun m2 => pk_mo (hMax M' k p w m8 hw h0 k26 (by omega)) (fun w2 r z => hW _ _ _ _ z))
      · exact hNo M' m w p k l hI k26 hlk (by omega)
  | succ j ih =>
    intro k M M' m w p l hkj hk1 hlk hI
    obtain ⟨n, sc1, X1, W1, R1, Z1, CL1, b0, b1, b2, b3, b4, b5⟩ := id hI
    have hc := RLP_c c b1.1
    have hw := RLP_w c b1.1
    have h0 := b1.1.2.2.2.2.2.2
    have t4 := c.1.1.1
    have pT := hc.2.2
    have nn := b1.2.1
    obtain ⟨d1, d2, d3⟩ := ERW_hd b2 b0.1
    cases M with
    | zero => exact pp_nl
    | succ M =>
      show PP R (bTm (hb_Pa_row_23 N SC (hg_Pa_row N SC M) m 0 (I (mx : Nat)) (I ((l.headD 0 : Nat) : Int)) (I ((l.getLastD 0 : Nat) : Int)) (I (k : Nat))) fC) _
      unfold hb_Pa_row_23 hb_Pa_row_78
      rw [decI (by omega) (by omega) (by omega) (by omega), decide_eq_false (by omega), br_fq, look_e hc (c45 p pT), bTm_l]
      by_cases k26 : K p = 26
      · rw [k26, show decide (I ((26 : Nat) : Int) = 26) = true from rfl, br_tq]
        refine hYes M' k p w _ hw h0 k26 hk1 (by omega) (fun w3 M2 s3 h69 => ?_)
        show PP R (bTm (lt (upI m 665 (m.1 665 + 1)) (fun w4 => br (decide ((0 : Int32) = 0)) _ _)) fC) _
        rw [hc.2.1, i_suc, show decide ((0 : Int32) = 0) = true from rfl]
        show PP R (bTm (br true (bTm (SC.2.2.2.2.2.2.2.2.2.2.2.2.2.2.1 (advc m p) 1) _) _) fC) _
        rw [br_tq, bTm_as]
        refine pp_bTn (RWE_next (N := N) c hn0 h70 ho hg hI k26 hP s3 h69) (fun m2 ε w2 r q => ?_) (fun m2 kk w2 r q => ?_)
        · obtain ⟨ν, p3, e1, q⟩ := q
          rw [e1]
          unfold hb_Pa_row_67 hm_Pa_chain hb_Pa_chain_0
          rw [bnd_as, tnI (n := l.getLastD 0) rfl (by omega), i_suc]
          refine l_bnd ?_
          refine pk_ck (fun _ => pk_ltq (pk_some ?_))
          have := ih (k + 1) M M2 _ w2 p3 (l ++ [ν]) (by omega) (by omega) (by rw [List.length_append, List.length_singleton]; omega) q
          rw [headD_snoc b0.1, getLastD_snoc] at this
          exact this
        · exact pk_mo (hFl M2 (k + 1) w2 q) (fun w2 r z => hW _ _ _ _ z)
      · have k46 := hc.1.1.k46 hc.2.2
        rw [I_dn (a := K p) (b := 26) (s := 26) (by omega) (by decide) rfl, decide_eq_false k26, br_fq, bTm_l]
        exact hNo M' m w p k l hI k26 hlk (by omega)
end
end
section
set_option maxRecDepth 100000
def HE (N : Nat) (m0 w0 : MS) (K : Nat → Nat) (T : Nat) (nm Nk : Nat → Nat) (d : Nat) : Prop := ∀ D, EXS N m0 w0 K T nm Nk 0 NC1 (fun m => (hrc_Pa_matched N D).2.2.2.2.2.2.2.2.2.2.2.2.2.2.1 m 1) ((rc_M_behind N d).2.2.2.2.2.2.2.2.2.2.2.2.2.1)
def RWZ (N : Nat) (m0 w0 : MS) (K : Nat → Nat) (T : Nat) (nm Nk : Nat → Nat) (p n : Nat) (gd : Bool) (sc : SCT) (o s mx kc : Nat) (m w m2 : MS) (w2 : MS) (q : Nat) (l : List Nat) : Prop := ∃ (n2 q1 : Nat) (sc2 : SCT) (X : Nat) (W : Nat → Nat) (Rf Zf : Bool) (CL : Int32 × Int32 × Int32 → Prop), STQ m0 w0 K T Nk gd m w p n sc s m2 w2 q n2 sc2 X W Rf Zf CL ∧ ERW N K nm gd m2 n n2 W l (p + 1) q1 sc sc2 X Rf Zf (BCo N CL) ∧ (p + 1 ≤ q1 ∧ q1 < q ∧ ∀ j, q1 ≤ j → j < q → K j ≠ 3) ∧ l.length ≤ mx ∧ ((l = [] ∧ q1 = p + 1) ∨ (PXR N w0 K T nm Nk m2 n n2 o l (p + 1) q1 X ∧ K (p + 1) ≠ kc))
def ARGZ (N : Nat) (m0 w0 : MS) (K : Nat → Nat) (T : Nat) (nm Nk : Nat → Nat) (p n : Nat) (gd : Bool) (sc : SCT) (o : Nat) (m w m2 : MS) (z : Int32 ⊕ Nat) (w2 : MS) (_ : Unit) : Prop := match z with
  | .inr _ => FLW w2
  | .inl φ => ∃ l q, φ = I ((l.headD 0 : Nat) : Int) ∧ w2.1 84 = I ((l.length : Nat) : Int) ∧ RWZ N m0 w0 K T nm Nk p n gd sc o 4 6 21 m w m2 w2 q l
section
variable {β : Type} {m0 w0 m w v u mB wB m2 w2 m3 w3 : MS} {K nm Nk W : Nat → Nat} {T p n N q X n2 p0 n0 n3 p2 ν o s L d D : Nat} {sc sc1 sc2 sc3 t : SCT} {gd Rf Zf : Bool} {l : List Nat} {r : Int32} {CL CM : Int32 × Int32 × Int32 → Prop}
theorem ERW_k (hn : n2 ≤ n3) (hk : Kcc m2 m3) (ho : ∀ j, j ≤ n2 → nod m3 j = nod m2 j ∧ m3.2.2.1 21 j = m2.2.2.1 21 j) : ∀ {l : List Nat} {p p2 : Nat} {sc sc2 : SCT} {X : Nat} {Rf Zf : Bool} {BC : MS → Prop}, ERW N K nm gd m2 n n2 W l p p2 sc sc2 X Rf Zf BC → ERW N K nm gd m3 n n3 W l p p2 sc sc2 X Rf Zf BC
  | [], _, _, _, _, _, _, _, _, h => h
  | ν :: l, p, p2, sc, sc2, X, Rf, Zf, BC, ⟨q, q2, sc1, X1, X2, R1, R2, Z1, Z2, B1, B2, h1, g1, ⟨mi, li, ni, h2, hx, a, b⟩, h3, h4, h5, h6, h7⟩ => ⟨q, q2, sc1, X1, X2, R1, R2, Z1, Z2, B1, B2, h1, g1, ⟨mi, li, ni, h2, ⟨fun j j1 j2 => ⟨(ho j (by omega)).1.trans (hx.1 j j1 j2).1, fun z => (ho j (by omega)).2.trans ((hx.1 j j1 j2).2 z)⟩, Kc_tr hx.2 hk⟩, ⟨a.1, by omega⟩, b⟩, ⟨h3.1, by omega⟩, (ho ν (by omega)).2.trans h4, h5, ERW_k hn hk ho h6, h7⟩
theorem erow_st {SC : SF_Pa_matched} {fw : MS → Option (MS × Int32)} {fC : MS → Int32 → Option (MS × (Int32 ⊕ Nat))} {R : MS → Int32 ⊕ Nat → MS → β → Prop} {RA : Nat → Nat → MS → Option (MS × β)} {mx : Nat} (hmx : mx ≤ 4000) (hmx2 : 1 ≤ mx) (c : CTZ m0 w0 K T nm Nk) (c45 : ∀ p, p ≤ T → K p ≠ 45) (hn0 : n0 ≤ 2 * p0) (h : RLP m0 w0 T p0 mB wB) (hn : mB.1 306 = I (n0 : Nat)) (hr : RNs wB sc) (nd : ND wB) (h70 : wB.1 70 = I (o : Nat)) (ho : o ≤ 25) (hg : decide (wB.1 73 = 0) = !gd) (hP : EXS N m0 w0 K T nm Nk 0 NC1 (fun m => SC.2.2.2.2.2.2.2.2.2.2.2.2.2.2.1 m 1) fw)
    (hNo : ∀ (M : Nat) (m w : MS) (p k : Nat) (l : List Nat), RWE N m0 w0 K T nm Nk gd mB wB p0 n0 sc o m w p l → K p ≠ 26 → l.length = k → k ≤ mx → PP R (fC m (I ((l.headD 0 : Nat) : Int))) (RA M k w))
    (hYes : ∀ (M k p : Nat) (w : MS) (a : Option (MS × (Int32 ⊕ Nat))), WP w K T p → w.1 67 = 0 → K p = 26 → 1 ≤ k → k < mx → (∀ w3 M', SMS (adv w p) w3 → w3.1 69 = (adv w p).1 69 → PP R a (bnd (fw w3) (fun u _ => RA M' (k + 1) u))) → PP R a (RA M k w))
    (hMax : ∀ (M k p : Nat) (w : MS), mx ≤ 8 → WP w K T p → w.1 67 = 0 → K p = 26 → k = mx → PK (fun w2 _ => FLW w2) (RA M k w))
    (hFl : ∀ (M k : Nat) (w : MS), FLW w → PK (fun w2 _ => FLW w2) (RA M k w))
    (hF : ∀ (m : MS) (p : Nat) (φ : Int32), mx ≤ 8 → CP m K T p → K p = 26 → RFS (fC m φ)) (hW : ∀ m k w r, FLW w → R m (.inr k) w r) (hmx1 : mx ≤ 8 ∨ mx = 4000) {M : Nat} : PP R (bTm (hm_Pa_row N SC mB 0 (I (mx : Nat))) fC) (bnd (fw wB) (fun u _ => RA M 1 u)) := by
  unfold hm_Pa_row hb_Pa_row_0 hb_Pa_row_16
  rw [show decide ((0 : Int32) = 0) = true from rfl, br_tq, bTm_as]
  refine pp_bTn (hP mB wB p0 n0 sc gd o h hn hn0 hr nd h70 (by omega) hg) (fun m2 ε w2 r q => ?_) (fun m2 kk w2 r q => ?_)
  · obtain ⟨ν, p2, e1, hI⟩ := RWE_1 q
    rw [e1]
    exact erow_lp (SC := SC) hmx c c45 hn0 h70 ho hg hP hNo hYes hMax hFl hF hW hmx1 (mx - 1) 1 N M m2 w2 p2 [ν] (by omega) (Nat.le_refl _) rfl hI
  · exact pk_mo (hFl M 1 w2 q) (fun w2 r z => hW _ _ _ _ z)
def argR (N : Nat) (S : SG_M_behind) (M k : Nat) (w : MS) : Option (MS × Unit) := br (decide (I (k : Nat) = 6)) (bnd (fm_M_isSign N w 6) (fun u5 r5 => br (decide (r5 = 0)) (fb_M_arguments_63 N S (gg_M_arguments N S M) u5 (I (k : Nat))) (bnd (fm_M_wrong N u5 2) (fun u6 _ => fb_M_arguments_63 N S (gg_M_arguments N S M) u6 (I (k : Nat)))))) (fb_M_arguments_63 N S (gg_M_arguments N S M) w (I (k : Nat)))
theorem argR_f {M k : Nat} (h : FLW w) : PK (fun w2 (_ : Unit) => FLW w2) (argR N (rc_M_behind N d) M k w) := by
  refine Kf_pk (u0 := w) ?_
  have h : Kfc w w := h
  obtain ⟨hF0, hF1, hF2, hF3, hF4, hF5, hF6, hF7, hF8, hF9, hF10, hF11, hF12, hF13, hF14, hF15, hF16⟩ := yf_rc_M_behind (u0 := w) (N := N) d
  unfold argR
  repeat' (first | with_reducible assumption | with_reducible refine Kf_br ?_ ?_ | with_reducible refine Kf_bnd ?_ (fun _ _ _ => ?_) | with_reducible refine Kf_ck ?_ | with_reducible refine Kf_ltm ?_ (fun _ _ => ?_) | with_reducible refine Kf_some ?_ | with_reducible refine Kf_bo (fun _ => ?_) | with_reducible exact yf_fm_M_node (by assumption) | with_reducible exact yf_fm_M_pattern (by assumption) | with_reducible exact yf_fm_M_wrong (by assumption) | with_reducible exact yf_fm_M_rule (by assumption) | with_reducible exact yf_fm_M_isSign (by assumption) | with_reducible exact yf_fm_M_isWord (by assumption) | with_reducible exact yf_fm_M_takeSign (by assumption) | with_reducible exact yf_fm_M_takeWord (by assumption) | with_reducible exact yf_fm_M_needSign (by assumption) | with_reducible exact yf_fm_M_needWord (by assumption) | with_reducible exact yf_fm_M_opens (by assumption) | with_reducible exact yf_fm_M_boundIn (by assumption) | with_reducible exact yf_fr_M_found (by assumption) | with_reducible exact yf_fm_M_bind (by assumption) | with_reducible exact yf_fm_M_isUnderscore (by assumption) | with_reducible exact yf_fm_M_unbind (by assumption) | with_reducible exact yf_fm_M_term (by assumption) | with_reducible exact yf_fm_M_namePattern (by assumption) | with_reducible exact yf_fr_M_patternAt (by assumption) | with_reducible exact yf_fm_M_beginsUnit (by assumption) | with_reducible exact yf_fm_M_save (by assumption) | with_reducible exact yf_fm_M_addRoot (by assumption) | with_reducible exact yf_fm_M_level (by assumption) | with_reducible exact yf_fm_M_reduce (by assumption) | with_reducible exact yf_fm_M_takeBack (by assumption) | with_reducible exact yf_fm_M_forgetSaved (by assumption) | with_reducible exact yf_fr_M_last (by assumption) | with_reducible exact yf_fr_M_clause (by assumption) | with_reducible exact yf_fm_M_predefinedOf (by assumption) | with_reducible exact yf_fm_M_function0 (by assumption) | with_reducible exact yf_fm_M_program (by assumption) | with_reducible exact hF0 _ (by assumption) | with_reducible exact hF1 _ _ (by assumption) | with_reducible exact hF2 _ _ _ (by assumption) | with_reducible exact hF3 _ _ _ (by assumption) | with_reducible exact hF4 _ (by assumption) | with_reducible exact hF5 _ _ (by assumption) | with_reducible exact hF6 _ _ (by assumption) | with_reducible exact hF7 _ _ (by assumption) | with_reducible exact hF8 _ _ (by assumption) | with_reducible exact hF9 _ (by assumption) | with_reducible exact hF10 _ (by assumption) | with_reducible exact hF11 _ (by assumption) | with_reducible exact hF12 _ (by assumption) | with_reducible exact hF13 _ (by assumption) | with_reducible exact hF14 _ (by assumption) | with_reducible exact hF15 _ (by assumption) | with_reducible exact hF16 _ _ (by assumption) | with_reducible exact yf_fb_M_arguments_73 (by assumption) hF0 hF1 hF2 hF3 hF4 hF5 hF6 hF7 hF8 hF9 hF10 hF11 hF12 hF13 hF14 hF15 hF16 (yf_gg_M_arguments hF0 hF1 hF2 hF3 hF4 hF5 hF6 hF7 hF8 hF9 hF10 hF11 hF12 hF13 hF14 hF15 hF16 _) | with_reducible exact yf_fb_M_arguments_63 (by assumption) hF0 hF1 hF2 hF3 hF4 hF5 hF6 hF7 hF8 hF9 hF10 hF11 hF12 hF13 hF14 hF15 hF16 (yf_gg_M_arguments hF0 hF1 hF2 hF3 hF4 hF5 hF6 hF7 hF8 hF9 hF10 hF11 hF12 hF13 hF14 hF15 hF16 _) | with_reducible exact yf_fb_M_arguments_24 (by assumption) hF0 hF1 hF2 hF3 hF4 hF5 hF6 hF7 hF8 hF9 hF10 hF11 hF12 hF13 hF14 hF15 hF16 (yf_gg_M_arguments hF0 hF1 hF2 hF3 hF4 hF5 hF6 hF7 hF8 hF9 hF10 hF11 hF12 hF13 hF14 hF15 hF16 _) | with_reducible exact yf_fb_M_arguments_0 (by assumption) hF0 hF1 hF2 hF3 hF4 hF5 hF6 hF7 hF8 hF9 hF10 hF11 hF12 hF13 hF14 hF15 hF16 (yf_gg_M_arguments hF0 hF1 hF2 hF3 hF4 hF5 hF6 hF7 hF8 hF9 hF10 hF11 hF12 hF13 hF14 hF15 hF16 _) | with_reducible exact (yf_gg_M_arguments hF0 hF1 hF2 hF3 hF4 hF5 hF6 hF7 hF8 hF9 hF10 hF11 hF12 hF13 hF14 hF15 hF16 _) _ _ _ (by assumption) | with_reducible refine Kf_ltv (fun _ => ?_) | with_reducible refine Kf_I ?_ (by decide) | with_reducible refine Kf_A ?_ | with_reducible refine Kf_J ?_ | with_reducible refine Kf_L ?_)
theorem a63_f {M : Nat} {a : Int32} (h : FLW w) : PK (fun w2 (_ : Unit) => FLW w2) (fb_M_arguments_63 N (rc_M_behind N d) (gg_M_arguments N (rc_M_behind N d) M) w a) := by
  refine Kf_pk (u0 := w) ?_
  have h : Kfc w w := h
  obtain ⟨hF0, hF1, hF2, hF3, hF4, hF5, hF6, hF7, hF8, hF9, hF10, hF11, hF12, hF13, hF14, hF15, hF16⟩ := yf_rc_M_behind (u0 := w) (N := N) d
  repeat' (first | with_reducible assumption | with_reducible refine Kf_br ?_ ?_ | with_reducible refine Kf_bnd ?_ (fun _ _ _ => ?_) | with_reducible refine Kf_ck ?_ | with_reducible refine Kf_ltm ?_ (fun _ _ => ?_) | with_reducible refine Kf_some ?_ | with_reducible refine Kf_bo (fun _ => ?_) | with_reducible exact yf_fm_M_node (by assumption) | with_reducible exact yf_fm_M_pattern (by assumption) | with_reducible exact yf_fm_M_wrong (by assumption) | with_reducible exact yf_fm_M_rule (by assumption) | with_reducible exact yf_fm_M_isSign (by assumption) | with_reducible exact yf_fm_M_isWord (by assumption) | with_reducible exact yf_fm_M_takeSign (by assumption) | with_reducible exact yf_fm_M_takeWord (by assumption) | with_reducible exact yf_fm_M_needSign (by assumption) | with_reducible exact yf_fm_M_needWord (by assumption) | with_reducible exact yf_fm_M_opens (by assumption) | with_reducible exact yf_fm_M_boundIn (by assumption) | with_reducible exact yf_fr_M_found (by assumption) | with_reducible exact yf_fm_M_bind (by assumption) | with_reducible exact yf_fm_M_isUnderscore (by assumption) | with_reducible exact yf_fm_M_unbind (by assumption) | with_reducible exact yf_fm_M_term (by assumption) | with_reducible exact yf_fm_M_namePattern (by assumption) | with_reducible exact yf_fr_M_patternAt (by assumption) | with_reducible exact yf_fm_M_beginsUnit (by assumption) | with_reducible exact yf_fm_M_save (by assumption) | with_reducible exact yf_fm_M_addRoot (by assumption) | with_reducible exact yf_fm_M_level (by assumption) | with_reducible exact yf_fm_M_reduce (by assumption) | with_reducible exact yf_fm_M_takeBack (by assumption) | with_reducible exact yf_fm_M_forgetSaved (by assumption) | with_reducible exact yf_fr_M_last (by assumption) | with_reducible exact yf_fr_M_clause (by assumption) | with_reducible exact yf_fm_M_predefinedOf (by assumption) | with_reducible exact yf_fm_M_function0 (by assumption) | with_reducible exact yf_fm_M_program (by assumption) | with_reducible exact hF0 _ (by assumption) | with_reducible exact hF1 _ _ (by assumption) | with_reducible exact hF2 _ _ _ (by assumption) | with_reducible exact hF3 _ _ _ (by assumption) | with_reducible exact hF4 _ (by assumption) | with_reducible exact hF5 _ _ (by assumption) | with_reducible exact hF6 _ _ (by assumption) | with_reducible exact hF7 _ _ (by assumption) | with_reducible exact hF8 _ _ (by assumption) | with_reducible exact hF9 _ (by assumption) | with_reducible exact hF10 _ (by assumption) | with_reducible exact hF11 _ (by assumption) | with_reducible exact hF12 _ (by assumption) | with_reducible exact hF13 _ (by assumption) | with_reducible exact hF14 _ (by assumption) | with_reducible exact hF15 _ (by assumption) | with_reducible exact hF16 _ _ (by assumption) | with_reducible exact yf_fb_M_arguments_73 (by assumption) hF0 hF1 hF2 hF3 hF4 hF5 hF6 hF7 hF8 hF9 hF10 hF11 hF12 hF13 hF14 hF15 hF16 (yf_gg_M_arguments hF0 hF1 hF2 hF3 hF4 hF5 hF6 hF7 hF8 hF9 hF10 hF11 hF12 hF13 hF14 hF15 hF16 _) | with_reducible exact yf_fb_M_arguments_63 (by assumption) hF0 hF1 hF2 hF3 hF4 hF5 hF6 hF7 hF8 hF9 hF10 hF11 hF12 hF13 hF14 hF15 hF16 (yf_gg_M_arguments hF0 hF1 hF2 hF3 hF4 hF5 hF6 hF7 hF8 hF9 hF10 hF11 hF12 hF13 hF14 hF15 hF16 _) | with_reducible exact yf_fb_M_arguments_24 (by assumption) hF0 hF1 hF2 hF3 hF4 hF5 hF6 hF7 hF8 hF9 hF10 hF11 hF12 hF13 hF14 hF15 hF16 (yf_gg_M_arguments hF0 hF1 hF2 hF3 hF4 hF5 hF6 hF7 hF8 hF9 hF10 hF11 hF12 hF13 hF14 hF15 hF16 _) | with_reducible exact yf_fb_M_arguments_0 (by assumption) hF0 hF1 hF2 hF3 hF4 hF5 hF6 hF7 hF8 hF9 hF10 hF11 hF12 hF13 hF14 hF15 hF16 (yf_gg_M_arguments hF0 hF1 hF2 hF3 hF4 hF5 hF6 hF7 hF8 hF9 hF10 hF11 hF12 hF13 hF14 hF15 hF16 _) | with_reducible exact (yf_gg_M_arguments hF0 hF1 hF2 hF3 hF4 hF5 hF6 hF7 hF8 hF9 hF10 hF11 hF12 hF13 hF14 hF15 hF16 _) _ _ _ (by assumption) | with_reducible refine Kf_ltv (fun _ => ?_) | with_reducible refine Kf_I ?_ (by decide) | with_reducible refine Kf_A ?_ | with_reducible refine Kf_J ?_ | with_reducible refine Kf_L ?_)
theorem RFS_mo {α : Type} {m : MS} {o : Option (MS × (Int32 ⊕ Nat))} {f : MS → Int32 → Option (MS × (α ⊕ Nat))} (h : RFS o) : RFS (bTm o f) := RFS_T h
theorem arg_pp (c : CTZ m0 w0 K T nm Nk) (c45 : ∀ p, p ≤ T → K p ≠ 45) (hE : HE N m0 w0 K T nm Nk d) (h : RLP m0 w0 T p m w) (hn : m.1 306 = I (n : Nat)) (hn2 : n ≤ 2 * p) (hR : RNs w sc) (nd : ND w) (h70 : w.1 70 = I (o : Nat)) (ho : o ≤ 25) (hg : decide (w.1 73 = 0) = !gd) (hk : K p = 20) : PP (ARGZ N m0 w0 K T nm Nk p n gd sc o m w) (hm_Pa_rowUpTo N (hrc_Pa_matched N D) (advc m p) 0 6 21) (fm_M_arguments N (rc_M_behind N d) w) := by
  have hc := RLP_c c h
  have hw := RLP_w c h
  have t4 := c.1.1.1
  have hl : p < T := TWK_lt c h.2.2.2.2.1 (by omega) (by omega)
  have h0 := h.2.2.2.2.2.2
  have st : STQ m0 w0 K T Nk gd m w p n sc 2 (advc m p) (adv w p) (p + 1) n sc 0 (fun _ => 32) false false (fun _ => False) := STQ_ad (STQ_0 (Nk := Nk) (K := K) (W := fun _ => 32) (gd := gd) h hn hR nd) hl (by omega)
  have rl := st.1
  have hc1 := RLP_c c rl
  have hw1 := RLP_w c rl
  have k46 := hc1.1.1.k46 hc1.2.2
  have h1 := rl.2.2.2.2.2.2
  unfold hm_Pa_rowUpTo hb_Pa_rowUpTo_0 hb_Pa_rowUpTo_18 fm_M_arguments fb_M_arguments_0
  rw [look_e hc1 (c45 _ hl), bTm_l, ndS_1 (s := 0) hw h0 (by decide) rfl hk, bnd_s, decide_eq_true h1, br_tq, isS_e (k := 21) (s := 1) hw1 (by decide) rfl, bnd_s, I_dn (a := K (p + 1)) (b := 21) (s := 21) (by omega) (by decide) rfl]
  have gp : ∀ j, p ≤ j → j < p + 1 → K j ≠ 3 := fun j h1 h2 => by rw [show j = p by omega]; omega
  have fin : ∀ (m2 w2 : MS) (k q1 n2 : Nat) (sc2 : SCT) (X : Nat) (W : Nat → Nat) (Rf Zf : Bool) (CL : Int32 × Int32 × Int32 → Prop) (l : List Nat) (M : Nat), l.length = k → k ≤ 6 → STQ m0 w0 K T Nk gd m w p n sc 2 m2 w2 q1 n2 sc2 X W Rf Zf CL → p + 1 ≤ q1 → ERW N K nm gd m2 n n2 W l (p + 1) q1 sc sc2 X Rf Zf (BCo N CL) → ((l = [] ∧ q1 = p + 1) ∨ (PXR N w0 K T nm Nk m2 n n2 o l (p + 1) q1 X ∧ K (p + 1) ≠ 21)) → PP (ARGZ N m0 w0 K T nm Nk p n gd sc o m w) (bTm (hm_Pa_need N m2 21) (fun u1 r1 => some (u1, .inl (I ((l.headD 0 : Nat) : Int))))) (fb_M_arguments_73 N (rc_M_behind N d) (gg_M_arguments N (rc_M_behind N d) M) w2 (I (k : Nat))) := fun m2 w2 k q1 n2 sc2 X W Rf Zf CL l M hlk hk6 s2 hq1 he hx => by
    have hc2 := RLP_c c s2.1
    have hw2 := RLP_w c s2.1
    have h2 := s2.1.2.2.2.2.2.2
    unfold fb_M_arguments_73
    by_cases k21 : K q1 = 21
    · have hl2 : q1 < T := TWK_lt c s2.1.2.2.2.2.1 (by omega) (by omega)
      rw [need_e (s := 21) hc2 k21 (by decide) rfl, bTm_l, ndS_1 (s := 1) hw2 h2 (by decide) rfl k21, bnd_s]
      refine r_lt (pp_end ?_)
      have s3 := STQ_s (STQ_ad s2 hl2 (by omega)) (v := upI (adv w2 q1) 84 (I (k : Nat))) (SMS_I SMS_rf (by decide) (by decide)) (upI_ne (by decide))
      refine ⟨l, q1 + 1, rfl, by rw [upI_at, hlk], n2, q1, sc2, X, W, Rf, Zf, CL, s3, ?_, ⟨hq1, by omega, fun j h1 h2 => by rw [show j = q1 by omega]; omega⟩, by omega, ?_⟩
      · have kx : ∀ j, nod (advc m2 q1) j = nod m2 j := fun _ => rfl
        exact ERW_k (m2 := m2) (m3 := advc m2 q1) (Nat.le_refl _) ⟨fun k hk => by unfold advc; exact upI_ne (by omega), fun _ _ => rfl⟩ (fun j _ => ⟨rfl, rfl⟩) he
      · have ko : KPO n2 m2 (advc m2 q1) := fun j _ => ⟨rfl, rfl⟩
        have kc : Kcc m2 (advc m2 q1) := ⟨fun k hk => by unfold advc; exact upI_ne (by omega), fun _ _ => rfl⟩
        rcases hx with hx | ⟨hx, hb⟩
        · exact Or.inl hx
        · exact Or.inr ⟨PXR_k (Nat.le_refl _) kc ko hx, hb⟩
    · refine pp_rf (RFS_T (need_x (s := 21) hc2 k21 (by decide) rfl)) (fun mm => ?_)
      exact pk_bnd (pk_mo (ndS_0 (N := N) (s := 1) hw2 h2 (by decide) rfl k21) (fun v r2 z => pk_ltq (pk_some (by show (upI v 84 _).1 67 ≠ 0; rw [upI_ne (by decide)]; exact z))))
  by_cases k21 : K (p + 1) = 21
  · rw [decide_eq_true k21, br_tq, if_pos k21, show decide ((1 : Int32) = 0) = false from rfl, br_fq]
    exact fin (advc m p) (adv w p) 0 (p + 1) n sc 0 (fun _ => 32) false false (fun _ => False) [] N rfl (by decide) st (Nat.le_refl _) ⟨rfl, rfl, rfl, rfl, rfl, fun _ => BCo_no⟩ (Or.inl ⟨rfl, rfl⟩)
  · rw [decide_eq_false k21, br_fq, if_neg k21, show decide ((0 : Int32) = 0) = true from rfl, br_tq]
    cases D with
    | zero => exact pp_nl
    | succ D =>
      show PP _ (bTm (hm_Pa_row N (hrc_Pa_matched N D) (advc m p) 0 6) _) (gg_M_arguments N (rc_M_behind N d) N (adv w p) 0 1)
      have e7 : ∀ k, k ≠ 69 → (adv w p).1 k = w.1 k := fun k hk => by unfold adv; exact upI_ne hk
      have go : ∀ M, PP (ARGZ N m0 w0 K T nm Nk p n gd sc o m w) (bTm (hm_Pa_row N (hrc_Pa_matched N D) (advc m p) 0 (I ((6 : Nat) : Int))) (fun u3 r3 => bTm (hm_Pa_need N u3 21) (fun u1 r1 => some (u1, .inl r3)))) (bnd ((rc_M_behind N d).2.2.2.2.2.2.2.2.2.2.2.2.2.1 (adv w p)) (fun u _ => argR N (rc_M_behind N d) M 1 u)) := fun M => by
        refine erow_st (SC := hrc_Pa_matched N D) (RA := fun M k w => argR N (rc_M_behind N d) M k w) (mx := 6) (gd := gd) (o := o) (sc := sc) (p0 := p + 1) (n0 := n) (by decide) (by decide) c c45 (by omega) rl st.2.1.2.1 (STQ_rn st) (STQ_nd st) (by rw [e7 70 (by decide)]; exact h70) ho (by rw [e7 73 (by decide)]; exact hg) (hE D) ?_ ?_ ?_ ?_ ?_ ?_ (Or.inl (by decide))
        · intro M m2 w2 q1 k l hI k26 hlk hk6
          obtain ⟨n2, sc2, X, W, Rf, Zf, CL, b0, b1, b2, b3, b4, b5⟩ := hI
          have hw2 := RLP_w c b1.1
          have h2 := b1.1.2.2.2.2.2.2
          have o63 : ∀ {a : Option (MS × (Int32 ⊕ Nat))}, (∀ M, PP (ARGZ N m0 w0 K T nm Nk p n gd sc o m w) a (fb_M_arguments_73 N (rc_M_behind N d) (gg_M_arguments N (rc_M_behind N d) M) w2 (I (k : Nat)))) → PP (ARGZ N m0 w0 K T nm Nk p n gd sc o m w) a (fb_M_arguments_63 N (rc_M_behind N d) (gg_M_arguments N (rc_M_behind N d) M) w2 (I (k : Nat))) := fun {a} ha => by
            unfold fb_M_arguments_63
            rw [tkS_e (k := 26) (s := 6) hw2 h2 (by decide) rfl, if_neg k26, bnd_s]
            cases M with
            | zero => exact pp_nr
            | succ M =>
              show PP _ a (fb_M_arguments_24 N (rc_M_behind N d) (gg_M_arguments N (rc_M_behind N d) M) w2 (I (k : Nat)) 0)
              unfold fb_M_arguments_24
              rw [show decide ((0 : Int32) = 0) = true from rfl, br_tq]
              exact ha M
          have s2 := STQ_s2 (s2 := 2) (STQ_tr st b1) (by omega)
          rw [show max 0 X = X by omega, Bool.false_or, Bool.false_or] at s2
          have s2 := STQ_cl (CM := CL) (fun x => ⟨fun z => z.elim False.elim id, Or.inr⟩) s2
          have he := ERW_w (W2 := mrg (p + 1) (fun _ => 32) W) (fun j h _ => mrg_r h) b2
          have hfin := fun M => fin m2 w2 k q1 n2 sc2 X _ Rf Zf CL l M hlk hk6 s2 (by omega) he (Or.inr ⟨b5, k21⟩)
          show PP _ _ (argR N (rc_M_behind N d) M k w2)
          unfold argR
          rw [isS_e (k := 26) (s := 6) hw2 (by decide) rfl, if_neg k26, bnd_s, show decide ((0 : Int32) = 0) = true from rfl, br_tq]
          exact r_br (fun _ => o63 (fun M => hfin M)) (fun _ => o63 (fun M => hfin M))
        · intro M k q1 w2 a hw2 h2 k26 hk1 hk6 ha
          show PP _ a (argR N (rc_M_behind N d) M k w2)
          unfold argR
          rw [I_dn (a := k) (b := 6) (s := 6) (by omega) (by decide) rfl, decide_eq_false (p := k = 6) (by omega), br_fq]
          unfold fb_M_arguments_63
          rw [tkS_e (k := 26) (s := 6) hw2 h2 (by decide) rfl, if_pos k26, bnd_s]
          cases M with
          | zero => exact pp_nr
          | succ M =>
            show PP _ a (fb_M_arguments_24 N (rc_M_behind N d) (gg_M_arguments N (rc_M_behind N d) M) (adv w2 q1) (I (k : Nat)) 1)
            unfold fb_M_arguments_24
            have h3 : (adv w2 q1).1 67 = 0 := by unfold adv; rw [upI_ne (by decide)]; exact h2
            rw [show decide ((1 : Int32) = 0) = false from rfl, br_fq, decide_eq_true h3, br_tq, i_suc]
            exact ha _ M SMS_rf rfl
        · intro M k q1 w2 _ hw2 h2 k26 hk6
          show PK _ (argR N (rc_M_behind N d) M k w2)
          subst hk6
          unfold argR
          rw [show decide (I ((6 : Nat) : Int) = 6) = true from rfl, br_tq, isS_e (k := 26) (s := 6) hw2 (by decide) rfl, if_pos k26, bnd_s, show decide ((1 : Int32) = 0) = false from rfl, br_fq]
          exact pk_bnd (fun v r z => a63_f (wrong_s (u0 := v) (by decide) v r z))
        · exact fun M k w z => argR_f z
        · exact fun m p φ _ cp k26 => RFS_T (need_x (k := 21) (s := 21) cp (by omega) (by decide) rfl)
        · exact fun _ _ _ _ z => z
      have key : ∀ M, PP (ARGZ N m0 w0 K T nm Nk p n gd sc o m w) (bTm (hm_Pa_row N (hrc_Pa_matched N D) (advc m p) 0 (I ((6 : Nat) : Int))) (fun u3 r3 => bTm (hm_Pa_need N u3 21) (fun u1 r1 => some (u1, .inl r3)))) (gg_M_arguments N (rc_M_behind N d) M (adv w p) 0 1) := fun M => by
        cases M with
        | zero => exact pp_nr
        | succ M =>
          show PP _ _ (fb_M_arguments_24 N (rc_M_behind N d) (gg_M_arguments N (rc_M_behind N d) M) (adv w p) 0 1)
          unfold fb_M_arguments_24
          rw [show decide ((1 : Int32) = 0) = false from rfl, br_fq, decide_eq_true h1, br_tq]
          exact go M
      exact key N
end
end
section
set_option maxRecDepth 100000
def rowR (N : Nat) (S : SG_M_behind) (v1 v2 v3 : Int32) (M k : Nat) (w : MS) : Option (MS × Int32) := br (decide (I (k : Nat) = 8)) (bnd (fm_M_isSign N w 6) (fun u9 r9 => br (decide (r9 = 0)) (fb_M_row_92 N S (gg_M_row N S M) u9 v1 v2 v3 (I (k : Nat)) 0) (bnd (fm_M_wrong N u9 2) (fun u10 _ => fb_M_row_92 N S (gg_M_row N S M) u10 v1 v2 v3 (I (k : Nat)) 0)))) (fb_M_row_92 N S (gg_M_row N S M) w v1 v2 v3 (I (k : Nat)) 0)
section
variable {m0 w0 m w v u mB wB m2 w2 m3 w3 : MS} {K nm Nk W : Nat → Nat} {T p n N q X n2 p0 n0 n3 p2 ν o s L d D k q1 : Nat} {sc sc1 sc2 sc3 t : SCT} {gd Rf Zf : Bool} {l : List Nat} {r v1 v2 v3 v4 v5 : Int32} {CL CM : Int32 × Int32 × Int32 → Prop} {NC : Nat → Prop}
theorem rowR_f {M : Nat} (h : FLW w) : PK (fun w2 (_ : Int32) => FLW w2) (rowR N (rc_M_behind N d) v1 v2 v3 M k w) := by
  refine Kf_pk (u0 := w) ?_
  have h : Kfc w w := h
  obtain ⟨hF0, hF1, hF2, hF3, hF4, hF5, hF6, hF7, hF8, hF9, hF10, hF11, hF12, hF13, hF14, hF15, hF16⟩ := yf_rc_M_behind (u0 := w) (N := N) d
  unfold rowR
  repeat' (first | with_reducible assumption | with_reducible refine Kf_br ?_ ?_ | with_reducible refine Kf_bnd ?_ (fun _ _ _ => ?_) | with_reducible refine Kf_ck ?_ | with_reducible refine Kf_ltm ?_ (fun _ _ => ?_) | with_reducible refine Kf_some ?_ | with_reducible refine Kf_bo (fun _ => ?_) | with_reducible exact yf_fm_M_node (by assumption) | with_reducible exact yf_fm_M_pattern (by assumption) | with_reducible exact yf_fm_M_wrong (by assumption) | with_reducible exact yf_fm_M_rule (by assumption) | with_reducible exact yf_fm_M_isSign (by assumption) | with_reducible exact yf_fm_M_isWord (by assumption) | with_reducible exact yf_fm_M_takeSign (by assumption) | with_reducible exact yf_fm_M_takeWord (by assumption) | with_reducible exact yf_fm_M_needSign (by assumption) | with_reducible exact yf_fm_M_needWord (by assumption) | with_reducible exact yf_fm_M_opens (by assumption) | with_reducible exact yf_fm_M_boundIn (by assumption) | with_reducible exact yf_fr_M_found (by assumption) | with_reducible exact yf_fm_M_bind (by assumption) | with_reducible exact yf_fm_M_isUnderscore (by assumption) | with_reducible exact yf_fm_M_unbind (by assumption) | with_reducible exact yf_fm_M_term (by assumption) | with_reducible exact yf_fm_M_namePattern (by assumption) | with_reducible exact yf_fr_M_patternAt (by assumption) | with_reducible exact yf_fm_M_beginsUnit (by assumption) | with_reducible exact yf_fm_M_save (by assumption) | with_reducible exact yf_fm_M_addRoot (by assumption) | with_reducible exact yf_fm_M_level (by assumption) | with_reducible exact yf_fm_M_reduce (by assumption) | with_reducible exact yf_fm_M_takeBack (by assumption) | with_reducible exact yf_fm_M_forgetSaved (by assumption) | with_reducible exact yf_fr_M_last (by assumption) | with_reducible exact yf_fr_M_clause (by assumption) | with_reducible exact yf_fm_M_predefinedOf (by assumption) | with_reducible exact yf_fm_M_function0 (by assumption) | with_reducible exact yf_fm_M_program (by assumption) | with_reducible exact hF0 _ (by assumption) | with_reducible exact hF1 _ _ (by assumption) | with_reducible exact hF2 _ _ _ (by assumption) | with_reducible exact hF3 _ _ _ (by assumption) | with_reducible exact hF4 _ (by assumption) | with_reducible exact hF5 _ _ (by assumption) | with_reducible exact hF6 _ _ (by assumption) | with_reducible exact hF7 _ _ (by assumption) | with_reducible exact hF8 _ _ (by assumption) | with_reducible exact hF9 _ (by assumption) | with_reducible exact hF10 _ (by assumption) | with_reducible exact hF11 _ (by assumption) | with_reducible exact hF12 _ (by assumption) | with_reducible exact hF13 _ (by assumption) | with_reducible exact hF14 _ (by assumption) | with_reducible exact hF15 _ (by assumption) | with_reducible exact hF16 _ _ (by assumption) | with_reducible exact yf_fb_M_row_140 (by assumption) hF0 hF1 hF2 hF3 hF4 hF5 hF6 hF7 hF8 hF9 hF10 hF11 hF12 hF13 hF14 hF15 hF16 (yf_gg_M_row hF0 hF1 hF2 hF3 hF4 hF5 hF6 hF7 hF8 hF9 hF10 hF11 hF12 hF13 hF14 hF15 hF16 _) | with_reducible exact yf_fb_M_row_125 (by assumption) hF0 hF1 hF2 hF3 hF4 hF5 hF6 hF7 hF8 hF9 hF10 hF11 hF12 hF13 hF14 hF15 hF16 (yf_gg_M_row hF0 hF1 hF2 hF3 hF4 hF5 hF6 hF7 hF8 hF9 hF10 hF11 hF12 hF13 hF14 hF15 hF16 _) | with_reducible exact yf_fb_M_row_103 (by assumption) hF0 hF1 hF2 hF3 hF4 hF5 hF6 hF7 hF8 hF9 hF10 hF11 hF12 hF13 hF14 hF15 hF16 (yf_gg_M_row hF0 hF1 hF2 hF3 hF4 hF5 hF6 hF7 hF8 hF9 hF10 hF11 hF12 hF13 hF14 hF15 hF16 _) | with_reducible exact yf_fb_M_row_92 (by assumption) hF0 hF1 hF2 hF3 hF4 hF5 hF6 hF7 hF8 hF9 hF10 hF11 hF12 hF13 hF14 hF15 hF16 (yf_gg_M_row hF0 hF1 hF2 hF3 hF4 hF5 hF6 hF7 hF8 hF9 hF10 hF11 hF12 hF13 hF14 hF15 hF16 _) | with_reducible exact yf_fb_M_row_50 (by assumption) hF0 hF1 hF2 hF3 hF4 hF5 hF6 hF7 hF8 hF9 hF10 hF11 hF12 hF13 hF14 hF15 hF16 (yf_gg_M_row hF0 hF1 hF2 hF3 hF4 hF5 hF6 hF7 hF8 hF9 hF10 hF11 hF12 hF13 hF14 hF15 hF16 _) | with_reducible exact yf_fb_M_row_15 (by assumption) hF0 hF1 hF2 hF3 hF4 hF5 hF6 hF7 hF8 hF9 hF10 hF11 hF12 hF13 hF14 hF15 hF16 (yf_gg_M_row hF0 hF1 hF2 hF3 hF4 hF5 hF6 hF7 hF8 hF9 hF10 hF11 hF12 hF13 hF14 hF15 hF16 _) | with_reducible exact yf_fb_M_row_0 (by assumption) hF0 hF1 hF2 hF3 hF4 hF5 hF6 hF7 hF8 hF9 hF10 hF11 hF12 hF13 hF14 hF15 hF16 (yf_gg_M_row hF0 hF1 hF2 hF3 hF4 hF5 hF6 hF7 hF8 hF9 hF10 hF11 hF12 hF13 hF14 hF15 hF16 _) | with_reducible exact (yf_gg_M_row hF0 hF1 hF2 hF3 hF4 hF5 hF6 hF7 hF8 hF9 hF10 hF11 hF12 hF13 hF14 hF15 hF16 _) _ _ _ _ _ _ _ (by assumption) | with_reducible refine Kf_ltv (fun _ => ?_) | with_reducible refine Kf_I ?_ (by decide) | with_reducible refine Kf_A ?_ | with_reducible refine Kf_J ?_ | with_reducible refine Kf_L ?_)
theorem r92_f {M : Nat} {a b : Int32} (h : FLW w) : PK (fun w2 (_ : Int32) => FLW w2) (fb_M_row_92 N (rc_M_behind N d) (gg_M_row N (rc_M_behind N d) M) w v1 v2 v3 a b) := by
  refine Kf_pk (u0 := w) ?_
  have h : Kfc w w := h
  obtain ⟨hF0, hF1, hF2, hF3, hF4, hF5, hF6, hF7, hF8, hF9, hF10, hF11, hF12, hF13, hF14, hF15, hF16⟩ := yf_rc_M_behind (u0 := w) (N := N) d
  repeat' (first | with_reducible assumption | with_reducible refine Kf_br ?_ ?_ | with_reducible refine Kf_bnd ?_ (fun _ _ _ => ?_) | with_reducible refine Kf_ck ?_ | with_reducible refine Kf_ltm ?_ (fun _ _ => ?_) | with_reducible refine Kf_some ?_ | with_reducible refine Kf_bo (fun _ => ?_) | with_reducible exact yf_fm_M_node (by assumption) | with_reducible exact yf_fm_M_pattern (by assumption) | with_reducible exact yf_fm_M_wrong (by assumption) | with_reducible exact yf_fm_M_rule (by assumption) | with_reducible exact yf_fm_M_isSign (by assumption) | with_reducible exact yf_fm_M_isWord (by assumption) | with_reducible exact yf_fm_M_takeSign (by assumption) | with_reducible exact yf_fm_M_takeWord (by assumption) | with_reducible exact yf_fm_M_needSign (by assumption) | with_reducible exact yf_fm_M_needWord (by assumption) | with_reducible exact yf_fm_M_opens (by assumption) | with_reducible exact yf_fm_M_boundIn (by assumption) | with_reducible exact yf_fr_M_found (by assumption) | with_reducible exact yf_fm_M_bind (by assumption) | with_reducible exact yf_fm_M_isUnderscore (by assumption) | with_reducible exact yf_fm_M_unbind (by assumption) | with_reducible exact yf_fm_M_term (by assumption) | with_reducible exact yf_fm_M_namePattern (by assumption) | with_reducible exact yf_fr_M_patternAt (by assumption) | with_reducible exact yf_fm_M_beginsUnit (by assumption) | with_reducible exact yf_fm_M_save (by assumption) | with_reducible exact yf_fm_M_addRoot (by assumption) | with_reducible exact yf_fm_M_level (by assumption) | with_reducible exact yf_fm_M_reduce (by assumption) | with_reducible exact yf_fm_M_takeBack (by assumption) | with_reducible exact yf_fm_M_forgetSaved (by assumption) | with_reducible exact yf_fr_M_last (by assumption) | with_reducible exact yf_fr_M_clause (by assumption) | with_reducible exact yf_fm_M_predefinedOf (by assumption) | with_reducible exact yf_fm_M_function0 (by assumption) | with_reducible exact yf_fm_M_program (by assumption) | with_reducible exact hF0 _ (by assumption) | with_reducible exact hF1 _ _ (by assumption) | with_reducible exact hF2 _ _ _ (by assumption) | with_reducible exact hF3 _ _ _ (by assumption) | with_reducible exact hF4 _ (by assumption) | with_reducible exact hF5 _ _ (by assumption) | with_reducible exact hF6 _ _ (by assumption) | with_reducible exact hF7 _ _ (by assumption) | with_reducible exact hF8 _ _ (by assumption) | with_reducible exact hF9 _ (by assumption) | with_reducible exact hF10 _ (by assumption) | with_reducible exact hF11 _ (by assumption) | with_reducible exact hF12 _ (by assumption) | with_reducible exact hF13 _ (by assumption) | with_reducible exact hF14 _ (by assumption) | with_reducible exact hF15 _ (by assumption) | with_reducible exact hF16 _ _ (by assumption) | with_reducible exact yf_fb_M_row_140 (by assumption) hF0 hF1 hF2 hF3 hF4 hF5 hF6 hF7 hF8 hF9 hF10 hF11 hF12 hF13 hF14 hF15 hF16 (yf_gg_M_row hF0 hF1 hF2 hF3 hF4 hF5 hF6 hF7 hF8 hF9 hF10 hF11 hF12 hF13 hF14 hF15 hF16 _) | with_reducible exact yf_fb_M_row_125 (by assumption) hF0 hF1 hF2 hF3 hF4 hF5 hF6 hF7 hF8 hF9 hF10 hF11 hF12 hF13 hF14 hF15 hF16 (yf_gg_M_row hF0 hF1 hF2 hF3 hF4 hF5 hF6 hF7 hF8 hF9 hF10 hF11 hF12 hF13 hF14 hF15 hF16 _) | with_reducible exact yf_fb_M_row_103 (by assumption) hF0 hF1 hF2 hF3 hF4 hF5 hF6 hF7 hF8 hF9 hF10 hF11 hF12 hF13 hF14 hF15 hF16 (yf_gg_M_row hF0 hF1 hF2 hF3 hF4 hF5 hF6 hF7 hF8 hF9 hF10 hF11 hF12 hF13 hF14 hF15 hF16 _) | with_reducible exact yf_fb_M_row_92 (by assumption) hF0 hF1 hF2 hF3 hF4 hF5 hF6 hF7 hF8 hF9 hF10 hF11 hF12 hF13 hF14 hF15 hF16 (yf_gg_M_row hF0 hF1 hF2 hF3 hF4 hF5 hF6 hF7 hF8 hF9 hF10 hF11 hF12 hF13 hF14 hF15 hF16 _) | with_reducible exact yf_fb_M_row_50 (by assumption) hF0 hF1 hF2 hF3 hF4 hF5 hF6 hF7 hF8 hF9 hF10 hF11 hF12 hF13 hF14 hF15 hF16 (yf_gg_M_row hF0 hF1 hF2 hF3 hF4 hF5 hF6 hF7 hF8 hF9 hF10 hF11 hF12 hF13 hF14 hF15 hF16 _) | with_reducible exact yf_fb_M_row_15 (by assumption) hF0 hF1 hF2 hF3 hF4 hF5 hF6 hF7 hF8 hF9 hF10 hF11 hF12 hF13 hF14 hF15 hF16 (yf_gg_M_row hF0 hF1 hF2 hF3 hF4 hF5 hF6 hF7 hF8 hF9 hF10 hF11 hF12 hF13 hF14 hF15 hF16 _) | with_reducible exact yf_fb_M_row_0 (by assumption) hF0 hF1 hF2 hF3 hF4 hF5 hF6 hF7 hF8 hF9 hF10 hF11 hF12 hF13 hF14 hF15 hF16 (yf_gg_M_row hF0 hF1 hF2 hF3 hF4 hF5 hF6 hF7 hF8 hF9 hF10 hF11 hF12 hF13 hF14 hF15 hF16 _) | with_reducible exact (yf_gg_M_row hF0 hF1 hF2 hF3 hF4 hF5 hF6 hF7 hF8 hF9 hF10 hF11 hF12 hF13 hF14 hF15 hF16 _) _ _ _ _ _ _ _ (by assumption) | with_reducible refine Kf_ltv (fun _ => ?_) | with_reducible refine Kf_I ?_ (by decide) | with_reducible refine Kf_A ?_ | with_reducible refine Kf_J ?_ | with_reducible refine Kf_L ?_)
theorem r125_f {G : MS → Int32 → Int32 → Int32 → Int32 → Int32 → Int32 → Option (MS × Int32)} (h : FLW w) : PK (fun w2 (_ : Int32) => FLW w2) (fb_M_row_125 N (rc_M_behind N d) G w v1 v2 v3 v4 v5) := by
  refine Kf_pk (u0 := w) ?_
  have h : Kfc w w := h
  unfold fb_M_row_125 fb_M_row_140
  repeat' (first | with_reducible assumption | with_reducible refine Kf_br ?_ ?_ | with_reducible refine Kf_bnd ?_ (fun _ _ _ => ?_) | with_reducible refine Kf_ck ?_ | with_reducible refine Kf_ltm ?_ (fun _ _ => ?_) | with_reducible refine Kf_some ?_ | with_reducible refine Kf_bo (fun _ => ?_) | with_reducible exact yf_fm_M_node (by assumption) | with_reducible exact yf_fm_M_pattern (by assumption) | with_reducible exact yf_fm_M_wrong (by assumption) | with_reducible exact yf_fm_M_rule (by assumption) | with_reducible exact yf_fm_M_isSign (by assumption) | with_reducible exact yf_fm_M_isWord (by assumption) | with_reducible exact yf_fm_M_takeSign (by assumption) | with_reducible exact yf_fm_M_takeWord (by assumption) | with_reducible exact yf_fm_M_needSign (by assumption) | with_reducible exact yf_fm_M_needWord (by assumption) | with_reducible exact yf_fm_M_opens (by assumption) | with_reducible exact yf_fm_M_boundIn (by assumption) | with_reducible exact yf_fr_M_found (by assumption) | with_reducible exact yf_fm_M_bind (by assumption) | with_reducible exact yf_fm_M_isUnderscore (by assumption) | with_reducible exact yf_fm_M_unbind (by assumption) | with_reducible exact yf_fm_M_term (by assumption) | with_reducible exact yf_fm_M_namePattern (by assumption) | with_reducible exact yf_fr_M_patternAt (by assumption) | with_reducible exact yf_fm_M_beginsUnit (by assumption) | with_reducible exact yf_fm_M_save (by assumption) | with_reducible exact yf_fm_M_addRoot (by assumption) | with_reducible exact yf_fm_M_level (by assumption) | with_reducible exact yf_fm_M_reduce (by assumption) | with_reducible exact yf_fm_M_takeBack (by assumption) | with_reducible exact yf_fm_M_forgetSaved (by assumption) | with_reducible exact yf_fr_M_last (by assumption) | with_reducible exact yf_fr_M_clause (by assumption) | with_reducible exact yf_fm_M_predefinedOf (by assumption) | with_reducible exact yf_fm_M_function0 (by assumption) | with_reducible exact yf_fm_M_program (by assumption) | with_reducible exact hF0 _ (by assumption) | with_reducible exact hF1 _ _ (by assumption) | with_reducible exact hF2 _ _ _ (by assumption) | with_reducible exact hF3 _ _ _ (by assumption) | with_reducible exact hF4 _ (by assumption) | with_reducible exact hF5 _ _ (by assumption) | with_reducible exact hF6 _ _ (by assumption) | with_reducible exact hF7 _ _ (by assumption) | with_reducible exact hF8 _ _ (by assumption) | with_reducible exact hF9 _ (by assumption) | with_reducible exact hF10 _ (by assumption) | with_reducible exact hF11 _ (by assumption) | with_reducible exact hF12 _ (by assumption) | with_reducible exact hF13 _ (by assumption) | with_reducible exact hF14 _ (by assumption) | with_reducible exact hF15 _ (by assumption) | with_reducible exact hF16 _ _ (by assumption) | with_reducible refine Kf_ltv (fun _ => ?_) | with_reducible refine Kf_I ?_ (by decide) | with_reducible refine Kf_A ?_ | with_reducible refine Kf_J ?_ | with_reducible refine Kf_L ?_)
theorem r125_p {kc : Nat} {G : MS → Int32 → Int32 → Int32 → Int32 → Int32 → Int32 → Option (MS × Int32)} (hw : WP w K T q1) (h67 : w.1 67 = 0) (hkc : 20 ≤ kc ∧ kc ≤ 44) (h3 : v3 = I (svK kc : Nat)) (hk : K q1 = kc) : PK (fun w2 (_ : Int32) => SMS (adv w q1) w2 ∧ w2.1 69 = (adv w q1).1 69) (fb_M_row_125 N (rc_M_behind N d) G w v1 v2 v3 v4 v5) := by
  unfold fb_M_row_125
  rw [ndS_1 hw h67 hkc h3 hk, bnd_s]
  have go : ∀ t1 : Int32, (vp_nar .byte (t1.toInt8.toInt32) ≠ 12 ∧ vp_nar .byte (t1.toInt8.toInt32) ≠ 15) → PK (fun w2 (_ : Int32) => SMS (adv w q1) w2 ∧ w2.1 69 = (adv w q1).1 69) (fb_M_row_140 N (rc_M_behind N d) G (adv w q1) v1 v4 v5 t1) := fun t1 ht => by
    unfold fb_M_row_140
    refine pk_bnd (pk_mo (node_s ht) (fun u r q => ?_))
    obtain ⟨s1, u69, -, a, ha, hr, h32, h23, hra⟩ := q
    have nc : u.2.2.1 23 r.toNatClampNeg ≠ 12 ∧ u.2.2.1 23 r.toNatClampNeg ≠ 15 := by rw [hra, h23]; exact ht
    refine pk_ck (fun _ => pk_ltq (pk_ck (fun _ => pk_ltq (pk_some ⟨SMS_B (SMS_B s1 (Or.inl rfl) nc) (Or.inr (Or.inl rfl)) (by rw [upA_no (by decide)]; exact nc), u69⟩))))
  exact pk_br (fun _ => go 5 (by decide)) (fun _ => go 4 (by decide))
theorem rowR_no {R : MS → Int32 ⊕ Nat → MS → Int32 → Prop} {M : Nat} {a : Option (MS × (Int32 ⊕ Nat))} (hw : WP w K T q1) (h67 : w.1 67 = 0) (k26 : K q1 ≠ 26) (h : ∀ M, PP R a (fb_M_row_103 N (rc_M_behind N d) (gg_M_row N (rc_M_behind N d) M) w v1 v2 v3 (I (k : Nat)) 0)) : PP R a (rowR N (rc_M_behind N d) v1 v2 v3 M k w) := by
  have o92 : PP R a (fb_M_row_92 N (rc_M_behind N d) (gg_M_row N (rc_M_behind N d) M) w v1 v2 v3 (I (k : Nat)) 0) := by
    unfold fb_M_row_92
    rw [tkS_e (k := 26) (s := 6) hw h67 (by decide) rfl, if_neg k26, bnd_s]
    cases M with
    | zero => exact pp_nr
    | succ M =>
      show PP R a (fb_M_row_50 N (rc_M_behind N d) (gg_M_row N (rc_M_behind N d) M) w v1 v2 v3 (I (k : Nat)) 0 0)
      unfold fb_M_row_50
      rw [show decide ((0 : Int32) = 0) = true from rfl, br_tq]
      exact h M
  unfold rowR
  rw [isS_e (k := 26) (s := 6) hw (by decide) rfl, if_neg k26, bnd_s, show decide ((0 : Int32) = 0) = true from rfl, br_tq]
  exact r_br (fun _ => o92) (fun _ => o92)
theorem rowR_yes {R : MS → Int32 ⊕ Nat → MS → Int32 → Prop} {M : Nat} {a : Option (MS × (Int32 ⊕ Nat))} (hw : WP w K T q1) (h67 : w.1 67 = 0) (k26 : K q1 = 26) (hk8 : k < 8) (h : ∀ w3 M', SMS (adv w q1) w3 → w3.1 69 = (adv w q1).1 69 → PP R a (bnd ((rc_M_behind N d).2.2.2.2.2.2.2.2.2.2.2.2.2.1 w3) (fun u _ => rowR N (rc_M_behind N d) v1 v2 v3 M' (k + 1) u))) : PP R a (rowR N (rc_M_behind N d) v1 v2 v3 M k w) := by
  unfold rowR
  rw [I_dn (a := k) (b := 8) (s := 8) (by omega) (by decide) rfl, decide_eq_false (p := k = 8) (by omega), br_fq]
  unfold fb_M_row_92
  rw [tkS_e (k := 26) (s := 6) hw h67 (by decide) rfl, if_pos k26, bnd_s]
  cases M with
  | zero => exact pp_nr
  | succ M =>
    show PP R a (fb_M_row_50 N (rc_M_behind N d) (gg_M_row N (rc_M_behind N d) M) (adv w q1) v1 v2 v3 (I (k : Nat)) 0 1)
    unfold fb_M_row_50
    have h3 : (adv w q1).1 67 = 0 := by unfold adv; rw [upI_ne (by decide)]; exact h67
    rw [show decide ((1 : Int32) = 0) = false from rfl, br_fq, decide_eq_true h3, br_tq, i_suc]
    exact h _ M SMS_rf rfl
theorem rowR_max {M : Nat} (hw : WP w K T q1) (k26 : K q1 = 26) (hk8 : k = 8) : PK (fun w2 (_ : Int32) => FLW w2) (rowR N (rc_M_behind N d) v1 v2 v3 M k w) := by
  subst hk8
  unfold rowR
  rw [show decide (I ((8 : Nat) : Int) = 8) = true from rfl, br_tq, isS_e (k := 26) (s := 6) hw (by decide) rfl, if_pos k26, bnd_s, show decide ((1 : Int32) = 0) = false from rfl, br_fq]
  exact pk_bnd (fun v r z => r92_f (wrong_s (u0 := v) (by decide) v r z))
theorem row_fin {kd : Nat} {φ r7 c9 : Int32} (c : CTZ m0 w0 K T nm Nk) (hn2 : n ≤ 2 * p) (hp : p < q1) (hl : q1 < T) (hk3 : K q1 ≠ 3) (h : STQ m0 w0 K T Nk gd m w p n sc 2 m2 w2 q1 n2 sc2 X W Rf Zf CL) (s3 : SMS (adv w2 q1) w3) (h69 : w3.1 69 = (adv w2 q1).1 69) (hkd : kd < 23 ∧ kd ≠ 1) (hKp : K p ≠ 1)
    (hE : ∀ mf, nod mf (n2 + 1) = (I (kd : Nat), I (p : Nat), φ, r7, c9) → KPO n2 m2 mf → Kcc m2 mf → EXN N K nm gd mf n (n2 + 1) (n2 + 1) p (q1 + 1) sc sc2 X W Rf Zf (BCo N CL) ∧ PTX N w0 K T nm Nk mf n (n2 + 1) (n2 + 1) p (q1 + 1) o NC X) : PK (fun m4 z => EXZ N m0 w0 K T nm Nk p n gd sc o NC m w m4 (.inl z) w3 v4) (hm_Tr_add N (advc m2 q1) (I (kd : Nat)) (I (p : Nat)) φ r7 c9) := by
  have s1 := STQ_s (STQ_ad h hl hk3) s3 h69
  have t4 := c.1.1.1
  have hb := h.2.1
  rw [add_e s1.2.1.2.1 (by omega)]
  refine pk_some ?_
  have s2 := STQ_add (s := 3) (a := I (kd : Nat)) (b := I (p : Nat)) (c := φ) (d := r7) (f := c9) s1
  have nd := adN_nod (m := advc m2 q1) (n := n2) (a := I (kd : Nat)) (b := I (p : Nat)) (c := φ) (d := r7) (f := c9)
  obtain ⟨e1, e2⟩ := hE _ nd.1 (fun j hj => adN_o j hj) ⟨fun k hk => by rw [adN_i (by omega)]; unfold advc; exact upI_ne (by omega), fun k hk => by rw [adN_r (by omega)]; rfl⟩
  exact ⟨q1 + 1, n2 + 1, n2 + 1, sc2, X, W, Rf, Zf, CL, rfl, ⟨by omega, Nat.le_refl _⟩, by omega, STQ_s2 s2 (by omega), nd.2, e1, e2, kd, nod_16 nd.1, hkd.1, fun z => absurd z hkd.2, fun _ z => absurd z hKp, p, by omega, nod_17 nd.1⟩
theorem tup_ex (c : CTZ m0 w0 K T nm Nk) (c45 : ∀ p, p ≤ T → K p ≠ 45) (hE : HE N m0 w0 K T nm Nk d) (h : RLP m0 w0 T p m w) (hn : m.1 306 = I (n : Nat)) (hn2 : n ≤ 2 * p) (hR : RNs w sc) (nd : ND w) (h70 : w.1 70 = I ((o + 1 : Nat) : Int)) (ho : o + 1 ≤ 25) (hg : decide (w.1 73 = 0) = !gd) (hk : K p = 22) : PP (EXZ N m0 w0 K T nm Nk p n gd sc o NC m w) (hm_Pa_tuple N (hrc_Pa_matched N D) m 0) (fm_M_row N (rc_M_behind N d) w (I (p : Nat))) := by
  have hc := RLP_c c h
  have hw := RLP_w c h
  have t4 := c.1.1.1
  have hl : p < T := TWK_lt c h.2.2.2.2.1 (by omega) (by omega)
  have h0 := h.2.2.2.2.2.2
  have st : STQ m0 w0 K T Nk gd m w p n sc 2 (advc m p) (adv w p) (p + 1) n sc 0 (fun _ => 32) false false (fun _ => False) := STQ_ad (STQ_0 (Nk := Nk) (K := K) (W := fun _ => 32) (gd := gd) h hn hR nd) hl (by omega)
  have rl := st.1
  have hc1 := RLP_c c rl
  have hw1 := RLP_w c rl
  have k46 := hc1.1.1.k46 hc1.2.2
  have h1 := rl.2.2.2.2.2.2
  have gp : ∀ j, p ≤ j → j < p + 1 → K j ≠ 3 := fun j h1 h2 => by rw [show j = p by omega]; omega
  unfold hm_Pa_tuple hb_Pa_tuple_0 fm_M_row fb_M_row_0 fb_M_row_15
  rw [isS_e (k := 22) (s := 2) hw (by decide) rfl, if_pos hk, bnd_s, show decide ((1 : Int32) = 0) = false from rfl, br_fq, hc.2.1, hw.2.1, i_suc]
  refine l_lt (r_lt ?_)
  show PP _ (bTm ((hrc_Pa_matched N D).2.2.2.2.2.2.2.2.2.2.2.2.2.2.2.2.2.2.2 (advc m p) 0 8 23) _) (br (decide ((adv w p).1 67 = 0)) (bnd (fm_M_isSign N (adv w p) 3) _) _)
  rw [decide_eq_true h1, br_tq, isS_e (k := 23) (s := 3) hw1 (by decide) rfl, bnd_s]
  cases D with
  | zero => exact pp_nl
  | succ D =>
    show PP _ (bTm (hm_Pa_rowUpTo N (hrc_Pa_matched N D) (advc m p) 0 8 23) _) _
    unfold hm_Pa_rowUpTo hb_Pa_rowUpTo_0 hb_Pa_rowUpTo_18
    rw [look_e hc1 (c45 _ hl), bTm_l, I_dn (a := K (p + 1)) (b := 23) (s := 23) (by omega) (by decide) rfl]
    have fin : ∀ (m2 w2 : MS) (q1 n2 : Nat) (sc2 : SCT) (X : Nat) (W : Nat → Nat) (Rf Zf : Bool) (CL : Int32 × Int32 × Int32 → Prop) (l : List Nat) (G : MS → Int32 → Int32 → Int32 → Int32 → Int32 → Int32 → Option (MS × Int32)) (v4 v5 : Int32), STQ m0 w0 K T Nk gd m w p n sc 2 m2 w2 q1 n2 sc2 X W Rf Zf CL → p + 1 ≤ q1 → ERW N K nm gd m2 n n2 W l (p + 1) q1 sc sc2 X Rf Zf (BCo N CL) → ((l = [] ∧ q1 = p + 1 ∧ X = 0) ∨ (PXR N w0 K T nm Nk m2 n n2 (o + 1) l (p + 1) q1 X ∧ l.length ≤ 8 ∧ K (p + 1) ≠ 23)) → PP (EXZ N m0 w0 K T nm Nk p n gd sc o NC m w) (bTm (hm_Pa_need N m2 23) (fun u1 r1 => bnd (hm_Tr_length N u1 (I ((l.headD 0 : Nat) : Int))) (fun u7 r7 => bnd (hm_Tr_add N u7 6 (I (p : Nat)) (I ((l.headD 0 : Nat) : Int)) r7 0) (fun u9 r9 => some (u9, .inl r9))))) (fb_M_row_125 N (rc_M_behind N d) G w2 (I (p : Nat)) 1 3 v4 v5) := fun m2 w2 q1 n2 sc2 X W Rf Zf CL l G v4 v5 s2 hq1 he hx => by
      have hc2 := RLP_c c s2.1
      have hw2 := RLP_w c s2.1
      have h2 := s2.1.2.2.2.2.2.2
      have nb := s2.2.1
      by_cases k23 : K q1 = 23
      · have hl2 : q1 < T := TWK_lt c s2.1.2.2.2.2.1 (by omega) (by omega)
        rw [need_e (s := 23) hc2 k23 (by decide) rfl, bTm_l]
        refine l_bnd (pk_mo len_s (fun u7 r7 e7 => ?_))
        subst e7
        refine l_bnd ?_
        intro m4 z4 e4
        refine pp_l (pk_mo (r125_p (N := N) (d := d) (G := G) (kc := 23) hw2 h2 (by decide) rfl k23) (fun w3 r3 s3 => ?_))
        refine row_fin (kd := 6) c hn2 (by omega) hl2 (by omega) s2 s3.1 s3.2 (by decide) (by omega) (fun mf hx2 ko kc => ?_) m4 z4 e4
        exact ⟨exn_tup (l := l) (q := p + 1) (q2 := q1) hx2 (by omega) (Nat.le_refl _) (by omega) ⟨by omega, by omega, by omega⟩ gp (fun j h1 h2 => by rw [show j = q1 by omega]; omega) he ko kc (by omega), PTX_tup (l := l) (q := q1) hx2 (by omega) (Nat.le_refl _) (by omega) hx ko kc (by omega) hk k23 hl2 (by omega) (by omega)⟩
      · refine pp_rf (RFS_T (need_x (s := 23) hc2 k23 (by decide) rfl)) (fun mm => ?_)
        unfold fb_M_row_125 fb_M_row_140
        refine pk_bnd (pk_mo (ndS_0 (N := N) (s := 3) hw2 h2 (by decide) rfl k23) (fun v r2 z => ?_))
        refine Kf_pk (u0 := v) ?_
        have z : Kfc v v := z
        repeat' (first | with_reducible assumption | with_reducible refine Kf_br ?_ ?_ | with_reducible refine Kf_bnd ?_ (fun _ _ _ => ?_) | with_reducible refine Kf_ck ?_ | with_reducible refine Kf_ltm ?_ (fun _ _ => ?_) | with_reducible refine Kf_some ?_ | with_reducible refine Kf_bo (fun _ => ?_) | with_reducible exact yf_fm_M_node (by assumption) | with_reducible exact yf_fm_M_pattern (by assumption) | with_reducible exact yf_fm_M_wrong (by assumption) | with_reducible exact yf_fm_M_rule (by assumption) | with_reducible exact yf_fm_M_isSign (by assumption) | with_reducible exact yf_fm_M_isWord (by assumption) | with_reducible exact yf_fm_M_takeSign (by assumption) | with_reducible exact yf_fm_M_takeWord (by assumption) | with_reducible exact yf_fm_M_needSign (by assumption) | with_reducible exact yf_fm_M_needWord (by assumption) | with_reducible exact yf_fm_M_opens (by assumption) | with_reducible exact yf_fm_M_boundIn (by assumption) | with_reducible exact yf_fr_M_found (by assumption) | with_reducible exact yf_fm_M_bind (by assumption) | with_reducible exact yf_fm_M_isUnderscore (by assumption) | with_reducible exact yf_fm_M_unbind (by assumption) | with_reducible exact yf_fm_M_term (by assumption) | with_reducible exact yf_fm_M_namePattern (by assumption) | with_reducible exact yf_fr_M_patternAt (by assumption) | with_reducible exact yf_fm_M_beginsUnit (by assumption) | with_reducible exact yf_fm_M_save (by assumption) | with_reducible exact yf_fm_M_addRoot (by assumption) | with_reducible exact yf_fm_M_level (by assumption) | with_reducible exact yf_fm_M_reduce (by assumption) | with_reducible exact yf_fm_M_takeBack (by assumption) | with_reducible exact yf_fm_M_forgetSaved (by assumption) | with_reducible exact yf_fr_M_last (by assumption) | with_reducible exact yf_fr_M_clause (by assumption) | with_reducible exact yf_fm_M_predefinedOf (by assumption) | with_reducible exact yf_fm_M_function0 (by assumption) | with_reducible exact yf_fm_M_program (by assumption) | with_reducible exact hF0 _ (by assumption) | with_reducible exact hF1 _ _ (by assumption) | with_reducible exact hF2 _ _ _ (by assumption) | with_reducible exact hF3 _ _ _ (by assumption) | with_reducible exact hF4 _ (by assumption) | with_reducible exact hF5 _ _ (by assumption) | with_reducible exact hF6 _ _ (by assumption) | with_reducible exact hF7 _ _ (by assumption) | with_reducible exact hF8 _ _ (by assumption) | with_reducible exact hF9 _ (by assumption) | with_reducible exact hF10 _ (by assumption) | with_reducible exact hF11 _ (by assumption) | with_reducible exact hF12 _ (by assumption) | with_reducible exact hF13 _ (by assumption) | with_reducible exact hF14 _ (by assumption) | with_reducible exact hF15 _ (by assumption) | with_reducible exact hF16 _ _ (by assumption) | with_reducible refine Kf_ltv (fun _ => ?_) | with_reducible refine Kf_I ?_ (by decide) | with_reducible refine Kf_A ?_ | with_reducible refine Kf_J ?_ | with_reducible refine Kf_L ?_)
    by_cases k23 : K (p + 1) = 23
    · rw [decide_eq_true k23, br_tq, if_pos k23, show decide ((1 : Int32) = 0) = false from rfl, br_fq, bTm_as]
      exact fin (advc m p) (adv w p) (p + 1) n sc 0 (fun _ => 32) false false (fun _ => False) [] _ _ _ st (Nat.le_refl _) ⟨rfl, rfl, rfl, rfl, rfl, fun _ => BCo_no⟩ (Or.inl ⟨rfl, rfl, rfl⟩)
    · rw [decide_eq_false k23, br_fq, if_neg k23, show decide ((0 : Int32) = 0) = true from rfl, br_tq, bTm_as]
      cases D with
      | zero => exact pp_nl
      | succ D =>
        show PP _ (bTm (hm_Pa_row N (hrc_Pa_matched N D) (advc m p) 0 8) _) (gg_M_row N (rc_M_behind N d) N (adv w p) (I (p : Nat)) 1 3 0 0 1)
        have e7 : ∀ k, k ≠ 69 → (adv w p).1 k = w.1 k := fun k hk => by unfold adv; exact upI_ne hk
        have go : ∀ M, PP (EXZ N m0 w0 K T nm Nk p n gd sc o NC m w) (bTm (hm_Pa_row N (hrc_Pa_matched N D) (advc m p) 0 (I ((8 : Nat) : Int))) (fun u3 r3 => bTm (bTm (hm_Pa_need N u3 23) (fun u1 r1 => some (u1, .inl r3))) (fun u4 r4 => bnd (hm_Tr_length N u4 r4) (fun u7 r7 => bnd (hm_Tr_add N u7 6 (I (p : Nat)) r4 r7 0) (fun u9 r9 => some (u9, .inl r9)))))) (bnd ((rc_M_behind N d).2.2.2.2.2.2.2.2.2.2.2.2.2.1 (adv w p)) (fun u _ => rowR N (rc_M_behind N d) (I (p : Nat)) 1 3 M 1 u)) := fun M => by
          refine erow_st (SC := hrc_Pa_matched N D) (RA := fun M k w => rowR N (rc_M_behind N d) (I (p : Nat)) 1 3 M k w) (mx := 8) (gd := gd) (o := o + 1) (sc := sc) (p0 := p + 1) (n0 := n) (by decide) (by decide) c c45 (by omega) rl st.2.1.2.1 (STQ_rn st) (STQ_nd st) (by rw [e7 70 (by decide)]; exact h70) ho (by rw [e7 73 (by decide)]; exact hg) (hE D) ?_ ?_ ?_ ?_ ?_ ?_ (Or.inl (by decide))
          · intro M m2 w2 q1 k l hI k26 hlk hk8
            obtain ⟨n2, sc2, X, W, Rf, Zf, CL, b0, b1, b2, b3, b4, b5⟩ := hI
            have s2 := STQ_s2 (s2 := 2) (STQ_tr st b1) (by omega)
            rw [show max 0 X = X by omega, Bool.false_or, Bool.false_or] at s2
            have s2 := STQ_cl (CM := CL) (fun x => ⟨fun z => z.elim False.elim id, Or.inr⟩) s2
            have he := ERW_w (W2 := mrg (p + 1) (fun _ => 32) W) (fun j h _ => mrg_r h) b2
            refine rowR_no (RLP_w c b1.1) b1.1.2.2.2.2.2.2 k26 (fun M2 => ?_)
            unfold fb_M_row_103
            rw [show decide ((1 : Int32) = 0) = false from rfl, br_fq]
            show PP _ (bTm (bTm (hm_Pa_need N m2 23) (fun u1 r1 => some (u1, .inl (I ((l.headD 0 : Nat) : Int))))) _) _
            rw [bTm_as]
            exact fin m2 w2 q1 n2 sc2 X _ Rf Zf CL l _ _ _ s2 (by omega) he (Or.inr ⟨b5, by omega, k23⟩)
          · exact fun M k q1 w2 a hw2 h2 k26 hk1 hk8 ha => rowR_yes hw2 h2 k26 hk8 ha
          · exact fun M k q1 w2 _ hw2 h2 k26 hk8 => rowR_max hw2 k26 hk8
          · exact fun M k w z => rowR_f z
          · exact fun m p φ _ cp k26 => RFS_T (RFS_T (need_x (k := 23) (s := 23) cp (by omega) (by decide) rfl))
          · exact fun _ _ _ _ z => z
        have key : ∀ M, PP (EXZ N m0 w0 K T nm Nk p n gd sc o NC m w) (bTm (hm_Pa_row N (hrc_Pa_matched N D) (advc m p) 0 (I ((8 : Nat) : Int))) (fun u3 r3 => bTm (bTm (hm_Pa_need N u3 23) (fun u1 r1 => some (u1, .inl r3))) (fun u4 r4 => bnd (hm_Tr_length N u4 r4) (fun u7 r7 => bnd (hm_Tr_add N u7 6 (I (p : Nat)) r4 r7 0) (fun u9 r9 => some (u9, .inl r9)))))) (gg_M_row N (rc_M_behind N d) M (adv w p) (I (p : Nat)) 1 3 0 0 1) := fun M => by
          cases M with
          | zero => exact pp_nr
          | succ M =>
            show PP _ _ (fb_M_row_50 N (rc_M_behind N d) (gg_M_row N (rc_M_behind N d) M) (adv w p) (I (p : Nat)) 1 3 0 0 1)
            unfold fb_M_row_50
            rw [show decide ((1 : Int32) = 0) = false from rfl, br_fq, decide_eq_true h1, br_tq]
            exact go M
        exact key N
end
end
section
set_option maxRecDepth 100000
section
variable {m0 w0 m w v u mB wB m2 w2 m3 w3 : MS} {K nm Nk W : Nat → Nat} {T p n N q X n2 p0 n0 n3 p2 ν o s L d D k q1 : Nat} {sc sc1 sc2 sc3 t : SCT} {gd Rf Zf : Bool} {l : List Nat} {r v1 v2 v3 v4 v5 : Int32} {CL CM : Int32 × Int32 × Int32 → Prop} {NC : Nat → Prop}
theorem I_n0 {a : Nat} (h : 1 ≤ a) (h2 : a ≤ 8015) : decide (I (a : Nat) = 0) = false := decide_eq_false (fun z => by
  have z : I (a : Nat) = I ((0 : Nat) : Int) := z
  have := (I_eq (x := (a : Nat)) (y := ((0 : Nat) : Int)) (by omega) (by omega) (by omega) (by omega)).mp z
  omega)
theorem lst_ex (c : CTZ m0 w0 K T nm Nk) (c45 : ∀ p, p ≤ T → K p ≠ 45) (hE : HE N m0 w0 K T nm Nk d) (h : RLP m0 w0 T p m w) (hn : m.1 306 = I (n : Nat)) (hn2 : n ≤ 2 * p) (hR : RNs w sc) (nd : ND w) (h70 : w.1 70 = I ((o + 1 : Nat) : Int)) (ho : o + 1 ≤ 25) (hg : decide (w.1 73 = 0) = !gd) (hk : K p = 24) : PP (EXZ N m0 w0 K T nm Nk p n gd sc o NC m w) (hm_Pa_list N (hrc_Pa_matched N D) m 0) (fm_M_row N (rc_M_behind N d) w (I (p : Nat))) := by
  have hc := RLP_c c h
  have hw := RLP_w c h
  have t4 := c.1.1.1
  have hl : p < T := TWK_lt c h.2.2.2.2.1 (by omega) (by omega)
  have h0 := h.2.2.2.2.2.2
  have st : STQ m0 w0 K T Nk gd m w p n sc 2 (advc m p) (adv w p) (p + 1) n sc 0 (fun _ => 32) false false (fun _ => False) := STQ_ad (STQ_0 (Nk := Nk) (K := K) (W := fun _ => 32) (gd := gd) h hn hR nd) hl (by omega)
  have rl := st.1
  have hc1 := RLP_c c rl
  have hw1 := RLP_w c rl
  have k46 := hc1.1.1.k46 hc1.2.2
  have h1 := rl.2.2.2.2.2.2
  have gp : ∀ j, p ≤ j → j < p + 1 → K j ≠ 3 := fun j h1 h2 => by rw [show j = p by omega]; omega
  unfold hm_Pa_list hb_Pa_list_0 fm_M_row fb_M_row_0 fb_M_row_15
  rw [isS_e (k := 22) (s := 2) hw (by decide) rfl, if_neg (by omega), bnd_s, show decide ((0 : Int32) = 0) = true from rfl, br_tq, hc.2.1, hw.2.1, i_suc]
  refine l_lt (r_lt ?_)
  show PP _ (bTm (hm_Pa_look N (advc m p)) _) (br (decide ((adv w p).1 67 = 0)) (bnd (fm_M_isSign N (adv w p) 5) _) _)
  rw [decide_eq_true h1, br_tq, isS_e (k := 25) (s := 5) hw1 (by decide) rfl, bnd_s, look_e hc1 (c45 _ hl), bTm_l, I_dn (a := K (p + 1)) (b := 25) (s := 25) (by omega) (by decide) rfl]
  have fin : ∀ (m2 w2 : MS) (q1 n2 c0 : Nat) (sc2 : SCT) (X : Nat) (W : Nat → Nat) (Rf Zf : Bool) (CL : Int32 × Int32 × Int32 → Prop) (l : List Nat) (G : MS → Int32 → Int32 → Int32 → Int32 → Int32 → Int32 → Option (MS × Int32)) (v4 v5 : Int32), STQ m0 w0 K T Nk gd m w p n sc 2 m2 w2 q1 n2 sc2 X W Rf Zf CL → p + 1 ≤ q1 → (∀ (mf : MS) (r7 : Int32), K q1 = 25 → q1 < T → nod mf (n2 + 1) = (I ((7 : Nat) : Int), I (p : Nat), I ((l.headD 0 : Nat) : Int), r7, I (c0 : Nat)) → KPO n2 m2 mf → Kcc m2 mf → EXN N K nm gd mf n (n2 + 1) (n2 + 1) p (q1 + 1) sc sc2 X W Rf Zf (BCo N CL) ∧ PTX N w0 K T nm Nk mf n (n2 + 1) (n2 + 1) p (q1 + 1) o NC X) → PP (EXZ N m0 w0 K T nm Nk p n gd sc o NC m w) (hb_Pa_list_80 N (hrc_Pa_matched N D) () m2 (I (p : Nat)) (I ((l.headD 0 : Nat) : Int)) (I (c0 : Nat))) (fb_M_row_125 N (rc_M_behind N d) G w2 (I (p : Nat)) 0 5 v4 v5) := fun m2 w2 q1 n2 c0 sc2 X W Rf Zf CL l G v4 v5 s2 hq1 he => by
    have hc2 := RLP_c c s2.1
    have hw2 := RLP_w c s2.1
    have h2 := s2.1.2.2.2.2.2.2
    have nb := s2.2.1
    unfold hb_Pa_list_80
    by_cases k25 : K q1 = 25
    · have hl2 : q1 < T := TWK_lt c s2.1.2.2.2.2.1 (by omega) (by omega)
      rw [need_e (s := 25) hc2 k25 (by decide) rfl, bTm_l]
      refine l_bnd (pk_mo len_s (fun u7 r7 e7 => ?_))
      subst e7
      refine l_bnd ?_
      intro m4 z4 e4
      refine pp_l (pk_mo (r125_p (N := N) (d := d) (G := G) (kc := 25) hw2 h2 (by decide) rfl k25) (fun w3 r3 s3 => ?_))
      exact row_fin (kd := 7) c hn2 (by omega) hl2 (by omega) s2 s3.1 s3.2 (by decide) (by omega) (fun mf hx2 ko kc => he mf r7 k25 hl2 hx2 ko kc) m4 z4 e4
    · refine pp_rf (RFS_T (need_x (s := 25) hc2 k25 (by decide) rfl)) (fun mm => ?_)
      unfold fb_M_row_125 fb_M_row_140
      refine pk_bnd (pk_mo (ndS_0 (N := N) (s := 5) hw2 h2 (by decide) rfl k25) (fun v r2 z => ?_))
      refine Kf_pk (u0 := v) ?_
      have z : Kfc v v := z
      repeat' (first | with_reducible assumption | with_reducible refine Kf_br ?_ ?_ | with_reducible refine Kf_bnd ?_ (fun _ _ _ => ?_) | with_reducible refine Kf_ck ?_ | with_reducible refine Kf_ltm ?_ (fun _ _ => ?_) | with_reducible refine Kf_some ?_ | with_reducible refine Kf_bo (fun _ => ?_) | with_reducible exact yf_fm_M_node (by assumption) | with_reducible exact yf_fm_M_pattern (by assumption) | with_reducible exact yf_fm_M_wrong (by assumption) | with_reducible exact yf_fm_M_rule (by assumption) | with_reducible exact yf_fm_M_isSign (by assumption) | with_reducible exact yf_fm_M_isWord (by assumption) | with_reducible exact yf_fm_M_takeSign (by assumption) | with_reducible exact yf_fm_M_takeWord (by assumption) | with_reducible exact yf_fm_M_needSign (by assumption) | with_reducible exact yf_fm_M_needWord (by assumption) | with_reducible exact yf_fm_M_opens (by assumption) | with_reducible exact yf_fm_M_boundIn (by assumption) | with_reducible exact yf_fr_M_found (by assumption) | with_reducible exact yf_fm_M_bind (by assumption) | with_reducible exact yf_fm_M_isUnderscore (by assumption) | with_reducible exact yf_fm_M_unbind (by assumption) | with_reducible exact yf_fm_M_term (by assumption) | with_reducible exact yf_fm_M_namePattern (by assumption) | with_reducible exact yf_fr_M_patternAt (by assumption) | with_reducible exact yf_fm_M_beginsUnit (by assumption) | with_reducible exact yf_fm_M_save (by assumption) | with_reducible exact yf_fm_M_addRoot (by assumption) | with_reducible exact yf_fm_M_level (by assumption) | with_reducible exact yf_fm_M_reduce (by assumption) | with_reducible exact yf_fm_M_takeBack (by assumption) | with_reducible exact yf_fm_M_forgetSaved (by assumption) | with_reducible exact yf_fr_M_last (by assumption) | with_reducible exact yf_fr_M_clause (by assumption) | with_reducible exact yf_fm_M_predefinedOf (by assumption) | with_reducible exact yf_fm_M_function0 (by assumption) | with_reducible exact yf_fm_M_program (by assumption) | with_reducible exact hF0 _ (by assumption) | with_reducible exact hF1 _ _ (by assumption) | with_reducible exact hF2 _ _ _ (by assumption) | with_reducible exact hF3 _ _ _ (by assumption) | with_reducible exact hF4 _ (by assumption) | with_reducible exact hF5 _ _ (by assumption) | with_reducible exact hF6 _ _ (by assumption) | with_reducible exact hF7 _ _ (by assumption) | with_reducible exact hF8 _ _ (by assumption) | with_reducible exact hF9 _ (by assumption) | with_reducible exact hF10 _ (by assumption) | with_reducible exact hF11 _ (by assumption) | with_reducible exact hF12 _ (by assumption) | with_reducible exact hF13 _ (by assumption) | with_reducible exact hF14 _ (by assumption) | with_reducible exact hF15 _ (by assumption) | with_reducible exact hF16 _ _ (by assumption) | with_reducible refine Kf_ltv (fun _ => ?_) | with_reducible refine Kf_I ?_ (by decide) | with_reducible refine Kf_A ?_ | with_reducible refine Kf_J ?_ | with_reducible refine Kf_L ?_)
  by_cases k25 : K (p + 1) = 25
  · rw [decide_eq_true k25, br_tq, if_pos k25, show decide ((1 : Int32) = 0) = false from rfl, br_fq]
    unfold hb_Pa_list_35
    rw [show decide ((0 : Int32) = 0) = true from rfl, br_tq]
    refine fin (advc m p) (adv w p) (p + 1) n 0 sc 0 (fun _ => 32) false false (fun _ => False) [] _ _ _ st (Nat.le_refl _) (fun mf r7 _ hl2 hx2 ko kc => ⟨?_, ?_⟩)
    · have := exn_lst (N := N) (K := K) (nm := nm) (gd := gd) (lo := n) (m1 := advc m p) (n1 := n) (W := fun _ => 32) (sc := sc) (sc2 := sc) (sc3 := sc) (X3 := 0) (R3 := false) (Z3 := false) (B3 := fun _ => False) (l := []) (q := p + 1) (q2 := p + 1) (q3 := p + 1) (p := p) (p2 := p + 1 + 1) (X := 0) (Rf := false) (Zf := false) (BC := fun _ => False) hx2 (by omega) (Nat.le_refl _) (by omega) ⟨by omega, by omega, by omega, by omega⟩ gp (fun j h1 h2 => by rw [show j = p + 1 by omega]; omega) (by decide) ⟨by omega, rfl⟩ ⟨rfl, rfl, rfl, rfl, rfl, fun _ z => z⟩ ko kc (by omega) (fun _ _ _ => Iff.rfl) (Or.inl ⟨rfl, rfl, rfl, rfl, rfl, rfl, fun _ z => z⟩)
      exact EXN_no (EXN_bc (B2 := fun _ => False) (BC := fun _ => False ∨ False) (fun m => ⟨False.elim, fun z => z.elim id id⟩) this)
    · exact PTX_lst (l := []) (q := p + 1) (r := p + 1) (l4 := 0) hx2 (by omega) (Nat.le_refl _) (by omega) (Or.inl ⟨rfl, rfl, rfl, rfl, rfl⟩) ko kc (by omega) hk k25 hl2 (by omega) ⟨by omega, Nat.le_refl _⟩
  · rw [decide_eq_false k25, br_fq, if_neg k25, show decide ((0 : Int32) = 0) = true from rfl, br_tq]
    cases D with
    | zero => exact pp_nl
    | succ D =>
      show PP _ (bTm (hm_Pa_row N (hrc_Pa_matched N D) (advc m p) 0 8) _) (gg_M_row N (rc_M_behind N d) N (adv w p) (I (p : Nat)) 0 5 0 0 1)
      have e7 : ∀ k, k ≠ 69 → (adv w p).1 k = w.1 k := fun k hk => by unfold adv; exact upI_ne hk
      have go : ∀ M, PP (EXZ N m0 w0 K T nm Nk p n gd sc o NC m w) (bTm (hm_Pa_row N (hrc_Pa_matched N D) (advc m p) 0 (I ((8 : Nat) : Int))) (fun u17 r17 => hb_Pa_list_35 N (hrc_Pa_matched N (D + 1)) () u17 0 (I (p : Nat)) r17)) (bnd ((rc_M_behind N d).2.2.2.2.2.2.2.2.2.2.2.2.2.1 (adv w p)) (fun u _ => rowR N (rc_M_behind N d) (I (p : Nat)) 0 5 M 1 u)) := fun M => by
        refine erow_st (SC := hrc_Pa_matched N D) (RA := fun M k w => rowR N (rc_M_behind N d) (I (p : Nat)) 0 5 M k w) (mx := 8) (gd := gd) (o := o + 1) (sc := sc) (p0 := p + 1) (n0 := n) (by decide) (by decide) c c45 (by omega) rl st.2.1.2.1 (STQ_rn st) (STQ_nd st) (by rw [e7 70 (by decide)]; exact h70) ho (by rw [e7 73 (by decide)]; exact hg) (hE D) ?_ ?_ ?_ ?_ ?_ ?_ (Or.inl (by decide))
        · intro M m2 w2 q1 k l hI k26 hlk hk8
          obtain ⟨n2, sc2, X, W, Rf, Zf, CL, b0, b1, b2, b3, b4, b5⟩ := hI
          obtain ⟨d1, d2, d3⟩ := ERW_hd b2 b0.1
          have nn := b1.2.1
          have q1T := b1.1.2.2.2.2.1
          have s2 := STQ_s2 (s2 := 2) (STQ_tr st b1) (by omega)
          rw [show max 0 X = X by omega, Bool.false_or, Bool.false_or] at s2
          have s2 := STQ_cl (CM := CL) (fun x => ⟨fun z => z.elim False.elim id, Or.inr⟩) s2
          have he := ERW_w (W2 := mrg (p + 1) (fun _ => 32) W) (fun j h _ => mrg_r h) b2
          generalize mrg (p + 1) (fun _ => 32) W = W9 at s2 he
          have hc2 := RLP_c c b1.1
          have hw2 := RLP_w c b1.1
          have h2 := b1.1.2.2.2.2.2.2
          have k462 := hc2.1.1.k46 hc2.2.2
          have tq := ERW_len he
          have sx := s2.2.2.2.2.1
          refine rowR_no hw2 h2 k26 (fun M2 => ?_)
          show PP _ (hb_Pa_list_35 N (hrc_Pa_matched N (D + 1)) () m2 0 (I (p : Nat)) (I ((l.headD 0 : Nat) : Int))) _
          unfold fb_M_row_103 hb_Pa_list_35
          rw [show decide ((0 : Int32) = 0) = true from rfl, br_tq, I_n0 (by omega) (by omega), br_fq, look_e hc2 (c45 _ q1T), bTm_l, I_dn (a := K q1) (b := 29) (s := 29) (by omega) (by decide) rfl, tkS_e (k := 29) (s := 9) hw2 h2 (by decide) rfl]
          by_cases k29 : K q1 = 29
          · have hl2 : q1 < T := TWK_lt c q1T (by omega) (by omega)
            rw [decide_eq_true k29, br_tq, if_pos k29, bnd_s, show decide ((1 : Int32) = 0) = false from rfl, br_fq, hc2.2.1, i_suc]
            refine l_lt ?_
            rw [br_tq]
            have s3 := STQ_ad s2 hl2 (by omega)
            have w7 : ∀ k, k ∈ [70, 73] → (adv w2 q1).1 k = w.1 k := fun k hk => by
              have hk2 : k ≠ 69 := by rintro rfl; revert hk; decide
              unfold adv
              rw [upI_ne hk2, b1.2.2.2.2.1.2.2.2.2.2.2.1.1 k (by simp only [List.mem_cons, List.not_mem_nil, or_false] at hk ⊢; omega)]
              exact e7 k hk2
            show PP _ (bTm ((hrc_Pa_matched N (D + 1)).2.2.2.2.2.2.2.2.2.2.2.2.2.2.1 (advc m2 q1) 1) _) (bnd ((rc_M_behind N d).2.2.2.2.2.2.2.2.2.2.2.2.2.1 (adv w2 q1)) _)
            refine pp_bTn (hE (D + 1) (advc m2 q1) (adv w2 q1) (q1 + 1) n2 sc2 gd (o + 1) s3.1 s3.2.1.2.1 (by omega) (STQ_rn s3) (STQ_nd s3) (by rw [w7 70 (by decide)]; exact h70) ho (by rw [w7 73 (by decide)]; exact hg)) (fun m5 ε w5 r5 q5 => ?_) (fun m5 kk w5 r5 q5 => r125_f q5)
            obtain ⟨p5, n5, μ, sc5, X5, W5, R5, Z5, CL5, a1, a2, a3, a4, a5, a6, a7, a8⟩ := q5
            have nn5 := a4.2.1
            have p5T := a4.1.2.2.2.2.1
            have s5 := STQ_s2 (s2 := 2) (STQ_tr s3 a4) (by omega)
            have sx5 := a4.2.2.2.2.1
            rw [a1]
            unfold hb_Pa_list_78
            refine fin m5 w5 p5 n5 μ sc5 _ _ _ _ _ l _ _ _ s5 (by omega) (fun mf r7 kp5 hl5 hx2 ko kc => ⟨?_, ?_⟩)
            · have ko2 : KPO n2 m2 m5 := a4.2.2.1
              have kc2 : Kcc m2 m5 := Kc_tr (v := advc m2 q1) ⟨fun k hk => by unfold advc; exact upI_ne (by omega), fun _ _ => rfl⟩ (PCG_k a4.2.2.2.1)
              have := exn_lst (N := N) (K := K) (nm := nm) (gd := gd) (W := mrg (q1 + 1) W9 W5) (sc3 := sc5) (X3 := X5) (R3 := R5) (Z3 := Z5) (B3 := BCo N CL5) (l := l) (q := p + 1) (q2 := q1) (q3 := p5) (p := p) (p2 := p5 + 1) hx2 (by omega) (Nat.le_refl _) (by omega) ⟨by omega, by omega, by omega, by omega⟩ gp (fun j h1 h2 => by rw [show j = p5 by omega]; omega) sx.2.2.2.1.2 ⟨tq.2.1, tq.2.2⟩ (ERW_k (m2 := m2) (m3 := m5) (by omega) kc2 ko2 (ERW_w (fun j _ h => mrg_l (by omega)) he)) ko kc (by omega) BCo_st (Or.inr ⟨by omega, a2.2, q1 + 1, n2, n5, m5, by omega, Nat.le_refl _, ⟨by omega, by omega⟩, fun j h1 h2 => by rw [show j = q1 by omega]; omega, ⟨fun _ _ _ => ⟨rfl, fun _ => rfl⟩, Kc_rf⟩, EXN_w (fun j h _ => mrg_r h) a6⟩)
              exact EXN_bc (fun m => BCo_or) this
            · have ko2 : KPO n2 m2 m5 := a4.2.2.1
              have kc2 : Kcc m2 m5 := Kc_tr (v := advc m2 q1) ⟨fun k hk => by unfold advc; exact upI_ne (by omega), fun _ _ => rfl⟩ (PCG_k a4.2.2.2.1)
              exact PTX_lst (l := l) (q := q1) (r := p5) (l4 := n2) (m1 := m5) (n1 := n5) hx2 (by omega) (Nat.le_refl _) (by omega) (Or.inr ⟨_, PXR_k (by omega) kc2 ko2 b5, by omega, k25, Or.inr ⟨k29, by omega, ⟨by omega, a2.1, a2.2⟩, _, a7, rfl⟩⟩) ko kc (by omega) hk kp5 hl5 (by omega) ⟨by omega, by omega⟩
          · rw [decide_eq_false k29, br_fq, if_neg k29, bnd_s, show decide ((0 : Int32) = 0) = true from rfl, br_tq]
            refine fin m2 w2 q1 n2 0 sc2 X W9 Rf Zf CL l _ _ _ s2 (by omega) (fun mf r7 kq hl2 hx2 ko kc => ⟨?_, ?_⟩)
            · have := exn_lst (N := N) (K := K) (nm := nm) (gd := gd) (W := W9) (sc3 := sc2) (X3 := 0) (R3 := false) (Z3 := false) (B3 := fun _ => False) (l := l) (q := p + 1) (q2 := q1) (q3 := q1) (p := p) (p2 := q1 + 1) hx2 (by omega) (Nat.le_refl _) (by omega) ⟨by omega, by omega, by omega, by omega⟩ gp (fun j h1 h2 => by rw [show j = q1 by omega]; omega) sx.2.2.2.1.2 ⟨tq.2.1, tq.2.2⟩ he ko kc (by omega) (fun _ _ _ => Iff.rfl) (Or.inl ⟨rfl, rfl, rfl, rfl, rfl, rfl, fun _ z => z⟩)
              rw [show max X 0 = X by omega, Bool.or_false, Bool.or_false] at this
              exact EXN_bc (fun m => ⟨Or.inl, fun z => z.elim id False.elim⟩) this
            · exact PTX_lst (l := l) (q := q1) (r := q1) (l4 := 0) hx2 (by omega) (Nat.le_refl _) (by omega) (Or.inr ⟨_, b5, by omega, k25, Or.inl ⟨rfl, rfl, rfl⟩⟩) ko kc (by omega) hk kq hl2 (by omega) ⟨by omega, Nat.le_refl _⟩
        · exact fun M k q1 w2 a hw2 h2 k26 hk1 hk8 ha => rowR_yes hw2 h2 k26 hk8 ha
        · exact fun M k q1 w2 _ hw2 h2 k26 hk8 => rowR_max hw2 k26 hk8
        · exact fun M k w z => rowR_f z
        · intro m p φ _ cp k26
          have f : ∀ φ2 : Int32, RFS (hb_Pa_list_80 N (hrc_Pa_matched N (D + 1)) () m φ2 φ 0) := fun φ2 => by
            unfold hb_Pa_list_80
            exact RFS_T (need_x (k := 25) (s := 25) cp (by omega) (by decide) rfl)
          unfold hb_Pa_list_35
          rw [look_e cp (by omega), bTm_l, k26, show decide (I ((26 : Nat) : Int) = 29) = false from rfl, br_fq]
          cases decide (φ = 0) with
          | true => rw [br_tq]; exact RFS_T (need_x (k := 25) (s := 25) cp (by omega) (by decide) rfl)
          | false => rw [br_fq]; exact f _
        · exact fun _ _ _ _ z => z
      have key : ∀ M, PP (EXZ N m0 w0 K T nm Nk p n gd sc o NC m w) (bTm (hm_Pa_row N (hrc_Pa_matched N D) (advc m p) 0 (I ((8 : Nat) : Int))) (fun u17 r17 => hb_Pa_list_35 N (hrc_Pa_matched N (D + 1)) () u17 0 (I (p : Nat)) r17)) (gg_M_row N (rc_M_behind N d) M (adv w p) (I (p : Nat)) 0 5 0 0 1) := fun M => by
        cases M with
        | zero => exact pp_nr
        | succ M =>
          show PP _ _ (fb_M_row_50 N (rc_M_behind N d) (gg_M_row N (rc_M_behind N d) M) (adv w p) (I (p : Nat)) 0 5 0 0 1)
          unfold fb_M_row_50
          rw [show decide ((1 : Int32) = 0) = false from rfl, br_fq, decide_eq_true h1, br_tq]
          exact go M
      exact key N
end
end
section
set_option maxRecDepth 100000
def alB (N : Nat) (S : SG_M_behind) (v1 : Int32) (u17 : MS) (r17 : Int32) : Option (MS × Int32) := br (decide (r17 = 0)) (bnd (fm_M_isSign N u17 2) (fun u18 r18 => br (decide (r18 = 0)) (bnd (fm_M_isSign N u18 4) (fun u19 r19 => br (decide (r19 = 0)) (ck (inb (u19.1 69) (ln 6)) (br (decide ((u19.2.2.1 6 (u19.1 69).toNatClampNeg) = 3)) (br (decide ((u19.1 73) = 0)) (fb_M_alone_315 N S () u19 v1) (bnd (fm_M_isWord N u19 9) (fun u21 r21 => br (decide (r21 = 0)) (bnd (fm_M_rule N u21 7 v1) (fun u22 _ => fb_M_alone_315 N S () u22 v1)) (fb_M_alone_315 N S () u21 v1)))) (bnd (fm_M_wrong N u19 2) (fun u20 _ => fb_M_alone_361 N S () u20 (-1))))) (fb_M_alone_270 N S () u19 v1))) (fb_M_alone_270 N S () u18 v1))) (bnd (S.2.2.2.2.2.2.2.2.2.2.2.2.2.1 u17) (fun u23 r23 => bnd (fm_M_needSign N u23 1) (fun u24 _ => fb_M_alone_361 N S () u24 r23)))
def AR2 (N : Nat) (K nm : Nat → Nat) (gd : Bool) (m2 : MS) (lo n2 : Nat) (W : Nat → Nat) : List (Nat × List Nat) → Nat → Nat → SCT → SCT → Nat → Bool → Bool → (MS → Prop) → Prop
  | [], p, p2, sc, sc2, X, Rf, Zf, BC => p = p2 ∧ sc2 = sc ∧ X = 0 ∧ Rf = false ∧ Zf = false ∧ ∀ m, ¬ BC m
  | (ν, l) :: r, p, p2, sc, sc2, X, Rf, Zf, BC => ∃ q q2 sc1 X1 X2 R1 R2 Z1 Z2 B1 B2, (p ≤ q ∧ q ≤ q2 ∧ q2 ≤ p2) ∧ (∀ j, p ≤ j → j < q → K j ≠ 3) ∧ (∃ mi li ni, ERW N K nm gd mi li ni W l q q2 sc sc1 X1 R1 Z1 B1 ∧ ((∀ j, li < j → j ≤ ni → nod m2 j = nod mi j ∧ m2.2.2.1 21 j = mi.2.2.1 21 j) ∧ Kcc mi m2) ∧ (lo ≤ li ∧ ni < ν)) ∧ (lo < ν ∧ ν ≤ n2) ∧ m2.2.2.1 18 ν = I ((l.headD 0 : Nat) : Int) ∧ m2.2.2.1 21 ν = I (((r.headD (0, [])).1 : Nat) : Int) ∧ (tot sc1 ≤ tot sc + (q2 - q) ∧ sc1.length = sc.length ∧ X1 ≤ 1400) ∧ AR2 N K nm gd m2 lo n2 W r q2 p2 sc1 sc2 X2 R2 Z2 B2 ∧ X = max X1 X2 ∧ Rf = (R1 || R2) ∧ Zf = (Z1 || Z2) ∧ (∀ m, BC m ↔ B1 m ∨ B2 m) ∧ STB B2 ∧ (r ≠ [] → ν < (r.headD (0, [])).1)
section
variable {m0 w0 m w v u mB wB m2 w2 m3 w3 mi : MS} {K nm Nk W W2 : Nat → Nat} {T p n N q X Y n2 p0 n0 n3 p2 ν μ κ o s L d D k q1 q2 lo li ni : Nat} {sc sc1 sc2 sc3 t : SCT} {gd Rf Zf Rg Zg : Bool} {l : List Nat} {la : List (Nat × List Nat)} {r v1 v2 v3 v4 v5 : Int32} {CL CM : Int32 × Int32 × Int32 → Prop} {NC : Nat → Prop} {B1 B2 BC : MS → Prop}
theorem AR2_1 : ∀ {la : List (Nat × List Nat)} {p p2 : Nat} {sc sc2 : SCT} {X : Nat} {Rf Zf : Bool} {BC : MS → Prop}, AR2 N K nm gd m2 lo n2 W la p p2 sc sc2 X Rf Zf BC → ARW N K nm gd m2 lo n2 W la p p2 sc sc2 X Rf Zf BC
  | [], _, _, _, _, _, _, _, _, h => h
  | (ν, l) :: r, _, _, _, _, _, _, _, _, ⟨q, q2, sc1, X1, X2, R1, R2, Z1, Z2, B1, B2, h1, g1, ⟨mi, li, ni, a, b, c⟩, h3, h4, h5, h6, h7, h8, h9, h10, h11, h12, _⟩ => ⟨q, q2, sc1, X1, X2, R1, R2, Z1, Z2, B1, B2, h1, g1, ⟨mi, li, ni, a, b, ⟨c.1, by omega⟩⟩, h3, h4, h5, h6, AR2_1 h7, h8, h9, h10, h11, h12⟩
theorem AR2_len (h : AR2 N K nm gd m2 lo n2 W la p p2 sc sc2 X Rf Zf BC) : p ≤ p2 ∧ tot sc2 ≤ tot sc + (p2 - p) ∧ sc2.length = sc.length := ARW_len (AR2_1 h)
theorem AR2_w : ∀ {la : List (Nat × List Nat)} {p p2 : Nat} {sc sc2 : SCT} {X : Nat} {Rf Zf : Bool} {BC : MS → Prop}, (∀ j, p ≤ j → j < p2 → W2 j = W j) → AR2 N K nm gd m2 lo n2 W la p p2 sc sc2 X Rf Zf BC → AR2 N K nm gd m2 lo n2 W2 la p p2 sc sc2 X Rf Zf BC
  | [], _, _, _, _, _, _, _, _, _, h => h
  | (ν, l) :: r, p, p2, _, _, _, _, _, _, hw, ⟨q, q2, sc1, X1, X2, R1, R2, Z1, Z2, B1, B2, h1, g1, ⟨mi, li, ni, a, b, c⟩, h3, h4, h5, h6, h7, h8⟩ => by
    have := (AR2_len h7).1
    exact ⟨q, q2, sc1, X1, X2, R1, R2, Z1, Z2, B1, B2, h1, g1, ⟨mi, li, ni, ERW_w (fun j x y => hw j (by omega) (by omega)) a, b, c⟩, h3, h4, h5, h6, AR2_w (fun j x y => hw j (by omega) y) h7, h8⟩
theorem AR2_hd : ∀ {la : List (Nat × List Nat)} {p p2 : Nat} {sc sc2 : SCT} {X : Nat} {Rf Zf : Bool} {BC : MS → Prop}, AR2 N K nm gd m2 lo n2 W la p p2 sc sc2 X Rf Zf BC → la ≠ [] → (la.headD (0, [])).1 ≤ (la.getLastD (0, [])).1 ∧ lo < (la.headD (0, [])).1 ∧ (la.getLastD (0, [])).1 ≤ n2
  | [], _, _, _, _, _, _, _, _, _, h => absurd rfl h
  | [(ν, l)], _, _, _, _, _, _, _, _, ⟨_, _, _, _, _, _, _, _, _, _, _, _, _, _, h3, _⟩, _ => ⟨Nat.le_refl _, h3.1, h3.2⟩
  | (ν, l) :: (μ, l2) :: r, _, _, _, _, _, _, _, _, ⟨q, q2, sc1, X1, X2, R1, R2, Z1, Z2, B1, B2, h1, g1, _, h3, h4, h5, h6, h7, h8, h9, h10, h11, h12, h13⟩, _ => by
    obtain ⟨r1, r2, r3⟩ := AR2_hd h7 (fun z => by cases z)
    have c : ν < μ := h13 (fun z => by cases z)
    have r1 : μ ≤ (((μ, l2) :: r).getLastD (0, [])).1 := r1
    refine ⟨?_, h3.1, r3⟩
    show ν ≤ (((μ, l2) :: r).getLastD (0, [])).1
    omega
theorem AR2_snoc (hn : n2 ≤ n3) (hk : Kcc m2 m3) (hκ : n2 < κ ∧ κ ≤ n3) (hE : ERW N K nm gd mi li ni W l q q2 sc2 sc3 Y Rg Zg B2) (hx : (∀ j, li < j → j ≤ ni → nod m3 j = nod mi j ∧ m3.2.2.1 21 j = mi.2.2.1 21 j) ∧ Kcc mi m3) (hli : lo ≤ li ∧ ni < κ) (h18 : m3.2.2.1 18 κ = I ((l.headD 0 : Nat) : Int)) (h21 : m3.2.2.1 21 κ = 0) (hq : p2 ≤ q ∧ q ≤ q2 ∧ q2 ≤ q1) (hg : ∀ j, p2 ≤ j → j < q → K j ≠ 3) (hg2 : ∀ j, q2 ≤ j → j < q1 → K j ≠ 3) (ht : tot sc3 ≤ tot sc2 + (q2 - q) ∧ sc3.length = sc2.length ∧ Y ≤ 1400) (sB : STB B2) : ∀ {la : List (Nat × List Nat)} {p : Nat} {sc : SCT} {X : Nat} {Rf Zf : Bool} {BC : MS → Prop}, (∀ j, lo < j → j ≤ n2 → nod m3 j = nod m2 j ∧ (j ≠ (la.getLastD (0, [])).1 → m3.2.2.1 21 j = m2.2.2.1 21 j)) → (la ≠ [] → m3.2.2.1 21 (la.getLastD (0, [])).1 = I (κ : Nat)) → lo ≤ n2 → AR2 N K nm gd m2 lo n2 W la p p2 sc sc2 X Rf Zf BC → AR2 N K nm gd m3 lo n3 W (la ++ [(κ, l)]) p q2 sc sc3 (max X Y) (Rf || Rg) (Zf || Zg) (fun m => BC m ∨ B2 m)
  | [], p, sc, X, Rf, Zf, BC, hs, hy, hlo, ⟨z1, z2, z3, z4, z5, z6⟩ => by
    subst z1
    subst z2
    subst z3
    subst z4
    subst z5
    exact ⟨q, q2, sc3, Y, 0, Rg, false, Zg, false, B2, (fun _ => False), ⟨hq.1, hq.2.1, Nat.le_refl _⟩, hg, ⟨mi, li, ni, hE, hx, hli⟩, ⟨by omega, hκ.2⟩, h18, h21, ht, ⟨rfl, rfl, rfl, rfl, rfl, fun _ z => z⟩, by omega, by rw [Bool.false_or, Bool.or_false], by rw [Bool.false_or, Bool.or_false], fun m => ⟨fun z => z.elim (fun y => absurd y (z6 m)) Or.inl, fun z => z.elim Or.inr False.elim⟩, fun _ _ _ => Iff.rfl, fun z => absurd rfl z⟩
  | [(ν, l1)], p, sc, X, Rf, Zf, BC, hs, hy, hlo, ⟨a, a2, sc1, X1, X2, R1, R2, Z1, Z2, D1, D2, h1, g1, ⟨mj, lj, nj, c1, c2, c3⟩, h3, h4, h5, h6, h7, h8, h9, h10, h11, h12, h13⟩ => by
    obtain ⟨z1, z2, z3, z4, z5, z6⟩ := h7
    subst z1
    subst z2
    subst z3
    subst z4
    subst z5
    have hs : ∀ j, lo < j → j ≤ n2 → nod m3 j = nod m2 j ∧ (j ≠ ν → m3.2.2.1 21 j = m2.2.2.1 21 j) := hs
    have hy : m3.2.2.1 21 ν = I (κ : Nat) := hy (fun z => by cases z)
    have e18 : m3.2.2.1 18 ν = m2.2.2.1 18 ν := congrArg (fun z => z.2.2.1) (hs ν (by omega) h3.2).1
    refine ⟨a, a2, sc2, X1, max Y 0, R1, (Rg || false), Z1, (Zg || false), D1, (fun m => B2 m ∨ False), ⟨h1.1, h1.2.1, by omega⟩, g1, ⟨mj, lj, nj, c1, ⟨fun j j1 j2 => ⟨(hs j (by omega) (by omega)).1.trans (c2.1 j j1 j2).1, ((hs j (by omega) (by omega)).2 (by omega)).trans (c2.1 j j1 j2).2⟩, Kc_tr c2.2 hk⟩, c3⟩, ⟨h3.1, by omega⟩, e18.trans h4, hy, h6, ⟨q, q2, sc3, Y, 0, Rg, false, Zg, false, B2, (fun _ => False), ⟨hq.1, hq.2.1, Nat.le_refl _⟩, hg, ⟨mi, li, ni, hE, hx, hli⟩, ⟨by omega, hκ.2⟩, h18, h21, ht, ⟨rfl, rfl, rfl, rfl, rfl, fun _ z => z⟩, by omega, rfl, rfl, fun m => Iff.rfl, fun _ _ _ => Iff.rfl, fun z => absurd rfl z⟩, by rw [h8]; omega, by rw [h9, Bool.or_false, Bool.or_false], by rw [h10, Bool.or_false, Bool.or_false], fun m => ?_, STB_or sB (fun _ _ _ => Iff.rfl), fun _ => by show ν < κ; omega⟩
    show (BC m ∨ B2 m) ↔ D1 m ∨ (B2 m ∨ False)
    rw [h11]
    constructor
    · rintro ((z | z) | z)
      · exact Or.inl z
      · exact absurd z (z6 m)
      · exact Or.inr (Or.inl z)
    · rintro (z | z | z)
      · exact Or.inl (Or.inl z)
      · exact Or.inr z
      · exact z.elim
  | (ν, l1) :: (μ, l2) :: r, p, sc, X, Rf, Zf, BC, hs, hy, hlo, ⟨a, a2, sc1, X1, X2, R1, R2, Z1, Z2, D1, D2, h1, g1, ⟨mj, lj, nj, c1, c2, c3⟩, h3, h4, h5, h6, h7, h8, h9, h10, h11, h12, h13⟩ => by
    obtain ⟨d1, d2, d3⟩ := AR2_hd h7 (fun z => by cases z)
    have c : ν < μ := h13 (fun z => by cases z)
    have d1 : μ ≤ (((μ, l2) :: r).getLastD (0, [])).1 := d1
    have hs : ∀ j, lo < j → j ≤ n2 → nod m3 j = nod m2 j ∧ (j ≠ (((μ, l2) :: r).getLastD (0, [])).1 → m3.2.2.1 21 j = m2.2.2.1 21 j) := hs
    have hy : m3.2.2.1 21 (((μ, l2) :: r).getLastD (0, [])).1 = I (κ : Nat) := hy (fun z => by cases z)
    have ih := AR2_snoc hn hk hκ hE hx hli h18 h21 hq hg hg2 ht sB hs (fun _ => hy) hlo h7
    have e18 : m3.2.2.1 18 ν = m2.2.2.1 18 ν := congrArg (fun z => z.2.2.1) (hs ν (by omega) h3.2).1
    refine ⟨a, a2, sc1, X1, max X2 Y, R1, (R2 || Rg), Z1, (Z2 || Zg), D1, (fun m => D2 m ∨ B2 m), ⟨h1.1, h1.2.1, by omega⟩, g1, ⟨mj, lj, nj, c1, ⟨fun j j1 j2 => ⟨(hs j (by omega) (by omega)).1.trans (c2.1 j j1 j2).1, ((hs j (by omega) (by omega)).2 (by omega)).trans (c2.1 j j1 j2).2⟩, Kc_tr c2.2 hk⟩, c3⟩, ⟨h3.1, by omega⟩, e18.trans h4, ?_, h6, ih, by rw [h8]; omega, by rw [h9, Bool.or_assoc], by rw [h10, Bool.or_assoc], fun m => ?_, STB_or h12 sB, fun _ => c⟩
    · show m3.2.2.1 21 ν = I (μ : Nat)
      rw [(hs ν (by omega) h3.2).2 (by omega)]
      exact h5
    · show (BC m ∨ B2 m) ↔ D1 m ∨ (D2 m ∨ B2 m)
      rw [h11, or_assoc]
theorem alone_r {R : MS → Int32 ⊕ Nat → MS → Int32 → Prop} {S : SG_M_behind} {a : Option (MS × (Int32 ⊕ Nat))} (hw : WP w K T p) (h67 : w.1 67 = 0) (hk : K p ≠ 1 ∧ K p ≠ 2 ∧ K p ≠ 3 ∧ K p ≠ 4) (h : PP R a (alB N S v1 (if K p = 20 then adv w p else w) (if K p = 20 then 1 else 0))) : PP R a (fm_M_alone N S w v1) := by
  show PP R a (fb_M_alone_0 N S () w v1)
  unfold fb_M_alone_0
  refine r_ck (fun _ => ?_)
  rw [(WP_i hw).2.1, srt_dc hw srK_4, srt_dc hw srK_1, srt_dc hw srK_5, srt_dc hw srK_2, decide_eq_false hk.1, br_fq]
  refine r_ck (fun _ => ?_)
  rw [decide_eq_false hk.2.1, br_fq]
  refine r_ck (fun _ => ?_)
  rw [decide_eq_false hk.2.2.2, br_fq]
  refine r_ck (fun _ => ?_)
  rw [decide_eq_false hk.2.2.1, br_fq, tkS_e (k := 20) (s := 0) hw h67 (by decide) rfl]
  by_cases z : K p = 20
  · rw [if_pos z, bnd_s]
    rw [if_pos z, if_pos z] at h
    exact h
  · rw [if_neg z, bnd_s]
    rw [if_neg z, if_neg z] at h
    exact h
theorem grp_ex (c : CTZ m0 w0 K T nm Nk) (c45 : ∀ p, p ≤ T → K p ≠ 45) (hE : HE N m0 w0 K T nm Nk d) (h : RLP m0 w0 T p m w) (hn : m.1 306 = I (n : Nat)) (hn2 : n ≤ 2 * p) (hR : RNs w sc) (nd : ND w) (h70 : w.1 70 = I ((o + 1 : Nat) : Int)) (ho : o + 1 ≤ 25) (hg : decide (w.1 73 = 0) = !gd) (hk : K p = 20) : PP (EXZ N m0 w0 K T nm Nk p n gd sc o NC m w) (hm_Pa_primary N (hrc_Pa_matched N D) m) (fm_M_alone N (rc_M_behind N d) w (I (p : Nat))) := by
  have hc := RLP_c c h
  have hw := RLP_w c h
  have t4 := c.1.1.1
  have hl : p < T := TWK_lt c h.2.2.2.2.1 (by omega) (by omega)
  have h0 := h.2.2.2.2.2.2
  have st : STQ m0 w0 K T Nk gd m w p n sc 2 (advc m p) (adv w p) (p + 1) n sc 0 (fun _ => 32) false false (fun _ => False) := STQ_ad (STQ_0 (Nk := Nk) (K := K) (W := fun _ => 32) (gd := gd) h hn hR nd) hl (by omega)
  have rl := st.1
  have e7 : ∀ k, k ≠ 69 → (adv w p).1 k = w.1 k := fun k hk => by unfold adv; exact upI_ne hk
  have gp : ∀ j, p ≤ j → j < p + 1 → K j ≠ 3 := fun j h1 h2 => by rw [show j = p by omega]; omega
  refine alone_r hw h0 (by omega) ?_
  rw [if_pos hk, if_pos hk]
  unfold hm_Pa_primary hb_Pa_primary_0 alB
  rw [look_e hc (by omega), bTm_l, hk, show decide ((1 : Int32) = 0) = false from rfl, br_fq]
  rw [show decide (I ((20 : Nat) : Int) = 1) = false from rfl, br_fq, show decide (I ((20 : Nat) : Int) = 2) = false from rfl, br_fq, show decide (I ((20 : Nat) : Int) = 3) = false from rfl, br_fq, show decide (I ((20 : Nat) : Int) = 4) = false from rfl, br_fq, show decide (I ((20 : Nat) : Int) = 5) = false from rfl, br_fq, show decide (I ((20 : Nat) : Int) = 6) = false from rfl, br_fq, show decide (I ((20 : Nat) : Int) = 7) = false from rfl, br_fq, show decide (I ((20 : Nat) : Int) = 8) = false from rfl, br_fq, show decide (I ((20 : Nat) : Int) = 9) = false from rfl, br_fq, show decide (I ((20 : Nat) : Int) = 10) = false from rfl, br_fq, show decide (I ((20 : Nat) : Int) = 11) = false from rfl, br_fq, show decide (I ((20 : Nat) : Int) = 12) = false from rfl, br_fq, show decide (I ((20 : Nat) : Int) = 13) = false from rfl, br_fq, show decide (I ((20 : Nat) : Int) = 14) = false from rfl, br_fq, show decide (I ((20 : Nat) : Int) = 15) = false from rfl, br_fq, show decide (I ((20 : Nat) : Int) = 16) = false from rfl, br_fq, show decide (I ((20 : Nat) : Int) = 17) = false from rfl, br_fq, show decide (I ((20 : Nat) : Int) = 18) = false from rfl, br_fq, show decide (I ((20 : Nat) : Int) = 19) = false from rfl, br_fq, show decide (I ((20 : Nat) : Int) = 20) = true from rfl, br_tq]
  refine l_lt ?_
  rw [hc.2.1, i_suc]
  show PP _ (bTm ((hrc_Pa_matched N D).2.2.2.2.2.2.2.2.2.2.2.2.2.2.1 (advc m p) 1) _) _
  refine pp_bTn (hE D (advc m p) (adv w p) (p + 1) n sc gd (o + 1) rl st.2.1.2.1 (by omega) (STQ_rn st) (STQ_nd st) (by rw [e7 70 (by decide)]; exact h70) ho (by rw [e7 73 (by decide)]; exact hg)) (fun m2 ε w2 r2 q2 => ?_) (fun m2 kk w2 r2 q2 => ?_)
  · obtain ⟨q1, n2, μ, sc2, X, W, Rf, Zf, CL, a1, a2, a3, a4, a5, a6, a7, a8⟩ := q2
    have nn := a4.2.1
    have hc2 := RLP_c c a4.1
    have hw2 := RLP_w c a4.1
    have h2 := a4.1.2.2.2.2.2.2
    have s2 := STQ_s2 (s2 := 2) (STQ_tr st a4) (by omega)
    rw [show max 0 X = X by omega, Bool.false_or, Bool.false_or] at s2
    have s2 := STQ_cl (CM := CL) (fun x => ⟨fun z => z.elim False.elim id, Or.inr⟩) s2
    have a6 := EXN_w (W2 := mrg (p + 1) (fun _ => 32) W) (fun j h _ => mrg_r h) a6
    by_cases k21 : K q1 = 21
    · have hl2 : q1 < T := TWK_lt c a4.1.2.2.2.2.1 (by omega) (by omega)
      rw [need_e (s := 21) hc2 k21 (by decide) rfl, bTm_l, ndS_1 (s := 1) hw2 h2 (by decide) rfl k21, bnd_s]
      unfold fb_M_alone_361
      refine l_bnd ?_
      intro m4 z4 e4
      refine pp_end ?_
      rw [a1] at e4
      exact row_fin (kd := 5) c hn2 (by omega) hl2 (by omega) s2 SMS_rf rfl (by decide) (by omega) (fun mf hx2 ko kc => ⟨exn_grp (μ := μ) (q := p + 1) (q2 := q1) hx2 (by omega) (Nat.le_refl _) (by omega) ⟨by omega, by omega, by omega⟩ gp (fun j h1 h2 => by rw [show j = q1 by omega]; omega) a6 (Nat.le_refl _) ko kc (by omega), PTX_grp (μ := μ) (q := q1) hx2 (by omega) (Nat.le_refl _) (by omega) a7 (Nat.le_refl _) ko kc (by omega) a2.2 hk (by omega) k21 hl2 (by omega)⟩) m4 z4 e4
    · refine pp_rf (RFS_T (need_x (s := 21) hc2 k21 (by decide) rfl)) (fun mm => ?_)
      unfold fb_M_alone_361
      exact pk_bnd (pk_mo (ndS_0 (N := N) (s := 1) hw2 h2 (by decide) rfl k21) (fun v r2 z => pk_some z))
  · have q2 : Kfc w2 w2 := q2
    unfold fb_M_alone_361
    refine Kf_pk (u0 := w2) ?_
    repeat' (first | with_reducible assumption | with_reducible refine Kf_br ?_ ?_ | with_reducible refine Kf_bnd ?_ (fun _ _ _ => ?_) | with_reducible refine Kf_ck ?_ | with_reducible refine Kf_ltm ?_ (fun _ _ => ?_) | with_reducible refine Kf_some ?_ | with_reducible refine Kf_bo (fun _ => ?_) | with_reducible exact yf_fm_M_node (by assumption) | with_reducible exact yf_fm_M_pattern (by assumption) | with_reducible exact yf_fm_M_wrong (by assumption) | with_reducible exact yf_fm_M_rule (by assumption) | with_reducible exact yf_fm_M_isSign (by assumption) | with_reducible exact yf_fm_M_isWord (by assumption) | with_reducible exact yf_fm_M_takeSign (by assumption) | with_reducible exact yf_fm_M_takeWord (by assumption) | with_reducible exact yf_fm_M_needSign (by assumption) | with_reducible exact yf_fm_M_needWord (by assumption) | with_reducible exact yf_fm_M_opens (by assumption) | with_reducible exact yf_fm_M_boundIn (by assumption) | with_reducible exact yf_fr_M_found (by assumption) | with_reducible exact yf_fm_M_bind (by assumption) | with_reducible exact yf_fm_M_isUnderscore (by assumption) | with_reducible exact yf_fm_M_unbind (by assumption) | with_reducible exact yf_fm_M_term (by assumption) | with_reducible exact yf_fm_M_namePattern (by assumption) | with_reducible exact yf_fr_M_patternAt (by assumption) | with_reducible exact yf_fm_M_beginsUnit (by assumption) | with_reducible exact yf_fm_M_save (by assumption) | with_reducible exact yf_fm_M_addRoot (by assumption) | with_reducible exact yf_fm_M_level (by assumption) | with_reducible exact yf_fm_M_reduce (by assumption) | with_reducible exact yf_fm_M_takeBack (by assumption) | with_reducible exact yf_fm_M_forgetSaved (by assumption) | with_reducible exact yf_fr_M_last (by assumption) | with_reducible exact yf_fr_M_clause (by assumption) | with_reducible exact yf_fm_M_predefinedOf (by assumption) | with_reducible exact yf_fm_M_function0 (by assumption) | with_reducible exact yf_fm_M_program (by assumption) | with_reducible exact hF0 _ (by assumption) | with_reducible exact hF1 _ _ (by assumption) | with_reducible exact hF2 _ _ _ (by assumption) | with_reducible exact hF3 _ _ _ (by assumption) | with_reducible exact hF4 _ (by assumption) | with_reducible exact hF5 _ _ (by assumption) | with_reducible exact hF6 _ _ (by assumption) | with_reducible exact hF7 _ _ (by assumption) | with_reducible exact hF8 _ _ (by assumption) | with_reducible exact hF9 _ (by assumption) | with_reducible exact hF10 _ (by assumption) | with_reducible exact hF11 _ (by assumption) | with_reducible exact hF12 _ (by assumption) | with_reducible exact hF13 _ (by assumption) | with_reducible exact hF14 _ (by assumption) | with_reducible exact hF15 _ (by assumption) | with_reducible exact hF16 _ _ (by assumption) | with_reducible refine Kf_ltv (fun _ => ?_) | with_reducible refine Kf_I ?_ (by decide) | with_reducible refine Kf_A ?_ | with_reducible refine Kf_J ?_ | with_reducible refine Kf_L ?_)
end
end
section
set_option maxRecDepth 100000
def APL (N : Nat) (m0 w0 : MS) (K : Nat → Nat) (T : Nat) (nm Nk : Nat → Nat) (gd : Bool) (mB wB : MS) (p n0 : Nat) (sc : SCT) (o ν : Nat) (m w : MS) (q n : Nat) (sc2 : SCT) (la : List (Nat × List Nat)) : Prop := ∃ (n1 μ tok q2 q3 : Nat) (m1 : MS) (sc1 : SCT) (X1 X2 : Nat) (W : Nat → Nat) (R1 R2 Rf Z1 Z2 : Bool) (CL1 CL2 : Int32 × Int32 × Int32 → Prop), STQ m0 w0 K T Nk gd mB wB p n0 sc (if la = [] then 0 else 1) m w q n sc2 (max X1 X2) W Rf (Z1 || Z2) (fun x => CL1 x ∨ CL2 x) ∧ ((la = [] → Rf = (R1 || R2)) ∧ (la ≠ [] → Rf = (gd || (R1 || R2)))) ∧ (p < q2 ∧ q2 + 2 * la.length ≤ q ∧ K q2 = 20 ∧ q3 ≤ q ∧ ∀ j, q3 ≤ j → j < q → K j ≠ 3) ∧ EXN N K nm gd m1 n0 n1 μ p q2 sc sc1 X1 W R1 Z1 (BCo N CL1) ∧ KPX n0 n1 μ m1 m ∧ (n0 < μ ∧ μ ≤ n1 ∧ n1 < ν ∧ ν ≤ n) ∧ nod m ν = (I ((15 : Nat) : Int), I (tok : Nat), I (μ : Nat), I (((la.headD (0, [])).1 : Nat) : Int), 0) ∧ tok ≤ 4000 ∧ m.2.2.1 21 ν = 0 ∧ AR2 N K nm gd m ν n W la q2 q3 sc1 sc2 X2 R2 Z2 (BCo N CL2) ∧ (tot sc1 ≤ tot sc + (q2 - p) ∧ sc1.length = sc.length ∧ X1 ≤ 1400) ∧ PTX N w0 K T nm Nk m1 n0 n1 μ p q2 o NC0 X1 ∧ (K p = 1 → NC0 (K (p + 1)))
section
variable {m0 w0 m w v u mB wB m2 w2 m3 w3 mi : MS} {K nm Nk W W2 : Nat → Nat} {T p n N q X Y n2 p0 n0 n3 p2 ν μ κ o s L d D k q1 q2 lo li ni : Nat} {sc sc1 sc2 sc3 t : SCT} {gd Rf Zf Rg Zg : Bool} {l : List Nat} {la : List (Nat × List Nat)} {r v1 v2 v3 v4 v5 : Int32} {CL CM : Int32 × Int32 × Int32 → Prop} {NC : Nat → Prop} {B1 B2 BC : MS → Prop}
theorem NXT_len (h : NXT m l) : PK (fun v r => v = m ∧ r = I ((l.length : Nat) : Int)) (hm_Tr_length N m (I ((l.headD 0 : Nat) : Int))) := length_p h
theorem AR2_bc (hb : ∀ m, B2 m ↔ B1 m) (h : AR2 N K nm gd m2 n0 n2 W la p p2 sc sc2 X Rf Zf B1) : AR2 N K nm gd m2 n0 n2 W la p p2 sc sc2 X Rf Zf B2 := by
  cases la with
  | nil => exact ⟨h.1, h.2.1, h.2.2.1, h.2.2.2.1, h.2.2.2.2.1, fun m z => h.2.2.2.2.2 m ((hb m).mp z)⟩
  | cons a la =>
    obtain ⟨ν, l⟩ := a
    obtain ⟨q, q2, sc1, X1, X2, R1, R2, Z1, Z2, b1, b2, h1, g1, h2, h3, h4, h5, h6, h7, h8, h9, h10, h11, h12⟩ := h
    exact ⟨q, q2, sc1, X1, X2, R1, R2, Z1, Z2, b1, b2, h1, g1, h2, h3, h4, h5, h6, h7, h8, h9, h10, fun m => (hb m).trans (h11 m), h12⟩
theorem APL_end (hn0 : n0 ≤ 2 * p) (hT : T ≤ 4000) (h : APL N m0 w0 K T nm Nk gd mB wB p n0 sc o ν m w q n sc2 la) (hla : la ≠ []) {r : Int32} : EXZ N m0 w0 K T nm Nk p n0 gd sc o NC0 mB wB m (.inl (I (ν : Nat))) w r := by
  obtain ⟨n1, μ, tok, q2, q3, m1, sc1, X1, X2, W, R1, R2, Rf, Z1, Z2, CL1, CL2, a1, a2, a3, a4, a5, a6, a7, a8, a9, a10, a12, a13, a14⟩ := h
  rw [if_neg hla] at a1
  have nb := a1.2.1
  have qT := a1.1.2.2.2.2.1
  have al := (AR2_len a10).1
  have e := exn_app (p2 := q) (q := p) (q2 := q2) (q3 := q3) (li := n0) (lo := n0) a7 a8 (by omega) a6.2.2.2 (by omega) ⟨Nat.le_refl _, by omega, by omega, a3.2.2.2.1⟩ (fun j h1 h2 => absurd h2 (by omega)) a3.2.2.2.2 a4 (Nat.le_refl _) a5 a6.2.2.1 (AR2_1 a10) BCo_st a12
  refine ⟨q, n, ν, sc2, max X1 X2, W, Rf, Z1 || Z2, fun x => CL1 x ∨ CL2 x, rfl, ⟨by omega, a6.2.2.2⟩, by omega, a1, a9, ?_, PTX_der a13 a7 (by omega) a6.2.2.2 (by omega) (by decide) (by decide) (by decide) (fun _ z => z) (Or.inr a3.2.2.1), 15, nod_16 a7, by decide, fun z => absurd z (by decide), fun _ z => a14 z, tok, a8, nod_17 a7⟩
  rw [a2.2 hla]
  exact EXN_bc (fun m => BCo_or) e
theorem getLastD_sn {a : List (Nat × List Nat)} {b x : Nat × List Nat} : (a ++ [b]).getLastD x = b := by
  rw [List.getLastD_eq_getLast?, List.getLast?_append]
  rfl
theorem headD_sn {a : List (Nat × List Nat)} {b x : Nat × List Nat} (h : a ≠ []) : (a ++ [b]).headD x = a.headD x := by
  cases a with
  | nil => exact absurd rfl h
  | cons y z => rfl
theorem STQ_A {k : Nat} {y : Int32} (h : STQ m0 w0 K T Nk gd mB wB p0 n0 sc s m w p n sc2 X W Rf Zf CL) (hL : n0 < L) (hk : 16 ≤ k ∧ k ≤ 21) : STQ m0 w0 K T Nk gd mB wB p0 n0 sc s (upA m k (upd (m.2.2.1 k) L y)) w p n sc2 X W Rf Zf CL := by
  obtain ⟨a1, a2, a3, a4, a5⟩ := h
  obtain ⟨h1, h2⟩ := a1
  refine ⟨⟨Kc_tr h1 ⟨fun _ _ => rfl, fun i hi => upA_no (by omega)⟩, h2⟩, a2, fun j hj => ?_, PCG_A a4 hk, a5⟩
  have e : ∀ i, (upA m k (upd (m.2.2.1 k) L y)).2.2.1 i j = m.2.2.1 i j := fun i => by
    by_cases z : i = k
    · subst z; rw [upA_at, upd_no (by omega)]
    · rw [upA_no z]
  unfold KPO nod at a3
  unfold nod
  rw [e 16, e 17, e 18, e 19, e 20, e 21]
  exact a3 j hj
theorem APL_next (c : CTZ m0 w0 K T nm Nk) (h : APL N m0 w0 K T nm Nk gd mB wB p n0 sc o ν m w q n sc2 la) (hn0 : n0 ≤ 2 * p) (hk : K q = 20) (hs : (gd = false ∧ w3 = w) ∨ (gd = true ∧ w3.1 72 ≠ 0 ∧ (∀ k, k ≠ 71 → k ≠ 72 → w3.1 k = w.1 k) ∧ w3.2.2.1 = w.2.2.1)) (hz : RWZ N m0 w0 K T nm Nk q n gd sc2 (o + 1) 4 6 21 m w3 m2 w2 q1 l) (s4 : SMS w2 u) (h69 : u.1 69 = w2.1 69) : ∃ n2 sc3, m2.1 306 = I (n2 : Nat) ∧ n2 + 1 < 8016 ∧ n ≤ n2 ∧ NXT m2 l ∧ ∀ tk r8 : Int32, (la = [] → APL N m0 w0 K T nm Nk gd mB wB p n0 sc o ν (upA (adN m2 n2 16 tk (I ((l.headD 0 : Nat) : Int)) r8 0) 19 (upd ((adN m2 n2 16 tk (I ((l.headD 0 : Nat) : Int)) r8 0).2.2.1 19) ν (I ((n2 + 1 : Nat) : Int)))) u q1 (n2 + 1) sc3 (la ++ [(n2 + 1, l)])) ∧ (la ≠ [] → APL N m0 w0 K T nm Nk gd mB wB p n0 sc o ν (upA (adN m2 n2 16 tk (I ((l.headD 0 : Nat) : Int)) r8 0) 21 (upd ((adN m2 n2 16 tk (I ((l.headD 0 : Nat) : Int)) r8 0).2.2.1 21) (la.getLastD (0, [])).1 (I ((n2 + 1 : Nat) : Int)))) u q1 (n2 + 1) sc3 (la ++ [(n2 + 1, l)])) := by
  obtain ⟨n1, μ, tok, q2, q3, m1, sc1, X1, X2, W, R1, R2, Rf, Z1, Z2, CL1, CL2, a1, a2, a3, a4, a5, a6, a7, a8, a9, a10, a12, a13, a14⟩ := h
  obtain ⟨n2, q4, sc3, X3, W3, R3, Z3, CL3, b1, b2, b3, b4, b5⟩ := hz
  have t4 := c.1.1.1
  have q1T := b1.1.2.2.2.2.1
  have nb := b1.2.1
  have na := a1.2.1
  have al := (AR2_len a10).1
  have st1 : STQ m0 w0 K T Nk gd mB wB p n0 sc 0 m w3 q n sc2 (max X1 X2) W (gd || Rf) (Z1 || Z2) (fun x => CL1 x ∨ CL2 x) := by
    rcases hs with ⟨rfl, rfl⟩ | ⟨rfl, r1, r2, r3⟩
    · exact STQ_s2 a1 (Nat.zero_le _)
    · exact STQ_s2 (STQ_rule a1 r1 r2 r3) (Nat.zero_le _)
  have st2 := STQ_s (STQ_tr st1 b1) s4 h69
  refine ⟨n2, sc3, nb.2.1, by omega, nb.2.2.1, ERW_nxt (by omega) b2, fun tk r8 => ?_⟩
  generalize hκ : n2 + 1 = κ
  have st3 := STQ_add (s := 3) (a := 16) (b := tk) (c := I ((l.headD 0 : Nat) : Int)) (d := r8) (f := 0) st2
  rw [hκ] at st3
  have Ao := adN_o (m := m2) (n := n2) (a := 16) (b := tk) (c := I ((l.headD 0 : Nat) : Int)) (d := r8) (f := 0)
  have An := adN_nod (m := m2) (n := n2) (a := 16) (b := tk) (c := I ((l.headD 0 : Nat) : Int)) (d := r8) (f := 0)
  have Ai : ∀ k, k ≠ 306 → (adN m2 n2 16 tk (I ((l.headD 0 : Nat) : Int)) r8 0).1 k = m2.1 k := fun k hk => adN_i hk
  have Ar : ∀ k, k < 16 ∨ 21 < k → (adN m2 n2 16 tk (I ((l.headD 0 : Nat) : Int)) r8 0).2.2.1 k = m2.2.2.1 k := fun k hk => adN_r hk
  generalize hA : adN m2 n2 16 tk (I ((l.headD 0 : Nat) : Int)) r8 0 = A at st3 Ao An Ai Ar
  rw [hκ] at An
  have mo := b1.2.2.1
  have kcm : Kcc m A := Kc_tr (PCG_k b1.2.2.2.1) ⟨fun k hk => Ai k (by omega), fun k hk => Ar k (by omega)⟩
  have kc2 : Kcc m2 A := ⟨fun k hk => Ai k (by omega), fun k hk => Ar k (by omega)⟩
  have A18 : A.2.2.1 18 κ = I ((l.headD 0 : Nat) : Int) := congrArg (fun z => z.2.2.1) An.1
  have all : ∀ (m3 : MS) (L i : Nat), (i = 19 ∨ i = 21) → n1 < L → L ≤ n → (∀ j, j ≠ L → ∀ k, m3.2.2.1 k j = A.2.2.1 k j) → (∀ k, k ≠ i → m3.2.2.1 k = A.2.2.1 k) → (∀ k, m3.1 k = A.1 k) → STQ m0 w0 K T Nk gd mB wB p n0 sc 3 m3 u q1 κ sc3 (max (max X1 X2) X3) (mrg q W W3) ((gd || Rf) || R3) ((Z1 || Z2) || Z3) (fun x => (CL1 x ∨ CL2 x) ∨ CL3 x) → nod m3 ν = (I ((15 : Nat) : Int), I (tok : Nat), I (μ : Nat), I ((((la ++ [(κ, l)]).headD (0, [])).1 : Nat) : Int), 0) → m3.2.2.1 21 ν = 0 → (la = [] → L = ν) → (∀ j, ν < j → nod m3 j = nod A j) → (la ≠ [] → L = (la.getLastD (0, [])).1 ∧ m3.2.2.1 21 L = I (κ : Nat)) → APL N m0 w0 K T nm Nk gd mB wB p n0 sc o ν m3 u q1 κ sc3 (la ++ [(κ, l)]) := fun m3 L i hi hL1 hL2 h3 h4 h5 hst hnod h21 hla1 hnd hla2 => by
    have nd3 : ∀ j, j ≠ L → nod m3 j = nod A j ∧ m3.2.2.1 21 j = A.2.2.1 21 j := fun j hj => ⟨by unfold nod; rw [h3 j hj, h3 j hj, h3 j hj, h3 j hj, h3 j hj], h3 j hj 21⟩
    have kc3 : Kcc A m3 := ⟨fun k _ => h5 k, fun k hk => h4 k (by omega)⟩
    have bl := ERW_len b2
    have sx := b1.2.2.2.2.1
    have ih := AR2_snoc (N := N) (K := K) (nm := nm) (gd := gd) (W := mrg q W W3) (lo := ν) (n2 := n) (n3 := κ) (m2 := m) (m3 := m3) (κ := κ) (mi := m2) (li := n) (ni := n2) (l := l) (q := q + 1) (q2 := q4) (q1 := q4) (p2 := q3) (by omega) (Kc_tr kcm kc3) ⟨by omega, Nat.le_refl _⟩ (ERW_w (fun j h _ => mrg_r (by omega)) b2) ⟨fun j j1 j2 => ⟨(nd3 j (by omega)).1.trans (Ao j j2).1, (nd3 j (by omega)).2.trans (Ao j j2).2⟩, Kc_tr kc2 kc3⟩ ⟨a6.2.2.2, by omega⟩ (by rw [h3 κ (by omega)]; exact A18) (by rw [h3 κ (by omega)]; exact An.2) ⟨by omega, by omega, Nat.le_refl _⟩ (fun j j1 j2 => by
      by_cases z : j = q
      · rw [z]; omega
      · exact a3.2.2.2.2 j j1 (by omega)) (fun j j1 j2 => absurd j2 (by omega)) ⟨bl.2.1, bl.2.2, sx.2.2.2.1.2⟩ BCo_st (la := la) (p := q2) (sc := sc1) (fun j j1 j2 => ?_) (fun z => (hla2 z).1 ▸ (hla2 z).2) a6.2.2.2 (AR2_w (fun j _ h => mrg_l (by omega)) a10)
    · refine ⟨n1, μ, tok, q2, q4, m1, sc1, X1, max X2 X3, mrg q W W3, R1, (R2 || R3), ((gd || Rf) || R3), Z1, (Z2 || Z3), CL1, (fun x => CL2 x ∨ CL3 x), ?_, ⟨fun z => by simp at z, fun _ => ?_⟩, ⟨a3.1, ?_, a3.2.2.1, by omega, b3.2.2⟩, EXN_w (fun j _ h => mrg_l (by omega)) a4, ⟨fun j j1 j2 => ?_, Kc_tr a5.2 (Kc_tr kcm kc3)⟩, ⟨a6.1, a6.2.1, a6.2.2.1, by omega⟩, hnod, a8, h21, ?_, a12, a13, a14⟩
      · rw [if_neg (by simp)]
        rw [show max X1 (max X2 X3) = max (max X1 X2) X3 by omega, show (Z1 || (Z2 || Z3)) = ((Z1 || Z2) || Z3) from (Bool.or_assoc _ _ _).symm]
        exact STQ_s2 (STQ_cl (fun x => or_assoc) hst) (by omega)
      · by_cases z : la = []
        · rw [a2.1 z]; cases gd <;> cases R1 <;> cases R2 <;> cases R3 <;> rfl
        · rw [a2.2 z]; cases gd <;> cases R1 <;> cases R2 <;> cases R3 <;> rfl
      · rw [List.length_append, List.length_singleton]; omega
      · have e1 := nd3 j (by omega)
        have e2 := Ao j (by omega)
        have e3 := mo j (by omega)
        have e4 := a5.1 j j1 j2
        exact ⟨e1.1.trans (e2.1.trans (e3.1.trans e4.1)), fun z => e1.2.trans (e2.2.trans (e3.2.trans (e4.2 z)))⟩
      · have := AR2_bc (fun m => BCo_or) ih
        exact this
    · refine ⟨(hnd j j1).trans ((Ao j (by omega)).1.trans (mo j j2).1), fun z => ?_⟩
      have jL : j ≠ L := by
        by_cases y : la = []
        · rw [hla1 y]; omega
        · rw [(hla2 y).1]; exact z
      exact (nd3 j jL).2.trans ((Ao j (by omega)).2.trans (mo j j2).2)
  have nν : nod A ν = nod m ν ∧ A.2.2.1 21 ν = m.2.2.1 21 ν := ⟨(Ao ν (by omega)).1.trans (mo ν a6.2.2.2).1, (Ao ν (by omega)).2.trans (mo ν a6.2.2.2).2⟩
  refine ⟨fun z => ?_, fun z => ?_⟩
  · refine all _ ν 19 (Or.inl rfl) a6.2.2.1 a6.2.2.2 (fun j hj k => ?_) (fun k hk => upA_no hk) (fun _ => rfl) (STQ_A st3 (by omega) (by decide)) ?_ ?_ (fun _ => rfl) (fun j hj => ?_) (fun y => absurd z y)
    · by_cases e : k = 19
      · subst e; rw [upA_at, upd_no hj]
      · rw [upA_no e]
    · have e := nν.1.trans a7
      subst z
      unfold nod at e ⊢
      rw [upA_no (j := 16) (by decide), upA_no (j := 17) (by decide), upA_no (j := 18) (by decide), upA_no (j := 20) (by decide), upA_at, upd_at]
      injection e with e1 e
      injection e with e2 e
      injection e with e3 e
      injection e with e4 e5
      rw [e1, e2, e3, e5]
      rfl
    · rw [upA_no (by decide)]; exact nν.2.trans a9
    · unfold nod
      rw [upA_no (j := 16) (by decide), upA_no (j := 17) (by decide), upA_no (j := 18) (by decide), upA_no (j := 20) (by decide), upA_at, upd_no (by omega)]
  · obtain ⟨d1, d2, d3⟩ := AR2_hd a10 z
    refine all _ (la.getLastD (0, [])).1 21 (Or.inr rfl) (by omega) d3 (fun j hj k => ?_) (fun k hk => upA_no hk) (fun _ => rfl) (STQ_A st3 (by omega) (by decide)) ?_ ?_ (fun y => absurd y z) (fun j _ => ?_) (fun _ => ⟨rfl, ?_⟩)
    · by_cases e : k = 21
      · subst e; rw [upA_at, upd_no hj]
      · rw [upA_no e]
    · rw [headD_sn z]
      have e := nν.1.trans a7
      unfold nod at e ⊢
      rw [upA_no (by decide), upA_no (by decide), upA_no (by decide), upA_no (by decide), upA_no (by decide)]
      exact e
    · rw [upA_at, upd_no (by omega)]; exact nν.2.trans a9
    · unfold nod
      rw [upA_no (by decide), upA_no (by decide), upA_no (by decide), upA_no (by decide), upA_no (by decide)]
    · rw [upA_at, upd_at]
end
end
section
set_option maxRecDepth 100000
section
variable {m0 w0 m w v u mB wB m2 w2 m3 w3 mi : MS} {K nm Nk W W2 : Nat → Nat} {T p n N q X Y n2 p0 n0 n3 p2 ν μ κ o s L d D k q1 q2 lo li ni : Nat} {sc sc1 sc2 sc3 t : SCT} {gd Rf Zf Rg Zg : Bool} {l : List Nat} {la : List (Nat × List Nat)} {r v1 v2 v3 v4 v5 : Int32} {CL CM : Int32 × Int32 × Int32 → Prop} {NC : Nat → Prop} {B1 B2 BC : MS → Prop}
def HAg (N : Nat) (m0 w0 : MS) (K : Nat → Nat) (T : Nat) (nm Nk : Nat → Nat) (d : Nat) : Prop := ∀ (D : Nat) (m w : MS) (p n : Nat) (sc : SCT) (gd : Bool) (o : Nat), RLP m0 w0 T p m w → m.1 306 = I (n : Nat) → n ≤ 2 * p → RNs w sc → ND w → w.1 70 = I (o : Nat) → o ≤ 25 → decide (w.1 73 = 0) = !gd → K p = 20 → PP (ARGZ N m0 w0 K T nm Nk p n gd sc o m w) (hm_Pa_rowUpTo N (hrc_Pa_matched N D) (advc m p) 0 6 21) ((rc_M_behind N d).2.2.2.2.2.2.2.2.2.1 w)
theorem HAg_s (c : CTZ m0 w0 K T nm Nk) (c45 : ∀ p, p ≤ T → K p ≠ 45) (hE : HE N m0 w0 K T nm Nk d) : HAg N m0 w0 K T nm Nk (d + 1) := fun D m w p n sc gd o a1 a2 a3 a4 a5 a6 a7 a8 a9 => arg_pp c c45 hE a1 a2 a3 a4 a5 a6 a7 a8 a9
theorem p157_f {M : Nat} (h : FLW w) : PK (fun w2 (_ : Int32) => FLW w2) (bnd (fm_M_node N w 13 v1) (fun u2 r2 => ck (inb r2 (ln 26)) (lt (upA u2 26 (upd (u2.2.2.1 26) r2.toNatClampNeg (u2.1 84))) (fun w3 => (gg_M_primary N (rc_M_behind N d) M) w3 (v1) (r2))))) := by
  refine Kf_pk (u0 := w) ?_
  have h : Kfc w w := h
  obtain ⟨hF0, hF1, hF2, hF3, hF4, hF5, hF6, hF7, hF8, hF9, hF10, hF11, hF12, hF13, hF14, hF15, hF16⟩ := yf_rc_M_behind (u0 := w) (N := N) d
  repeat' (first | with_reducible assumption | with_reducible refine Kf_br ?_ ?_ | with_reducible refine Kf_bnd ?_ (fun _ _ _ => ?_) | with_reducible refine Kf_ck ?_ | with_reducible refine Kf_ltm ?_ (fun _ _ => ?_) | with_reducible refine Kf_some ?_ | with_reducible refine Kf_bo (fun _ => ?_) | with_reducible exact yf_fm_M_node (by assumption) | with_reducible exact yf_fm_M_pattern (by assumption) | with_reducible exact yf_fm_M_wrong (by assumption) | with_reducible exact yf_fm_M_rule (by assumption) | with_reducible exact yf_fm_M_isSign (by assumption) | with_reducible exact yf_fm_M_isWord (by assumption) | with_reducible exact yf_fm_M_takeSign (by assumption) | with_reducible exact yf_fm_M_takeWord (by assumption) | with_reducible exact yf_fm_M_needSign (by assumption) | with_reducible exact yf_fm_M_needWord (by assumption) | with_reducible exact yf_fm_M_opens (by assumption) | with_reducible exact yf_fm_M_boundIn (by assumption) | with_reducible exact yf_fr_M_found (by assumption) | with_reducible exact yf_fm_M_bind (by assumption) | with_reducible exact yf_fm_M_isUnderscore (by assumption) | with_reducible exact yf_fm_M_unbind (by assumption) | with_reducible exact yf_fm_M_term (by assumption) | with_reducible exact yf_fm_M_namePattern (by assumption) | with_reducible exact yf_fr_M_patternAt (by assumption) | with_reducible exact yf_fm_M_beginsUnit (by assumption) | with_reducible exact yf_fm_M_save (by assumption) | with_reducible exact yf_fm_M_addRoot (by assumption) | with_reducible exact yf_fm_M_level (by assumption) | with_reducible exact yf_fm_M_reduce (by assumption) | with_reducible exact yf_fm_M_takeBack (by assumption) | with_reducible exact yf_fm_M_forgetSaved (by assumption) | with_reducible exact yf_fr_M_last (by assumption) | with_reducible exact yf_fr_M_clause (by assumption) | with_reducible exact yf_fm_M_predefinedOf (by assumption) | with_reducible exact yf_fm_M_function0 (by assumption) | with_reducible exact yf_fm_M_program (by assumption) | with_reducible exact hF0 _ (by assumption) | with_reducible exact hF1 _ _ (by assumption) | with_reducible exact hF2 _ _ _ (by assumption) | with_reducible exact hF3 _ _ _ (by assumption) | with_reducible exact hF4 _ (by assumption) | with_reducible exact hF5 _ _ (by assumption) | with_reducible exact hF6 _ _ (by assumption) | with_reducible exact hF7 _ _ (by assumption) | with_reducible exact hF8 _ _ (by assumption) | with_reducible exact hF9 _ (by assumption) | with_reducible exact hF10 _ (by assumption) | with_reducible exact hF11 _ (by assumption) | with_reducible exact hF12 _ (by assumption) | with_reducible exact hF13 _ (by assumption) | with_reducible exact hF14 _ (by assumption) | with_reducible exact hF15 _ (by assumption) | with_reducible exact hF16 _ _ (by assumption) | with_reducible exact yf_fb_M_primary_182 (by assumption) hF0 hF1 hF2 hF3 hF4 hF5 hF6 hF7 hF8 hF9 hF10 hF11 hF12 hF13 hF14 hF15 hF16 (yf_gg_M_primary hF0 hF1 hF2 hF3 hF4 hF5 hF6 hF7 hF8 hF9 hF10 hF11 hF12 hF13 hF14 hF15 hF16 _) | with_reducible exact yf_fb_M_primary_157 (by assumption) hF0 hF1 hF2 hF3 hF4 hF5 hF6 hF7 hF8 hF9 hF10 hF11 hF12 hF13 hF14 hF15 hF16 (yf_gg_M_primary hF0 hF1 hF2 hF3 hF4 hF5 hF6 hF7 hF8 hF9 hF10 hF11 hF12 hF13 hF14 hF15 hF16 _) | with_reducible exact yf_fb_M_primary_128 (by assumption) hF0 hF1 hF2 hF3 hF4 hF5 hF6 hF7 hF8 hF9 hF10 hF11 hF12 hF13 hF14 hF15 hF16 (yf_gg_M_primary hF0 hF1 hF2 hF3 hF4 hF5 hF6 hF7 hF8 hF9 hF10 hF11 hF12 hF13 hF14 hF15 hF16 _) | with_reducible exact yf_fb_M_primary_122 (by assumption) hF0 hF1 hF2 hF3 hF4 hF5 hF6 hF7 hF8 hF9 hF10 hF11 hF12 hF13 hF14 hF15 hF16 (yf_gg_M_primary hF0 hF1 hF2 hF3 hF4 hF5 hF6 hF7 hF8 hF9 hF10 hF11 hF12 hF13 hF14 hF15 hF16 _) | with_reducible exact yf_fb_M_primary_118 (by assumption) hF0 hF1 hF2 hF3 hF4 hF5 hF6 hF7 hF8 hF9 hF10 hF11 hF12 hF13 hF14 hF15 hF16 (yf_gg_M_primary hF0 hF1 hF2 hF3 hF4 hF5 hF6 hF7 hF8 hF9 hF10 hF11 hF12 hF13 hF14 hF15 hF16 _) | with_reducible exact yf_fb_M_primary_0 (by assumption) hF0 hF1 hF2 hF3 hF4 hF5 hF6 hF7 hF8 hF9 hF10 hF11 hF12 hF13 hF14 hF15 hF16 (yf_gg_M_primary hF0 hF1 hF2 hF3 hF4 hF5 hF6 hF7 hF8 hF9 hF10 hF11 hF12 hF13 hF14 hF15 hF16 _) | with_reducible exact (yf_gg_M_primary hF0 hF1 hF2 hF3 hF4 hF5 hF6 hF7 hF8 hF9 hF10 hF11 hF12 hF13 hF14 hF15 hF16 _) _ _ _ (by assumption) | with_reducible refine Kf_ltv (fun _ => ?_) | with_reducible refine Kf_I ?_ (by decide) | with_reducible refine Kf_A ?_ | with_reducible refine Kf_J ?_ | with_reducible refine Kf_L ?_)
theorem app_lp (c : CTZ m0 w0 K T nm Nk) (c45 : ∀ p, p ≤ T → K p ≠ 45) (hA : HAg N m0 w0 K T nm Nk d) (hn0 : n0 ≤ 2 * p) (h70 : wB.1 70 = I ((o + 1 : Nat) : Int)) (ho : o + 1 ≤ 25) (hg : decide (wB.1 73 = 0) = !gd) : ∀ (M M' : Nat) (m w : MS) (q n : Nat) (sc2 : SCT) (la : List (Nat × List Nat)) (k : Nat) (v3 r : Int32), APL N m0 w0 K T nm Nk gd mB wB p n0 sc o ν m w q n sc2 la → la.length = k → ((la = [] ∧ v3 = 0 ∧ K q = 20) ∨ (la ≠ [] ∧ v3 = I ((la.getLastD (0, [])).1 : Nat))) → PP (EXZ N m0 w0 K T nm Nk p n0 gd sc o NC0 mB wB) (hg_Pa_applied N (hrc_Pa_matched N D) M m (I (ν : Nat)) v3 (I (k : Nat))) (gg_M_primary N (rc_M_behind N d) M' w (I (p : Nat)) r) := by
  intro M
  induction M with
  | zero => intro M' m w q n sc2 la k v3 r _ _ _; exact pp_nl
  | succ M ih =>
    intro M' m w q n sc2 la k v3 r h hlk hv3
    obtain ⟨n1, μ, tok, q2, q3, m1, sc1, X1, X2, W, R1, R2, Rf, Z1, Z2, CL1, CL2, a1, a2, a3, a4, a5, a6, a7, a8, a9, a10, a12, a13, a14⟩ := id h
    have t4 := c.1.1.1
    have hc := RLP_c c a1.1
    have hw := RLP_w c a1.1
    have h0 := a1.1.2.2.2.2.2.2
    have qT := a1.1.2.2.2.2.1
    have k46 := hc.1.1.k46 hc.2.2
    have na := a1.2.1
    cases M' with
    | zero => exact pp_nr
    | succ M' =>
      show PP _ (hb_Pa_applied_38 N (hrc_Pa_matched N D) (hg_Pa_applied N (hrc_Pa_matched N D) M) m (I (ν : Nat)) v3 (I (k : Nat))) (fb_M_primary_128 N (rc_M_behind N d) (gg_M_primary N (rc_M_behind N d) M') w (I (p : Nat)) r)
      unfold hb_Pa_applied_38 hb_Pa_applied_145 fb_M_primary_128 fb_M_primary_182
      rw [show (4000 : Int32) = I ((4000 : Nat) : Int) from rfl, decI (by omega) (by omega) (by omega) (by omega), decide_eq_false (by omega), br_fq, look_e hc (c45 _ qT), bTm_l, decide_eq_true h0, br_tq, isS_e (k := 20) (s := 0) hw (by decide) rfl, bnd_s, I_dn (a := K q) (b := 20) (s := 20) (by omega) (by decide) rfl]
      by_cases k20 : K q = 20
      · rw [decide_eq_true k20, br_tq, if_pos k20, show decide ((1 : Int32) = 0) = false from rfl, br_fq]
        have hl : q < T := TWK_lt c qT (by omega) (by omega)
        have w7 : ∀ k, k ∈ [70, 73] → w.1 k = wB.1 k := fun k hk => a1.2.2.2.2.1.2.2.2.2.2.2.1.1 k (by simp only [List.mem_cons, List.not_mem_nil, or_false] at hk ⊢; omega)
        have go : ∀ w3, ((gd = false ∧ w3 = w) ∨ (gd = true ∧ w3.1 72 ≠ 0 ∧ (∀ k, k ≠ 71 → k ≠ 72 → w3.1 k = w.1 k) ∧ w3.2.2.1 = w.2.2.1)) → PP (EXZ N m0 w0 K T nm Nk p n0 gd sc o NC0 mB wB) (lt (upI m 665 ((m.1 665) + 1)) (fun w4 => bTm ((hrc_Pa_matched N D).2.2.2.2.2.2.2.2.2.2.2.2.2.2.2.2.2.2.2 w4 0 6 21) (fun u5 r5 => bnd (hm_Tr_length N u5 r5) (fun u8 r8 => bnd (hm_Tr_add N u8 16 (m.1 665) r5 r8 0) (fun u10 r10 => br (decide (v3 = 0)) (ck (inb (I (ν : Nat)) 8016) (lt (upA u10 19 (upd (u10.2.2.1 19) (I (ν : Nat)).toNatClampNeg r10)) (fun w21 => hb_Pa_applied_136 N (hrc_Pa_matched N D) (hg_Pa_applied N (hrc_Pa_matched N D) M) w21 (I (ν : Nat)) (I (k : Nat)) (r10)))) (ck (inb v3 8016) (lt (upA u10 21 (upd (u10.2.2.1 21) v3.toNatClampNeg r10)) (fun w16 => hb_Pa_applied_136 N (hrc_Pa_matched N D) (hg_Pa_applied N (hrc_Pa_matched N D) M) w16 (I (ν : Nat)) (I (k : Nat)) (r10))))))))) (fb_M_primary_157 N (rc_M_behind N d) (gg_M_primary N (rc_M_behind N d) M') w3 (I (p : Nat))) := fun w3 h3 => by
          have f3 : (∀ k, k ≠ 71 → k ≠ 72 → w3.1 k = w.1 k) ∧ w3.2.2.1 = w.2.2.1 := by
            rcases h3 with ⟨-, rfl⟩ | ⟨-, -, z⟩
            · exact ⟨fun _ _ _ => rfl, rfl⟩
            · exact z
          have rl3 : RLP m0 w0 T q m w3 := by
            obtain ⟨b1, b2, b3, b4, b5, b6, b7⟩ := a1.1
            exact ⟨b1, Kt_tr b2 ⟨fun k hk => f3.1 k (by rintro rfl; revert hk; decide) (by rintro rfl; revert hk; decide), fun k hk => by rw [f3.2]⟩, b3, by rw [f3.1 69 (by decide) (by decide)]; exact b4, b5, by rw [f3.1 70 (by decide) (by decide)]; exact b6, by rw [f3.1 67 (by decide) (by decide)]; exact b7⟩
          unfold fb_M_primary_157
          refine l_lt ?_
          rw [hc.2.1, i_suc]
          cases D with
          | zero => exact pp_nl
          | succ D =>
            show PP _ (bTm (hm_Pa_rowUpTo N (hrc_Pa_matched N D) (advc m q) 0 6 21) _) _
            have nd3 : ND w3 := by
              obtain ⟨a, x, y⟩ := STQ_nd a1
              exact ⟨a, by rw [f3.1 32 (by decide) (by decide)]; exact x, y⟩
            refine pp_bTn (hA D m w3 q n sc2 gd (o + 1) rl3 na.2.1 (by omega) (WFP_rn (STQ_rn a1) (f3.1 65 (by decide) (by decide)) f3.2) nd3 (by rw [f3.1 70 (by decide) (by decide), w7 70 (by decide)]; exact h70) ho (by rw [f3.1 73 (by decide) (by decide), w7 73 (by decide)]; exact hg) k20) (fun m2 φ w2 _ qz => ?_) (fun m2 kk w2 _ qz => p157_f qz)
            obtain ⟨l, q1, e1, e84, hz⟩ := qz
            rw [e1]
            refine r_bnd (pk_mo (node_s (w := w2) (by decide)) (fun u r2 qn => ?_))
            obtain ⟨s1, u69, -, a, ha, hr2, h32, h23, hra⟩ := qn
            refine r_ck (fun _ => r_lt ?_)
            have nc : u.2.2.1 23 r2.toNatClampNeg ≠ 12 ∧ u.2.2.1 23 r2.toNatClampNeg ≠ 15 := by rw [hra, h23]; decide
            obtain ⟨n2, sc3, x1, x2, x3, x4, x5⟩ := APL_next (u := upA u 26 (upd (u.2.2.1 26) r2.toNatClampNeg (u.1 84))) c h hn0 k20 h3 hz (SMS_B s1 (Or.inr (Or.inl rfl)) nc) u69
            refine l_bnd (pk_mo (NXT_len x4) (fun u8 r8 e8 => ?_))
            obtain ⟨e8, e9⟩ := e8
            subst e8
            show PP _ (bnd (hm_Tr_add N u8 16 (I (q : Nat)) (I ((l.headD 0 : Nat) : Int)) r8 0) _) _
            rw [add_e x1 x2, bnd_s]
            obtain ⟨y1, y2⟩ := x5 (I (q : Nat)) r8
            unfold hb_Pa_applied_136
            have iν : (I (ν : Nat)).toNatClampNeg = ν := tnI rfl (by omega)
            rcases hv3 with ⟨z, rfl, -⟩ | ⟨z, rfl⟩
            · rw [show decide ((0 : Int32) = 0) = true from rfl, br_tq, iν, i_suc]
              refine l_ck (fun _ => l_lt ?_)
              refine ih M' _ _ q1 (n2 + 1) sc3 (la ++ [(n2 + 1, l)]) (k + 1) _ _ (y1 z) (by rw [List.length_append, List.length_singleton]; omega) (Or.inr ⟨by simp, ?_⟩)
              rw [getLastD_sn]
            · obtain ⟨d1, d2, d3⟩ := AR2_hd a10 z
              rw [I_n0 (by omega) (by omega), br_fq, tnI (n := (la.getLastD (0, [])).1) rfl (by omega), i_suc]
              refine l_ck (fun _ => l_lt ?_)
              refine ih M' _ _ q1 (n2 + 1) sc3 (la ++ [(n2 + 1, l)]) (k + 1) _ _ (y2 z) (by rw [List.length_append, List.length_singleton]; omega) (Or.inr ⟨by simp, ?_⟩)
              rw [getLastD_sn]
        refine r_br (fun z => ?_) (fun z => ?_)
        · rw [w7 73 (by decide), hg] at z
          exact go w (Or.inl ⟨(by cases gd <;> first | rfl | (cases z)), rfl⟩)
        · rw [w7 73 (by decide), hg] at z
          exact r_bnd (pk_mo (rule_p (by decide)) (fun v _ y => go v (Or.inr ⟨(by cases gd <;> first | rfl | (cases z)), y⟩)))
      · rw [decide_eq_false k20, br_fq, if_neg k20, show decide ((0 : Int32) = 0) = true from rfl, br_tq]
        have hla : la ≠ [] := by
          rcases hv3 with ⟨-, -, z⟩ | ⟨z, -⟩
          · exact absurd z k20
          · exact z
        exact pp_end (APL_end hn0 t4 h hla)
theorem app_pp (c : CTZ m0 w0 K T nm Nk) (c45 : ∀ p, p ≤ T → K p ≠ 45) (hA : HAg N m0 w0 K T nm Nk d) (hn0 : n0 ≤ 2 * p) (h70 : wB.1 70 = I ((o + 1 : Nat) : Int)) (ho : o + 1 ≤ 25) (hg : decide (wB.1 73 = 0) = !gd) {M : Nat} {ε r0 : Int32} (h : EXZ N m0 w0 K T nm Nk p n0 gd sc o NC0 mB wB m (.inl ε) w r0) : PP (EXZ N m0 w0 K T nm Nk p n0 gd sc o NC0 mB wB) (hm_Pa_applied N (hrc_Pa_matched N D) m ε) (gg_M_primary N (rc_M_behind N d) M w (I (p : Nat)) r) := by
  obtain ⟨q, n1, μ, sc1, X1, W, R1, Z1, CL1, e1, a2, a3, a4, a5, a6, a7, k, k1, k2, k3, k4, tok, htk1, htk⟩ := id h
  have hc := RLP_c c a4.1
  have hw := RLP_w c a4.1
  have h0 := a4.1.2.2.2.2.2.2
  have qT := a4.1.2.2.2.2.1
  have k46 := hc.1.1.k46 hc.2.2
  have t4 := c.1.1.1
  have na := a4.2.1
  unfold hm_Pa_applied hb_Pa_applied_0
  rw [look_e hc (c45 _ qT), bTm_l, I_dn (a := K q) (b := 20) (s := 20) (by omega) (by decide) rfl]
  by_cases k20 : K q = 20
  · rw [decide_eq_true k20, br_tq]
    refine l_ck (fun _ => ?_)
    rw [add_e na.2.1 (by omega), bnd_s, e1, tnI (n := μ) rfl (by omega), htk]
    have s2 := STQ_add (s := 0) (a := 15) (b := I (tok : Nat)) (c := I (μ : Nat)) (d := 0) (f := 0) a4
    have Ao := adN_o (m := m) (n := n1) (a := 15) (b := I (tok : Nat)) (c := I (μ : Nat)) (d := 0) (f := 0)
    have An := adN_nod (m := m) (n := n1) (a := 15) (b := I (tok : Nat)) (c := I (μ : Nat)) (d := 0) (f := 0)
    have kc : Kcc m (adN m n1 15 (I (tok : Nat)) (I (μ : Nat)) 0 0) := ⟨fun k hk => adN_i (by omega), fun k hk => adN_r (by omega)⟩
    generalize hA2 : adN m n1 15 (I (tok : Nat)) (I (μ : Nat)) 0 0 = A at s2 Ao An kc
    refine app_lp c c45 hA hn0 h70 ho hg N M A w q (n1 + 1) sc1 [] 0 0 r ?_ rfl (Or.inl ⟨rfl, rfl, k20⟩)
    refine ⟨n1, μ, tok, q, q, m, sc1, X1, 0, W, R1, false, R1, Z1, false, CL1, (fun _ => False), ?_, ⟨fun _ => (Bool.or_false _).symm, fun z => absurd rfl z⟩, ⟨a3, by show q + 2 * 0 ≤ q; omega, k20, Nat.le_refl _, fun j h1 h2 => absurd h2 (by omega)⟩, a6, ⟨fun j j1 j2 => ⟨(Ao j j2).1, fun _ => (Ao j j2).2⟩, kc⟩, ⟨a2.1, a2.2, by omega, Nat.le_refl _⟩, An.1, htk1, An.2, ⟨rfl, rfl, rfl, rfl, rfl, fun _ => BCo_no⟩, ⟨a4.2.2.2.2.1.2.2.2.1.1, SCX_len a4.2.2.2.2.1.2.1, a4.2.2.2.2.1.2.2.2.1.2⟩, a7, fun z => ?_⟩
    · rw [if_pos rfl, show max X1 0 = X1 by omega, Bool.or_false]
      exact STQ_cl (fun x => ⟨Or.inl, fun z => z.elim id False.elim⟩) s2
    · by_cases y : k = 1
      · obtain ⟨-, y2, -⟩ := k3 y
        rw [← y2]; exact Or.inr k20
      · exact k4 y z
  · rw [decide_eq_false k20, br_fq]
    cases M with
    | zero => exact pp_nr
    | succ M =>
      show PP _ _ (fb_M_primary_128 N (rc_M_behind N d) (gg_M_primary N (rc_M_behind N d) M) w (I (p : Nat)) r)
      unfold fb_M_primary_128 fb_M_primary_182
      rw [decide_eq_true h0, br_tq, isS_e (k := 20) (s := 0) hw (by decide) rfl, bnd_s, if_neg k20, show decide ((0 : Int32) = 0) = true from rfl, br_tq]
      exact pp_end h
end
end
section
set_option maxRecDepth 100000
def CTA (m0 w0 : MS) (K : Nat → Nat) (T : Nat) : Prop := ∀ j, j < T → K j = 1 ∨ K j = 2 → m0.2.2.1 7 j = w0.2.2.1 7 j
def HAl (N : Nat) (m0 w0 : MS) (K : Nat → Nat) (T : Nat) (nm Nk : Nat → Nat) (d : Nat) : Prop := ∀ (D : Nat) (m w : MS) (p n : Nat) (sc : SCT) (gd : Bool) (o : Nat), RLP m0 w0 T p m w → m.1 306 = I (n : Nat) → n ≤ 2 * p → RNs w sc → ND w → w.1 70 = I ((o + 1 : Nat) : Int) → o + 1 ≤ 25 → decide (w.1 73 = 0) = !gd → ¬ (K p = 2 ∧ K (p + 1) = 20) → PP (EXZ N m0 w0 K T nm Nk p n gd sc o NC0 m w) (hm_Pa_primary N (hrc_Pa_matched N D) m) ((rc_M_behind N d).2.2.2.2.2.2.2.2.1 w (I (p : Nat)))
def HRo (N : Nat) (m0 w0 : MS) (K : Nat → Nat) (T : Nat) (nm Nk : Nat → Nat) (d : Nat) : Prop := ∀ (D : Nat) (m w : MS) (p n : Nat) (sc : SCT) (gd : Bool) (o : Nat), RLP m0 w0 T p m w → m.1 306 = I (n : Nat) → n ≤ 2 * p → RNs w sc → ND w → w.1 70 = I ((o + 1 : Nat) : Int) → o + 1 ≤ 25 → decide (w.1 73 = 0) = !gd → (K p = 22 → PP (EXZ N m0 w0 K T nm Nk p n gd sc o NC0 m w) (hm_Pa_tuple N (hrc_Pa_matched N D) m 0) ((rc_M_behind N d).2.2.2.2.2.2.2.1 w (I (p : Nat)))) ∧ (K p = 24 → PP (EXZ N m0 w0 K T nm Nk p n gd sc o NC0 m w) (hm_Pa_list N (hrc_Pa_matched N D) m 0) ((rc_M_behind N d).2.2.2.2.2.2.2.1 w (I (p : Nat))))
def HPr (N : Nat) (m0 w0 : MS) (K : Nat → Nat) (T : Nat) (nm Nk : Nat → Nat) (d : Nat) : Prop := ∀ D, EXS N m0 w0 K T nm Nk 1 NC0 (fun m => bTm (hm_Pa_primary N (hrc_Pa_matched N D) m) (fun u r => hm_Pa_applied N (hrc_Pa_matched N D) u r)) ((rc_M_behind N d).2.2.2.2.2.2.2.2.2.2.1)
section
variable {m0 w0 m w v u mB wB m2 w2 m3 w3 mi : MS} {K nm Nk W W2 : Nat → Nat} {T p n N q X Y n2 p0 n0 n3 p2 ν μ κ o s L d D k q1 q2 lo li ni : Nat} {sc sc1 sc2 sc3 t : SCT} {gd Rf Zf Rg Zg : Bool} {l : List Nat} {r v1 v2 v3 v4 v5 x y : Int32} {CL CM : Int32 × Int32 × Int32 → Prop} {NC : Nat → Prop} {B1 B2 BC : MS → Prop}
theorem HRo_s (c : CTZ m0 w0 K T nm Nk) (c45 : ∀ p, p ≤ T → K p ≠ 45) (hE : HE N m0 w0 K T nm Nk d) : HRo N m0 w0 K T nm Nk (d + 1) := fun D m w p n sc gd o a1 a2 a3 a4 a5 a6 a7 a8 => ⟨fun z => tup_ex c c45 hE a1 a2 a3 a4 a5 a6 a7 a8 z, fun z => lst_ex c c45 hE a1 a2 a3 a4 a5 a6 a7 a8 z⟩
theorem bTm_id {β : Type} {o : Option (MS × (β ⊕ Nat))} : bTm o (fun u r => some (u, .inl r)) = o := by
  cases o with
  | none => rfl
  | some x => obtain ⟨a, b⟩ := x; cases b <;> rfl
theorem ERW_lo (hl : n ≤ lo) : ∀ {l : List Nat} {p p2 : Nat} {sc sc2 : SCT} {X : Nat} {Rf Zf : Bool} {BC : MS → Prop}, ERW N K nm gd m2 lo n2 W l p p2 sc sc2 X Rf Zf BC → ERW N K nm gd m2 n n2 W l p p2 sc sc2 X Rf Zf BC
  | [], _, _, _, _, _, _, _, _, h => h
  | ν :: l, p, p2, sc, sc2, X, Rf, Zf, BC, ⟨q, q2, sc1, X1, X2, R1, R2, Z1, Z2, B1, B2, h1, g1, ⟨mi, li, ni, h2, hx, a, b⟩, h3, h4, h5, h6, h7⟩ => ⟨q, q2, sc1, X1, X2, R1, R2, Z1, Z2, B1, B2, h1, g1, ⟨mi, li, ni, h2, hx, ⟨by omega, a.2⟩, b⟩, h3, h4, h5, ERW_lo hl h6, h7⟩
theorem call_r {R : MS → Int32 ⊕ Nat → MS → Int32 → Prop} {a : Option (MS × (Int32 ⊕ Nat))} {M : Nat} {S : SG_M_behind} (h : STW Nk K p p2 sc sc2 X W Rf Zf CL w v) (h7 : v.2.2.1 7 q = x) (h84 : v.1 84 = y) (hq : q ≤ 4001) (hg : decide (v.1 73 = 0) = !gd) (hG : ∀ u r, STW Nk K p p2 sc sc2 X W Rf Zf (fun z => CL z ∨ z = (x, y, b2c gd)) w u → (∀ k, k ≠ 32 → u.1 k = v.1 k) → (∀ k, k < 23 ∨ 30 < k → u.2.2.1 k = v.2.2.1 k) → PP R a (gg_M_primary N S M u (I (q : Nat)) r)) : PP R a (bnd (fm_M_node N v 12 (I (q : Nat))) (fun u10 r10 => ck (inb (I (q : Nat)) (ln 7)) (ck (inb r10 (ln 25)) (lt (upA u10 25 (upd (u10.2.2.1 25) r10.toNatClampNeg (u10.2.2.1 7 q))) (fun w11 => ck (inb r10 (ln 26)) (lt (upA w11 26 (upd (w11.2.2.1 26) r10.toNatClampNeg (w11.1 84))) (fun w12 => br (decide ((w12.1 73) = 0)) (fb_M_primary_118 N S (gg_M_primary N S M) w12 (I (q : Nat)) (r10) (27) (r10) (0)) (fb_M_primary_118 N S (gg_M_primary N S M) w12 (I (q : Nat)) (r10) (27) (r10) (1))))))))) := by
  refine r_bnd (pk_mo (node_p (w := v)) (fun u10 r10 q0 => ?_))
  obtain ⟨b, ⟨e1, e2, e3, e4⟩, e5, e6, e7, e8⟩ := q0
  have hra : r10.toNatClampNeg = b := by rw [e3]; exact tnI rfl (by omega)
  refine r_ck (fun _ => r_ck (fun _ => r_lt (r_ck (fun _ => r_lt ?_))))
  rw [hra, e8 7 (by omega), h7]
  generalize hw11 : upA u10 25 (upd (u10.2.2.1 25) b x) = w11
  have f84 : w11.1 84 = y := by rw [← hw11]; show u10.1 84 = y; rw [e7 84 (by decide)]; exact h84
  rw [f84]
  generalize hw12 : upA w11 26 (upd (w11.2.2.1 26) b y) = w12
  have f73 : w12.1 73 = v.1 73 := by rw [← hw12, ← hw11]; exact e7 73 (by decide)
  have fin : ∀ t : Int32, t = b2c gd → PP R a (fb_M_primary_118 N S (gg_M_primary N S M) w12 (I (q : Nat)) (r10) (27) (r10) t) := fun t ht => by
    unfold fb_M_primary_118
    refine r_ck (fun _ => r_ck (fun _ => r_lt ?_))
    rw [hra]
    generalize hu : upA w12 27 (upd (w12.2.2.1 27) b t) = u2
    have ui : ∀ k, k ≠ 32 → u2.1 k = v.1 k := fun k hk => by rw [← hu, ← hw12, ← hw11]; exact e7 k hk
    have ur : ∀ k, k < 23 ∨ 30 < k → u2.2.2.1 k = v.2.2.1 k := fun k hk => by
      rw [← hu, upA_no (by omega), ← hw12, upA_no (by omega), ← hw11, upA_no (by omega)]; exact e8 k hk
    have uj : ∀ k j, j ≠ b → u2.2.2.1 k j = v.2.2.1 k j := fun k j hj => by
      have one : ∀ (s : MS) (i : Nat) (y : Int32), (upA s i (upd (s.2.2.1 i) b y)).2.2.1 k j = s.2.2.1 k j := fun s i y => by
        by_cases e : k = i
        · subst e; rw [upA_at, upd_no hj]
        · rw [upA_no e]
      rw [← hu, one, ← hw12, one, ← hw11, one]
      exact e6 k j hj
    have u23 : u2.2.2.1 23 b = 12 := by
      rw [← hu, upA_no (by decide), ← hw12, upA_no (by decide), ← hw11, upA_no (by decide), e5]
      decide
    have u25 : u2.2.2.1 25 b = x := by rw [← hu, upA_no (by decide), ← hw12, upA_no (by decide), ← hw11, upA_at, upd_at]
    have u26 : u2.2.2.1 26 b = y := by rw [← hu, upA_no (by decide), ← hw12, upA_at, upd_at]
    have u27 : u2.2.2.1 27 b = b2c gd := by rw [← hu, upA_at, upd_at]; exact ht
    have u32 : u2.1 32 = I ((b + 1 : Nat) : Int) := by rw [← hu, ← hw12, ← hw11]; exact e4
    obtain ⟨a1, a2, a3, a4, a5, a6, a7, b0, b1, a8, a9, a10⟩ := h
    have eb : b1 = b := by
      have := a8.2.1.symm.trans e1
      have := (I_eq (x := (b1 : Nat)) (y := (b : Nat)) (by omega) (by omega) (by omega) (by omega)).mp this
      omega
    subst eb
    have nk : NKP b1 v u2 := fun j hj => ⟨uj 23 j (by omega), fun _ => ⟨uj 25 j (by omega), uj 26 j (by omega), uj 27 j (by omega)⟩⟩
    refine hG u2 r10 ⟨RNs_e a1 (ui 65 (by decide)) (fun k h1 h2 => ur k (by omega)), a2, a3, a4, by rw [ui 66 (by decide)]; exact a5, by rw [ui 72 (by decide)]; exact a6, WFE_tr a7 ⟨fun k hk => ui k (by rintro rfl; revert hk; decide), fun k hk => ur k (by omega), fun j _ => by rw [ur 74 (by omega)], fun j _ => by rw [ur 76 (by omega)], fun i i1 i2 j _ => by rw [ur i (by omega)]⟩, b0, b1 + 1, ⟨a8.1, u32, by omega, by omega⟩, fun z => ?_, NKP_tr a10 nk a8.2.2.1⟩ ui ur
    rw [CSY_split a8.2.2.1 (Nat.le_succ _), CSY_k nk, a9]
    constructor
    · rintro (z1 | ⟨j, j1, j2, j3, j4⟩)
      · exact Or.inl z1
      · have : j = b1 := by omega
        subst this
        refine Or.inr ?_
        rcases j2 with ⟨-, k2⟩ | ⟨k1, -⟩
        · obtain ⟨z1, z2, z3⟩ := z
          have j3 : _ = z1 := j3
          have j4 : _ = z2 := j4
          have k2 : z3 = _ := k2
          rw [← j3, ← j4, k2, u25, u26, u27]
          cases gd <;> rfl
        · rw [u23] at k1; exact absurd k1 (by decide)
    · rintro (z1 | rfl)
      · exact Or.inl z1
      · refine Or.inr ⟨b1, ⟨Nat.le_refl _, Nat.lt_succ_self _⟩, Or.inl ⟨u23, ?_⟩, u25, u26⟩
        rw [u27]
        cases gd <;> rfl
  refine r_br (fun z => fin 0 ?_) (fun z => fin 1 ?_)
  · rw [f73, hg] at z
    cases gd
    · rfl
    · cases z
  · rw [f73, hg] at z
    cases gd
    · cases z
    · rfl
end
end
section
set_option maxRecDepth 100000
def EXB (N : Nat) (m0 w0 : MS) (K : Nat → Nat) (T : Nat) (nm Nk : Nat → Nat) (p n : Nat) (sc : SCT) (o : Nat) (m w m2 : MS) (z : Int32 ⊕ Nat) (w2 : MS) (_ : Int32) : Prop := match z with
  | .inr _ => FLW w2
  | .inl ε => ∃ (p2 n2 ν : Nat) (sc2 : SCT) (X : Nat) (W : Nat → Nat) (Rf Zf : Bool) (CL : Int32 × Int32 × Int32 → Prop), ε = I (ν : Nat) ∧ (n < ν ∧ ν ≤ n2) ∧ p < p2 ∧ STQ m0 w0 K T Nk false m w p n sc 1 m2 w2 p2 n2 sc2 X W Rf Zf CL ∧ m2.2.2.1 21 ν = 0 ∧ (∀ gd, EXN N K nm gd m2 n n2 ν p p2 sc sc2 X W (gd || Rf) Zf (BCo N CL)) ∧ PTX N w0 K T nm Nk m2 n n2 ν p p2 o NC0 X ∧ ∃ k : Nat, m2.2.2.1 16 ν = I (k : Nat) ∧ k < 23 ∧ k ≠ 1 ∧ ∃ tok : Nat, tok ≤ 4000 ∧ m2.2.2.1 17 ν = I (tok : Nat)
def HBl (N : Nat) (m0 w0 : MS) (K : Nat → Nat) (T : Nat) (nm Nk : Nat → Nat) (d : Nat) : Prop := ∀ (D : Nat) (m w : MS) (p n : Nat) (sc : SCT) (o : Nat), RLP m0 w0 T p m w → m.1 306 = I (n : Nat) → n ≤ 2 * p → RNs w sc → ND w → w.1 70 = I ((o + 1 : Nat) : Int) → o + 1 ≤ 25 → w.1 73 = 0 → 5 ≤ K p → K p ≤ 19 → K p ≠ 12 → PP (EXB N m0 w0 K T nm Nk p n sc o m w) (hm_Pa_primary N (hrc_Pa_matched N D) m) ((rc_M_behind N d).2.2.2.2.2.1 w (I (p : Nat)))
def HFu (N : Nat) (m0 w0 : MS) (K : Nat → Nat) (T : Nat) (nm Nk : Nat → Nat) (d : Nat) : Prop := ∀ (D : Nat) (m w : MS) (p n : Nat) (sc : SCT) (o : Nat), RLP m0 w0 T p m w → m.1 306 = I (n : Nat) → n ≤ 2 * p → RNs w sc → ND w → w.1 70 = I ((o + 1 : Nat) : Int) → o + 1 ≤ 25 → w.1 73 = 0 → K p = 12 → PP (EXB N m0 w0 K T nm Nk p n sc o m w) (hm_Pa_primary N (hrc_Pa_matched N D) m) ((rc_M_behind N d).2.2.2.2.2.2.1 w (I (p : Nat)))
section
variable {m0 w0 m w v u mB wB m2 w2 m3 w3 mi : MS} {K nm Nk W W2 : Nat → Nat} {T p n N q X Y n2 p0 n0 n3 p2 ν μ κ o s L d D k q1 q2 lo li ni : Nat} {sc sc1 sc2 sc3 t : SCT} {gd Rf Zf Rg Zg : Bool} {l : List Nat} {r v1 v2 v3 v4 v5 x y : Int32} {CL CM : Int32 × Int32 × Int32 → Prop} {NC : Nat → Prop} {B1 B2 BC : MS → Prop}
theorem EXB_E {ε : Int32} {w1 : MS} (h : EXB N m0 w0 K T nm Nk p n sc o m w1 m2 (.inl ε) w2 r) (hw1 : ∃ v, w1 = upI v 73 0 ∧ ((gd = false ∧ v = w) ∨ (gd = true ∧ v.1 72 ≠ 0 ∧ (∀ k, k ≠ 71 → k ≠ 72 → v.1 k = w.1 k) ∧ v.2.2.1 = w.2.2.1))) (hR : RNs w sc) (nd : ND w) (hk : K p ≠ 1) (hy : y = w.1 73) : EXZ N m0 w0 K T nm Nk p n gd sc o NC0 m w m2 (.inl ε) (upI w2 73 y) v3 := by
  obtain ⟨p2, n2, ν, sc2, X, W, Rf, Zf, CL, a1, a2, a3, a4, a5, a6, a7, k, k1, k2, k3, k4⟩ := h
  obtain ⟨v, rfl, hv⟩ := hw1
  obtain ⟨b1, b2, b3, b4, b5, b6, b7⟩ := a4
  have v73 : v.1 73 = w.1 73 := by
    rcases hv with ⟨-, rfl⟩ | ⟨-, -, z, -⟩
    · rfl
    · exact z 73 (by decide) (by decide)
  have s1 := STW_k (k := 73) (Or.inr rfl) b5 (y := y) (by rw [v73]; exact hy)
  have s2 : STW Nk K p p2 sc sc2 X W (gd || Rf) Zf CL w (upI w2 73 y) := by
    rcases hv with ⟨rfl, rfl⟩ | ⟨rfl, z1, z2, z3⟩
    · exact s1
    · have s0 := STW_rule (STW_0 (Nk := Nk) (K := K) (p := p) (W := W) hR nd) z1 z2 z3
      have s3 := STW_tr (Nat.le_refl _) (Nat.le_of_lt a3) s0 s1
      rw [show max 0 X = X by omega, Bool.true_or, Bool.false_or] at s3
      rw [Bool.true_or]
      exact STW_cl (fun x => ⟨fun z => z.elim False.elim id, Or.inr⟩) s3
  obtain ⟨c1, c2, c3, c4, c5, c6, c7⟩ := b1
  have r1 : RLP m0 w0 T p2 m2 (upI w2 73 y) := ⟨c1, ⟨fun k hk => by rw [upI_ne (by rintro rfl; revert hk; decide)]; exact c2.1 k hk, c2.2⟩, c3, by rw [upI_ne (by decide)]; exact c4, c5, by rw [upI_ne (by decide)]; exact c6, by rw [upI_ne (by decide)]; exact c7⟩
  refine ⟨p2, n2, ν, sc2, X, W, gd || Rf, Zf, CL, a1, a2, a3, ⟨r1, b2, b3, b4, s2, fun g z => ?_, b7⟩, a5, a6 gd, a7, k, k1, k2, fun z => absurd z k3, fun _ z => absurd z hk, k4⟩
  rw [g] at z
  cases z
theorem al347 {t0 : Int32} {S : SG_M_behind} (h : FLW w) : PK (fun w2 (_ : Int32) => FLW w2) (fb_M_alone_347 N S () w v3 t0) := by
  unfold fb_M_alone_347 fb_M_alone_361
  exact pk_ck (fun _ => pk_ltq (pk_some (by show (upI w 73 v3).1 67 ≠ 0; rw [upI_ne (by decide)]; exact h)))
theorem wrd_ex (c : CTZ m0 w0 K T nm Nk) (hB : HBl N m0 w0 K T nm Nk d) (hF : HFu N m0 w0 K T nm Nk d) (h : RLP m0 w0 T p m w) (hn : m.1 306 = I (n : Nat)) (hn2 : n ≤ 2 * p) (hR : RNs w sc) (nd : ND w) (h70 : w.1 70 = I ((o + 1 : Nat) : Int)) (ho : o + 1 ≤ 25) (hk : 5 ≤ K p ∧ K p ≤ 19) (hv : (gd = false ∧ v = w) ∨ (gd = true ∧ v.1 72 ≠ 0 ∧ (∀ k, k ≠ 71 → k ≠ 72 → v.1 k = w.1 k) ∧ v.2.2.1 = w.2.2.1)) : PP (EXZ N m0 w0 K T nm Nk p n gd sc o NC0 m w) (hm_Pa_primary N (hrc_Pa_matched N D) m) (fb_M_alone_315 N (rc_M_behind N d) () v (I (p : Nat))) := by
  have f : (∀ k, k ≠ 71 → k ≠ 72 → v.1 k = w.1 k) ∧ v.2.2.1 = w.2.2.1 := by
    rcases hv with ⟨-, rfl⟩ | ⟨-, -, z⟩
    · exact ⟨fun _ _ _ => rfl, rfl⟩
    · exact z
  have Di : ∀ k, k ≠ 71 → k ≠ 72 → k ≠ 73 → (upI v 73 0).1 k = w.1 k := fun k h1 h2 h3 => by rw [upI_ne h3]; exact f.1 k h1 h2
  have rl : RLP m0 w0 T p m (upI v 73 0) := by
    obtain ⟨b1, b2, b3, b4, b5, b6, b7⟩ := h
    exact ⟨b1, Kt_tr b2 ⟨fun k hk => Di k (by rintro rfl; revert hk; decide) (by rintro rfl; revert hk; decide) (by rintro rfl; revert hk; decide), fun k hk => by show v.2.2.1 k = _; rw [f.2]⟩, b3, by rw [Di 69 (by decide) (by decide) (by decide)]; exact b4, b5, by rw [Di 70 (by decide) (by decide) (by decide)]; exact b6, by rw [Di 67 (by decide) (by decide) (by decide)]; exact b7⟩
  have nd1 : ND (upI v 73 0) := by
    obtain ⟨a, x, y⟩ := nd
    exact ⟨a, by rw [Di 32 (by decide) (by decide) (by decide)]; exact x, y⟩
  have rn1 : RNs (upI v 73 0) sc := WFP_rn hR (Di 65 (by decide) (by decide) (by decide)) f.2
  have d70 : (upI v 73 0).1 70 = I ((o + 1 : Nat) : Int) := by rw [Di 70 (by decide) (by decide) (by decide)]; exact h70
  have hw1 := RLP_w c rl
  have v73 : v.1 73 = w.1 73 := f.1 73 (by decide) (by decide)
  unfold fb_M_alone_315
  refine r_lt ?_
  rw [isV_e (k := 12) (s := 7) hw1 (by decide) rfl, bnd_s]
  have fin : ∀ {b : Option (MS × Int32)}, PP (EXB N m0 w0 K T nm Nk p n sc o m (upI v 73 0)) (hm_Pa_primary N (hrc_Pa_matched N D) m) b → PP (EXZ N m0 w0 K T nm Nk p n gd sc o NC0 m w) (hm_Pa_primary N (hrc_Pa_matched N D) m) (bnd b (fun u4 r4 => fb_M_alone_347 N (rc_M_behind N d) () u4 (v.1 73) (r4))) := fun {b} hb => by
    have := pp_bTn (R := EXZ N m0 w0 K T nm Nk p n gd sc o NC0 m w) (f := fun u r => some (u, .inl r)) (g := fun u4 r4 => fb_M_alone_347 N (rc_M_behind N d) () u4 (v.1 73) (r4)) hb (fun m2 ε w2 r2 q => ?_) (fun m2 kk w2 r2 q => al347 q)
    · rw [bTm_id] at this
      exact this
    · unfold fb_M_alone_347 fb_M_alone_361
      exact r_ck (fun _ => r_lt (pp_end (EXB_E (y := v.1 73) q ⟨v, rfl, hv⟩ hR nd (by omega) v73)))
  by_cases k12 : K p = 12
  · rw [if_pos k12, show decide ((1 : Int32) = 0) = false from rfl, br_fq]
    exact fin (hF D m _ p n sc o rl hn hn2 rn1 nd1 d70 ho upI_at k12)
  · rw [if_neg k12, show decide ((0 : Int32) = 0) = true from rfl, br_tq]
    exact fin (hB D m _ p n sc o rl hn hn2 rn1 nd1 d70 ho upI_at hk.1 hk.2 k12)
theorem pr_leaf (h : CP m K T p) (c45 : K p ≠ 45) (hk : K p = 1 ∨ K p = 3 ∨ K p = 4) {SC : SF_Pa_matched} : hm_Pa_primary N SC m = bnd (hm_Pa_leaf N m) (fun u3 r3 => some (u3, .inl r3)) := by
  unfold hm_Pa_primary hb_Pa_primary_0
  rw [look_e h c45, bTm_l]
  rcases hk with hk | hk | hk
  · rw [hk, show decide (I ((1 : Nat) : Int) = 1) = true from rfl, br_tq]
  · rw [hk, show decide (I ((3 : Nat) : Int) = 1) = false from rfl, br_fq, show decide (I ((3 : Nat) : Int) = 2) = false from rfl, br_fq, show decide (I ((3 : Nat) : Int) = 3) = true from rfl, br_tq]
  · rw [hk, show decide (I ((4 : Nat) : Int) = 1) = false from rfl, br_fq, show decide (I ((4 : Nat) : Int) = 2) = false from rfl, br_fq, show decide (I ((4 : Nat) : Int) = 3) = false from rfl, br_fq, show decide (I ((4 : Nat) : Int) = 4) = true from rfl, br_tq]
theorem pr_none (h : CP m K T p) (c45 : K p ≠ 45) (hk : K p = 0 ∨ K p = 21 ∨ K p = 23 ∨ 25 ≤ K p) {SC : SF_Pa_matched} : RFS (hm_Pa_primary N SC m) := by
  have k46 := h.1.1.k46 h.2.2
  unfold hm_Pa_primary hb_Pa_primary_0
  rw [look_e h c45, bTm_l]
  have rf : ∀ {α β : Type} {f : MS → Unit → Option (MS × (α ⊕ Nat))}, RFS (bTm (hm_Pa_refuse N m 2) f) := fun {α β f} => RFS_T (rfs_e h)
  rcases hk with hk | hk | hk | hk
  · rw [hk, show decide (I ((0 : Nat) : Int) = 1) = false from rfl, br_fq, show decide (I ((0 : Nat) : Int) = 2) = false from rfl, br_fq, show decide (I ((0 : Nat) : Int) = 3) = false from rfl, br_fq, show decide (I ((0 : Nat) : Int) = 4) = false from rfl, br_fq, show decide (I ((0 : Nat) : Int) = 5) = false from rfl, br_fq, show decide (I ((0 : Nat) : Int) = 6) = false from rfl, br_fq, show decide (I ((0 : Nat) : Int) = 7) = false from rfl, br_fq, show decide (I ((0 : Nat) : Int) = 8) = false from rfl, br_fq, show decide (I ((0 : Nat) : Int) = 9) = false from rfl, br_fq, show decide (I ((0 : Nat) : Int) = 10) = false from rfl, br_fq, show decide (I ((0 : Nat) : Int) = 11) = false from rfl, br_fq, show decide (I ((0 : Nat) : Int) = 12) = false from rfl, br_fq, show decide (I ((0 : Nat) : Int) = 13) = false from rfl, br_fq, show decide (I ((0 : Nat) : Int) = 14) = false from rfl, br_fq, show decide (I ((0 : Nat) : Int) = 15) = false from rfl, br_fq, show decide (I ((0 : Nat) : Int) = 16) = false from rfl, br_fq, show decide (I ((0 : Nat) : Int) = 17) = false from rfl, br_fq, show decide (I ((0 : Nat) : Int) = 18) = false from rfl, br_fq, show decide (I ((0 : Nat) : Int) = 19) = false from rfl, br_fq, show decide (I ((0 : Nat) : Int) = 20) = false from rfl, br_fq, show decide (I ((0 : Nat) : Int) = 21) = false from rfl, br_fq, show decide (I ((0 : Nat) : Int) = 22) = false from rfl, br_fq, show decide (I ((0 : Nat) : Int) = 23) = false from rfl, br_fq, show decide (I ((0 : Nat) : Int) = 24) = false from rfl, br_fq]
    exact RFS_T (rfs_e h)
  · rw [hk, show decide (I ((21 : Nat) : Int) = 1) = false from rfl, br_fq, show decide (I ((21 : Nat) : Int) = 2) = false from rfl, br_fq, show decide (I ((21 : Nat) : Int) = 3) = false from rfl, br_fq, show decide (I ((21 : Nat) : Int) = 4) = false from rfl, br_fq, show decide (I ((21 : Nat) : Int) = 5) = false from rfl, br_fq, show decide (I ((21 : Nat) : Int) = 6) = false from rfl, br_fq, show decide (I ((21 : Nat) : Int) = 7) = false from rfl, br_fq, show decide (I ((21 : Nat) : Int) = 8) = false from rfl, br_fq, show decide (I ((21 : Nat) : Int) = 9) = false from rfl, br_fq, show decide (I ((21 : Nat) : Int) = 10) = false from rfl, br_fq, show decide (I ((21 : Nat) : Int) = 11) = false from rfl, br_fq, show decide (I ((21 : Nat) : Int) = 12) = false from rfl, br_fq, show decide (I ((21 : Nat) : Int) = 13) = false from rfl, br_fq, show decide (I ((21 : Nat) : Int) = 14) = false from rfl, br_fq, show decide (I ((21 : Nat) : Int) = 15) = false from rfl, br_fq, show decide (I ((21 : Nat) : Int) = 16) = false from rfl, br_fq, show decide (I ((21 : Nat) : Int) = 17) = false from rfl, br_fq, show decide (I ((21 : Nat) : Int) = 18) = false from rfl, br_fq, show decide (I ((21 : Nat) : Int) = 19) = false from rfl, br_fq, show decide (I ((21 : Nat) : Int) = 20) = false from rfl, br_fq, show decide (I ((21 : Nat) : Int) = 21) = true from rfl, br_tq]
    exact RFS_T (rfs_e h)
  · rw [hk, show decide (I ((23 : Nat) : Int) = 1) = false from rfl, br_fq, show decide (I ((23 : Nat) : Int) = 2) = false from rfl, br_fq, show decide (I ((23 : Nat) : Int) = 3) = false from rfl, br_fq, show decide (I ((23 : Nat) : Int) = 4) = false from rfl, br_fq, show decide (I ((23 : Nat) : Int) = 5) = false from rfl, br_fq, show decide (I ((23 : Nat) : Int) = 6) = false from rfl, br_fq, show decide (I ((23 : Nat) : Int) = 7) = false from rfl, br_fq, show decide (I ((23 : Nat) : Int) = 8) = false from rfl, br_fq, show decide (I ((23 : Nat) : Int) = 9) = false from rfl, br_fq, show decide (I ((23 : Nat) : Int) = 10) = false from rfl, br_fq, show decide (I ((23 : Nat) : Int) = 11) = false from rfl, br_fq, show decide (I ((23 : Nat) : Int) = 12) = false from rfl, br_fq, show decide (I ((23 : Nat) : Int) = 13) = false from rfl, br_fq, show decide (I ((23 : Nat) : Int) = 14) = false from rfl, br_fq, show decide (I ((23 : Nat) : Int) = 15) = false from rfl, br_fq, show decide (I ((23 : Nat) : Int) = 16) = false from rfl, br_fq, show decide (I ((23 : Nat) : Int) = 17) = false from rfl, br_fq, show decide (I ((23 : Nat) : Int) = 18) = false from rfl, br_fq, show decide (I ((23 : Nat) : Int) = 19) = false from rfl, br_fq, show decide (I ((23 : Nat) : Int) = 20) = false from rfl, br_fq, show decide (I ((23 : Nat) : Int) = 21) = false from rfl, br_fq, show decide (I ((23 : Nat) : Int) = 22) = false from rfl, br_fq, show decide (I ((23 : Nat) : Int) = 23) = true from rfl, br_tq]
    exact RFS_T (rfs_e h)
  · have no : ∀ j : Nat, j < 25 → ∀ s : Int32, s = I (j : Nat) → decide (I (K p : Nat) = s) = false := fun j hj s hs => by
      rw [I_dn (a := K p) (b := j) (by omega) (by omega) hs]
      exact decide_eq_false (by omega)
    rw [no 1 (by decide) 1 rfl, br_fq, no 2 (by decide) 2 rfl, br_fq, no 3 (by decide) 3 rfl, br_fq, no 4 (by decide) 4 rfl, br_fq, no 5 (by decide) 5 rfl, br_fq, no 6 (by decide) 6 rfl, br_fq, no 7 (by decide) 7 rfl, br_fq, no 8 (by decide) 8 rfl, br_fq, no 9 (by decide) 9 rfl, br_fq, no 10 (by decide) 10 rfl, br_fq, no 11 (by decide) 11 rfl, br_fq, no 12 (by decide) 12 rfl, br_fq, no 13 (by decide) 13 rfl, br_fq, no 14 (by decide) 14 rfl, br_fq, no 15 (by decide) 15 rfl, br_fq, no 16 (by decide) 16 rfl, br_fq, no 17 (by decide) 17 rfl, br_fq, no 18 (by decide) 18 rfl, br_fq, no 19 (by decide) 19 rfl, br_fq, no 20 (by decide) 20 rfl, br_fq, no 21 (by decide) 21 rfl, br_fq, no 22 (by decide) 22 rfl, br_fq, no 23 (by decide) 23 rfl, br_fq, no 24 (by decide) 24 rfl, br_fq]
    exact RFS_T (rfs_e h)
theorem HAl_s (c : CTZ m0 w0 K T nm Nk) (c45 : ∀ p, p ≤ T → K p ≠ 45) (hE : HE N m0 w0 K T nm Nk d) (hRo : HRo N m0 w0 K T nm Nk d) (hB : HBl N m0 w0 K T nm Nk d) (hF : HFu N m0 w0 K T nm Nk d) : HAl N m0 w0 K T nm Nk (d + 1) := by
  intro D m w p n sc gd o h hn hn2 hR nd h70 ho hg hnc
  show PP _ _ (fm_M_alone N (rc_M_behind N d) w (I (p : Nat)))
  have hc := RLP_c c h
  have hw := RLP_w c h
  have t4 := c.1.1.1
  have pT := h.2.2.2.2.1
  have k45 := c45 p pT
  have h0 := h.2.2.2.2.2.2
  have k46 := hc.1.1.k46 hc.2.2
  by_cases k4 : K p = 1 ∨ K p = 2 ∨ K p = 3 ∨ K p = 4
  · have hl : p < T := TWK_lt c pT (by omega) (by omega)
    obtain ⟨mf, f1, f2, f3, f4, f5, f6, f7, f8⟩ := lf_f (N := N) hc hl hn (by omega)
    have cls : (K p = 2 → ∃ D', D = D' + 1) → hm_Pa_primary N (hrc_Pa_matched N D) m = some (mf, .inl (I ((n + 1 : Nat) : Int))) := fun hD => by
      by_cases k2 : K p = 2
      · obtain ⟨D', rfl⟩ := hD k2
        unfold hm_Pa_primary hb_Pa_primary_0
        rw [look_e hc k45, bTm_l, k2, show decide (I ((2 : Nat) : Int) = 1) = false from rfl, br_fq, show decide (I ((2 : Nat) : Int) = 2) = true from rfl, br_tq]
        show bTm (hm_Pa_atomOrCall N (hrc_Pa_matched N D') m) _ = _
        unfold hm_Pa_atomOrCall hb_Pa_atomOrCall_0
        rw [f1, bnd_s, look_e f8 (c45 _ hl), bTm_l]
        have k46b := f8.1.1.k46 f8.2.2
        rw [I_dn (a := K (p + 1)) (b := 20) (s := 20) (by omega) (by decide) rfl, decide_eq_false (fun z => hnc ⟨k2, z⟩), br_fq, bTm_l]
      · clear hD
        rw [pr_leaf hc k45 (by omega), f1, bnd_s]
    by_cases hD : K p = 2 ∧ D = 0
    · obtain ⟨k2, rfl⟩ := hD
      unfold hm_Pa_primary hb_Pa_primary_0
      rw [look_e hc k45, bTm_l, k2, show decide (I ((2 : Nat) : Int) = 1) = false from rfl, br_fq, show decide (I ((2 : Nat) : Int) = 2) = true from rfl, br_tq]
      exact pp_nl
    · rw [cls (fun k2 => by
        cases D with
        | zero => exact absurd ⟨k2, rfl⟩ hD
        | succ D => exact ⟨D, rfl⟩)]
      refine pp_l ?_
      rcases k4 with k4 | k4 | k4 | k4
      · exact ex_lit c h hn hn2 hR nd (by omega) (Or.inl k4) f2 f3 f4 f5 f6 f7
      · exact ex_lit c h hn hn2 hR nd (by omega) (Or.inr k4) f2 f3 f4 f5 f6 f7
      · exact ex_name c h hn hn2 hR nd (by omega) k4 f2 f3 f4 f5 f6 f7
      · exact ex_str c h hn hn2 hR nd (by omega) hg k4 f2 f3 f4 f5 f6 f7
  · by_cases k20 : K p = 20
    · exact grp_ex c c45 hE h hn hn2 hR nd h70 ho hg k20
    · refine alone_r hw h0 (by omega) ?_
      rw [if_neg k20, if_neg k20]
      unfold alB
      rw [show decide ((0 : Int32) = 0) = true from rfl, br_tq, isS_e (k := 22) (s := 2) hw (by decide) rfl, bnd_s]
      by_cases k22 : K p = 22
      · rw [if_pos k22, show decide ((1 : Int32) = 0) = false from rfl, br_fq]
        unfold hm_Pa_primary hb_Pa_primary_0 fb_M_alone_270 fb_M_alone_361
        rw [look_e hc k45, bTm_l, k22, show decide (I ((22 : Nat) : Int) = 1) = false from rfl, br_fq, show decide (I ((22 : Nat) : Int) = 2) = false from rfl, br_fq, show decide (I ((22 : Nat) : Int) = 3) = false from rfl, br_fq, show decide (I ((22 : Nat) : Int) = 4) = false from rfl, br_fq, show decide (I ((22 : Nat) : Int) = 5) = false from rfl, br_fq, show decide (I ((22 : Nat) : Int) = 6) = false from rfl, br_fq, show decide (I ((22 : Nat) : Int) = 7) = false from rfl, br_fq, show decide (I ((22 : Nat) : Int) = 8) = false from rfl, br_fq, show decide (I ((22 : Nat) : Int) = 9) = false from rfl, br_fq, show decide (I ((22 : Nat) : Int) = 10) = false from rfl, br_fq, show decide (I ((22 : Nat) : Int) = 11) = false from rfl, br_fq, show decide (I ((22 : Nat) : Int) = 12) = false from rfl, br_fq, show decide (I ((22 : Nat) : Int) = 13) = false from rfl, br_fq, show decide (I ((22 : Nat) : Int) = 14) = false from rfl, br_fq, show decide (I ((22 : Nat) : Int) = 15) = false from rfl, br_fq, show decide (I ((22 : Nat) : Int) = 16) = false from rfl, br_fq, show decide (I ((22 : Nat) : Int) = 17) = false from rfl, br_fq, show decide (I ((22 : Nat) : Int) = 18) = false from rfl, br_fq, show decide (I ((22 : Nat) : Int) = 19) = false from rfl, br_fq, show decide (I ((22 : Nat) : Int) = 20) = false from rfl, br_fq, show decide (I ((22 : Nat) : Int) = 21) = false from rfl, br_fq, show decide (I ((22 : Nat) : Int) = 22) = true from rfl, br_tq, bTm_id]
        cases D with
        | zero => exact pp_nl
        | succ D =>
          have e : ∀ b : Option (MS × Int32), bnd b (fun u6 r6 => some (u6, r6)) = b := fun b => by cases b <;> rfl
          rw [e]
          exact (hRo D m w p n sc gd o h hn hn2 hR nd h70 ho hg).1 k22
      · rw [if_neg k22, show decide ((0 : Int32) = 0) = true from rfl, br_tq, isS_e (k := 24) (s := 4) hw (by decide) rfl, bnd_s]
        by_cases k24 : K p = 24
        · rw [if_pos k24, show decide ((1 : Int32) = 0) = false from rfl, br_fq]
          unfold hm_Pa_primary hb_Pa_primary_0 fb_M_alone_270 fb_M_alone_361
          rw [look_e hc k45, bTm_l, k24, show decide (I ((24 : Nat) : Int) = 1) = false from rfl, br_fq, show decide (I ((24 : Nat) : Int) = 2) = false from rfl, br_fq, show decide (I ((24 : Nat) : Int) = 3) = false from rfl, br_fq, show decide (I ((24 : Nat) : Int) = 4) = false from rfl, br_fq, show decide (I ((24 : Nat) : Int) = 5) = false from rfl, br_fq, show decide (I ((24 : Nat) : Int) = 6) = false from rfl, br_fq, show decide (I ((24 : Nat) : Int) = 7) = false from rfl, br_fq, show decide (I ((24 : Nat) : Int) = 8) = false from rfl, br_fq, show decide (I ((24 : Nat) : Int) = 9) = false from rfl, br_fq, show decide (I ((24 : Nat) : Int) = 10) = false from rfl, br_fq, show decide (I ((24 : Nat) : Int) = 11) = false from rfl, br_fq, show decide (I ((24 : Nat) : Int) = 12) = false from rfl, br_fq, show decide (I ((24 : Nat) : Int) = 13) = false from rfl, br_fq, show decide (I ((24 : Nat) : Int) = 14) = false from rfl, br_fq, show decide (I ((24 : Nat) : Int) = 15) = false from rfl, br_fq, show decide (I ((24 : Nat) : Int) = 16) = false from rfl, br_fq, show decide (I ((24 : Nat) : Int) = 17) = false from rfl, br_fq, show decide (I ((24 : Nat) : Int) = 18) = false from rfl, br_fq, show decide (I ((24 : Nat) : Int) = 19) = false from rfl, br_fq, show decide (I ((24 : Nat) : Int) = 20) = false from rfl, br_fq, show decide (I ((24 : Nat) : Int) = 21) = false from rfl, br_fq, show decide (I ((24 : Nat) : Int) = 22) = false from rfl, br_fq, show decide (I ((24 : Nat) : Int) = 23) = false from rfl, br_fq, show decide (I ((24 : Nat) : Int) = 24) = true from rfl, br_tq, bTm_id]
          cases D with
          | zero => exact pp_nl
          | succ D =>
            have e : ∀ b : Option (MS × Int32), bnd b (fun u6 r6 => some (u6, r6)) = b := fun b => by cases b <;> rfl
            rw [e]
            exact (hRo D m w p n sc gd o h hn hn2 hR nd h70 ho hg).2 k24
        · rw [if_neg k24, show decide ((0 : Int32) = 0) = true from rfl, br_tq]
          refine r_ck (fun _ => ?_)
          rw [(WP_i hw).2.1, (WP_i hw).2.2]
          by_cases kw : 5 ≤ K p ∧ K p ≤ 19
          · rw [decide_eq_true ((srK_3 (K p) k46).mpr kw), br_tq]
            refine r_br (fun z => ?_) (fun z => ?_)
            · rw [hg] at z
              exact wrd_ex c hB hF h hn hn2 hR nd h70 ho kw (Or.inl ⟨(by cases gd <;> first | rfl | (cases z)), rfl⟩)
            · rw [hg] at z
              have gT : gd = true := by cases gd <;> first | rfl | (cases z)
              rw [isV_e (k := 14) (s := 9) hw (by decide) rfl, bnd_s]
              by_cases k14 : K p = 14
              · rw [if_pos k14, show decide ((1 : Int32) = 0) = false from rfl, br_fq]
                have rf : RFS (hm_Pa_primary N (hrc_Pa_matched N D) m) := by
                  unfold hm_Pa_primary hb_Pa_primary_0
                  rw [look_e hc k45, bTm_l, k14, show decide (I ((14 : Nat) : Int) = 1) = false from rfl, br_fq, show decide (I ((14 : Nat) : Int) = 2) = false from rfl, br_fq, show decide (I ((14 : Nat) : Int) = 3) = false from rfl, br_fq, show decide (I ((14 : Nat) : Int) = 4) = false from rfl, br_fq, show decide (I ((14 : Nat) : Int) = 5) = false from rfl, br_fq, show decide (I ((14 : Nat) : Int) = 6) = false from rfl, br_fq, show decide (I ((14 : Nat) : Int) = 7) = false from rfl, br_fq, show decide (I ((14 : Nat) : Int) = 8) = false from rfl, br_fq, show decide (I ((14 : Nat) : Int) = 9) = false from rfl, br_fq, show decide (I ((14 : Nat) : Int) = 10) = false from rfl, br_fq, show decide (I ((14 : Nat) : Int) = 11) = false from rfl, br_fq, show decide (I ((14 : Nat) : Int) = 12) = false from rfl, br_fq, show decide (I ((14 : Nat) : Int) = 13) = false from rfl, br_fq, show decide (I ((14 : Nat) : Int) = 14) = true from rfl, br_tq]
                  exact RFS_T (rfs_e hc)
                obtain ⟨mx, ex⟩ := rf
                have q := wrd_ex (D := D) (gd := false) c hB hF h hn hn2 hR nd h70 ho kw (Or.inl ⟨rfl, rfl⟩)
                exact pp_rf ⟨mx, ex⟩ (fun mm w2 r2 e2 => q mx (.inr 3) w2 r2 ex e2)
              · rw [if_neg k14, show decide ((0 : Int32) = 0) = true from rfl, br_tq]
                exact r_bnd (pk_mo (rule_p (by decide)) (fun v _ y => wrd_ex c hB hF h hn hn2 hR nd h70 ho kw (Or.inr ⟨gT, y⟩)))
          · rw [decide_eq_false (fun z => kw ((srK_3 (K p) k46).mp z)), br_fq]
            refine pp_rf (pr_none hc k45 (by omega)) (fun mm => ?_)
            unfold fb_M_alone_361
            exact pk_bnd (fun v r z => pk_some (wrong_s (u0 := w) (by decide) v r z))
end
end
