set_option maxRecDepth 100000
section
variable {m0 w0 m w v u m1 m2 m3 w2 mf : MS} {K nm Nk W : Nat → Nat} {T p n N q X n2 lo p2 ν μ x o : Nat} {sc sc1 sc2 t : SCT} {gd : Bool} {NC : Nat → Prop} {S : SG_M_behind} {SC : SF_Pa_matched} {v1 : Int32}
theorem lf_f (h : CP m K T p) (hl : p < T) (hn : m.1 306 = I (n : Nat)) (h8 : n + 1 < 8016) : ∃ mf, hm_Pa_leaf N m = some (mf, I ((n + 1 : Nat) : Int)) ∧ PCG m mf ∧ KPO n m mf ∧ mf.1 306 = I ((n + 1 : Nat) : Int) ∧ mf.1 665 = I ((p + 1 : Nat) : Int) ∧ nod mf (n + 1) = (I (K p : Nat), I (p : Nat), m.2.2.1 7 p, 0, 0) ∧ mf.2.2.1 21 (n + 1) = 0 ∧ CP mf K T (p + 1) := by
  refine ⟨_, lf_e h hn h8, PCG_I (PCG_add PCG_rf) (Or.inr (Or.inr rfl)), fun j hj => adN_o j hj, ?_, upI_at, adN_nod.1, adN_nod.2, ⟨h.1.1, fun j hj => ?_⟩, upI_at, hl⟩
  · rw [upI_ne (by decide)]; exact adN_n
  · show (adN _ _ _ _ _ _ _).2.2.1 6 j = _
    rw [adN_r (by decide)]; exact h.1.2 j hj
theorem RLP_go (h : RLP m0 w0 T p m w) (hp : p < T) (hm : PCG m mf) (h5 : mf.1 665 = I ((p + 1 : Nat) : Int)) (hk : Ktc w w2) (h9 : w2.1 69 = I ((p + 1 : Nat) : Int)) (h70 : w2.1 70 = w.1 70) (h67 : w2.1 67 = w.1 67) : RLP m0 w0 T (p + 1) mf w2 := ⟨Kc_tr h.1 (PCG_k hm), Kt_tr h.2.1 hk, h5, h9, hp, by rw [hm.1 666 (by decide), h70]; exact h.2.2.2.2.2.1, by rw [h67]; exact h.2.2.2.2.2.2⟩
theorem SMS_k (h : SMS w v) : Ktc w v := ⟨fun j hj => h.1 j (by unfold TIN at hj; unfold SMI; simp only [List.mem_cons, List.not_mem_nil, or_false] at hj ⊢; omega), fun j hj => h.2.1 j (by unfold TRW at hj; unfold SMX; simp only [List.mem_cons, List.not_mem_nil, or_false] at hj; omega)⟩
theorem EXN_no {gd Rf Zf : Bool} (h : EXN N K nm gd m2 lo n2 ν p p2 sc sc2 X W Rf Zf (fun _ => False)) : EXN N K nm gd m2 lo n2 ν p p2 sc sc2 X W Rf Zf (BCo N (fun _ => False)) := EXN_bc (fun m => ⟨fun z => (BCo_no z).elim, fun z => z.elim⟩) h
theorem decT {a : Int32} {b : Bool} (h : decide (a = 0) = !b) : b = true → a ≠ 0 := by
  rintro rfl; exact of_decide_eq_false h
theorem decF {a : Int32} {b : Bool} (h : decide (a = 0) = !b) : b = false → a = 0 := by
  rintro rfl; exact of_decide_eq_true h
theorem ex_end {k : Nat} {Rf : Bool} (c : CTZ m0 w0 K T nm Nk) (h : RLP m0 w0 T p m w) (hl : p < T) (hn2 : n ≤ 2 * p) (hm : PCG m mf) (ho : KPO n m mf) (hn : mf.1 306 = I ((n + 1 : Nat) : Int)) (h5 : mf.1 665 = I ((p + 1 : Nat) : Int)) (hR : RNs w sc) (nd : ND w) (s1 : SMS w u) (ru : (Rf = false ∧ v = u) ∨ (Rf = true ∧ v.1 72 ≠ 0 ∧ (∀ k, k ≠ 71 → k ≠ 72 → v.1 k = u.1 k) ∧ v.2.2.1 = u.2.2.1)) (s2 : SMS v w2) (h9 : w2.1 69 = I ((p + 1 : Nat) : Int)) (hk3 : K p ≠ 3) (hgd : gd = true → Rf = false → True) (h21 : mf.2.2.1 21 (n + 1) = 0) (hE : EXN N K nm gd mf n (n + 1) (n + 1) p (p + 1) sc sc 0 (fun _ => 32) Rf false (fun _ => False)) (hX : PTX N w0 K T nm Nk mf n (n + 1) (n + 1) p (p + 1) o NC 0) (hK : mf.2.2.1 16 (n + 1) = I (k : Nat) ∧ k < 23 ∧ (k = 1 ↔ K p = 1)) (h17 : mf.2.2.1 17 (n + 1) = I (p : Nat)) {r : Int32} : EXZ N m0 w0 K T nm Nk p n gd sc o NC m w mf (.inl (I ((n + 1 : Nat) : Int))) w2 r := by
  have gp : ∀ j, p ≤ j → j < p + 1 → K j ≠ 3 := fun j h1 h2 => by rw [show j = p by omega]; exact hk3
  have st : STW Nk K p p sc sc 0 (fun _ => 32) Rf false (fun _ => False) w v ∧ Ktc u v ∧ v.1 70 = u.1 70 ∧ v.1 67 = u.1 67 := by
    have s0 := STW_s (STW_0 (Nk := Nk) (K := K) (p := p) (W := fun _ => 32) hR nd) s1
    rcases ru with ⟨rfl, rfl⟩ | ⟨rfl, r1, r2, r3⟩
    · exact ⟨s0, Kt_rf, rfl, rfl⟩
    · exact ⟨STW_rule s0 r1 r2 r3, ⟨fun k hk => r2 k (by rintro rfl; revert hk; decide) (by rintro rfl; revert hk; decide), fun k hk => by rw [r3]⟩, r2 70 (by decide) (by decide), r2 67 (by decide) (by decide)⟩
  refine ⟨p + 1, n + 1, n + 1, sc, 0, fun _ => 32, Rf, false, fun _ => False, rfl, ⟨by omega, Nat.le_refl _⟩, by omega, ⟨RLP_go h hl hm h5 (Kt_tr (SMS_k s1) (Kt_tr st.2.1 (SMS_k s2))) h9 (by rw [s2.1 70 (by decide), st.2.2.1, s1.1 70 (by decide)]) (by rw [s2.1 67 (by decide), st.2.2.2, s1.1 67 (by decide)]), ⟨by omega, hn, by omega, by omega⟩, ho, hm, STW_gap (STW_s st.1 s2) ⟨Nat.le_refl _, by omega⟩ (fun j h1 h2 => absurd h2 (by omega)) gp, fun _ _ => rfl, SNW_rf⟩, h21, EXN_no hE, hX, k, hK.1, hK.2.1, fun z => ⟨hK.2.2.mp z, rfl, rfl⟩, fun z y => absurd (hK.2.2.mpr y) z, p, by have := c.1.1.1; omega, h17⟩
theorem nod_17 {a b c d f : Int32} (h : nod m ν = (a, b, c, d, f)) : m.2.2.1 17 ν = b := congrArg (fun z => z.2.1) h
theorem nod_16 {a b c d f : Int32} (h : nod m ν = (a, b, c, d, f)) : m.2.2.1 16 ν = a := congrArg (fun z => z.1) h
theorem ex_lit (c : CTZ m0 w0 K T nm Nk) (h : RLP m0 w0 T p m w) (hn : m.1 306 = I (n : Nat)) (hn2 : n ≤ 2 * p) (hR : RNs w sc) (nd : ND w) (ho : o < 25) (hk : K p = 1 ∨ K p = 2) (hm : PCG m mf) (hko : KPO n m mf) (hmn : mf.1 306 = I ((n + 1 : Nat) : Int)) (hm5 : mf.1 665 = I ((p + 1 : Nat) : Int)) (hx : nod mf (n + 1) = (I (K p : Nat), I (p : Nat), m.2.2.1 7 p, 0, 0)) (h21 : mf.2.2.1 21 (n + 1) = 0) : PK (fun w2 r => EXZ N m0 w0 K T nm Nk p n gd sc o NC m w mf (.inl (I ((n + 1 : Nat) : Int))) w2 r) (fm_M_alone N S w (I (p : Nat))) := by
  have hw := RLP_w c h
  have hl : p < T := TWK_lt c h.2.2.2.2.1 (by omega) (by omega)
  have t4 := c.1.1.1
  have fin : PK (fun w2 r => EXZ N m0 w0 K T nm Nk p n gd sc o NC m w mf (.inl (I ((n + 1 : Nat) : Int))) w2 r) (fb_M_alone_28 N S () w (I (p : Nat))) := by
    unfold fb_M_alone_28 fb_M_alone_58 fb_M_alone_361
    refine pk_bnd (pk_mo (node_s (w := w) (by decide)) (fun u r q => ?_))
    obtain ⟨s1, u69, -, a, ha, hr, h32, h23, hra⟩ := q
    refine pk_ck (fun _ => ?_)
    have go : ∀ y : Int32, PK (fun w2 r => EXZ N m0 w0 K T nm Nk p n gd sc o NC m w mf (.inl (I ((n + 1 : Nat) : Int))) w2 r) (ck (isK 25 4) (ck (inb r (ln 25)) (lt (upA u 25 (upd (u.2.2.1 25) r.toNatClampNeg y)) (fun w13 => ck (inb (w13.1 69) (ln 7)) (ck (inb r (ln 26)) (lt (upA w13 26 (upd (w13.2.2.1 26) r.toNatClampNeg (w13.2.2.1 7 (w13.1 69).toNatClampNeg))) (fun w14 => lt (upI w14 69 ((w14.1 69) + 1)) (fun w15 => some (w15, r))))))))) := fun y => by
      refine pk_ck (fun _ => pk_ck (fun _ => pk_lt (pk_ck (fun _ => pk_ck (fun _ => pk_lt (pk_lt (pk_some ?_)))))))
      have nc : u.2.2.1 23 r.toNatClampNeg ≠ 12 ∧ u.2.2.1 23 r.toNatClampNeg ≠ 15 := by rw [hra, h23]; decide
      have s2 := SMS_B (x := y) (SMS_rf (w := u)) (Or.inl rfl) nc
      have s3 := SMS_I (x := ((upA (upA u 25 (upd (u.2.2.1 25) r.toNatClampNeg y)) 26 (upd ((upA u 25 (upd (u.2.2.1 25) r.toNatClampNeg y)).2.2.1 26) r.toNatClampNeg ((upA u 25 (upd (u.2.2.1 25) r.toNatClampNeg y)).2.2.1 7 ((upA u 25 (upd (u.2.2.1 25) r.toNatClampNeg y)).1 69).toNatClampNeg))).1 69) + 1) (k := 69) (SMS_B (x := (upA u 25 (upd (u.2.2.1 25) r.toNatClampNeg y)).2.2.1 7 ((upA u 25 (upd (u.2.2.1 25) r.toNatClampNeg y)).1 69).toNatClampNeg) (k := 26) s2 (Or.inr (Or.inl rfl)) (by rw [upA_no (by decide)]; exact nc)) (by decide) (by decide)
      refine ex_end (u := u) (v := u) (k := K p) (Rf := false) c h hl hn2 hm hko hmn hm5 hR nd s1 (Or.inl ⟨rfl, rfl⟩) s3 ?_ (by omega) (fun _ _ => trivial) h21 (exn_lit (k := K p) hx (by omega) (Nat.le_refl _) (by omega) hk (fun j h1 h2 => by rw [show j = p by omega]; omega)) (PTX_leaf hx (by omega) (Nat.le_refl _) (by omega) (by omega) hl ho) ⟨nod_16 hx, by omega, Iff.rfl⟩ (nod_17 hx)
      rw [upI_at]
      show u.1 69 + 1 = _
      rw [u69, hw.2.1, i_suc]
    exact pk_br (fun _ => go 0) (fun _ => go 1)
  show PK _ (fb_M_alone_0 N S () w (I (p : Nat)))
  unfold fb_M_alone_0
  refine pk_ck (fun _ => ?_)
  rw [(WP_i hw).2.1, srt_dc hw srK_4, srt_dc hw srK_1]
  refine pk_br (fun _ => fin) (fun z => pk_ck (fun _ => ?_))
  have z := of_decide_eq_false z
  rw [decide_eq_true (show K p = 2 by omega), br_tq]
  exact fin
theorem ex_str (c : CTZ m0 w0 K T nm Nk) (h : RLP m0 w0 T p m w) (hn : m.1 306 = I (n : Nat)) (hn2 : n ≤ 2 * p) (hR : RNs w sc) (nd : ND w) (ho : o < 25) (hg : decide (w.1 73 = 0) = !gd) (hk : K p = 4) (hm : PCG m mf) (hko : KPO n m mf) (hmn : mf.1 306 = I ((n + 1 : Nat) : Int)) (hm5 : mf.1 665 = I ((p + 1 : Nat) : Int)) (hx : nod mf (n + 1) = (I (K p : Nat), I (p : Nat), m.2.2.1 7 p, 0, 0)) (h21 : mf.2.2.1 21 (n + 1) = 0) : PK (fun w2 r => EXZ N m0 w0 K T nm Nk p n gd sc o NC m w mf (.inl (I ((n + 1 : Nat) : Int))) w2 r) (fm_M_alone N S w (I (p : Nat))) := by
  have hw := RLP_w c h
  have hl : p < T := TWK_lt c h.2.2.2.2.1 (by omega) (by omega)
  have t4 := c.1.1.1
  have fin : ∀ v, ((gd = false ∧ v = w) ∨ (gd = true ∧ v.1 72 ≠ 0 ∧ (∀ k, k ≠ 71 → k ≠ 72 → v.1 k = w.1 k) ∧ v.2.2.1 = w.2.2.1)) → PK (fun w2 r => EXZ N m0 w0 K T nm Nk p n gd sc o NC m w mf (.inl (I ((n + 1 : Nat) : Int))) w2 r) (fb_M_alone_114 N S () v (I (p : Nat))) := fun v hv => by
    have v69 : v.1 69 = w.1 69 := by
      rcases hv with ⟨-, rfl⟩ | ⟨-, -, z, -⟩
      · rfl
      · exact z 69 (by decide) (by decide)
    unfold fb_M_alone_114 fb_M_alone_361
    refine pk_bnd (pk_mo (node_s (w := v) (by decide)) (fun u r q => ?_))
    obtain ⟨s1, u69, -, a, ha, hr, h32, h23, hra⟩ := q
    refine pk_ck (fun _ => pk_ck (fun _ => pk_lt (pk_lt (pk_some ?_))))
    have nc : u.2.2.1 23 r.toNatClampNeg ≠ 12 ∧ u.2.2.1 23 r.toNatClampNeg ≠ 15 := by rw [hra, h23]; decide
    have s3 := SMS_I (x := (upA u 25 (upd (u.2.2.1 25) r.toNatClampNeg (u.2.2.1 7 (u.1 69).toNatClampNeg))).1 69 + 1) (k := 69) (SMS_B (x := u.2.2.1 7 (u.1 69).toNatClampNeg) (k := 25) s1 (Or.inl rfl) nc) (by decide) (by decide)
    rw [hk] at hx
    refine ex_end (u := w) (v := v) (k := 4) (Rf := gd) c h hl hn2 hm hko hmn hm5 hR nd SMS_rf hv s3 ?_ (by omega) (fun _ _ => trivial) h21 (exn_str hx (by omega) (Nat.le_refl _) (by omega) (by omega) (fun j h1 h2 => by rw [show j = p by omega]; omega)) (PTX_leaf (by rw [hk]; exact hx) (by omega) (Nat.le_refl _) (by omega) (by omega) hl ho) ⟨nod_16 hx, by decide, by omega⟩ (nod_17 hx)
    rw [upI_at]
    show u.1 69 + 1 = _
    rw [u69, v69, hw.2.1, i_suc]
  show PK _ (fb_M_alone_0 N S () w (I (p : Nat)))
  unfold fb_M_alone_0
  refine pk_ck (fun _ => ?_)
  rw [(WP_i hw).2.1, srt_dc hw srK_4, srt_dc hw srK_1, srt_dc hw srK_5, decide_eq_false (show ¬ K p = 1 by omega), br_fq]
  refine pk_ck (fun _ => ?_)
  rw [decide_eq_false (show ¬ K p = 2 by omega), br_fq]
  refine pk_ck (fun _ => ?_)
  rw [decide_eq_true hk, br_tq]
  cases gd with
  | false =>
    rw [decide_eq_true (decF hg rfl), br_tq]
    exact fin w (Or.inl ⟨rfl, rfl⟩)
  | true =>
    rw [decide_eq_false (decT hg rfl), br_fq]
    exact pk_bnd (pk_mo (rule_p (by decide)) (fun v _ z => fin v (Or.inr ⟨rfl, z⟩)))
theorem ex_name (c : CTZ m0 w0 K T nm Nk) (h : RLP m0 w0 T p m w) (hn : m.1 306 = I (n : Nat)) (hn2 : n ≤ 2 * p) (hR : RNs w sc) (nd : ND w) (ho : o < 25) (hk : K p = 3) (hm : PCG m mf) (hko : KPO n m mf) (hmn : mf.1 306 = I ((n + 1 : Nat) : Int)) (hm5 : mf.1 665 = I ((p + 1 : Nat) : Int)) (hx : nod mf (n + 1) = (I (K p : Nat), I (p : Nat), m.2.2.1 7 p, 0, 0)) (h21 : mf.2.2.1 21 (n + 1) = 0) : PK (fun w2 r => EXZ N m0 w0 K T nm Nk p n gd sc o NC m w mf (.inl (I ((n + 1 : Nat) : Int))) w2 r) (fm_M_alone N S w (I (p : Nat))) := by
  have hw := RLP_w c h
  have hl : p < T := TWK_lt c h.2.2.2.2.1 (by omega) (by omega)
  have t4 := c.1.1.1
  obtain ⟨a7, b7, hx1, hu⟩ := c.2.2.2 p hl hk
  have w7 : w.2.2.1 7 p = I (Nk p : Nat) := by rw [h.2.1.2 7 (by decide)]; exact b7
  have m7 : m.2.2.1 7 p = I (nm (Nk p) : Nat) := by rw [h.1.2 7 (by decide)]; exact a7
  rw [hk, m7] at hx
  have ok := hR.2.2.2
  have sl := hR.2.1
  have ne : sc ≠ [] := fun z => by rw [z] at sl; exact absurd sl.1 (by decide)
  have fin : ∀ (v : MS) (r y : Int32) (a : Nat), r.toNatClampNeg = a → v.2.2.1 23 a = vp_nar .byte ((3 : Int32).toInt8.toInt32) → v.1 69 = w.1 69 → v.1 70 = w.1 70 → v.1 67 = w.1 67 → Ktc w v → ((y = -1 ∧ (nm (Nk p) = 0 ∨ fnb (Nk p) sc = false) ∧ STW Nk K p p sc sc 0 (fun _ => 32) false false (fun _ => False) w v) ∨ (y ≠ -1 ∧ nm (Nk p) ≠ 0 ∧ fnb (Nk p) sc = true ∧ STW Nk K p (p + 1) sc (hld (Nk p) sc) 0 (fun _ => lvx (Nk p) sc) false false (fun _ => False) w v)) → PK (fun w2 r => EXZ N m0 w0 K T nm Nk p n gd sc o NC m w mf (.inl (I ((n + 1 : Nat) : Int))) w2 r) (fb_M_alone_201 N S () v (I (p : Nat)) r y) := fun v r y a hra h23 v69 v70 v67 kv hv => by
    have tail : ∀ (v : MS) (sc2 : SCT) (W : Nat → Nat) (Rf : Bool), v.2.2.1 23 a = vp_nar .byte ((3 : Int32).toInt8.toInt32) → v.1 69 = w.1 69 → v.1 70 = w.1 70 → v.1 67 = w.1 67 → Ktc w v → STW Nk K p (p + 1) sc sc2 0 W Rf false (fun _ => False) w v → (sc2 = if nm (Nk p) ≠ 0 ∧ fnb (Nk p) sc = true then hld (Nk p) sc else sc) → Rf = (!(decide (nm (Nk p) ≠ 0) && fnb (Nk p) sc)) → (nm (Nk p) ≠ 0 → fnb (Nk p) sc = true → W p = lvx (Nk p) sc) → PK (fun w2 r => EXZ N m0 w0 K T nm Nk p n gd sc o NC m w mf (.inl (I ((n + 1 : Nat) : Int))) w2 r) (fb_M_alone_213 N S () v r y) := fun v sc2 W Rf h23 v69 v70 v67 kv st e2 eR hW => by
      unfold fb_M_alone_213 fb_M_alone_361
      refine pk_ck (fun _ => pk_lt (pk_lt (pk_some ?_)))
      have nc : v.2.2.1 23 r.toNatClampNeg ≠ 12 ∧ v.2.2.1 23 r.toNatClampNeg ≠ 15 := by rw [hra, h23]; decide
      have s3 := SMS_I (x := (upA v 25 (upd (v.2.2.1 25) r.toNatClampNeg y)).1 69 + 1) (k := 69) (SMS_B (x := y) (k := 25) (SMS_rf (w := v)) (Or.inl rfl) nc) (by decide) (by decide)
      have sn : SNW 0 sc sc2 := by
        rw [e2]
        split
        · exact SNW_nm (BDs_nm hld_BD)
        · exact SNW_rf
      have tt : tot sc2 = tot sc := by
        rw [e2]
        split
        · exact tot_hld
        · rfl
      refine ⟨p + 1, n + 1, n + 1, sc2, 0, W, Rf, false, fun _ => False, rfl, ⟨by omega, Nat.le_refl _⟩, by omega, ⟨RLP_go h hl hm hm5 (Kt_tr kv (SMS_k s3)) ?_ (by rw [s3.1 70 (by decide), v70]) (by rw [s3.1 67 (by decide), v67]), ⟨by omega, hmn, by omega, by omega⟩, hko, hm, STW_s st s3, fun _ _ => tt, sn⟩, h21, ?_, PTX_name c hx (by omega) (Nat.le_refl _) (by omega) hk hl ho, 3, nod_16 hx, by decide, fun z => absurd z (by decide), fun _ z => by omega, p, by omega, nod_17 hx⟩
      · rw [upI_at]
        show v.1 69 + 1 = _
        rw [v69, hw.2.1, i_suc]
      · rw [e2, eR]
        exact EXN_no (exn_name c.2.2.1 hx (by omega) (Nat.le_refl _) (by omega) (by omega) ok hx1 hk hW)
    unfold fb_M_alone_201
    rcases hv with ⟨rfl, hf, st⟩ | ⟨hy, hf0, hf, st⟩
    · rw [show decide ((-1 : Int32) = -1) = true from rfl, br_tq]
      refine pk_bnd (pk_mo (rule_p (w := v) (by decide)) (fun v2 _ z => ?_))
      obtain ⟨z1, z2, z3⟩ := z
      have gp : ∀ j, p ≤ j → j < p + 1 → K j = 3 → sc.length ≤ (fun _ => 32) j + 1 := fun j _ _ _ => by show sc.length ≤ 33; omega
      have st2 := STW_rule st z1 z2 z3
      obtain ⟨b1, b2, b3, b4, b5⟩ := st2
      refine tail v2 sc (fun _ => 32) true (by rw [z3]; exact h23) (by rw [z2 69 (by decide) (by decide)]; exact v69) (by rw [z2 70 (by decide) (by decide)]; exact v70) (by rw [z2 67 (by decide) (by decide)]; exact v67) (Kt_tr kv ⟨fun k hk => z2 k (by rintro rfl; revert hk; decide) (by rintro rfl; revert hk; decide), fun k hk => by rw [z3]⟩) ⟨b1, b2, HDs_no (fun j a b c => ⟨gp j a b c, Nat.le_refl _⟩), ⟨by omega, b4.2⟩, b5⟩ ?_ ?_ ?_
      · rw [if_neg]
        rintro ⟨i, j⟩
        rcases hf with hf | hf
        · exact i hf
        · rw [hf] at j; cases j
      · rcases hf with hf | hf
        · rw [hf]; rfl
        · rw [hf, Bool.and_false]; rfl
      · intro i j
        rcases hf with hf | hf
        · exact absurd hf i
        · rw [hf] at j; cases j
    · rw [decide_eq_false hy, br_fq]
      refine tail v _ _ false h23 v69 v70 v67 kv st ?_ ?_ (fun _ _ => rfl)
      · rw [if_pos ⟨hf0, hf⟩]
      · rw [hf, decide_eq_true hf0]; rfl
  show PK _ (fb_M_alone_0 N S () w (I (p : Nat)))
  unfold fb_M_alone_0
  refine pk_ck (fun _ => ?_)
  rw [(WP_i hw).2.1, srt_dc hw srK_4, srt_dc hw srK_1, srt_dc hw srK_5, srt_dc hw srK_2, decide_eq_false (show ¬ K p = 1 by omega), br_fq]
  refine pk_ck (fun _ => ?_)
  rw [decide_eq_false (show ¬ K p = 2 by omega), br_fq]
  refine pk_ck (fun _ => ?_)
  rw [decide_eq_false (show ¬ K p = 4 by omega), br_fq]
  refine pk_ck (fun _ => ?_)
  rw [decide_eq_true hk, br_tq]
  refine pk_bnd (pk_mo (node_s (w := w) (by decide)) (fun u r q => ?_))
  obtain ⟨s1, u69, -, a, ha, hr, h32, h23, hra⟩ := q
  have hu69 : u.1 69 = I (p : Nat) := by rw [u69]; exact hw.2.1
  have u7 : u.2.2.1 7 p = I (Nk p : Nat) := by rw [s1.2.1 7 (by unfold SMX; omega)]; exact w7
  have hu2 : UND u (Nk p) ↔ nm (Nk p) = 0 := by
    unfold UND at hu ⊢
    rw [s1.2.1 16 (by unfold SMX; omega), s1.2.1 15 (by unfold SMX; omega), h.2.1.2 16 (by decide), h.2.1.2 15 (by decide)]
    exact hu
  have st0 := STW_s (STW_0 (Nk := Nk) (K := K) (p := p) (W := fun _ => 32) hR nd) s1
  rw [hu69]
  refine pk_bnd (pk_mo (und_p hx1 (by omega) u7) (fun u2 r2 q2 => ?_))
  obtain ⟨rfl, q2⟩ := q2
  rcases q2 with ⟨rfl, q2⟩ | ⟨rfl, q2⟩
  · rw [show decide ((1 : Int32) = 0) = false from rfl, br_fq]
    exact fin u2 r (-1) a hra h23 u69 (s1.1 70 (by decide)) (s1.1 67 (by decide)) (SMS_k s1) (Or.inl ⟨rfl, Or.inl (hu2.mp q2), st0⟩)
  · rw [show decide ((0 : Int32) = 0) = true from rfl, br_tq]
    refine pk_ck (fun _ => ?_)
    have nz : nm (Nk p) ≠ 0 := fun z => q2 (hu2.mpr z)
    have rn := st0.1
    rw [hu69, tnI (n := p) rfl (by omega), u7, rn.1]
    refine pk_bnd (pk_mo (fnd_d (N := N) hx1 _ sc u2 rn.2.2.1 ok ne sl.2) (fun u3 r3 q3 => ?_))
    rcases q3 with ⟨rfl, e3, hf⟩ | ⟨h3, hf, f1, f2, f3⟩
    · rw [e3]
      exact fin u2 r (-1) a hra h23 u69 (s1.1 70 (by decide)) (s1.1 67 (by decide)) (SMS_k s1) (Or.inl ⟨rfl, Or.inr hf, st0⟩)
    · have rn3 : RNs u3 (hld (Nk p) sc) := ⟨by rw [f1.1 65, hld_len]; exact rn.1, by rw [hld_len]; exact sl, f3, hld_ok ok⟩
      obtain ⟨b1, b2, b3, b4, b5, b6, b7, a0, b0, b8, b9, b10⟩ := st0
      have row : ∀ k, k < 61 ∨ 64 ≤ k → u3.2.2.1 k = u2.2.2.1 k := f1.2
      refine fin u3 r r3 a hra (by rw [row 23 (by omega)]; exact h23) (by rw [f1.1 69]; exact u69) (by rw [f1.1 70]; exact s1.1 70 (by decide)) (by rw [f1.1 67]; exact s1.1 67 (by decide)) (Kt_tr (SMS_k s1) ⟨fun k _ => f1.1 k, fun k hk => row k (by unfold TRW at hk; simp only [List.mem_cons, List.not_mem_nil, or_false] at hk; omega)⟩) (Or.inr ⟨h3, nz, hf, ?_⟩)
      refine ⟨rn3, hld_SCX ne, hld_HD rfl hk (by omega) ok hf rfl, ⟨by rw [tot_hld]; omega, by omega⟩, by rw [f1.1 66]; exact b5, by rw [f1.1 72]; exact b6, WFE_tr b7 ⟨fun k _ => f1.1 k, fun k hk => row k (by omega), fun j _ => by rw [row 74 (by omega)], fun j _ => by rw [row 76 (by omega)], fun i i1 i2 j _ => by rw [row i (by omega)]⟩, a0, b0, ⟨b8.1, by rw [f1.1 32]; exact b8.2.1, b8.2.2⟩, fun x => ?_, ?_⟩
      · rw [← b9]; unfold CSY; rw [row 23 (by omega), row 25 (by omega), row 26 (by omega), row 27 (by omega)]
      · unfold NKP; rw [row 23 (by omega), row 25 (by omega), row 26 (by omega), row 27 (by omega)]; exact b10
end
