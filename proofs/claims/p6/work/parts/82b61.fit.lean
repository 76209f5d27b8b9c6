set_option maxRecDepth 100000
section
variable {T : Nat → Option (Nat × Nat × List Nat × Nat × Nat)} {Fv : Int64 → Int64 → Prop} {P : Int64 → Prop} {u v w w1 : MS} {PR N q r n B W Y i h m g x j wb nb cb rk c f i2 h2 m2 k a U d b e : Nat} {L : List Nat} {ow kd : Nat → Nat} {t rest : Int64} {gi gl ga ki kl ka kj : List Nat}
theorem PTc_le : ∀ {f i b e : Nat}, PTc u f i b e → i ≤ e
  | 0, _, _, _, z => z.elim
  | f + 1, i, b, e, z => by
    unfold PTc at z
    rcases z with z | z | ⟨-, n, -, -, z⟩ | z | ⟨-, c, -, z⟩ | z | ⟨-, -, z⟩ | z
    · omega
    · have := PTc_le z.2; omega
    · have := PTc_le z; omega
    · have := PTc_le z.2; omega
    · have := PTc_le z; omega
    · have := PTc_le z.2; omega
    · have := PTc_le z; omega
    · have := PTc_le z.2; omega
theorem pair_at {hh : Nat → Int64} (g : HPc hh n ow kd Fv P) (gt : GT n ow kd P t) (e7 : so t = 7) : va t = ((vn t : Nat) : Int) ∧ vn t + 2 ≤ n ∧ GT n ow kd P (hh (vn t)) ∧ GT n ow kd P (hh (vn t + 1)) := by
  have hH : isH t := Or.inr (Or.inr e7)
  have hb2 : blk hh t = 2 := by unfold blk; rw [if_pos e7]
  have hp : prt t = 0 := by unfold prt; rw [if_pos e7]
  obtain ⟨bk, b2⟩ := HP_bkc g hH gt
  have hbl := bk.2.2.2.1
  rw [hb2] at hbl b2
  rw [hp] at b2
  exact ⟨vn_e bk.1, hbl, b2 0 (by omega) (by omega), b2 1 (by omega) (by omega)⟩
theorem tup_at {hh : Nat → Int64} (g : HPc hh n ow kd Fv P) (gt : GT n ow kd P t) (e5 : so t = 5) : va t = ((vn t : Nat) : Int) ∧ va (hh (vn t)) = ((vn (hh (vn t)) : Nat) : Int) ∧ vn t + (1 + vn (hh (vn t))) ≤ n ∧ ∀ j, 1 ≤ j → j ≤ vn (hh (vn t)) → GT n ow kd P (hh (vn t + j)) := by
  have hH : isH t := Or.inr (Or.inl e5)
  have hb2 : blk hh t = 1 + vn (hh (vn t)) := by unfold blk; rw [if_neg (by omega), if_pos e5]
  have hp : prt t = 1 := by unfold prt; rw [if_neg (by omega), if_pos e5]
  obtain ⟨bk, b2⟩ := HP_bkc g hH gt
  have hbl := bk.2.2.2.1
  rw [hb2] at hbl b2
  rw [hp] at b2
  exact ⟨vn_e bk.1, vn_e (bk.2.1 e5).1, hbl, fun j h1 h2 => b2 j h1 (by omega)⟩
theorem fun_at {hh : Nat → Int64} (g : HPc hh n ow kd Fv P) (gt : GT n ow kd P t) (e3 : so t = 3) : va t = ((vn t : Nat) : Int) ∧ Fv (hh (vn t)) (hh (vn t + 1)) ∧ va (hh (vn t + 1)) = ((vn (hh (vn t + 1)) : Nat) : Int) ∧ vn t + (2 + vn (hh (vn t + 1))) ≤ n ∧ ∀ j, j < vn (hh (vn t + 1)) → GT n ow kd P (hh (vn t + 2 + j)) := by
  have hH : isH t := Or.inl e3
  have hb2 : blk hh t = 2 + vn (hh (vn t + 1)) := by unfold blk; rw [if_neg (by omega), if_neg (by omega), if_pos e3]
  have hp : prt t = 2 := by unfold prt; rw [if_neg (by omega), if_neg (by omega)]
  obtain ⟨bk, b2⟩ := HP_bkc g hH gt
  have hbl := bk.2.2.2.1
  rw [hb2] at hbl b2
  rw [hp] at b2
  refine ⟨vn_e bk.1, (bk.2.2.1 e3).2, vn_e (bk.2.2.1 e3).1, hbl, fun j h2 => ?_⟩
  have := b2 (2 + j) (by omega) (by omega)
  rw [show vn t + (2 + j) = vn t + 2 + j by omega] at this
  exact this
theorem fitsString_ok {cnt : Nat} (p : PTQ u q n ow kd Fv P B W Y) (gt : GT n ow kd P t) (e1 : A u 23 (i + 1) = ((cnt : Nat) : Int)) (hc : cnt ≤ 40) (hi : i + 1 < 24000) (hN : 100 ≤ N) : OK (fun w _ => w = u) (hm_Ma_fitsString N u q (I ((i : Nat) : Int)) t) := by
  have pn := p.1.2.1
  unfold hm_Ma_fitsString hb_Ma_fitsString_0
  have gen : ∀ (K d : Nat) (t : Int64), d ≤ cnt → cnt - d < K → GT n ow kd P t → OK (fun w (_ : Int32) => w = u) (hg_Ma_fitsString N K u q (I ((i : Nat) : Int)) t (I ((cnt : Nat) : Int)) (I ((d : Nat) : Int))) := by
    intro K
    induction K with
    | zero => intro d _ _ hK; omega
    | succ K ih =>
      intro d t hd hK gt
      show OK _ (hb_Ma_fitsString_18 N (hg_Ma_fitsString N K) u q (I ((i : Nat) : Int)) t (I ((cnt : Nat) : Int)) (I ((d : Nat) : Int)))
      unfold hb_Ma_fitsString_18 hb_Ma_fitsString_107
      refine k_le ⟨by omega, by omega⟩ ⟨by omega, by omega⟩ (fun hh => ?_) (fun hh => ?_)
      · rw [e_tag, bnd_so]
        exact ok_br.mpr ⟨fun _ => ok_ck.mpr ⟨by decide, ok_some.mpr rfl⟩, fun _ => ok_ck.mpr ⟨by decide, ok_some.mpr rfl⟩⟩
      · rw [e_tag, bnd_so, I_lit (n := 7)]
        refine k_eq (so_r _) ⟨by decide, by decide⟩ (fun e7 => ?_) (fun _ => ok_ck.mpr ⟨by decide, ok_some.mpr rfl⟩)
        obtain ⟨a1, a2, a3, a4⟩ := pair_at p.1.2.2 gt e7
        rw [valI, a1]
        refine e_in ⟨by omega, by omega⟩ (by decide) ?_
        obtain ⟨r, hr⟩ := Co_any (N := N) (u := u) (I ((i : Nat) : Int) + 2 + I ((d : Nat) : Int))
        rw [hr, bnd_so, lit0q, I_of r, e_make, bnd_so]
        refine ok_br.mpr ⟨fun _ => ?_, fun _ => ok_ck.mpr ⟨by decide, ok_some.mpr rfl⟩⟩
        rw [lit1q, I_add]
        refine e_in ⟨by omega, by omega⟩ (by decide) ?_
        rw [tnI (n := vn t + 1) (by omega) (by omega), I_add, show ((d : Nat) : Int) + 1 = ((d + 1 : Nat) : Int) by omega]
        exact ih (d + 1) _ (by omega) (by omega) a4
  rw [lit1q, I_add, Co_e (k := i + 1) (by omega) hi, bnd_so, e1, lit0q, show (0 : Int) = ((0 : Nat) : Int) from rfl]
  exact gen N 0 t (by omega) (by omega) gt
def FIQ (Fv : Int64 → Int64 → Prop) (P : Int64 → Prop) (q n : Nat) (ow kd : Nat → Nat) (B W Y b e : Nat) (u w : MS) (r : Int32) : Prop := FNc q u w ∧ LNB w q ∧ ∃ B2, PTQ w q n ow kd Fv P B2 W Y ∧ B ≤ B2 ∧ (r = I (-1) ∨ (r = I ((e + 1 : Nat) : Int) ∧ B2 = B + b))
theorem bind_t {y : Int} (p : PTQ u q n ow kd Fv P B W Y) (ln : LNB u q) (hB : B < 4096) (gt : GT n ow kd P t) : OK (fun w _ => FNc q u w ∧ PTQ w q n ow kd Fv P (B + 1) W Y ∧ LNB w q ∧ w.2.2.2 44 = u.2.2.2 44 ∧ w.2.2.2 (pq q 2) = u.2.2.2 (pq q 2)) (hm_Fr_bind N u q (I y) t) := by
  obtain ⟨⟨p1, p2, p3⟩, ⟨p4, p5⟩, ⟨p6, p7⟩, ⟨p8, p9⟩, ⟨l, a1, a2⟩, ⟨l2, b1, b2⟩, c⟩ := p
  refine ok_mono (bind_n (N := N) (t := t) p4 ln (by omega) hB) (fun w _ hw => ?_)
  obtain ⟨f, e, l3, l4, r, o⟩ := hw
  obtain ⟨l5, l6, l6b, l7, l8⟩ := LNB_43 l3
  refine ⟨FNc.of f (by simp) (by simp) (by simp) (by simp) (by simp) (by simp) (by simp), ⟨⟨by rw [f.Fq (by omega) (by simp)]; exact p1, p2, by rw [f.jq (by omega) (by simp)]; exact p3⟩, ⟨e, fun i hi => ?_⟩, ⟨by rw [f.Fq (by omega) (by simp)]; exact p6, by rw [f.jq (by omega) (by simp)]; exact p7⟩, ⟨by rw [f.Fq (by omega) (by simp)]; exact p8, by rw [f.jq (by omega) (by simp)]; exact p9⟩, ⟨l5, l6, by omega, by omega⟩, ⟨l2, by rw [f.Fq (by omega) (by simp)]; exact b1, b2⟩, c⟩, l3, o 44 (by unfold pq; omega), o _ (pq_inj (by decide))⟩
  rw [r i (by omega)]
  by_cases z : i = B
  · rw [if_pos z]; exact gt
  · rw [if_neg z]; exact p5 i (by omega)
theorem FN_44 {gg : Nat → Int64} (f : FNc q u w) : FNc q u (upJ w 44 gg) := FC.J_g f (by simp)
theorem PT_44 {gg : Nat → Int64} (p : PTQ u q n ow kd Fv P B W Y) : PTQ (upJ u 44 gg) q n ow kd Fv P B W Y := PTQ_same p (fun _ _ => rfl) (fun k _ => if_neg (by unfold pq; omega))
theorem LN_44 {gg : Nat → Int64} (l : LNB u q) : LNB (upJ u 44 gg) q := LNB_fc l (fun _ _ => rfl)
theorem row_44 {y : Nat} {z : Int64} : (upJ u 44 (vp_updL (u.2.2.2 44) y z)).2.2.2 44 k = if k = y then z else u.2.2.2 44 k := wj_row
theorem fit_loop (cx : CTX Fv P u) (he : e < 24000) (hN : 600000000010 ≤ N) : ∀ K,
    (∀ (f i b top cnt B : Nat) (w : MS), PTc u f i b e → f * 12 < K → f + cnt ≤ 30000 → top ≤ 2047 → B + b ≤ 4000 → FNc q u w → LNB w q → PTQ w q n ow kd Fv P B W Y → (∀ k, k < top → GT n ow kd P (w.2.2.2 44 k)) → OK (fun w r => FIQ Fv P q n ow kd B W Y b e u w r) ((hg_Ma_fit N K).1 w q (I ((i : Nat) : Int)) (I ((top : Nat) : Int)) (I ((cnt : Nat) : Int)))) ∧
    (∀ (f i b top cnt B jj : Nat) (w : MS) (t : Int64), PTc u f (i + 2) b e → f * 12 + jj + 1 < K → f + cnt + 1 ≤ 30000 → top + jj ≤ 2047 → B + b ≤ 4000 → FNc q u w → LNB w q → PTQ w q n ow kd Fv P B W Y → (∀ k, k < top → GT n ow kd P (w.2.2.2 44 k)) → GT n ow kd P t → so t = 5 → jj ≤ vn (w.2.2.2 (pq q 2) (vn t)) → OK (fun w r => FIQ Fv P q n ow kd B W Y b e u w r) ((hg_Ma_fit N K).2 w q (I ((i : Nat) : Int)) (I ((top : Nat) : Int)) (I ((cnt : Nat) : Int)) t (I ((jj : Nat) : Int)))) := by
  intro K
  induction K with
  | zero => exact ⟨fun _ _ _ _ _ _ _ _ hK => by omega, fun _ _ _ _ _ _ _ _ _ _ hK => by omega⟩
  | succ K ih =>
    have nx : ∀ (f i b top cnt B : Nat) (w : MS), PTc u f i b e → f * 12 < K → f + (cnt + 1) ≤ 30000 → top ≤ 2047 → B + b ≤ 4000 → FNc q u w → LNB w q → PTQ w q n ow kd Fv P B W Y → (∀ k, k < top → GT n ow kd P (w.2.2.2 44 k)) → OK (fun w r => FIQ Fv P q n ow kd B W Y b e u w r) (hb_Ma_fit_364 N (hg_Ma_fit N K) w q (I ((i : Nat) : Int)) (I ((top : Nat) : Int)) (I ((cnt : Nat) : Int))) := by
      intro f i b top cnt B w a1 a2 a3 a4 a5 a6 a7 a8 a9
      unfold hb_Ma_fit_364
      rw [lit1q, I_add, show ((cnt : Nat) : Int) + 1 = ((cnt + 1 : Nat) : Int) by omega]
      exact ih.1 f i b top (cnt + 1) B w a1 a2 a3 a4 a5 a6 a7 a8 a9
    refine ⟨fun f i b top cnt B w pt hK hcn htop hB fm ln p gs => ?_, fun f i b top cnt B jj w t pt hK hcn htop hB fm ln p gs gt e5 hj => ?_⟩
    · show OK _ (hb_Ma_fit_17 N (hg_Ma_fit N K) w q (I ((i : Nat) : Int)) (I ((top : Nat) : Int)) (I ((cnt : Nat) : Int)))
      have ple := PTc_le pt
      have pn := p.1.2.1
      have eA : ∀ k, A w 23 k = A u 23 k := fun k => fm.ag (by omega) (by simp)
      unfold hb_Ma_fit_17 hb_Ma_fit_370 hb_Ma_fit_57
      cases f with
      | zero => exact pt.elim
      | succ f =>
      rw [I_lit (n := 1000000000)]
      refine k_le ⟨by decide, by decide⟩ ⟨by omega, by omega⟩ (fun z => absurd (show (1000000000 : Int) ≤ _ from z) (by omega)) (fun _ => ?_)
      rw [Co_e (k := i) rfl (by omega), bnd_so, eA]
      have no : OK (fun w r => FIQ Fv P q n ow kd B W Y b e u w r) (some (w, (-1 : Int32))) := ok_some.mpr ⟨fm, ln, B, p, Nat.le_refl _, Or.inl rfl⟩
      unfold PTc at pt
      have ne8 : A u 23 i ≠ 8 → ∀ (oth : A u 23 i = 1 ∨ A u 23 i = 2 ∨ A u 23 i = 3 ∨ A u 23 i = 4 ∨ A u 23 i = 5 ∨ A u 23 i = 6 ∨ A u 23 i = 7), True := fun _ _ => trivial
      by_cases e8 : A u 23 i = 8
      · rw [e8]
        refine ok_br.mpr ⟨fun _ => ?_, fun z => absurd z (by decide)⟩
        rcases pt with ⟨z, z1, z2⟩ | ⟨z, -⟩ | ⟨z, -⟩ | ⟨z, -⟩ | ⟨z, -⟩ | ⟨z, -⟩ | ⟨z, -⟩ | ⟨z, -⟩
        · rw [z1, lit1q, I_add, z2]
          exact ok_some.mpr ⟨fm, ln, B, p, Nat.le_refl _, Or.inr ⟨rfl, rfl⟩⟩
        all_goals omega
      · rw [I_lit (n := 8)]
        refine k_eq (ARG1 u _ _) ⟨by decide, by decide⟩ (fun z => absurd (show A u 23 i = 8 from z) e8) (fun _ => ?_)
        rw [m1I, I_add, lit0q]
        refine k_lt ⟨by omega, by omega⟩ ⟨by decide, by decide⟩ (fun _ => no) (fun h1 => ?_)
        rw [I_add, I_lit (n := 2048)]
        refine k_lt ⟨by show _ ≤ _ + (8 : Int); omega, by show _ + (8 : Int) < _; omega⟩ ⟨by decide, by decide⟩ (fun h2 => ?_) (fun _ => no)
        have h2 : ((top : Nat) : Int) + -1 + 8 < 2048 := h2
        refine e_in ⟨by omega, by omega⟩ (by decide) ?_
        rw [tnI (n := top - 1) (by omega) (by omega)]
        have gt := gs (top - 1) (by omega)
        have i1 : i + 1 ≤ e := by
          rcases pt with ⟨z, -⟩ | ⟨-, z⟩ | ⟨-, nn, -, -, z⟩ | ⟨-, z⟩ | ⟨-, c, -, z⟩ | ⟨-, z⟩ | ⟨-, -, z⟩ | ⟨-, z⟩
          · exact absurd z e8
          all_goals (have := PTc_le z; omega)
        rw [lit1q, I_add, Co_e (k := i + 1) (by omega) (by omega), bnd_so, eA]
        rw [Co_e (k := i) rfl (by omega), bnd_so, eA]
        have e1t : ((top : Nat) : Int) + -1 = ((top - 1 : Nat) : Int) := by omega
        rw [e1t]
        have gs1 : ∀ k, k < top - 1 → GT n ow kd P (w.2.2.2 44 k) := fun k hk => gs k (by omega)
        rcases pt with ⟨z, -⟩ | ⟨o, pt⟩ | ⟨o, nn, o1, o2, pt⟩ | ⟨o, pt⟩ | ⟨o, c, o1, pt⟩ | ⟨o, pt⟩ | ⟨o, ⟨nn, o1, o2⟩, pt⟩ | ⟨o, pt⟩
        · exact absurd z e8
        · have := PTc_le pt
          rw [o]
          refine ok_br.mpr ⟨fun _ => ?_, fun z => absurd z (by decide)⟩
          rw [I_lit (n := 2), I_add, Co_e (k := i + 2) (by show _ + (2 : Int) = _; omega) (by omega), bnd_so, eA, e_make, bnd_so]
          refine ok_br.mpr ⟨fun _ => ?_, fun _ => no⟩
          rw [I_lit (n := 3), I_add, show ((i : Nat) : Int) + (OfNat.ofNat 3 : Int) = ((i + 3 : Nat) : Int) by show _ + (3 : Int) = _; omega]
          exact nx f (i + 3) b (top - 1) cnt B w pt (by omega) (by omega) (by omega) hB fm ln p gs1
        · have := PTc_le pt
          rw [o]
          refine ok_br.mpr ⟨fun z => absurd z (by decide), fun _ => ok_br.mpr ⟨fun _ => ?_, fun z => absurd z (by decide)⟩⟩
          refine ok_bnd.mpr (ok_mono (fitsString_ok (N := N) p gt (by rw [eA]; exact o1) o2 (by omega) (by omega)) (fun w2 r hw => ?_))
          subst hw
          refine ok_br.mpr ⟨fun _ => no, fun _ => ?_⟩
          rw [o1, I_lit (n := 2), I_add, I_add, show ((i : Nat) : Int) + ((OfNat.ofNat 2 : Int) + ((nn : Nat) : Int)) = ((i + 2 + nn : Nat) : Int) by show _ + ((2 : Int) + _) = _; omega]
          exact nx f (i + 2 + nn) b (top - 1) cnt B w2 pt (by omega) (by omega) (by omega) hB fm ln p gs1
        · have := PTc_le pt
          rw [o]
          refine ok_br.mpr ⟨fun z => absurd z (by decide), fun _ => ok_br.mpr ⟨fun z => absurd z (by decide), fun _ => ok_br.mpr ⟨fun _ => ?_, fun z => absurd z (by decide)⟩⟩⟩
          rw [termOf_e p.2.1.1 ln (PTQ_43 p) (by omega), bnd_so]
          have cw : CTX Fv P w := CTX_s (SCQ_f fm (by simp) (by simp)) cx
          refine ok_bnd.mpr (ok_mono (orderc_ok (N := N) (n := n) (ow := ow) (kd := kd) (Fv := Fv) (P := P) (b := pq q 2) (by unfold pq; omega) rfl (by omega) p.1.2.2 cw.2.1 cw.1 cw.2.2.1 (tval_gt p cw) gt hN) (fun w3 r3 hw3 => ?_))
          have fr : FR [] [] [] [44, 45, 46] w w3 := FR.mo hw3 (by simp) (by simp) (by simp) (by simp)
          have fm3 := FNc.tr fm (FM_fr (q := q) fr)
          have ln3 : LNB w3 q := LNB_fc ln (fun k _ => fr.1 _ (by simp))
          have p3 := PT_fr (q := q) fr p
          refine ok_br.mpr ⟨fun _ => ?_, fun _ => ok_some.mpr ⟨fm3, ln3, B, p3, Nat.le_refl _, Or.inl rfl⟩⟩
          rw [I_lit (n := 2), I_add, show ((i : Nat) : Int) + (OfNat.ofNat 2 : Int) = ((i + 2 : Nat) : Int) by show _ + (2 : Int) = _; omega]
          exact nx f (i + 2) b (top - 1) cnt B w3 pt (by omega) (by omega) (by omega) hB fm3 ln3 p3 (fun k hk => by rw [hw3.2.2.2 44 (by simp)]; exact gs1 k hk)
        · have := PTc_le pt
          rw [o]
          refine ok_br.mpr ⟨fun z => absurd z (by decide), fun _ => ok_br.mpr ⟨fun z => absurd z (by decide), fun _ => ok_br.mpr ⟨fun z => absurd z (by decide), fun _ => ok_br.mpr ⟨fun _ => ?_, fun z => absurd z (by decide)⟩⟩⟩⟩
          refine ok_bnd.mpr (ok_mono (bind_t (N := N) p ln (by omega) gt) (fun w3 _ hw3 => ?_))
          obtain ⟨f3, p3, ln3, r3, -⟩ := hw3
          rw [I_lit (n := 2), I_add, show ((i : Nat) : Int) + (OfNat.ofNat 2 : Int) = ((i + 2 : Nat) : Int) by show _ + (2 : Int) = _; omega]
          refine ok_mono (nx f (i + 2) c (top - 1) cnt (B + 1) w3 pt (by omega) (by omega) (by omega) (by omega) (FNc.tr fm f3) ln3 p3 (fun k hk => by rw [r3]; exact gs1 k hk)) (fun w4 r4 hw4 => ?_)
          obtain ⟨k1, k2, B2, k3, k4, k5⟩ := hw4
          refine ⟨k1, k2, B2, k3, by omega, ?_⟩
          rcases k5 with k5 | ⟨k5, k6⟩
          · exact Or.inl k5
          · exact Or.inr ⟨k5, by omega⟩
        · have := PTc_le pt
          rw [o]
          refine ok_br.mpr ⟨fun z => absurd z (by decide), fun _ => ok_br.mpr ⟨fun z => absurd z (by decide), fun _ => ok_br.mpr ⟨fun z => absurd z (by decide), fun _ => ok_br.mpr ⟨fun z => absurd z (by decide), fun _ => ok_br.mpr ⟨fun _ => ?_, fun z => absurd z (by decide)⟩⟩⟩⟩⟩
          rw [show ((i : Nat) : Int) + 1 = ((i + 1 : Nat) : Int) by omega]
          exact nx f (i + 1) b (top - 1) cnt B w pt (by omega) (by omega) (by omega) hB fm ln p gs1
        · have := PTc_le pt
          rw [o]
          refine ok_br.mpr ⟨fun z => absurd z (by decide), fun _ => ok_br.mpr ⟨fun z => absurd z (by decide), fun _ => ok_br.mpr ⟨fun z => absurd z (by decide), fun _ => ok_br.mpr ⟨fun z => absurd z (by decide), fun _ => ok_br.mpr ⟨fun z => absurd z (by decide), fun _ => ok_br.mpr ⟨fun _ => ?_, fun z => absurd z (by decide)⟩⟩⟩⟩⟩⟩
          unfold hb_Ma_fit_262
          rw [e_tag, bnd_so, I_lit (n := 5)]
          refine k_eq (so_r _) ⟨by decide, by decide⟩ (fun e5 => ?_) (fun _ => no)
          have e5 : so (w.2.2.2 44 (top - 1)) = 5 := e5
          obtain ⟨a1, a2, a3, a4⟩ := tup_at p.1.2.2 gt e5
          rw [valI, a1]
          refine e_in ⟨by omega, by omega⟩ (by decide) ?_
          rw [tnI (n := vn (w.2.2.2 44 (top - 1))) rfl (by omega), valI, a2, o1]
          refine k_eq ⟨by omega, by omega⟩ ⟨by omega, by omega⟩ (fun ee => ?_) (fun _ => no)
          exact ih.2 f i b (top - 1) cnt B nn w _ pt (by omega) (by omega) (by omega) hB fm ln p gs1 gt e5 (by omega)
        · have := PTc_le pt
          rw [o]
          refine ok_br.mpr ⟨fun z => absurd z (by decide), fun _ => ok_br.mpr ⟨fun z => absurd z (by decide), fun _ => ok_br.mpr ⟨fun z => absurd z (by decide), fun _ => ok_br.mpr ⟨fun z => absurd z (by decide), fun _ => ok_br.mpr ⟨fun z => absurd z (by decide), fun _ => ok_br.mpr ⟨fun z => absurd z (by decide), fun _ => ok_br.mpr ⟨fun _ => ?_, fun z => absurd z (by decide)⟩⟩⟩⟩⟩⟩⟩
          rw [e_tag, bnd_so, I_lit (n := 7)]
          refine k_eq (so_r _) ⟨by decide, by decide⟩ (fun e7 => ?_) (fun _ => no)
          have e7 : so (w.2.2.2 44 (top - 1)) = 7 := e7
          obtain ⟨a1, a2, a3, a4⟩ := pair_at p.1.2.2 gt e7
          rw [valI, a1, I_add]
          refine e_in ⟨by omega, by omega⟩ (by decide) (e_in ⟨by omega, by omega⟩ (by decide) (ok_lt.mpr ?_))
          rw [tnI (n := vn (w.2.2.2 44 (top - 1)) + 1) (by omega) (by omega)]
          refine e_in ⟨by omega, by omega⟩ (by decide) ?_
          rw [I_add]
          refine e_in ⟨by omega, by omega⟩ (by decide) (ok_lt.mpr ?_)
          rw [tnI (n := vn (w.2.2.2 44 (top - 1))) rfl (by omega), tnI (n := top) (by omega) (by omega), I_lit (n := 2), I_add, show ((top - 1 : Nat) : Int) + (OfNat.ofNat 2 : Int) = ((top + 1 : Nat) : Int) by show _ + (2 : Int) = _; omega, show ((i : Nat) : Int) + 1 = ((i + 1 : Nat) : Int) by omega]
          refine nx f (i + 1) b (top + 1) cnt B _ pt (by omega) (by omega) (by omega) hB (FN_44 (FN_44 fm)) (LN_44 (LN_44 ln)) (PT_44 (PT_44 p)) (fun k hk => ?_)
          rw [row_44]
          by_cases y1 : k = top
          · rw [if_pos y1]
            show GT n ow kd P ((upJ w 44 _).2.2.2 (pq q 2) _)
            rw [show ∀ gg, (upJ w 44 gg).2.2.2 (pq q 2) = w.2.2.2 (pq q 2) from fun gg => if_neg (by unfold pq; omega)]
            exact a3
          · rw [if_neg y1, row_44]
            by_cases y2 : k = top - 1
            · rw [if_pos y2]; exact a4
            · rw [if_neg y2]; exact gs k (by omega)
    · show OK _ (hb_Ma_fit_268 N (hg_Ma_fit N K) w q (I ((i : Nat) : Int)) (I ((top : Nat) : Int)) (I ((cnt : Nat) : Int)) t (I ((jj : Nat) : Int)))
      unfold hb_Ma_fit_268
      have pn := p.1.2.1
      rw [lit0q]
      refine k_le ⟨by omega, by omega⟩ ⟨by decide, by decide⟩ (fun hh => ?_) (fun hh => ?_)
      · rw [I_lit (n := 2), I_add, show ((i : Nat) : Int) + (OfNat.ofNat 2 : Int) = ((i + 2 : Nat) : Int) by show _ + (2 : Int) = _; omega]
        exact nx f (i + 2) b top cnt B w pt (by omega) (by omega) (by omega) hB fm ln p gs
      · obtain ⟨a1, a2, a3, a4⟩ := tup_at p.1.2.2 gt e5
        rw [valI, a1, I_add]
        refine e_in ⟨by omega, by omega⟩ (by decide) (e_in ⟨by omega, by omega⟩ (by decide) (ok_lt.mpr ?_))
        rw [tnI (n := top) rfl (by omega), tnI (n := vn t + jj) (by omega) (by omega), m1I, I_add, lit1q, I_add, show ((top : Nat) : Int) + 1 = ((top + 1 : Nat) : Int) by omega, show ((jj : Nat) : Int) + -1 = ((jj - 1 : Nat) : Int) by omega]
        refine ih.2 f i b (top + 1) cnt B (jj - 1) _ t pt (by omega) hcn (by omega) hB (FN_44 fm) (LN_44 ln) (PT_44 p) (fun k hk => ?_) gt e5 ?_
        · rw [row_44]
          by_cases y1 : k = top
          · rw [if_pos y1]; exact a4 jj (by omega) hj
          · rw [if_neg y1]; exact gs k (by omega)
        · rw [show ∀ gg, (upJ w 44 gg).2.2.2 (pq q 2) = w.2.2.2 (pq q 2) from fun gg => if_neg (by unfold pq; omega)]
          omega
theorem fit_ok {top : Nat} (cx : CTX Fv P u) (he : e < 24000) (pt : PTc u f i b e) (hf : f ≤ 24000) (htop : top ≤ 2047) (hB : B + b ≤ 4000) (ln : LNB u q) (p : PTQ u q n ow kd Fv P B W Y) (gs : ∀ k, k < top → GT n ow kd P (u.2.2.2 44 k)) (hN : 600000000010 ≤ N) : OK (fun w r => FIQ Fv P q n ow kd B W Y b e u w r) (hm_Ma_fit N u q (I ((i : Nat) : Int)) (I ((top : Nat) : Int))) := by
  unfold hm_Ma_fit hb_Ma_fit_0
  rw [lit0q, show (0 : Int) = ((0 : Nat) : Int) from rfl]
  exact (fit_loop cx he hN N).1 f i b top 0 B u pt (by omega) (by omega) htop hB FNc.rf ln p gs
end
