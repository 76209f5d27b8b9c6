set_option maxRecDepth 100000
section
variable {T : Nat → Option (Nat × Nat × List Nat × Nat × Nat)} {Fv : Int64 → Int64 → Prop} {P : Int64 → Prop} {u v w : MS} {PR N q r n B W Y i h m g x j wb nb cb rk c f i2 h2 m2 k a U d : Nat} {L : List Nat} {ow kd : Nat → Nat} {t rest : Int64} {gi gl ga ki kl ka kj : List Nat} {e : Nat → Int64}
theorem termOf_e {y : Int32} (hB : F u (pq q 24) = ((B : Nat) : Int)) (ln : LNB u q) (hl : ((B : Nat) : Int) ≤ F u (pq q 43)) (hN : 5000 ≤ N) : hm_Fr_termOf N u q y = some (u, tval (u.2.2.1 (pq q 32)) (u.2.2.2 (pq q 33)) y B) := by
  obtain ⟨l, l1, l1b, l2, l3⟩ := LNB_43 ln
  unfold hm_Fr_termOf hb_Fr_termOf_0
  have gen : ∀ (M i : Nat), i ≤ B → i < M → hg_Fr_termOf N M u q y (I ((i : Nat) - 1)) = some (u, tval (u.2.2.1 (pq q 32)) (u.2.2.2 (pq q 33)) y i) := by
    intro M
    induction M with
    | zero => intro i _ h; omega
    | succ M ih =>
      intro i hi hM
      show hb_Fr_termOf_7 N (hg_Fr_termOf N M) u q y (I ((i : Nat) - 1)) = _
      unfold hb_Fr_termOf_7
      rw [lit0q, decL (by omega) (by omega) (by decide) (by decide)]
      cases i with
      | zero => rw [decide_eq_true (by decide), br_tq]; rfl
      | succ i =>
        rw [decide_eq_false (by omega), br_fq, lnQ_e l1, lnQ_e l1b, (I_inb (by omega) (by omega)).mpr ⟨by omega, by omega⟩, ck_t, tnI (n := i) (by omega) (by omega)]
        unfold tval tix
        by_cases z : u.2.2.1 (pq q 32) i = y
        · rw [decide_eq_true z, br_tq, ck_t, if_pos z]
        · rw [decide_eq_false z, br_fq, if_neg z, m1I, I_add, show ((i + 1 : Nat) : Int) - 1 + -1 = ((i : Nat) : Int) - 1 by omega]
          exact ih i (by omega) (by omega)
  rw [I_F (k := pq q 24), hB, lit1q, I_sub]
  exact gen N B (by omega) (by omega)
theorem tix_lt {y : Int32} {g : Nat → Int32} : ∀ {B k : Nat}, tix g y B = some k → k < B
  | 0, k, z => by unfold tix at z; cases z
  | B + 1, k, z => by
    unfold tix at z
    by_cases e : g B = y
    · rw [if_pos e] at z; cases z; omega
    · rw [if_neg e] at z
      have := tix_lt z
      omega
theorem mk00 : (0 : Int64) = mk 0 0 := by decide
theorem tval_gt {y : Int32} {g : Nat → Int32} (p : PTQ u q n ow kd Fv P B W Y) (cx : CTX Fv P u) : GT n ow kd P (tval g (u.2.2.2 (pq q 33)) y B) := by
  unfold tval
  cases e : tix g y B with
  | none => show GT n ow kd P 0; rw [mk00]; exact GT_0c cx ⟨by decide, by decide⟩
  | some k => exact p.2.1.2 k (tix_lt e)
theorem tval_sml {y : Int32} {g : Nat → Int32} {h h2 r r2 : Nat → Int64} {U : Nat} {ow2 kd2 : Nat → Nat} (cx : CTX Fv P u) (s : ∀ i, i < B → SML h n ow kd h2 U ow2 kd2 Fv P (r i) (r2 i)) {f s0 : Nat} (z : SZc h n ow kd Fv P f (tval g r y B) s0) : SZc h2 U ow2 kd2 Fv P f (tval g r2 y B) s0 := by
  unfold tval at z ⊢
  cases e : tix g y B with
  | none =>
    rw [e] at z
    have z : SZc h n ow kd Fv P f 0 s0 := z
    show SZc h2 U ow2 kd2 Fv P f 0 s0
    cases f with
    | zero => exact z.elim
    | succ f =>
      rcases z with z | ⟨z, -⟩
      · exact Or.inl z
      · exact absurd z (by rw [mk00]; exact nh_so (by rw [so_mk (by decide) (by decide)]; decide))
  | some k =>
    rw [e] at z
    exact (s k (tix_lt e)).2.2 f s0 z
theorem mk3 {k : Nat} (hk : k ≤ 200000) : so (mk 3 ((k : Nat) : Int)) = 3 ∧ va (mk 3 ((k : Nat) : Int)) = ((k : Nat) : Int) ∧ vn (mk 3 ((k : Nat) : Int)) = k := by
  have a : so (mk 3 ((k : Nat) : Int)) = 3 := so_mk (by decide) (by decide)
  have b : va (mk 3 ((k : Nat) : Int)) = ((k : Nat) : Int) := va_mk (by omega) (by omega)
  exact ⟨a, b, by unfold vn; rw [b]; exact Int.toNat_natCast k⟩
theorem FUN_new {h h2 : Nat → Int64} {s : Nat → Nat} {f0 : Nat} (g : HPc h n ow kd Fv P) (hh : ∀ i, i < n → h2 i = h i) (hF : Fv (h2 n) (h2 (n + 1))) (h8 : h2 (n + 1) = mk 8 ((k : Nat) : Int)) (hp : ∀ j, j < k → SZc h n ow kd Fv P f0 (h2 (n + 2 + j)) (s j)) (hb : k + 2 + smm s 0 k ≤ 500) (hn : n ≤ 500) : ∃ ow2 kd2, HPc h2 (n + (k + 2)) ow2 kd2 Fv P ∧ GT (n + (k + 2)) ow2 kd2 P (mk 3 ((n : Nat) : Int)) ∧ ∀ t, GT n ow kd P t → GT (n + (k + 2)) ow2 kd2 P t := by
  obtain ⟨m1, m2, m3⟩ := mk3 (k := n) (by omega)
  obtain ⟨e1, e2, e3⟩ := mk8 (k := k) (by omega)
  have bk : blk h2 (mk 3 ((n : Nat) : Int)) = k + 2 := by unfold blk; rw [if_neg (by omega), if_neg (by omega), if_pos m1, m3, h8, e3]; omega
  have pr : prt (mk 3 ((n : Nat) : Int)) = 2 := by unfold prt; rw [if_neg (by omega), if_neg (by omega)]
  obtain ⟨ow2, kd2, a1, a2, a3, -⟩ := HP_newc g hh (Or.inl m1) (by omega) m3 bk (fun z => by omega) (fun _ => ⟨by rw [h8]; omega, hF⟩) (fun j h1 h2' => by
    rw [pr] at h1
    have := hp (j - 2) (by omega)
    rw [show n + 2 + (j - 2) = n + j by omega] at this
    exact SZ_gtc this) (Or.inr (fun f c hc => by
    rw [pr] at hc ⊢
    have e : smm c 2 (k + 2 - 2) = smm s 0 k := by
      rw [show k + 2 - 2 = k by omega]
      refine smm_ext k (fun j hj => ?_)
      have z1 := hc (2 + j) (by omega) (by omega)
      have z2 := hp j hj
      rw [show n + 2 + j = n + (2 + j) by omega] at z2
      rw [SZ_func z1 z2, Nat.zero_add]
    omega))
  exact ⟨ow2, kd2, a1, a2, a3⟩
theorem PTQ_43 (p : PTQ u q n ow kd Fv P B W Y) : ((B : Nat) : Int) ≤ F u (pq q 43) := by
  obtain ⟨-, -, -, -, ⟨l, a1, a2, -⟩, -⟩ := p
  omega
theorem fun_ok2 {pl held : Nat} (M : MIc T Fv P PR q u i h m L g x j wb nb cb rk) (hx : x < i) (t9 : F u 1109 = 0) (t8 : F u 1108 = 0) (hf : PHc T u q i x rk ≤ c) (hF : Fv (mk 8 ((pl : Nat) : Int)) (mk 8 ((held : Nat) : Int))) (e2 : A u 23 (i + 2) = ((held : Nat) : Int)) (hc : held ≤ 40) (t2 : T (i + 3 + held) = some (h + 1, m, L, g, x)) (hN : 3000000 ≤ N) : OK (fun w _ => OPQ T Fv P PR q c w) (hm_Ma_fun N u q (I ((pl : Nat) : Int))) := by
  obtain ⟨n, ow, kd, Y, p⟩ := MI_p M
  have mb := MI_b M
  have w2b := (M.1.2.2.1 _ _ _ _ _ _ t2).1
  have wf := (M.1.2.2.1 _ _ _ _ _ _ t2).2.1
  have at0 := M.2.2.2.1.2
  have ln := MI_ln M
  obtain ⟨f0, s, hs⟩ : ∃ f0, ∃ s : Nat → Nat, ∀ j, j < held → SZc (u.2.2.2 (pq q 2)) n ow kd Fv P f0 (tval (u.2.2.1 (pq q 32)) (u.2.2.2 (pq q 33)) (I (A u 23 (i + 3 + j))) (nb + m)) (s j) := SZ_allc (q := fun j => tval (u.2.2.1 (pq q 32)) (u.2.2.2 (pq q 33)) (I (A u 23 (i + 3 + j))) (nb + m)) (fun j hj => HP_szc p.1.2.2 (tval_gt p M.1.2.1))
  have hs1 : ∀ j, j < held → s j ≤ 1000 := fun j hj => SZ_1000c p.1.2.2 p.1.2.1 (hs j hj)
  have hsb : ∀ j, j ≤ held → smm s 0 j ≤ 1000 * j := by
    intro j
    induction j with
    | zero => intro _; exact Nat.le_refl _
    | succ j ih =>
      intro hj
      show smm s 0 j + s (0 + j) ≤ _
      have := ih (by omega)
      have := hs1 (0 + j) (by omega)
      omega
  unfold hm_Ma_fun hb_Ma_fun_0
  rw [I_F (k := 1105), at0, I_lit (n := 2), I_add, Co_e (k := i + 2) (by show _ + (2 : Int) = _; omega) (by omega), bnd_so, e2, I_add, show ((held : Nat) : Int) + (OfNat.ofNat 2 : Int) = ((held + 2 : Nat) : Int) by show _ + (2 : Int) = _; omega]
  have loop2 : ∀ (w2 : MS) (U : Nat) (ow2 kd2 : Nat → Nat), MIc T Fv P PR q w2 i h m L g x j wb nb cb rk → PHc T w2 q i x rk ≤ c → F w2 1109 = 0 → F w2 1108 = 0 → LNB w2 q → PTQ w2 q U ow2 kd2 Fv P (nb + m) (wb + h) Y → U + (held + 2) ≤ 500 → held + 2 + smm s 0 held ≤ 500 → (∀ k, A w2 23 k = A u 23 k) → (∀ j, j < held → SZc (w2.2.2.2 (pq q 2)) U ow2 kd2 Fv P f0 (tval (w2.2.2.1 (pq q 32)) (w2.2.2.2 (pq q 33)) (I (A u 23 (i + 3 + j))) (nb + m)) (s j)) → ∀ (K d : Nat) (w : MS), d ≤ held → held - d < K → CEL q w2 w → (∀ k, k < U → w.2.2.2 (pq q 2) k = w2.2.2.2 (pq q 2) k) → w.2.2.2 (pq q 2) U = mk 8 ((pl : Nat) : Int) → w.2.2.2 (pq q 2) (U + 1) = mk 8 ((held : Nat) : Int) → (∀ j, j < d → w.2.2.2 (pq q 2) (U + 2 + j) = tval (w2.2.2.1 (pq q 32)) (w2.2.2.2 (pq q 33)) (I (A u 23 (i + 3 + j))) (nb + m)) → OK (fun w _ => OPQ T Fv P PR q c w) ((hg_Ma_fun N K).2 w q (I ((held : Nat) : Int)) (I ((U : Nat) : Int)) (I ((d : Nat) : Int))) := by
    intro w2 U ow2 kd2 M2 ph2 k9 k8 ln2 p2 hU hsum hA sz2 K
    induction K with
    | zero => intro d _ _ hK; omega
    | succ K ih =>
      intro d w hd hK cl c1 c2 c2b c3
      show OK _ (hb_Ma_fun_144 N (hg_Ma_fun N K) w q (I ((held : Nat) : Int)) (I ((U : Nat) : Int)) (I ((d : Nat) : Int)))
      unfold hb_Ma_fun_144
      have lnw : LNB w q := LNB_fc ln2 (fun k _ => by rw [cl.2.1])
      refine k_le ⟨by omega, by omega⟩ ⟨by omega, by omega⟩ (fun hh => ok_lt.mpr ?_) (fun hh => ?_)
      · have ed : d = held := by omega
        subst ed
        rw [I_F (k := pq q 4), cl.F, p2.1.1, I_lit (n := 2), I_add, I_add, show ((U : Nat) : Int) + (((d : Nat) : Int) + (OfNat.ofNat 2 : Int)) = ((U + (d + 2) : Nat) : Int) by show _ + (_ + (2 : Int)) = _; omega, wi_e, I_lit (n := 3), e_make, bnd_so]
        obtain ⟨ow3, kd3, g1, g2, g3⟩ := FUN_new (k := d) (s := s) (f0 := f0) (h2 := w.2.2.2 (pq q 2)) p2.1.2.2 c1 (by rw [c2, c2b]; exact hF) c2b (fun j hj => by rw [c3 j hj]; exact sz2 j hj) hsum (by omega)
        obtain ⟨fm3, p3⟩ := use_t p2 cl (n2 := U + (d + 2)) (by omega) g1 g3
        refine ok_bnd.mpr (ok_mono (push_t (N := N) p3 (LNB_m lnw (by simp) (by omega)) (by omega) g2) (fun w5 _ hw5 => ok_lt.mpr (ok_some.mpr ?_)))
        obtain ⟨fm5, p5, ln5, -⟩ := hw5
        rw [show wb + h + 1 = wb + (h + 1) by omega] at p5
        rw [I_add]
        exact fin_t M2 k9 k8 ph2 hx (FNc.tr fm3 fm5) p5 ln5 t2 (by show _ + ((3 : Int) + _) = _; omega) (by omega) (by omega)
      · rw [I_F (k := 1105), cl.F, M2.2.2.2.1.2, I_lit (n := 3), I_add, I_add, Co_e (k := i + 3 + d) (by show _ + (3 : Int) + _ = _; omega) (by omega), bnd_so, show A w 23 (i + 3 + d) = A u 23 (i + 3 + d) by show (w.2.2.1 23 _).toInt = _; rw [cl.2.2.2]; exact hA _]
        rw [termOf_e (B := nb + m) (by rw [cl.F]; exact p2.2.1.1) lnw (by rw [cl.F]; exact PTQ_43 p2) (by omega), bnd_so, cl.2.2.2, cl.2.2.1 (pq q 33) (by unfold pq; omega)]
        rw [I_lit (n := 2), I_add, I_add]
        refine e_in ⟨by show 0 ≤ _ + (2 : Int) + _; omega, by show _ + (2 : Int) + _ < _; omega⟩ (by decide) (ok_lt.mpr ?_)
        rw [tnI (n := U + 2 + d) (by show _ + (2 : Int) + _ = _; omega) (by omega), wj_e, lit1q, I_add, show ((d : Nat) : Int) + 1 = ((d + 1 : Nat) : Int) by omega]
        refine ih (d + 1) _ (by omega) (by omega) cl.put (fun k hk => ?_) ?_ ?_ (fun j hj => ?_)
        · rw [CEL.row, if_neg (by omega)]; exact c1 k hk
        · rw [CEL.row, if_neg (by omega)]; exact c2
        · rw [CEL.row, if_neg (by omega)]; exact c2b
        · rw [CEL.row]
          by_cases e : j = d
          · subst e
            rw [if_pos rfl]
          · rw [if_neg (by omega)]; exact c3 j (by omega)
  have loop1 : ∀ (K d : Nat) (w : MS), d ≤ held → held - d + held + 5 < K → FR [] [] [] [44, 45, 46] u w → OK (fun w _ => OPQ T Fv P PR q c w) ((hg_Ma_fun N K).1 w q (I ((pl : Nat) : Int)) (I ((held : Nat) : Int)) (I ((held + 2 + smm s 0 d : Nat) : Int)) (I ((d : Nat) : Int))) := by
    intro K
    induction K with
    | zero => intro d _ _ hK; omega
    | succ K ih =>
      intro d w hd hK fr
      show OK _ (hb_Ma_fun_21 N (hg_Ma_fun N K) w q (I ((pl : Nat) : Int)) (I ((held : Nat) : Int)) (I ((held + 2 + smm s 0 d : Nat) : Int)) (I ((d : Nat) : Int)))
      unfold hb_Ma_fun_21
      obtain ⟨M1, ph1, s9, s8⟩ := MI_fr M hx fr
      have p1 := PT_fr (q := q) fr p
      have hb1 := hsb d hd
      refine k_le ⟨by omega, by omega⟩ ⟨by omega, by omega⟩ (fun hh => ?_) (fun hh => ?_)
      · have ed : d = held := by omega
        subst ed
        rw [I_lit (n := 500)]
        refine k_le ⟨by omega, by omega⟩ ⟨by decide, by decide⟩ (fun hle => ?_) (fun _ => ?_)
        · have hle : ((d + 2 + smm s 0 d : Nat) : Int) ≤ 500 := hle
          rw [I_lit (n := 2), I_add, show ((d : Nat) : Int) + (OfNat.ofNat 2 : Int) = ((d + 2 : Nat) : Int) by show _ + (2 : Int) = _; omega]
          refine ok_bnd.mpr (ok_mono (room_ok (N := N) M1 hx (by rw [s9]; exact t9) (by rw [s8]; exact t8) p1 ⟨by omega, by omega⟩ hN) (fun w2 r hw2 => ?_))
          rcases hw2 with ⟨rfl, e⟩ | ⟨rfl, ⟨M2, ph2, k9, k8⟩, ln2, fm2, ⟨-, r2⟩, U, ow2, kd2, p2, hU, sB, sW⟩
          · exact ok_br.mpr ⟨fun _ => ok_some.mpr (Or.inr (Or.inr (Or.inl e))), fun z => absurd z (by decide)⟩
          · refine ok_br.mpr ⟨fun z => absurd z (by decide), fun _ => ?_⟩
            rw [I_lit (n := 8), e_make, bnd_so, I_F (k := pq q 4), p2.1.1]
            refine e_in ⟨by omega, by omega⟩ (by decide) (ok_lt.mpr ?_)
            rw [tnI (n := U) rfl (by omega), wj_e, e_make, bnd_so, lit1q, I_add]
            refine e_in ⟨by omega, by omega⟩ (by decide) (ok_lt.mpr ?_)
            rw [tnI (n := U + 1) (by omega) (by omega), wj_e]
            have e33 : w.2.2.2 (pq q 33) = u.2.2.2 (pq q 33) := fr.2.2.2 _ (by simp; unfold pq; omega)
            have e2c : w.2.2.2 (pq q 2) = u.2.2.2 (pq q 2) := fr.2.2.2 _ (by simp; unfold pq; omega)
            have rw1 : w2.2.2.1 = u.2.2.1 := by rw [r2]; exact funext fun k => fr.2.2.1 k (by simp)
            rw [lit0q, show (0 : Int) = ((0 : Nat) : Int) from rfl]
            refine loop2 w2 U ow2 kd2 M2 (by omega) k9 k8 ln2 p2 (by omega) (by omega) (fun k => by show (w2.2.2.1 23 k).toInt = _; rw [rw1]; rfl) (fun j hj => ?_) K 0 _ (by omega) (by omega) CEL.rf.put.put (fun k hk => ?_) ?_ ?_ (fun j hj => by omega)
            · rw [rw1]
              exact tval_sml M.1.2.1 sB (by rw [e33, e2c]; exact hs j hj)
            · rw [CEL.row, if_neg (by omega), CEL.row, if_neg (by omega)]
            · rw [CEL.row, if_neg (by omega), CEL.row, if_pos rfl]
            · rw [CEL.row, if_pos rfl]
        · exact ok_bnd.mpr (ok_mono (ERR_w (N := N) (a := 11) M1 (by rw [s9]; exact t9) (by rw [s8]; exact t8) (by rw [ph1]; exact hf) (by omega)) (fun w _ hw => ok_some.mpr hw))
      · have lnw : LNB w q := LNB_fc ln (fun k _ => fr.1 _ (by simp))
        rw [I_F (k := 1105), M1.2.2.2.1.2, I_lit (n := 3), I_add, I_add, Co_e (k := i + 3 + d) (by show _ + (3 : Int) + _ = _; omega) (by omega), bnd_so, fr.A (by simp)]
        rw [termOf_e (B := nb + m) p1.2.1.1 lnw (PTQ_43 p1) (by omega), bnd_so, fr.2.2.1 _ (by simp), fr.2.2.2 (pq q 33) (by simp; unfold pq; omega)]
        refine ok_bnd.mpr (ok_mono (size_ok (N := N) (n := n) (s := s d) (b := pq q 2) (by unfold pq; omega) rfl (by have := p.1.2.1; omega) M.1.2.1.1.1 (by have := hs1 d (by omega); omega) (by rw [fr.2.2.2 (pq q 2) (by simp; unfold pq; omega)]; exact hs d (by omega)) (by omega)) (fun w3 r hw => ?_))
        obtain ⟨f1, rfl⟩ := hw
        rw [I_add, lit1q, I_add]
        have e : ((held + 2 + smm s 0 d : Nat) : Int) + ((s d : Nat) : Int) = ((held + 2 + smm s 0 (d + 1) : Nat) : Int) := by
          show _ = ((held + 2 + (smm s 0 d + s (0 + d)) : Nat) : Int)
          rw [Nat.zero_add]; omega
        rw [e, show ((d : Nat) : Int) + 1 = ((d + 1 : Nat) : Int) by omega]
        exact ih (d + 1) w3 (by omega) (by omega) (FR.tr fr (FR.mo f1 (by simp) (by simp) (by simp) (by simp)))
  rw [lit0q, show (0 : Int) = ((0 : Nat) : Int) from rfl]
  exact loop1 N 0 u (by omega) (by omega) FR.rf
theorem funOf_ok {fn : Nat} (M : MIc T Fv P PR q u i h m L g x j wb nb cb rk) (hx : x < i) (t9 : F u 1109 = 0) (t8 : F u 1108 = 0) (hf : PHc T u q i x rk ≤ c) (hF : Fv (mk 8 (1000000 + ((fn : Nat) : Int))) (mk 8 0)) (hfn : fn ≤ 1000) (t2 : T (i + 2) = some (h + 1, m, L, g, x)) (hN : 3000000 ≤ N) : OK (fun w _ => OPQ T Fv P PR q c w) (hm_Ma_funOf N u q (I ((fn : Nat) : Int))) := by
  obtain ⟨n, ow, kd, Y, p⟩ := MI_p M
  have mb := MI_b M
  have wf := (M.1.2.2.1 _ _ _ _ _ _ t2).2.1
  unfold hm_Ma_funOf hb_Ma_funOf_0
  rw [I_lit (n := 2)]
  refine ok_bnd.mpr (ok_mono (room_ok (N := N) M hx t9 t8 p ⟨by decide, by decide⟩ hN) (fun w2 r hw2 => ?_))
  rcases hw2 with ⟨rfl, e⟩ | ⟨rfl, ⟨M2, ph2, k9, k8⟩, ln2, fm2, -, U, ow2, kd2, p2, hU, sB, sW⟩
  · exact ok_br.mpr ⟨fun _ => ok_some.mpr (Or.inr (Or.inr (Or.inl e))), fun z => absurd z (by decide)⟩
  · have hU : (U : Int) + 2 ≤ 500 := hU
    refine ok_br.mpr ⟨fun z => absurd z (by decide), fun _ => ?_⟩
    rw [I_lit (n := 8), I_lit (n := 1000000), I_add, e_make, bnd_so, I_F (k := pq q 4), p2.1.1]
    refine e_in ⟨by omega, by omega⟩ (by decide) (ok_lt.mpr ?_)
    rw [tnI (n := U) rfl (by omega), wj_e, lit0q, e_make, bnd_so, lit1q, I_add]
    refine e_in ⟨by omega, by omega⟩ (by decide) (ok_lt.mpr (ok_lt.mpr ?_))
    rw [tnI (n := U + 1) (by omega) (by omega), wj_e]
    have cl : CEL q w2 (wj (wj w2 (pq q 2) U (mk 8 ((OfNat.ofNat 1000000 : Int) + ((fn : Nat) : Int)))) (pq q 2) (U + 1) (mk 8 0)) := CEL.rf.put.put
    generalize hw : wj (wj w2 (pq q 2) U (mk 8 ((OfNat.ofNat 1000000 : Int) + ((fn : Nat) : Int)))) (pq q 2) (U + 1) (mk 8 0) = w at cl ⊢
    have rw1 : ∀ k, w.2.2.2 (pq q 2) k = if k = U + 1 then mk 8 0 else if k = U then mk 8 (1000000 + ((fn : Nat) : Int)) else w2.2.2.2 (pq q 2) k := fun k => by rw [← hw, CEL.row, CEL.row]
    rw [I_F (k := pq q 4), cl.F, p2.1.1, I_add, show ((U : Nat) : Int) + (OfNat.ofNat 2 : Int) = ((U + (0 + 2) : Nat) : Int) by show _ + (2 : Int) = _; omega, wi_e, I_lit (n := 3), e_make, bnd_so]
    obtain ⟨ow3, kd3, g1, g2, g3⟩ := FUN_new (k := 0) (s := fun _ => 0) (f0 := 0) (h2 := w.2.2.2 (pq q 2)) p2.1.2.2 (fun k hk => by rw [rw1, if_neg (by omega), if_neg (by omega)]) (by rw [rw1, if_neg (by omega), if_pos rfl, rw1, if_pos rfl]; exact hF) (by rw [rw1, if_pos rfl]; rfl) (fun j hj => by omega) (by decide) (by omega)
    obtain ⟨fm3, p3⟩ := use_t p2 cl (n2 := U + (0 + 2)) (by omega) g1 g3
    refine ok_bnd.mpr (ok_mono (push_t (N := N) p3 (LNB_m (LNB_fc ln2 (fun k _ => by rw [cl.2.1])) (by simp) (by omega)) (by omega) g2) (fun w5 _ hw5 => ok_lt.mpr (ok_some.mpr ?_)))
    obtain ⟨fm5, p5, ln5, -⟩ := hw5
    rw [show wb + h + 1 = wb + (h + 1) by omega] at p5
    exact fin_t M2 k9 k8 (by omega) hx (FNc.tr fm3 fm5) p5 ln5 t2 (by show _ + (2 : Int) = _; omega) (by omega) (by omega)
end
