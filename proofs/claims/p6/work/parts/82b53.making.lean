set_option maxRecDepth 100000
section
variable {T : Nat → Option (Nat × Nat × List Nat × Nat × Nat)} {Fv : Int64 → Int64 → Prop} {P : Int64 → Prop} {u v w : MS} {PR N q r n B W Y i h m g x j wb nb cb rk c f i2 h2 m2 k a : Nat} {L : List Nat} {ow kd : Nat → Nat} {t : Int64} {gi gl ga ki kl ka kj : List Nat}
theorem FM_fr (f : FR [] [] [] [44, 45, 46] u w) : FNc q u w := FNc.of (FC.of f (by simp) (by simp) (by simp) (by simp)) (by simp) (by simp) (by simp) (by simp) (by simp) (by simp) (by simp)
theorem PT_fr (f : FR [] [] [] [44, 45, 46] u w) (p : PTQ u q n ow kd Fv P B W Y) : PTQ w q n ow kd Fv P B W Y := PTQ_same p (fun k _ => f.1 _ (by simp)) (fun k _ => f.2.2.2 _ (by simp; unfold pq; omega))
theorem MI_fr (M : MIc T Fv P PR q u i h m L g x j wb nb cb rk) (hx : x < i) (f : FR [] [] [] [44, 45, 46] u w) : MIc T Fv P PR q w i h m L g x j wb nb cb rk ∧ PHc T w q i x rk = PHc T u q i x rk ∧ F w 1109 = F u 1109 ∧ F w 1108 = F u 1108 := by
  obtain ⟨n, ow, kd, Y, p⟩ := MI_p M
  obtain ⟨a, b⟩ := MI_f M hx (FM_fr f).toM (PT_fr f p) (LNB_fc (MI_ln M) (fun k _ => f.1 _ (by simp))) M.2.2.2.1.1 (by rw [f.F (by simp)]; exact M.2.2.2.1.2)
  exact ⟨a, by rw [b]; rfl, f.F (by simp), f.F (by simp)⟩
theorem room_ok {y : Int} (M : MIc T Fv P PR q u i h m L g x j wb nb cb rk) (hx : x < i) (t9 : F u 1109 = 0) (t8 : F u 1108 = 0) (p : PTQ u q n ow kd Fv P (nb + m) (wb + h) Y) (hy : 0 ≤ y ∧ y ≤ 100000) (hN : 3000000 ≤ N) : OK (fun w r => (r = 0 ∧ ENDc T Fv P PR q w) ∨ (r = 1 ∧ (MIc T Fv P PR q w i h m L g x j wb nb cb rk ∧ PHc T w q i x rk = PHc T u q i x rk ∧ F w 1109 = 0 ∧ F w 1108 = 0) ∧ LNB w q ∧ FNc q u w ∧ (w.2.2.2 44 = u.2.2.2 44 ∧ w.2.2.1 = u.2.2.1) ∧ ∃ U ow2 kd2, PTQ w q U ow2 kd2 Fv P (nb + m) (wb + h) Y ∧ (U : Int) + y ≤ 500 ∧ (∀ i, i < nb + m → SML (u.2.2.2 (pq q 2)) n ow kd (w.2.2.2 (pq q 2)) U ow2 kd2 Fv P (u.2.2.2 (pq q 33) i) (w.2.2.2 (pq q 33) i)) ∧ (∀ i, i < wb + h → SML (u.2.2.2 (pq q 2)) n ow kd (w.2.2.2 (pq q 2)) U ow2 kd2 Fv P (u.2.2.2 (pq q 35) i) (w.2.2.2 (pq q 35) i)))) (hm_Ma_room N u q (I y)) := by
  unfold hm_Ma_room hb_Ma_room_0
  refine ok_bnd.mpr (ok_mono (want_ok (N := N) p M.1.2.1 hy (by omega)) (fun w r hw => ?_))
  obtain ⟨hr, U, ow2, kd2, p2, hU, f2, sB, sW⟩ := hw
  have fm : FNc q u w := FNc.of (FC_want f2) (by simp) (by simp) (by simp) (by simp) (by simp) (by simp) (by simp)
  have ln : LNB w q := LNB_k (MI_ln M) (FC_want f2) (by simp)
  obtain ⟨M2, ph⟩ := MI_f M hx fm.toM p2 ln M.2.2.2.1.1 (by rw [fm.Fg (by omega) (by simp)]; exact M.2.2.2.1.2)
  have s9 : F w 1109 = 0 := by rw [(FC_want f2).Fg (by omega) (by simp)]; exact t9
  have s8 : F w 1108 = 0 := by rw [(FC_want f2).Fg (by omega) (by simp)]; exact t8
  rcases hr with rfl | rfl
  · refine ok_br.mpr ⟨fun _ => ?_, fun z => absurd z (by decide)⟩
    refine ok_bnd.mpr (ok_mono (endsBy_w (N := N) (a := 20) M2.1 (by rw [M2.2.1]; decide) (by omega)) (fun w3 _ hw3 => ?_))
    exact ok_ck.mpr ⟨by decide, ok_some.mpr (Or.inl ⟨rfl, END_w M2.1 hw3.1 hw3.2 s9 (M21 M2)⟩)⟩
  · refine ok_br.mpr ⟨fun z => absurd z (by decide), fun _ => ?_⟩
    exact ok_ck.mpr ⟨by decide, ok_some.mpr (Or.inr ⟨rfl, ⟨M2, ph, s9, s8⟩, ln, fm, ⟨f2.2.2.2 44 (by simp; unfold pq; omega), funext fun k => f2.2.2.1 k (by simp)⟩, U, ow2, kd2, p2, hU rfl, sB, sW⟩)⟩
theorem sizes_ok {s : Nat → Nat} {f0 : Nat} (p : PTQ u q n ow kd Fv P B W Y) (cx : CTX Fv P u) (hk : k ≤ W) (hk2 : k ≤ 2000) (ha : a ≤ 5000) (hs : ∀ j, j < k → SZc (u.2.2.2 (pq q 2)) n ow kd Fv P f0 (u.2.2.2 (pq q 35) (W - 1 - j)) (s j)) (hN : 10000 ≤ N) : OK (fun w r => FR [] [] [] [44, 45, 46] u w ∧ r = I ((a + smm s 0 k : Nat) : Int)) (hm_Ma_sizes N u q (I ((k : Nat) : Int)) (I ((a : Nat) : Int))) := by
  unfold hm_Ma_sizes hb_Ma_sizes_0
  have hs1 : ∀ j, j < k → s j ≤ 1000 := fun j hj => SZ_1000c p.1.2.2 p.1.2.1 (hs j hj)
  have hsb : ∀ j, j ≤ k → smm s 0 j ≤ 1000 * j := by
    intro j
    induction j with
    | zero => intro _; exact Nat.le_refl _
    | succ j ih =>
      intro hj
      show smm s 0 j + s (0 + j) ≤ _
      have := ih (by omega)
      have := hs1 (0 + j) (by omega)
      omega
  have gen : ∀ (M j : Nat) (w : MS), j ≤ k → k - j < M → FR [] [] [] [44, 45, 46] u w → OK (fun w r => FR [] [] [] [44, 45, 46] u w ∧ r = I ((a + smm s 0 k : Nat) : Int)) (hg_Ma_sizes N M w q (I ((k : Nat) : Int)) (I ((a + smm s 0 j : Nat) : Int)) (I ((j : Nat) : Int))) := by
    intro M
    induction M with
    | zero => intro j _ _ hM; omega
    | succ M ih =>
      intro j w hj hM fr
      show OK _ (hb_Ma_sizes_5 N (hg_Ma_sizes N M) w q (I ((k : Nat) : Int)) (I ((a + smm s 0 j : Nat) : Int)) (I ((j : Nat) : Int)))
      unfold hb_Ma_sizes_5
      refine k_le ⟨by omega, by omega⟩ ⟨by omega, by omega⟩ (fun hh => ok_some.mpr ⟨fr, by rw [show j = k by omega]⟩) (fun hh => ?_)
      have pw := PT_fr (q := q) fr p
      obtain ⟨l, l1, l2, l3⟩ := pw.2.2.2.2.2.1
      have e35 : w.2.2.2 (pq q 35) = u.2.2.2 (pq q 35) := fr.2.2.2 _ (by simp; unfold pq; omega)
      have e2 : w.2.2.2 (pq q 2) = u.2.2.2 (pq q 2) := fr.2.2.2 _ (by simp; unfold pq; omega)
      rw [below_e (k := j) pw.2.2.1.1 l1 l2 l3 rfl (by omega), bnd_so, e35]
      have hz := hs j (by omega)
      refine ok_bnd.mpr (ok_mono (size_ok (N := N) (n := n) (s := s j) (b := pq q 2) (by unfold pq; omega) rfl (by have := p.1.2.1; omega) cx.1.1 (by have := hs1 j (by omega); omega) (by rw [e2]; exact hz) (by omega)) (fun w2 r hw => ?_))
      obtain ⟨f1, rfl⟩ := hw
      rw [I_add, lit1q, I_add]
      have e : ((a + smm s 0 j : Nat) : Int) + ((s j : Nat) : Int) = ((a + smm s 0 (j + 1) : Nat) : Int) := by
        show _ = ((a + (smm s 0 j + s (0 + j)) : Nat) : Int)
        rw [Nat.zero_add]; omega
      rw [e, show ((j : Nat) : Int) + 1 = ((j + 1 : Nat) : Int) by omega]
      exact ih (j + 1) w2 (by omega) (by omega) (FR.tr fr (FR.mo f1 (by simp) (by simp) (by simp) (by simp)))
  rw [lit0q, show (0 : Int) = ((0 : Nat) : Int) from rfl]
  exact gen N 0 u (by omega) (by omega) FR.rf
theorem sz_w (p : PTQ u q n ow kd Fv P B W Y) (hk : k ≤ W) : ∃ f0, ∃ s : Nat → Nat, ∀ j, j < k → SZc (u.2.2.2 (pq q 2)) n ow kd Fv P f0 (u.2.2.2 (pq q 35) (W - 1 - j)) (s j) := SZ_allc (q := fun j => u.2.2.2 (pq q 35) (W - 1 - j)) (fun j hj => HP_szc p.1.2.2 (p.2.2.1.2 _ (by omega)))
theorem mk5 {k : Nat} (hk : k ≤ 200000) : so (mk 5 ((k : Nat) : Int)) = 5 ∧ va (mk 5 ((k : Nat) : Int)) = ((k : Nat) : Int) ∧ vn (mk 5 ((k : Nat) : Int)) = k := by
  have a : so (mk 5 ((k : Nat) : Int)) = 5 := so_mk (by decide) (by decide)
  have b : va (mk 5 ((k : Nat) : Int)) = ((k : Nat) : Int) := va_mk (by omega) (by omega)
  exact ⟨a, b, by unfold vn; rw [b]; exact Int.toNat_natCast k⟩
theorem mk8 {k : Nat} (hk : k ≤ 2000000) : so (mk 8 ((k : Nat) : Int)) = 8 ∧ va (mk 8 ((k : Nat) : Int)) = ((k : Nat) : Int) ∧ vn (mk 8 ((k : Nat) : Int)) = k := by
  have a : so (mk 8 ((k : Nat) : Int)) = 8 := so_mk (by decide) (by decide)
  have b : va (mk 8 ((k : Nat) : Int)) = ((k : Nat) : Int) := va_mk (by omega) (by omega)
  exact ⟨a, b, by unfold vn; rw [b]; exact Int.toNat_natCast k⟩
def CEL (q : Nat) (u w : MS) : Prop := FC q [] [] [] [] [] [] [2] u w ∧ w.1 = u.1 ∧ (∀ k, k ≠ pq q 2 → w.2.2.2 k = u.2.2.2 k) ∧ w.2.2.1 = u.2.2.1
theorem CEL.rf : CEL q u u := ⟨FC.rf, rfl, fun _ _ => rfl, rfl⟩
theorem CEL.put (a : CEL q u w) {y : Nat} {z : Int64} : CEL q u (wj w (pq q 2) y z) := ⟨FC.wj_q a.1 (by omega) (by simp), a.2.1, fun k hk => (if_neg hk).trans (a.2.2.1 k hk), a.2.2.2⟩
theorem CEL.F (a : CEL q u w) (k : Nat) : F w k = F u k := congrArg (fun y => (y k).toInt) a.2.1
theorem use_t {n2 : Nat} {ow2 kd2 : Nat → Nat} (p : PTQ u q n ow kd Fv P B W Y) (a : CEL q u w) (hn : n2 ≤ 500) (g : HPc (w.2.2.2 (pq q 2)) n2 ow2 kd2 Fv P) (gt : ∀ t, GT n ow kd P t → GT n2 ow2 kd2 P t) : FNc q u (wi w (pq q 4) ((n2 : Nat) : Int)) ∧ PTQ (wi w (pq q 4) ((n2 : Nat) : Int)) q n2 ow2 kd2 Fv P B W Y := by
  have f : FC q [] [] [] [4] [] [] [2] u (wi w (pq q 4) ((n2 : Nat) : Int)) := FC.wi_q (FC.mo a.1 (by simp) (by simp) (by simp) (by simp) (by simp) (by simp) (by simp)) (by omega) (by simp)
  exact ⟨FNc.of f (by simp) (by simp) (by simp) (by simp) (by simp) (by simp) (by simp), PTQ_cells p f (by rw [F_wi (by omega) (by omega), if_pos rfl]) hn g gt⟩
theorem CEL.row {y k : Nat} {z : Int64} : (wj w (pq q 2) y z).2.2.2 (pq q 2) k = if k = y then z else w.2.2.2 (pq q 2) k := wj_row
theorem TUP_new {h h2 : Nat → Int64} {s : Nat → Nat} {f0 : Nat} (g : HPc h n ow kd Fv P) (hh : ∀ i, i < n → h2 i = h i) (h8 : h2 n = mk 8 ((k : Nat) : Int)) (hp : ∀ j, j < k → SZc h n ow kd Fv P f0 (h2 (n + 1 + j)) (s (k - 1 - j))) (hb : k + 1 + smm s 0 k ≤ 500) (hn : n ≤ 500) : ∃ ow2 kd2, HPc h2 (n + (k + 1)) ow2 kd2 Fv P ∧ GT (n + (k + 1)) ow2 kd2 P (mk 5 ((n : Nat) : Int)) ∧ ∀ t, GT n ow kd P t → GT (n + (k + 1)) ow2 kd2 P t := by
  obtain ⟨m1, m2, m3⟩ := mk5 (k := n) (by omega)
  obtain ⟨e1, e2, e3⟩ := mk8 (k := k) (by omega)
  have bk : blk h2 (mk 5 ((n : Nat) : Int)) = k + 1 := by unfold blk; rw [if_neg (by omega), if_pos m1, m3, h8, e3]; omega
  have pr : prt (mk 5 ((n : Nat) : Int)) = 1 := by unfold prt; rw [if_neg (by omega), if_pos m1]
  obtain ⟨ow2, kd2, a1, a2, a3, -⟩ := HP_newc g hh (Or.inr (Or.inl m1)) (by omega) m3 bk (fun _ => by rw [h8]; exact ⟨by omega, e1⟩) (fun z => by omega) (fun j h1 h2' => by
    rw [pr] at h1
    have := hp (j - 1) (by omega)
    rw [show n + 1 + (j - 1) = n + j by omega] at this
    exact SZ_gtc this) (Or.inr (fun f c hc => by
    rw [pr] at hc ⊢
    have e : smm c 1 (k + 1 - 1) = smm s 0 k := by
      rw [show k + 1 - 1 = k by omega, ← smm_rev k]
      refine smm_ext k (fun j hj => ?_)
      have z1 := hc (1 + j) (by omega) (by omega)
      have z2 := hp j hj
      rw [show n + 1 + j = n + (1 + j) by omega] at z2
      rw [SZ_func z1 z2, Nat.zero_add]
    omega))
  exact ⟨ow2, kd2, a1, a2, a3⟩
theorem tuple_ok {cnt : Nat} (M : MIc T Fv P PR q u i h m L g x j wb nb cb rk) (hx : x < i) (t9 : F u 1109 = 0) (t8 : F u 1108 = 0) (hf : PHc T u q i x rk ≤ c) (hc : cnt ≤ h) (t2 : T (i + 2) = some (h - cnt + 1, m, L, g, x)) (hN : 3000000 ≤ N) : OK (fun w _ => OPQ T Fv P PR q c w) (hm_Ma_tuple N u q (I ((cnt : Nat) : Int))) := by
  obtain ⟨n, ow, kd, Y, p⟩ := MI_p M
  have mb := MI_b M
  obtain ⟨f0, s, hs⟩ := sz_w (k := cnt) p (by omega)
  have wf := (M.1.2.2.1 _ _ _ _ _ _ M.2.2.2.1.1).2.1
  unfold hm_Ma_tuple hb_Ma_tuple_0
  rw [lit1q, I_add, show ((cnt : Nat) : Int) + 1 = ((cnt + 1 : Nat) : Int) by omega]
  refine ok_bnd.mpr (ok_mono (sizes_ok (N := N) p M.1.2.1 (by omega) (by omega) (by omega) hs (by omega)) (fun w1 r hw1 => ?_))
  obtain ⟨f1, rfl⟩ := hw1
  obtain ⟨M1, ph1, s9, s8⟩ := MI_fr M hx f1
  have p1 := PT_fr (q := q) f1 p
  have hsb : smm s 0 cnt ≤ 1000 * cnt := by
    have hs1 : ∀ j, j < cnt → s j ≤ 1000 := fun j hj => SZ_1000c p.1.2.2 p.1.2.1 (hs j hj)
    have : ∀ j, j ≤ cnt → smm s 0 j ≤ 1000 * j := by
      intro j
      induction j with
      | zero => intro _; exact Nat.le_refl _
      | succ j ih =>
        intro hj
        show smm s 0 j + s (0 + j) ≤ _
        have := ih (by omega)
        have := hs1 (0 + j) (by omega)
        omega
    exact this cnt (Nat.le_refl _)
  rw [I_lit (n := 500)]
  refine k_le ⟨by omega, by omega⟩ ⟨by decide, by decide⟩ (fun hle => ?_) (fun _ => ?_)
  · have hle : ((cnt + 1 + smm s 0 cnt : Nat) : Int) ≤ 500 := hle
    refine ok_bnd.mpr (ok_mono (room_ok (N := N) M1 hx (by rw [s9]; exact t9) (by rw [s8]; exact t8) p1 ⟨by omega, by omega⟩ hN) (fun w2 r hw2 => ?_))
    rcases hw2 with ⟨rfl, e⟩ | ⟨rfl, ⟨M2, ph2, k9, k8⟩, ln2, fm2, -, U, ow2, kd2, p2, hU, sB, sW⟩
    · exact ok_br.mpr ⟨fun _ => ok_some.mpr (Or.inr (Or.inr (Or.inl e))), fun z => absurd z (by decide)⟩
    · refine ok_br.mpr ⟨fun z => absurd z (by decide), fun _ => ?_⟩
      rw [I_lit (n := 8), e_make, bnd_so, I_F (k := pq q 4), p2.1.1]
      refine e_in ⟨by omega, by omega⟩ (by decide) (ok_lt.mpr ?_)
      rw [tnI (n := U) rfl (by omega), wj_e]
      have e35 : w1.2.2.2 (pq q 35) = u.2.2.2 (pq q 35) := f1.2.2.2 _ (by simp; unfold pq; omega)
      have e2 : w1.2.2.2 (pq q 2) = u.2.2.2 (pq q 2) := f1.2.2.2 _ (by simp; unfold pq; omega)
      have sz2 : ∀ j, j < cnt → SZc (w2.2.2.2 (pq q 2)) U ow2 kd2 Fv P f0 (w2.2.2.2 (pq q 35) (wb + h - 1 - j)) (s j) := fun j hj => (sW (wb + h - 1 - j) (by omega)).2.2 f0 (s j) (by rw [e2, e35]; exact hs j hj)
      obtain ⟨l, l1, l2, l3⟩ := p2.2.2.2.2.2.1
      have loop : ∀ (K d : Nat) (w : MS), d ≤ cnt → cnt - d < K → CEL q w2 w → (∀ k, k < U → w.2.2.2 (pq q 2) k = w2.2.2.2 (pq q 2) k) → w.2.2.2 (pq q 2) U = mk 8 ((cnt : Nat) : Int) → (∀ j, j < d → w.2.2.2 (pq q 2) (U + 1 + j) = w2.2.2.2 (pq q 35) (wb + h - 1 - (cnt - 1 - j))) → OK (fun w _ => OPQ T Fv P PR q c w) (hg_Ma_tuple N K w q (I ((cnt : Nat) : Int)) (I ((U : Nat) : Int)) (I ((d : Nat) : Int))) := by
        intro K
        induction K with
        | zero => intro d _ _ hK; omega
        | succ K ih =>
          intro d w hd hK cl c1 c2 c3
          show OK _ (hb_Ma_tuple_57 N (hg_Ma_tuple N K) w q (I ((cnt : Nat) : Int)) (I ((U : Nat) : Int)) (I ((d : Nat) : Int)))
          unfold hb_Ma_tuple_57
          refine k_le ⟨by omega, by omega⟩ ⟨by omega, by omega⟩ (fun hh => ok_lt.mpr ?_) (fun hh => ?_)
          · have ed : d = cnt := by omega
            subst ed
            rw [I_F (k := pq q 4), cl.F, p2.1.1, lit1q, I_add, I_add, show ((U : Nat) : Int) + (((d : Nat) : Int) + 1) = ((U + (d + 1) : Nat) : Int) by omega, wi_e, I_lit (n := 5), e_make, bnd_so]
            obtain ⟨ow3, kd3, g1, g2, g3⟩ := TUP_new (k := d) (s := s) (f0 := f0) (h2 := w.2.2.2 (pq q 2)) p2.1.2.2 c1 c2 (fun j hj => by rw [c3 j hj]; exact sz2 (d - 1 - j) (by omega)) (by omega) (by omega)
            obtain ⟨fm3, p3⟩ := use_t p2 cl (n2 := U + (d + 1)) (by omega) g1 g3
            refine ok_bnd.mpr (ok_mono (answer_t (N := N) (k := d) p3 (LNB_m (LNB_fc ln2 (fun k _ => by rw [cl.2.1])) (by simp) (by omega)) rfl (by omega) (by omega) g2) (fun w5 _ hw5 => ok_lt.mpr (ok_some.mpr ?_)))
            obtain ⟨fm5, p5, ln5⟩ := hw5
            rw [show wb + h - d + 1 = wb + (h - d + 1) by omega] at p5
            rw [I_lit (n := 2)]
            exact fin_t M2 k9 k8 (by omega) hx (FNc.tr fm3 fm5) p5 ln5 t2 (by show _ + (2 : Int) = _; omega) (by omega) (by omega)
          · rw [lit1q, I_sub, I_sub, below_e (k := cnt - 1 - d) (W := wb + h) (l := l) (by rw [cl.F]; exact p2.2.2.1.1) (by rw [cl.F]; exact l1) l2 l3 (by omega) (by omega), bnd_so]
            rw [I_add, I_add]
            refine e_in ⟨by omega, by omega⟩ (by decide) (ok_lt.mpr ?_)
            rw [tnI (n := U + 1 + d) (by omega) (by omega), wj_e, I_add, show ((d : Nat) : Int) + 1 = ((d + 1 : Nat) : Int) by omega]
            refine ih (d + 1) _ (by omega) (by omega) cl.put (fun k hk => ?_) ?_ (fun j hj => ?_)
            · rw [CEL.row, if_neg (by omega)]; exact c1 k hk
            · rw [CEL.row, if_neg (by omega)]; exact c2
            · rw [CEL.row]
              by_cases e : j = d
              · subst e
                rw [if_pos rfl, cl.2.2.1 _ (by unfold pq; omega)]
              · rw [if_neg (by omega)]; exact c3 j (by omega)
      rw [lit0q, show (0 : Int) = ((0 : Nat) : Int) from rfl]
      refine loop N 0 _ (by omega) (by omega) CEL.rf.put (fun k hk => ?_) ?_ (fun j hj => by omega)
      · rw [CEL.row, if_neg (by omega)]
      · rw [CEL.row, if_pos rfl]
  · exact ok_bnd.mpr (ok_mono (ERR_w (N := N) (a := 11) M1 (by rw [s9]; exact t9) (by rw [s8]; exact t8) (by rw [ph1]; exact hf) (by omega)) (fun w _ hw => ok_some.mpr hw))
end
