set_option maxRecDepth 100000
section
variable {T : Nat → Option (Nat × Nat × List Nat × Nat × Nat)} {Fv : Int64 → Int64 → Prop} {P : Int64 → Prop} {u v w w1 : MS} {PR N q r n B W Y i h m g x j wb nb cb rk c f i2 h2 m2 k a U d : Nat} {L : List Nat} {ow kd : Nat → Nat} {t rest : Int64} {gi gl ga ki kl ka kj : List Nat}
theorem LST_at {hh : Nat → Int64} (g : HPc hh n ow kd Fv P) (l : LSTc hh n ow kd Fv P t k) (hj : j < k) : so (tlc hh t j) = 7 ∧ va (tlc hh t j) = ((vn (tlc hh t j) : Nat) : Int) ∧ vn (tlc hh t j) + 2 ≤ n ∧ GT n ow kd P (hh (vn (tlc hh t j))) := by
  obtain ⟨e7, bk, f, s, z⟩ := l.2 j hj
  have hH : isH (tlc hh t j) := Or.inr (Or.inr e7)
  have hb2 : blk hh (tlc hh t j) = 2 := by unfold blk; rw [if_pos e7]
  have hp : prt (tlc hh t j) = 0 := by unfold prt; rw [if_pos e7]
  have hbl := bk.2.2.2.1
  rw [hb2] at hbl
  obtain ⟨-, b2⟩ := HP_bkc g hH (SZ_gtc z)
  exact ⟨e7, vn_e bk.1, hbl, b2 0 (by omega) (by omega)⟩
theorem FR_44 (f : FR [] [] [] [44, 45, 46] u w) {gg : Nat → Int64} : FR [] [] [] [44, 45, 46] u (upJ w 44 gg) := ⟨f.1, f.2.1, f.2.2.1, fun k hk => (if_neg (fun e => hk (by rw [e]; simp))).trans (f.2.2.2 k hk)⟩
theorem markGone_ok {cnt k0 : Nat} (M : MIc T Fv P PR q u i h m L g x j wb nb cb rk) (p : PTQ u q n ow kd Fv P (nb + m) (wb + h) Y) (hk : 2 ≤ h) (l1 : LSTc (u.2.2.2 (pq q 2)) n ow kd Fv P (u.2.2.2 (pq q 35) (wb + h - 1 - 1)) cnt) (l0 : LSTc (u.2.2.2 (pq q 2)) n ow kd Fv P (u.2.2.2 (pq q 35) (wb + h - 1)) k0) (hc : cnt ≤ 1000) (hk0 : k0 ≤ 1000) (hN : 600000000010 ≤ N) : OK (fun w r => FR [] [] [] [44, 45, 46] u w ∧ ∃ up : Nat, r = I ((up : Nat) : Int) ∧ up ≤ cnt) (hm_Ma_markGone N u q (I ((cnt : Nat) : Int))) := by
  have pn := p.1.2.1
  have bel : ∀ {w : MS}, FR [] [] [] [44, 45, 46] u w → hm_Fr_below N w q 0 = some (w, u.2.2.2 (pq q 35) (wb + h - 1)) ∧ hm_Fr_below N w q 1 = some (w, u.2.2.2 (pq q 35) (wb + h - 1 - 1)) := fun {w} fr => by
    have pw := PT_fr (q := q) fr p
    obtain ⟨l, k1, k2, k3⟩ := pw.2.2.2.2.2.1
    have e35 : w.2.2.2 (pq q 35) = u.2.2.2 (pq q 35) := fr.2.2.2 _ (by simp; unfold pq; omega)
    rw [← e35]
    exact ⟨below_e (x := 0) (k := 0) pw.2.2.1.1 k1 k2 k3 rfl (by omega), below_e (x := 1) (k := 1) pw.2.2.1.1 k1 k2 k3 rfl (by omega)⟩
  have ce : ∀ {w : MS}, FR [] [] [] [44, 45, 46] u w → w.2.2.2 (pq q 2) = u.2.2.2 (pq q 2) := fun fr => fr.2.2.2 _ (by simp; unfold pq; omega)
  have mul : ∀ d, d < k0 → (k0 - d) * (cnt + 5) = (k0 - (d + 1)) * (cnt + 5) + (cnt + 5) := fun d hd => by
    rw [show k0 - d = (k0 - (d + 1)) + 1 by omega, Nat.add_mul, Nat.one_mul]
  have gen : ∀ K,
      (∀ i w, i ≤ cnt → cnt - i + k0 * (cnt + 5) + 10 < K → FR [] [] [] [44, 45, 46] u w → OK (fun w r => FR [] [] [] [44, 45, 46] u w ∧ ∃ up : Nat, r = I ((up : Nat) : Int) ∧ up ≤ cnt) ((hg_Ma_markGone N K).1 w q (I ((cnt : Nat) : Int)) (I ((i : Nat) : Int)))) ∧
      (∀ d up w, d ≤ k0 → up ≤ cnt → (k0 - d) * (cnt + 5) + 5 < K → FR [] [] [] [44, 45, 46] u w → OK (fun w r => FR [] [] [] [44, 45, 46] u w ∧ ∃ up : Nat, r = I ((up : Nat) : Int) ∧ up ≤ cnt) ((hg_Ma_markGone N K).2.1 w q (I ((cnt : Nat) : Int)) (I ((up : Nat) : Int)) (tlc (u.2.2.2 (pq q 2)) (u.2.2.2 (pq q 35) (wb + h - 1)) d) (I ((d : Nat) : Int)))) ∧
      (∀ d up i w, d < k0 → up ≤ cnt → i ≤ cnt → (k0 - (d + 1)) * (cnt + 5) + 7 + (cnt - i) < K → FR [] [] [] [44, 45, 46] u w → OK (fun w r => FR [] [] [] [44, 45, 46] u w ∧ ∃ up : Nat, r = I ((up : Nat) : Int) ∧ up ≤ cnt) ((hg_Ma_markGone N K).2.2 w q (I ((cnt : Nat) : Int)) (I ((up : Nat) : Int)) (tlc (u.2.2.2 (pq q 2)) (u.2.2.2 (pq q 35) (wb + h - 1)) d) (I ((d : Nat) : Int)) (tlc (u.2.2.2 (pq q 2)) (u.2.2.2 (pq q 35) (wb + h - 1 - 1)) i) (I ((i : Nat) : Int)))) := by
    intro K
    induction K with
    | zero => exact ⟨fun _ _ _ hh => by omega, fun _ _ _ _ _ hh => by omega, fun _ _ _ _ _ _ _ hh => by omega⟩
    | succ K ih =>
      refine ⟨fun i w hi hK fr => ?_, fun d up w hd hup hK fr => ?_, fun d up i w hd hup hi hK fr => ?_⟩
      · show OK _ (hb_Ma_markGone_2 N (hg_Ma_markGone N K) w q (I ((cnt : Nat) : Int)) (I ((i : Nat) : Int)))
        unfold hb_Ma_markGone_2
        refine k_le ⟨by omega, by omega⟩ ⟨by omega, by omega⟩ (fun hh => ?_) (fun hh => ?_)
        · rw [(bel fr).1, bnd_so, lit0q, show (0 : Int) = ((0 : Nat) : Int) from rfl]
          exact ih.2.1 0 0 w (by omega) (by omega) (by rw [Nat.sub_zero]; omega) fr
        · refine e_in ⟨by omega, by omega⟩ (by decide) (ok_lt.mpr ?_)
          rw [lit1q, I_add, show ((i : Nat) : Int) + 1 = ((i + 1 : Nat) : Int) by omega]
          exact ih.1 (i + 1) _ (by omega) (by omega) (FR_44 fr)
      · show OK _ (hb_Ma_markGone_37 N (hg_Ma_markGone N K) w q (I ((cnt : Nat) : Int)) (I ((up : Nat) : Int)) _ (I ((d : Nat) : Int)))
        unfold hb_Ma_markGone_37 hb_Ma_markGone_188
        rw [I_lit (n := 1000000000)]
        refine k_le ⟨by decide, by decide⟩ ⟨by omega, by omega⟩ (fun z => absurd (show (1000000000 : Int) ≤ _ from z) (by omega)) (fun _ => ?_)
        rw [e_tag, bnd_so, I_lit (n := 7)]
        refine k_eq (so_r _) ⟨by decide, by decide⟩ (fun e7 => ?_) (fun _ => ok_some.mpr ⟨fr, up, rfl, hup⟩)
        have hdk : d < k0 := by
          rcases Nat.lt_or_ge d k0 with z | z
          · exact z
          · exfalso
            have ed : d = k0 := by omega
            have e7 : so (tlc (u.2.2.2 (pq q 2)) (u.2.2.2 (pq q 35) (wb + h - 1)) d) = 7 := e7
            rw [ed, l0.1] at e7
            exact absurd e7 (by decide)
        rw [(bel fr).2, bnd_so, lit0q, show (0 : Int) = ((0 : Nat) : Int) from rfl]
        have := mul d hdk
        exact ih.2.2 d up 0 w hdk hup (by omega) (by omega) fr
      · have nx : ∀ (up2 : Nat) (w2 : MS), up2 ≤ cnt → FR [] [] [] [44, 45, 46] u w2 → OK (fun w r => FR [] [] [] [44, 45, 46] u w ∧ ∃ up : Nat, r = I ((up : Nat) : Int) ∧ up ≤ cnt) (hb_Ma_markGone_169 N (hg_Ma_markGone N K) w2 q (I ((cnt : Nat) : Int)) (I ((up2 : Nat) : Int)) (tlc (u.2.2.2 (pq q 2)) (u.2.2.2 (pq q 35) (wb + h - 1)) d) (I ((d : Nat) : Int))) := by
          intro up2 w2 hup2 fr2
          unfold hb_Ma_markGone_169
          obtain ⟨a1, a2, a3, a4⟩ := LST_at p.1.2.2 l0 hd
          rw [valI, a2, lit1q, I_add]
          refine e_in ⟨by omega, by omega⟩ (by decide) ?_
          rw [tnI (n := vn (tlc (u.2.2.2 (pq q 2)) (u.2.2.2 (pq q 35) (wb + h - 1)) d) + 1) (by omega) (by omega), ce fr2, I_add, show ((d : Nat) : Int) + 1 = ((d + 1 : Nat) : Int) by omega]
          exact ih.2.1 (d + 1) up2 w2 (by omega) hup2 (by omega) fr2
        show OK _ (hb_Ma_markGone_66 N (hg_Ma_markGone N K) w q (I ((cnt : Nat) : Int)) (I ((up : Nat) : Int)) _ (I ((d : Nat) : Int)) _ (I ((i : Nat) : Int)))
        unfold hb_Ma_markGone_66
        refine k_le ⟨by omega, by omega⟩ ⟨by omega, by omega⟩ (fun hh => nx up w hup fr) (fun hh => ?_)
        obtain ⟨a1, a2, a3, a4⟩ := LST_at p.1.2.2 l0 hd
        obtain ⟨b1, b2, b3, b4⟩ := LST_at (j := i) p.1.2.2 l1 (by omega)
        have nx2 : ∀ w2, FR [] [] [] [44, 45, 46] u w2 → OK (fun w r => FR [] [] [] [44, 45, 46] u w ∧ ∃ up : Nat, r = I ((up : Nat) : Int) ∧ up ≤ cnt) (hb_Ma_markGone_148 N (hg_Ma_markGone N K) w2 q (I ((cnt : Nat) : Int)) (I ((up : Nat) : Int)) (tlc (u.2.2.2 (pq q 2)) (u.2.2.2 (pq q 35) (wb + h - 1)) d) (I ((d : Nat) : Int)) (tlc (u.2.2.2 (pq q 2)) (u.2.2.2 (pq q 35) (wb + h - 1 - 1)) i) (I ((i : Nat) : Int))) := by
          intro w2 fr2
          unfold hb_Ma_markGone_148
          rw [valI, b2, lit1q, I_add]
          refine e_in ⟨by omega, by omega⟩ (by decide) ?_
          rw [tnI (n := vn (tlc (u.2.2.2 (pq q 2)) (u.2.2.2 (pq q 35) (wb + h - 1 - 1)) i) + 1) (by omega) (by omega), ce fr2, I_add, show ((i : Nat) : Int) + 1 = ((i + 1 : Nat) : Int) by omega]
          exact ih.2.2 d up (i + 1) w2 hd hup (by omega) (by omega) fr2
        refine e_in ⟨by omega, by omega⟩ (by decide) (ok_br.mpr ⟨fun _ => ?_, fun _ => nx2 w fr⟩)
        rw [valI, b2, valI, a2]
        refine e_in ⟨by omega, by omega⟩ (by decide) (e_in ⟨by omega, by omega⟩ (by decide) ?_)
        rw [tnI (n := vn (tlc (u.2.2.2 (pq q 2)) (u.2.2.2 (pq q 35) (wb + h - 1 - 1)) i)) rfl (by omega), tnI (n := vn (tlc (u.2.2.2 (pq q 2)) (u.2.2.2 (pq q 35) (wb + h - 1)) d)) rfl (by omega), ce fr]
        have cw : CTX Fv P w := CTX_fr M.1.2.1 (fr.1 22 (by simp)) (fr.2.2.1 3 (by simp))
        refine ok_bnd.mpr (ok_mono (orderc_ok (N := N) (n := n) (ow := ow) (kd := kd) (Fv := Fv) (P := P) (b := pq q 2) (by unfold pq; omega) (ce fr) (by omega) p.1.2.2 cw.2.1 cw.1 cw.2.2.1 b4 a4 hN) (fun w3 r3 hw3 => ?_))
        have fr3 : FR [] [] [] [44, 45, 46] u w3 := FR.tr fr (FR.mo hw3 (by simp) (by simp) (by simp) (by simp))
        refine ok_br.mpr ⟨fun _ => ?_, fun _ => nx2 w3 fr3⟩
        refine e_in ⟨by omega, by omega⟩ (by decide) (ok_lt.mpr (ok_lt.mpr ?_))
        rw [lit1q, I_add]
        by_cases z : ((up : Nat) : Int) < ((i : Nat) : Int) + 1
        · rw [if_pos ((I_lt (by omega) (by omega) (by omega) (by omega)).mpr z), show ((i : Nat) : Int) + 1 = ((i + 1 : Nat) : Int) by omega]
          exact nx (i + 1) _ (by omega) (FR_44 fr3)
        · rw [if_neg (fun y => z ((I_lt (by omega) (by omega) (by omega) (by omega)).mp y))]
          exact nx up _ hup (FR_44 fr3)
  unfold hm_Ma_markGone hb_Ma_markGone_0
  rw [lit0q, show (0 : Int) = ((0 : Nat) : Int) from rfl]
  have hm : k0 * (cnt + 5) ≤ 1000 * 1005 := Nat.mul_le_mul hk0 (by omega)
  exact (gen N).1 0 u (by omega) (by omega) FR.rf
theorem without_ok (M : MIc T Fv P PR q u i h m L g x j wb nb cb rk) (hx : x < i) (t9 : F u 1109 = 0) (t8 : F u 1108 = 0) (hf : PHc T u q i x rk ≤ c) (hk : 2 ≤ h) (t2 : T (i + 2) = some (h - 1, m, L, g, x)) (hN : 600000000010 ≤ N) : OK (fun w _ => OPQ T Fv P PR q c w) (hm_Ma_without N u q) := by
  obtain ⟨n, ow, kd, Y, p⟩ := MI_p M
  have mb := MI_b M
  obtain ⟨b0, g0⟩ := below_0 (N := N) M p (by omega)
  obtain ⟨b1, g1⟩ := below_1 (N := N) M p (by omega)
  obtain ⟨f0, s, hs⟩ := sz_w (k := 2) p (by omega)
  have z1 := hs 1 (by omega)
  have z0 := hs 0 (by omega)
  have s1b := SZ_1000c p.1.2.2 p.1.2.1 z1
  have s0b := SZ_1000c p.1.2.2 p.1.2.1 z0
  have pn := p.1.2.1
  have wr : ∀ {w : MS} {i2}, MIc T Fv P PR q w i h m L g x j wb nb cb rk → F w 1109 = 0 → F w 1108 = 0 → PHc T w q i x rk ≤ c → OK (fun w _ => OPQ T Fv P PR q c w) (hb_Ma_without_61 N (hg_Ma_without N i2) w q) := fun {w i2} M t9 t8 hf => by
    unfold hb_Ma_without_61
    exact ERR_o (a := 11) M t9 t8 hf (by omega)
  unfold hm_Ma_without hb_Ma_without_0
  rw [b1, bnd_so]
  refine ok_bnd.mpr (ok_mono (listLength_ok (N := N) (b := pq q 2) rfl (by omega) z1 (by omega) (by omega)) (fun w r hw => ?_))
  obtain ⟨rfl, hr⟩ := hw
  rcases hr with rfl | ⟨cnt, rfl, hcs, lst1⟩
  · exact ok_br.mpr ⟨fun _ => wr M t9 t8 hf, fun z => absurd z (by decide)⟩
  rw [m1I]
  refine k_eq ⟨by omega, by omega⟩ ⟨by decide, by decide⟩ (fun z => absurd z (by omega)) (fun _ => ?_)
  rw [I_lit (n := 2048)]
  refine k_lt ⟨by decide, by decide⟩ ⟨by omega, by omega⟩ (fun z => absurd (show (2048 : Int) < _ from z) (by omega)) (fun _ => ?_)
  rw [b0, bnd_so]
  refine ok_bnd.mpr (ok_mono (listLength_ok (N := N) (b := pq q 2) rfl (by omega) z0 (by omega) (by omega)) (fun w' r hw => ?_))
  obtain ⟨rfl, hr⟩ := hw
  rcases hr with rfl | ⟨k0, rfl, hks, lst0⟩
  · exact ok_br.mpr ⟨fun _ => wr M t9 t8 hf, fun z => absurd z (by decide)⟩
  refine k_eq ⟨by omega, by omega⟩ ⟨by decide, by decide⟩ (fun z => absurd z (by omega)) (fun _ => ?_)
  refine ok_bnd.mpr (ok_mono (markGone_ok (N := N) M p hk lst1 lst0 (by omega) (by omega) hN) (fun w1 r hw1 => ?_))
  obtain ⟨f1, up, rfl, hup⟩ := hw1
  obtain ⟨M1, ph1, s9, s8⟩ := MI_fr M hx f1
  have p1 := PT_fr (q := q) f1 p
  have e35 : w1.2.2.2 (pq q 35) = w'.2.2.2 (pq q 35) := f1.2.2.2 _ (by simp; unfold pq; omega)
  have e2 : w1.2.2.2 (pq q 2) = w'.2.2.2 (pq q 2) := f1.2.2.2 _ (by simp; unfold pq; omega)
  have loopB : ∀ (w2 : MS) (U : Nat) (ow2 kd2 : Nat → Nat), MIc T Fv P PR q w2 i h m L g x j wb nb cb rk → PHc T w2 q i x rk ≤ c → F w2 1109 = 0 → F w2 1108 = 0 → LNB w2 q → w2.2.2.2 44 = w1.2.2.2 44 → PTQ w2 q U ow2 kd2 Fv P (nb + m) (wb + h) Y → U + 2 * zcn (w1.2.2.2 44) up ≤ 500 → (∀ j, j ≤ cnt → so (tlc (w2.2.2.2 (pq q 2)) (w2.2.2.2 (pq q 35) (wb + h - 1 - 1)) j) = so (tlc (w'.2.2.2 (pq q 2)) (w'.2.2.2 (pq q 35) (wb + h - 1 - 1)) j)) → ∀ (K d : Nat) (v : MS), d ≤ up → up - d < K → CEL q w2 v → (∃ e : Nat → Int64, ∃ se : Nat → Nat, ∃ ff sd rd, LRW (w2.2.2.2 (pq q 2)) (v.2.2.2 (pq q 2)) U (zcn (w1.2.2.2 44) d) e ∧ (∀ j, j < zcn (w1.2.2.2 44) d → SZc (w2.2.2.2 (pq q 2)) U ow2 kd2 Fv P ff (e j) (se j)) ∧ SZc (w2.2.2.2 (pq q 2)) U ow2 kd2 Fv P ff (tlc (w2.2.2.2 (pq q 2)) (w2.2.2.2 (pq q 35) (wb + h - 1 - 1)) d) rd ∧ 2 * zcn (w1.2.2.2 44) d + smm se 0 (zcn (w1.2.2.2 44) d) + rd ≤ sd ∧ (1 ≤ d → sd ≤ 500) ∧ ∃ f2, SZc (w2.2.2.2 (pq q 2)) U ow2 kd2 Fv P f2 (w2.2.2.2 (pq q 35) (wb + h - 1 - 1)) sd) → OK (fun w _ => OPQ T Fv P PR q c w) ((hg_Ma_without N K).2 v q (I ((up : Nat) : Int)) (I ((U : Nat) : Int)) (I ((zcn (w1.2.2.2 44) d : Nat) : Int)) (tlc (w2.2.2.2 (pq q 2)) (w2.2.2.2 (pq q 35) (wb + h - 1 - 1)) d) (I ((d : Nat) : Int))) := by
    intro w2 U ow2 kd2 M2 ph2 k9 k8 ln2 e44 p2 hU tags K
    induction K with
    | zero => intro d _ _ hK; omega
    | succ K ih =>
      intro d v hd hK cl ⟨e, se, ff, sd, rd, lr, hse, hrd, hsum, h500, f2, zt⟩
      show OK _ (hb_Ma_without_150 N (hg_Ma_without N K) v q (I ((up : Nat) : Int)) (I ((U : Nat) : Int)) (I ((zcn (w1.2.2.2 44) d : Nat) : Int)) _ (I ((d : Nat) : Int)))
      unfold hb_Ma_without_150
      have zle := zcn_le (w1.2.2.2 44) d
      have zmo := zcn_mono (w1.2.2.2 44) hd
      have cx := M2.1.2.1
      refine k_le ⟨by omega, by omega⟩ ⟨by omega, by omega⟩ (fun hh => ?_) (fun hh => ?_)
      · have ed : d = up := by omega
        have fin : ∀ (G : (MS → Nat → Int32 → Int32 → Int32 → Option (MS × Unit)) × (MS → Nat → Int32 → Int32 → Int32 → Int64 → Int32 → Option (MS × Unit))) (w : MS) (n3 : Nat) (ow3 kd3 : Nat → Nat) (y : Int64), FNc q w2 w → PTQ w q n3 ow3 kd3 Fv P (nb + m) (wb + h) Y → LNB w q → GT n3 ow3 kd3 P y → OK (fun w _ => OPQ T Fv P PR q c w) (hb_Ma_without_281 N G w q 2 y) := by
          intro G w n3 ow3 kd3 y fm3 p3 ln3 gy
          unfold hb_Ma_without_281
          rw [I_lit (n := 2)]
          refine ok_bnd.mpr (ok_mono (answer_t (N := N) (k := 2) p3 ln3 rfl (by omega) (by omega) gy) (fun w5 _ hw5 => ok_lt.mpr (ok_some.mpr ?_)))
          obtain ⟨fm5, p5, ln5⟩ := hw5
          rw [show wb + h - 2 + 1 = wb + (h - 1) by omega] at p5
          exact fin_t M2 k9 k8 ph2 hx (FNc.tr fm3 fm5) p5 ln5 t2 (by show _ + (2 : Int) = _; omega) (by omega) (by omega)
        by_cases z : zcn (w1.2.2.2 44) d = 0
        · rw [z, endList_0, bnd_so]
          refine ok_br.mpr ⟨fun _ => ?_, fun y => absurd y (by decide)⟩
          obtain ⟨fm3, p3⟩ := use_t p2 cl (n2 := U) (by omega) (HP_holec (h2 := v.2.2.2 (pq q 2)) 0 p2.1.2.2 lr.1) (fun t gt => GT_hole 0 gt)
          exact fin _ _ _ _ _ _ fm3 p3 (LNB_m (LNB_fc ln2 (fun k _ => by rw [cl.2.1])) (by simp) (by omega)) (GT_hole 0 (SZ_gtc hrd))
        · rw [endList_e (by omega) (by rw [ed]; omega), bnd_so, lit0q]
          refine k_eq ⟨by omega, by omega⟩ ⟨by decide, by decide⟩ (fun y => absurd y (by omega)) (fun _ => ?_)
          rw [I_lit (n := 7), e_make, bnd_so]
          obtain ⟨fm3, ow3, kd3, p3, gg2, g3⟩ := LST_fin (s := se) (f0 := ff) (sr := rd) (rest := tlc (w2.2.2.2 (pq q 2)) (w2.2.2.2 (pq q 35) (wb + h - 1 - 1)) d) p2 cl lr (by omega) hse hrd (by rw [ed]; omega) (by have := h500 (by omega); omega)
          exact fin _ _ _ _ _ _ fm3 p3 (LNB_m (LNB_fc ln2 (fun k _ => by show v.1 _ = _; rw [cl.2.1])) (by simp) (by omega)) gg2
      · have e7 : so (tlc (w2.2.2.2 (pq q 2)) (w2.2.2.2 (pq q 35) (wb + h - 1 - 1)) d) = 7 := by rw [tags d (by omega)]; exact (lst1.2 d (by omega)).1
        have hH : isH (tlc (w2.2.2.2 (pq q 2)) (w2.2.2.2 (pq q 35) (wb + h - 1 - 1)) d) := Or.inr (Or.inr e7)
        obtain ⟨ff2, c2, bk, c3, c4⟩ := SZ_blkc hrd hH
        have hb2 : blk (w2.2.2.2 (pq q 2)) (tlc (w2.2.2.2 (pq q 2)) (w2.2.2.2 (pq q 35) (wb + h - 1 - 1)) d) = 2 := by unfold blk; rw [if_pos e7]
        have hp : prt (tlc (w2.2.2.2 (pq q 2)) (w2.2.2.2 (pq q 35) (wb + h - 1 - 1)) d) = 0 := by unfold prt; rw [if_pos e7]
        rw [hb2, hp] at c3 c4
        have hbl := bk.2.2.2.1
        rw [hb2] at hbl
        have hv := vn_e bk.1
        have es2 : smm c2 0 (2 - 0) = c2 0 + c2 1 := by show 0 + c2 (0 + 0) + c2 (0 + 1) = _; simp
        have sd5 : sd ≤ 500 := by
          have e70 : so (w2.2.2.2 (pq q 35) (wb + h - 1 - 1)) = 7 := by
            have := tags 0 (by omega)
            rw [show tlc (w2.2.2.2 (pq q 2)) (w2.2.2.2 (pq q 35) (wb + h - 1 - 1)) 0 = w2.2.2.2 (pq q 35) (wb + h - 1 - 1) from rfl] at this
            rw [this]; exact (lst1.2 0 (by omega)).1
          obtain ⟨fa, sa, za, zb⟩ := p2.1.2.2 _ (Or.inr (Or.inr e70)) (p2.2.2.1.2 _ (by omega))
          have esd := SZ_func za zt
          rcases Nat.lt_or_ge 500 sd with y | y
          · have := (zb (by omega)).1; omega
          · exact y
        have nx : ∀ (v2 : MS) (z2 : Nat), z2 = zcn (w1.2.2.2 44) (d + 1) → CEL q w2 v2 → (∀ k, k < U → v2.2.2.2 (pq q 2) k = w2.2.2.2 (pq q 2) k) → (∃ e : Nat → Int64, ∃ se : Nat → Nat, LRW (w2.2.2.2 (pq q 2)) (v2.2.2.2 (pq q 2)) U z2 e ∧ (∀ j, j < z2 → SZc (w2.2.2.2 (pq q 2)) U ow2 kd2 Fv P (ff + ff2) (e j) (se j)) ∧ 2 * z2 + smm se 0 z2 + c2 1 ≤ sd) → OK (fun w _ => OPQ T Fv P PR q c w) (hb_Ma_without_231 N (hg_Ma_without N K) v2 q (I ((up : Nat) : Int)) (I ((U : Nat) : Int)) (I ((z2 : Nat) : Int)) (tlc (w2.2.2.2 (pq q 2)) (w2.2.2.2 (pq q 35) (wb + h - 1 - 1)) d) (I ((d : Nat) : Int))) := by
          intro v2 z2 hz2 cl2 lo ⟨e2', se2, l2, l3, l4⟩
          unfold hb_Ma_without_231
          rw [valI, hv, lit1q, I_add]
          refine e_in ⟨by omega, by omega⟩ (by decide) ?_
          rw [tnI (n := vn (tlc (w2.2.2.2 (pq q 2)) (w2.2.2.2 (pq q 35) (wb + h - 1 - 1)) d) + 1) (by omega) (by omega), lo _ (by omega), I_add, show ((d : Nat) : Int) + 1 = ((d + 1 : Nat) : Int) by omega, hz2]
          refine ih (d + 1) v2 (by omega) (by omega) cl2 ⟨e2', se2, ff + ff2, sd, c2 1, by rw [← hz2]; exact l2, by rw [← hz2]; exact l3, SZ_lec (c3 1 (by omega) (by omega)) (by omega), by rw [← hz2]; exact l4, fun _ => sd5, f2, zt⟩
        refine e_in ⟨by omega, by omega⟩ (by decide) ?_
        rw [tnI (n := d) rfl (by omega), cl.2.2.1 44 (by unfold pq; omega), e44]
        refine ok_br.mpr ⟨fun y => ?_, fun y => ?_⟩
        · have y := of_decide_eq_true y
          have ez : zcn (w1.2.2.2 44) (d + 1) = zcn (w1.2.2.2 44) d + 1 := by show zcn (w1.2.2.2 44) d + _ = _; rw [if_pos y]
          have zm2 := zcn_mono (w1.2.2.2 44) (show d + 1 ≤ up by omega)
          rw [valI, hv]
          refine e_in ⟨by omega, by omega⟩ (by decide) ?_
          rw [I_lit (n := 2), I_mul, I_add, show ((U : Nat) : Int) + (OfNat.ofNat 2 : Int) * ((zcn (w1.2.2.2 44) d : Nat) : Int) = ((U + 2 * zcn (w1.2.2.2 44) d : Nat) : Int) by show _ + (2 : Int) * _ = _; omega]
          refine e_in ⟨by omega, by omega⟩ (by decide) (ok_lt.mpr ?_)
          rw [tnI (n := U + 2 * zcn (w1.2.2.2 44) d) rfl (by omega), tnI (n := vn (tlc (w2.2.2.2 (pq q 2)) (w2.2.2.2 (pq q 35) (wb + h - 1 - 1)) d)) rfl (by omega), wj_e, I_add, I_lit (n := 7), e_make, bnd_so, lit1q, I_add]
          refine e_in ⟨by omega, by omega⟩ (by decide) (ok_lt.mpr ?_)
          rw [tnI (n := U + 2 * zcn (w1.2.2.2 44) d + 1) (by omega) (by omega), wj_e, I_add, show ((zcn (w1.2.2.2 44) d : Nat) : Int) + 1 = ((zcn (w1.2.2.2 44) d + 1 : Nat) : Int) by omega, show ((U + 2 * zcn (w1.2.2.2 44) d : Nat) : Int) + (OfNat.ofNat 2 : Int) = ((U + 2 * (zcn (w1.2.2.2 44) d + 1) : Nat) : Int) by show _ + (2 : Int) = _; omega]
          have lr2 := LRW_step (e := fun j => if j = zcn (w1.2.2.2 44) d then w2.2.2.2 (pq q 2) (vn (tlc (w2.2.2.2 (pq q 2)) (w2.2.2.2 (pq q 35) (wb + h - 1 - 1)) d)) else e j) (y := v.2.2.2 (pq q 2) (vn (tlc (w2.2.2.2 (pq q 2)) (w2.2.2.2 (pq q 35) (wb + h - 1 - 1)) d))) ⟨lr.1, fun j hj => ⟨(lr.2 j hj).1.trans (if_neg (by omega)).symm, (lr.2 j hj).2⟩⟩ (by rw [lr.1 _ (by omega)]; exact (if_pos rfl).symm)
          refine nx _ _ ez.symm cl.put.put lr2.1 ⟨_, fun j => if j = zcn (w1.2.2.2 44) d then c2 0 else se j, lr2, fun j hj => ?_, ?_⟩
          · by_cases ej : j = zcn (w1.2.2.2 44) d
            · simp only [if_pos ej]
              exact SZ_lec (c3 0 (by omega) (by omega)) (by omega)
            · simp only [if_neg ej]
              exact SZ_lec (hse j (by omega)) (by omega)
          · rw [smm_upd]; omega
        · have y := of_decide_eq_false y
          have ez : zcn (w1.2.2.2 44) (d + 1) = zcn (w1.2.2.2 44) d := by show zcn (w1.2.2.2 44) d + _ = _; rw [if_neg y]; rfl
          exact nx v _ ez.symm cl lr.1 ⟨e, se, lr, fun j hj => SZ_lec (hse j hj) (by omega), by omega⟩
  have loopA : ∀ (K d : Nat), d ≤ up → up - d + up + 5 < K → OK (fun w _ => OPQ T Fv P PR q c w) ((hg_Ma_without N K).1 w1 q (I ((up : Nat) : Int)) (I ((zcn (w1.2.2.2 44) d : Nat) : Int)) (I ((d : Nat) : Int))) := by
    intro K
    induction K with
    | zero => intro d _ hK; omega
    | succ K ih =>
      intro d hd hK
      show OK _ (hb_Ma_without_79 N (hg_Ma_without N K) w1 q (I ((up : Nat) : Int)) (I ((zcn (w1.2.2.2 44) d : Nat) : Int)) (I ((d : Nat) : Int)))
      unfold hb_Ma_without_79 hb_Ma_without_106
      have zle := zcn_le (w1.2.2.2 44) d
      refine k_le ⟨by omega, by omega⟩ ⟨by omega, by omega⟩ (fun hh => ?_) (fun hh => ?_)
      · have ed : d = up := by omega
        subst ed
        rw [I_lit (n := 2), I_mul, show (OfNat.ofNat 2 : Int) * ((zcn (w1.2.2.2 44) d : Nat) : Int) = ((2 * zcn (w1.2.2.2 44) d : Nat) : Int) by show (2 : Int) * _ = _; omega]
        refine ok_bnd.mpr (ok_mono (room_ok (N := N) M1 hx (by rw [s9]; exact t9) (by rw [s8]; exact t8) p1 ⟨by omega, by omega⟩ (by omega)) (fun w2 r hw2 => ?_))
        rcases hw2 with ⟨rfl, e⟩ | ⟨rfl, ⟨M2, ph2, k9, k8⟩, ln2, fm2, ⟨e44, -⟩, U, ow2, kd2, p2, hU, sB, sW⟩
        · exact ok_br.mpr ⟨fun _ => ok_some.mpr (Or.inr (Or.inr (Or.inl e))), fun z => absurd z (by decide)⟩
        · refine ok_br.mpr ⟨fun z => absurd z (by decide), fun _ => ?_⟩
          obtain ⟨c1, -⟩ := below_1 (N := N) M2 p2 (by omega)
          rw [c1, bnd_so, I_F (k := pq q 4), p2.1.1]
          have sm1 := sW (wb + h - 1 - 1) (by omega)
          rw [e35, e2] at sm1
          have tags := LST_tags lst1 sm1
          have zt := sm1.2.2 f0 (s 1) z1
          have := loopB w2 U ow2 kd2 M2 (by omega) k9 k8 ln2 e44 p2 (by omega) tags K 0 w2 (by omega) (by omega) CEL.rf ⟨fun _ => 0, fun _ => 0, f0, s 1, s 1, ⟨fun _ _ => rfl, fun j hj => absurd hj (Nat.not_lt_zero j)⟩, fun j hj => absurd hj (Nat.not_lt_zero j), zt, by show 2 * 0 + 0 + s 1 ≤ s 1; omega, fun y => by omega, f0, zt⟩
          exact this
      · refine e_in ⟨by omega, by omega⟩ (by decide) ?_
        rw [tnI (n := d) rfl (by omega)]
        refine ok_br.mpr ⟨fun y => ?_, fun y => ?_⟩
        · have ez : zcn (w1.2.2.2 44) (d + 1) = zcn (w1.2.2.2 44) d + 1 := by show zcn (w1.2.2.2 44) d + _ = _; rw [if_pos (of_decide_eq_true y)]
          rw [lit1q, I_add, I_add, show ((zcn (w1.2.2.2 44) d : Nat) : Int) + 1 = ((zcn (w1.2.2.2 44) (d + 1) : Nat) : Int) by omega, show ((d : Nat) : Int) + 1 = ((d + 1 : Nat) : Int) by omega]
          exact ih (d + 1) (by omega) (by omega)
        · have ez : zcn (w1.2.2.2 44) (d + 1) = zcn (w1.2.2.2 44) d := by show zcn (w1.2.2.2 44) d + _ = _; rw [if_neg (of_decide_eq_false y)]; rfl
          rw [lit0q, lit1q, I_add, I_add, show ((zcn (w1.2.2.2 44) d : Nat) : Int) + 0 = ((zcn (w1.2.2.2 44) (d + 1) : Nat) : Int) by omega, show ((d : Nat) : Int) + 1 = ((d + 1 : Nat) : Int) by omega]
          exact ih (d + 1) (by omega) (by omega)
  rw [lit0q, show (0 : Int) = ((zcn (w1.2.2.2 44) 0 : Nat) : Int) from rfl]
  exact loopA N 0 (by omega) (by omega)
end
