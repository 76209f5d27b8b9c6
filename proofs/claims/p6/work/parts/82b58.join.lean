set_option maxRecDepth 100000
def zcn (r : Nat → Int64) : Nat → Nat
  | 0 => 0
  | i + 1 => zcn r i + (if lg_cmp (r i) 0 = 0 then 1 else 0)
theorem zcn_le (r : Nat → Int64) : ∀ i, zcn r i ≤ i
  | 0 => Nat.le_refl _
  | i + 1 => by
    have := zcn_le r i
    show zcn r i + _ ≤ i + 1
    split <;> omega
theorem zcn_mono (r : Nat → Int64) {i : Nat} : ∀ {k : Nat}, i ≤ k → zcn r i ≤ zcn r k
  | 0, h => by rw [show i = 0 by omega]; exact Nat.le_refl _
  | k + 1, h => by
    rcases Nat.lt_or_ge i (k + 1) with z | z
    · have := zcn_mono r (k := k) (show i ≤ k by omega)
      show zcn r i ≤ zcn r k + _
      omega
    · rw [show i = k + 1 by omega]; exact Nat.le_refl _
section
variable {T : Nat → Option (Nat × Nat × List Nat × Nat × Nat)} {Fv : Int64 → Int64 → Prop} {P : Int64 → Prop} {u v w w1 : MS} {PR N q r n B W Y i h m g x j wb nb cb rk c f i2 h2 m2 k a U d : Nat} {L : List Nat} {ow kd : Nat → Nat} {t rest : Int64} {gi gl ga ki kl ka kj : List Nat}
theorem ERR_o (M : MIc T Fv P PR q u i h m L g x j wb nb cb rk) (t9 : F u 1109 = 0) (t8 : F u 1108 = 0) (hf : PHc T u q i x rk ≤ c) (ha : a < 22) : OK (fun w _ => OPQ T Fv P PR q c w) (bnd (hm_Ma_wrong N u q (I ((a : Nat) : Int))) (fun u1 _ => some (u1, ()))) := ok_bnd.mpr (ok_mono (ERR_w M t9 t8 hf ha) (fun w _ hw => ok_some.mpr hw))
theorem LST_tags {hh hh2 : Nat → Int64} {U : Nat} {ow2 kd2 : Nat → Nat} {o r : Int64} (l : LSTc hh n ow kd Fv P o k) (s : SML hh n ow kd hh2 U ow2 kd2 Fv P o r) : ∀ j, j ≤ k → so (tlc hh2 r j) = so (tlc hh o j) := fun j hj => s.2.1.2 j (fun i hi => (l.2 i (by omega)).1)
theorem joinc_ok (M : MIc T Fv P PR q u i h m L g x j wb nb cb rk) (hx : x < i) (t9 : F u 1109 = 0) (t8 : F u 1108 = 0) (hf : PHc T u q i x rk ≤ c) (hk : 2 ≤ h) (t2 : T (i + 2) = some (h - 1, m, L, g, x)) (hN : 3000000 ≤ N) : OK (fun w _ => OPQ T Fv P PR q c w) (hm_Ma_join N u q) := by
  obtain ⟨n, ow, kd, Y, p⟩ := MI_p M
  have mb := MI_b M
  obtain ⟨b0, g0⟩ := below_0 (N := N) M p (by omega)
  obtain ⟨b1, g1⟩ := below_1 (N := N) M p (by omega)
  obtain ⟨f0, s, hs⟩ := sz_w (k := 2) p (by omega)
  have z1 := hs 1 (by omega)
  have s1b := SZ_1000c p.1.2.2 p.1.2.1 z1
  have s0b := SZ_1000c p.1.2.2 p.1.2.1 (hs 0 (by omega))
  have pn := p.1.2.1
  unfold hm_Ma_join hb_Ma_join_0
  rw [b1, bnd_so]
  refine ok_bnd.mpr (ok_mono (listLength_ok (N := N) (b := pq q 2) rfl (by omega) z1 (by omega) (by omega)) (fun w r hw => ?_))
  obtain ⟨rfl, hr⟩ := hw
  have wr : OK (fun w _ => OPQ T Fv P PR q c w) (hb_Ma_join_68 N (hg_Ma_join N N) w q) := by
    unfold hb_Ma_join_68
    exact ERR_o (a := 11) M t9 t8 hf (by omega)
  rcases hr with rfl | ⟨cnt, rfl, hcs, lst⟩
  · refine ok_br.mpr ⟨fun z => absurd z (by decide), fun _ => ok_br.mpr ⟨fun _ => wr, fun z => absurd z (by decide)⟩⟩
  · rw [lit0q]
    refine k_eq ⟨by omega, by omega⟩ ⟨by decide, by decide⟩ (fun hc0 => ?_) (fun hc0 => ?_)
    · rw [← lit0q, b0, bnd_so, I_lit (n := 2)]
      exact ok_bnd.mpr (ok_mono (ans_ok (N := N) (y := 2) (z := 2) (k := 2) (wd := 2) M hx t9 t8 hf p g0 rfl hk rfl (by omega) (by rw [show h - 2 + 1 = h - 1 by omega]; exact t2)) (fun w _ hw => ok_lt.mpr (ok_some.mpr hw.2)))
    · rw [m1I]
      refine k_eq ⟨by omega, by omega⟩ ⟨by decide, by decide⟩ (fun z => absurd z (by omega)) (fun _ => ?_)
      rw [I_lit (n := 2), show (OfNat.ofNat 2 : Int) = ((2 : Nat) : Int) from rfl, show (0 : Int) = ((0 : Nat) : Int) from rfl]
      refine ok_bnd.mpr (ok_mono (sizes_ok (N := N) p M.1.2.1 (by omega) (by omega) (by omega) hs (by omega)) (fun w1 r hw1 => ?_))
      obtain ⟨f1, rfl⟩ := hw1
      obtain ⟨M1, ph1, s9, s8⟩ := MI_fr M hx f1
      have p1 := PT_fr (q := q) f1 p
      have e2s : smm s 0 2 = s 0 + s 1 := by show 0 + s (0 + 0) + s (0 + 1) = _; simp
      rw [I_lit (n := 500), e2s]
      refine k_le ⟨by omega, by omega⟩ ⟨by decide, by decide⟩ (fun hle => ?_) (fun _ => ?_)
      · have hle : ((0 + (s 0 + s 1) : Nat) : Int) ≤ 500 := hle
        rw [I_mul, show ((2 : Nat) : Int) * ((cnt : Nat) : Int) = ((2 * cnt : Nat) : Int) by omega]
        refine ok_bnd.mpr (ok_mono (room_ok (N := N) M1 hx (by rw [s9]; exact t9) (by rw [s8]; exact t8) p1 ⟨by omega, by omega⟩ hN) (fun w2 r hw2 => ?_))
        rcases hw2 with ⟨rfl, e⟩ | ⟨rfl, ⟨M2, ph2, k9, k8⟩, ln2, fm2, -, U, ow2, kd2, p2, hU, sB, sW⟩
        · exact ok_br.mpr ⟨fun _ => ok_some.mpr (Or.inr (Or.inr (Or.inl e))), fun z => absurd z (by decide)⟩
        · refine ok_br.mpr ⟨fun z => absurd z (by decide), fun _ => ?_⟩
          obtain ⟨c1, -⟩ := below_1 (N := N) M2 p2 (by omega)
          rw [c1, bnd_so, I_F (k := pq q 4), p2.1.1]
          have e35 : w1.2.2.2 (pq q 35) = w.2.2.2 (pq q 35) := f1.2.2.2 _ (by simp; unfold pq; omega)
          have e2 : w1.2.2.2 (pq q 2) = w.2.2.2 (pq q 2) := f1.2.2.2 _ (by simp; unfold pq; omega)
          have sm1 := sW (wb + h - 1 - 1) (by omega)
          have sm0 := sW (wb + h - 1 - 0) (by omega)
          rw [e35, e2] at sm1 sm0
          have tags := LST_tags lst sm1
          obtain ⟨es, sr, q1, q2, q3, q4⟩ := CHN_szc (sm1.2.2 f0 (s 1) z1) cnt (fun j hj => by rw [tags j (by omega)]; exact (lst.2 j hj).1)
          have zr := sm0.2.2 f0 (s 0) (hs 0 (by omega))
          obtain ⟨l, l1, l2, l3⟩ := p2.2.2.2.2.2.1
          have loop : ∀ (K d : Nat) (v : MS), d ≤ cnt → cnt - d < K → CEL q w2 v → LRW (w2.2.2.2 (pq q 2)) (v.2.2.2 (pq q 2)) U d (fun j => w2.2.2.2 (pq q 2) (vn (tlc (w2.2.2.2 (pq q 2)) (w2.2.2.2 (pq q 35) (wb + h - 1 - 1)) j))) → OK (fun w _ => OPQ T Fv P PR q c w) (hg_Ma_join N K v q (I ((cnt : Nat) : Int)) (I ((U : Nat) : Int)) (tlc (w2.2.2.2 (pq q 2)) (w2.2.2.2 (pq q 35) (wb + h - 1 - 1)) d) (I ((d : Nat) : Int))) := by
            intro K
            induction K with
            | zero => intro d _ _ hK; omega
            | succ K ih =>
              intro d v hd hK cl lr
              show OK _ (hb_Ma_join_106 N (hg_Ma_join N K) v q (I ((cnt : Nat) : Int)) (I ((U : Nat) : Int)) _ (I ((d : Nat) : Int)))
              unfold hb_Ma_join_106
              refine k_le ⟨by omega, by omega⟩ ⟨by omega, by omega⟩ (fun hh => ?_) (fun hh => ?_)
              · have ed : d = cnt := by omega
                subst ed
                have bel : hm_Fr_below N v q 0 = some (v, w2.2.2.2 (pq q 35) (wb + h - 1 - 0)) := by
                  rw [lit0q, below_e (x := 0) (k := 0) (W := wb + h) (l := l) (by rw [cl.F]; exact p2.2.2.1.1) (by rw [cl.F]; exact l1) l2 l3 rfl (by omega), cl.2.2.1 _ (by unfold pq; omega)]
                rw [bel, bnd_so, endList_e (by omega) (by omega), bnd_so, I_lit (n := 7), e_make, bnd_so]
                obtain ⟨fm3, ow3, kd3, p3, gg2, g3⟩ := LST_fin (s := es) (f0 := f0) (sr := s 0) (rest := w2.2.2.2 (pq q 35) (wb + h - 1 - 0)) p2 cl lr (by omega) q1 zr (by omega) (by omega)
                rw [I_lit (n := 2)]
                refine ok_bnd.mpr (ok_mono (answer_t (N := N) (k := 2) p3 (LNB_m (LNB_fc ln2 (fun k _ => by show v.1 _ = _; rw [cl.2.1])) (by simp) (by omega)) rfl (by omega) (by omega) gg2) (fun w5 _ hw5 => ok_lt.mpr (ok_some.mpr ?_)))
                obtain ⟨fm5, p5, ln5⟩ := hw5
                rw [show wb + h - 2 + 1 = wb + (h - 1) by omega] at p5
                exact fin_t M2 k9 k8 (by omega) hx (FNc.tr fm3 fm5) p5 ln5 t2 (by show _ + (2 : Int) = _; omega) (by omega) (by omega)
              · have bk := q4 d (by omega)
                have hv := vn_e bk.1
                have hb2 : blk (w2.2.2.2 (pq q 2)) (tlc (w2.2.2.2 (pq q 2)) (w2.2.2.2 (pq q 35) (wb + h - 1 - 1)) d) = 2 := by unfold blk; rw [if_pos (by rw [tags d (by omega)]; exact (lst.2 d (by omega)).1)]
                have hbl := bk.2.2.2.1
                rw [hb2] at hbl
                rw [valI, hv]
                refine e_in ⟨by omega, by omega⟩ (by decide) ?_
                rw [I_lit (n := 2), I_mul, I_add, show ((U : Nat) : Int) + (OfNat.ofNat 2 : Int) * ((d : Nat) : Int) = ((U + 2 * d : Nat) : Int) by show _ + (2 : Int) * _ = _; omega]
                refine e_in ⟨by omega, by omega⟩ (by decide) (ok_lt.mpr ?_)
                rw [tnI (n := U + 2 * d) rfl (by omega), tnI (n := vn (tlc (w2.2.2.2 (pq q 2)) (w2.2.2.2 (pq q 35) (wb + h - 1 - 1)) d)) rfl (by omega), wj_e, I_add, I_lit (n := 7), e_make, bnd_so, lit1q, I_add]
                refine e_in ⟨by omega, by omega⟩ (by decide) (ok_lt.mpr ?_)
                rw [tnI (n := U + 2 * d + 1) (by omega) (by omega), wj_e, I_add]
                refine e_in ⟨by omega, by omega⟩ (by decide) ?_
                rw [I_add, show ((d : Nat) : Int) + 1 = ((d + 1 : Nat) : Int) by omega, show ((U + 2 * d : Nat) : Int) + (OfNat.ofNat 2 : Int) = ((U + 2 * (d + 1) : Nat) : Int) by show _ + (2 : Int) = _; omega, tnI (n := vn (tlc (w2.2.2.2 (pq q 2)) (w2.2.2.2 (pq q 35) (wb + h - 1 - 1)) d) + 1) (by omega) (by omega)]
                have lr2 := LRW_step (y := v.2.2.2 (pq q 2) (vn (tlc (w2.2.2.2 (pq q 2)) (w2.2.2.2 (pq q 35) (wb + h - 1 - 1)) d))) lr (by rw [lr.1 _ (by omega)])
                have e3 := lr2.1 (vn (tlc (w2.2.2.2 (pq q 2)) (w2.2.2.2 (pq q 35) (wb + h - 1 - 1)) d) + 1) (by omega)
                rw [e3]
                exact ih (d + 1) _ (by omega) (by omega) cl.put.put lr2
          have := loop N 0 w2 (by omega) (by omega) CEL.rf ⟨fun _ _ => rfl, fun j hj => by omega⟩
          exact this
      · unfold hb_Ma_join_68
        exact ERR_o (a := 11) M1 (by rw [s9]; exact t9) (by rw [s8]; exact t8) (by rw [ph1]; exact hf) (by omega)
end
