set_option maxRecDepth 100000
def LRW (h h2 : Nat → Int64) (U d : Nat) (e : Nat → Int64) : Prop := (∀ k, k < U → h2 k = h k) ∧ ∀ j, j < d → h2 (U + 2 * j) = e j ∧ h2 (U + 2 * j + 1) = mk 7 ((U + 2 * (j + 1) : Nat) : Int)
def tix (g : Nat → Int32) (y : Int32) : Nat → Option Nat
  | 0 => none
  | k + 1 => if g k = y then some k else tix g y k
def tval (g : Nat → Int32) (r : Nat → Int64) (y : Int32) (B : Nat) : Int64 := match tix g y B with
  | some k => r k
  | none => 0
section
variable {T : Nat → Option (Nat × Nat × List Nat × Nat × Nat)} {Fv : Int64 → Int64 → Prop} {P : Int64 → Prop} {u v w : MS} {PR N q r n B W Y i h m g x j wb nb cb rk c f i2 h2 m2 k a U d : Nat} {L : List Nat} {ow kd : Nat → Nat} {t rest : Int64} {gi gl ga ki kl ka kj : List Nat} {e : Nat → Int64}
theorem LRW_step {hh : Nat → Int64} {y : Int64} (l : LRW hh (w.2.2.2 (pq q 2)) U d e) (hy : y = e d) : LRW hh ((wj (wj w (pq q 2) (U + 2 * d) y) (pq q 2) (U + 2 * d + 1) (mk 7 ((U + 2 * (d + 1) : Nat) : Int))).2.2.2 (pq q 2)) U (d + 1) e := by
  refine ⟨fun k hk => ?_, fun j hj => ⟨?_, ?_⟩⟩
  · rw [CEL.row, if_neg (by omega), CEL.row, if_neg (by omega)]; exact l.1 k hk
  · rw [CEL.row, if_neg (by omega), CEL.row]
    by_cases z : j = d
    · rw [if_pos (by omega), hy, z]
    · rw [if_neg (by omega)]; exact (l.2 j (by omega)).1
  · rw [CEL.row]
    by_cases z : j = d
    · rw [if_pos (by omega), z]
    · rw [if_neg (by omega), CEL.row, if_neg (by omega)]; exact (l.2 j (by omega)).2
theorem endList_e (h1 : 1 ≤ c) (h2 : U + 2 * c ≤ 512) : hm_Ma_endList N w q (I ((U : Nat) : Int)) (I ((c : Nat) : Int)) rest = some (wi (wj w (pq q 2) (U + 2 * (c - 1) + 1) rest) (pq q 4) ((U + 2 * c : Nat) : Int), ()) := by
  unfold hm_Ma_endList hb_Ma_endList_0 hb_Ma_endList_20
  rw [lit0q, decI (by omega) (by omega) (by decide) (by decide), decide_eq_false (by omega), br_fq, I_lit (n := 2), I_mul, I_add, lit1q, I_sub]
  rw [show ((U : Nat) : Int) + (OfNat.ofNat 2 : Int) * ((c : Nat) : Int) = ((U + 2 * c : Nat) : Int) by show _ + (2 : Int) * _ = _; omega]
  rw [(I_inb (by omega) (by omega)).mpr ⟨by omega, by omega⟩, ck_t, tnI (n := U + 2 * (c - 1) + 1) (by omega) (by omega)]
  rfl
theorem endList_0 : hm_Ma_endList N w q (I ((U : Nat) : Int)) (I ((0 : Nat) : Int)) rest = some (wi w (pq q 4) ((U : Nat) : Int), ()) := by
  unfold hm_Ma_endList hb_Ma_endList_0 hb_Ma_endList_20
  rw [lit0q, decI (by decide) (by decide) (by decide) (by decide), decide_eq_true (by decide), br_tq, I_lit (n := 2), I_mul, I_add]
  rw [show ((U : Nat) : Int) + (OfNat.ofNat 2 : Int) * ((0 : Nat) : Int) = ((U : Nat) : Int) by show _ + (2 : Int) * 0 = _; omega]
  rfl
theorem LST_fin {s : Nat → Nat} {f0 sr : Nat} (p : PTQ u q U ow kd Fv P B W Y) (cl : CEL q u w) (l : LRW (u.2.2.2 (pq q 2)) (w.2.2.2 (pq q 2)) U c e) (hc : 1 ≤ c) (hs : ∀ i, i < c → SZc (u.2.2.2 (pq q 2)) U ow kd Fv P f0 (e i) (s i)) (zr : SZc (u.2.2.2 (pq q 2)) U ow kd Fv P f0 rest sr) (hb : U + 2 * c ≤ 500) (hsum : 2 * c + smm s 0 c + sr ≤ 500) :
    FNc q u (wi (wj w (pq q 2) (U + 2 * (c - 1) + 1) rest) (pq q 4) ((U + 2 * c : Nat) : Int)) ∧ ∃ ow2 kd2, PTQ (wi (wj w (pq q 2) (U + 2 * (c - 1) + 1) rest) (pq q 4) ((U + 2 * c : Nat) : Int)) q (U + 2 * c) ow2 kd2 Fv P B W Y ∧ GT (U + 2 * c) ow2 kd2 P (mk 7 ((U : Nat) : Int)) ∧ ∀ t, GT U ow kd P t → GT (U + 2 * c) ow2 kd2 P t := by
  have row : ∀ k, (wj w (pq q 2) (U + 2 * (c - 1) + 1) rest).2.2.2 (pq q 2) k = if k = U + 2 * (c - 1) + 1 then rest else w.2.2.2 (pq q 2) k := fun k => CEL.row
  obtain ⟨ow2, kd2, g1, g2, g3⟩ := LST_new (h2 := (wj w (pq q 2) (U + 2 * (c - 1) + 1) rest).2.2.2 (pq q 2)) (s := s) p.1.2.2 hc (fun k hk => by rw [row, if_neg (by omega)]; exact l.1 k hk) (fun k hk => by rw [row, if_neg (by omega), (l.2 k hk).1]; exact hs k hk) zr (fun k hk => by rw [row, if_neg (by omega)]; exact (l.2 k (by omega)).2) (by rw [row, if_pos rfl]) (by omega) hsum
  obtain ⟨a, b⟩ := use_t p cl.put (n2 := U + 2 * c) (by omega) g1 g3
  exact ⟨a, ow2, kd2, b, g2, g3⟩
theorem list_ok {cnt : Nat} (M : MIc T Fv P PR q u i h m L g x j wb nb cb rk) (hx : x < i) (t9 : F u 1109 = 0) (t8 : F u 1108 = 0) (hf : PHc T u q i x rk ≤ c) (h1 : 1 ≤ cnt) (hc : cnt + 1 ≤ h) (t2 : T (i + 2) = some (h - cnt, m, L, g, x)) (hN : 3000000 ≤ N) : OK (fun w _ => OPQ T Fv P PR q c w) (hm_Ma_list N u q (I ((cnt : Nat) : Int))) := by
  obtain ⟨n, ow, kd, Y, p⟩ := MI_p M
  have mb := MI_b M
  obtain ⟨f0, s, hs⟩ := sz_w (k := cnt + 1) p (by omega)
  have wf := (M.1.2.2.1 _ _ _ _ _ _ M.2.2.2.1.1).2.1
  unfold hm_Ma_list hb_Ma_list_0
  rw [lit1q, I_add, I_lit (n := 2), I_mul, show ((cnt : Nat) : Int) + 1 = ((cnt + 1 : Nat) : Int) by omega, show (OfNat.ofNat 2 : Int) * ((cnt : Nat) : Int) = ((2 * cnt : Nat) : Int) by show (2 : Int) * _ = _; omega]
  refine ok_bnd.mpr (ok_mono (sizes_ok (N := N) p M.1.2.1 (by omega) (by omega) (by omega) hs (by omega)) (fun w1 r hw1 => ?_))
  obtain ⟨f1, rfl⟩ := hw1
  obtain ⟨M1, ph1, s9, s8⟩ := MI_fr M hx f1
  have p1 := PT_fr (q := q) f1 p
  have hsb : smm s 0 (cnt + 1) ≤ 1000 * (cnt + 1) := by
    have hs1 : ∀ j, j < cnt + 1 → s j ≤ 1000 := fun j hj => SZ_1000c p.1.2.2 p.1.2.1 (hs j hj)
    have : ∀ j, j ≤ cnt + 1 → smm s 0 j ≤ 1000 * j := by
      intro j
      induction j with
      | zero => intro _; exact Nat.le_refl _
      | succ j ih =>
        intro hj
        show smm s 0 j + s (0 + j) ≤ _
        have := ih (by omega)
        have := hs1 (0 + j) (by omega)
        omega
    exact this _ (Nat.le_refl _)
  rw [I_lit (n := 500)]
  refine k_le ⟨by omega, by omega⟩ ⟨by decide, by decide⟩ (fun hle => ?_) (fun _ => ?_)
  · have hle : ((2 * cnt + smm s 0 (cnt + 1) : Nat) : Int) ≤ 500 := hle
    refine ok_bnd.mpr (ok_mono (room_ok (N := N) M1 hx (by rw [s9]; exact t9) (by rw [s8]; exact t8) p1 ⟨by omega, by omega⟩ hN) (fun w2 r hw2 => ?_))
    rcases hw2 with ⟨rfl, e⟩ | ⟨rfl, ⟨M2, ph2, k9, k8⟩, ln2, fm2, -, U, ow2, kd2, p2, hU, sB, sW⟩
    · exact ok_br.mpr ⟨fun _ => ok_some.mpr (Or.inr (Or.inr (Or.inl e))), fun z => absurd z (by decide)⟩
    · refine ok_br.mpr ⟨fun z => absurd z (by decide), fun _ => ?_⟩
      rw [I_F (k := pq q 4), p2.1.1]
      have e35 : w1.2.2.2 (pq q 35) = u.2.2.2 (pq q 35) := f1.2.2.2 _ (by simp; unfold pq; omega)
      have e2 : w1.2.2.2 (pq q 2) = u.2.2.2 (pq q 2) := f1.2.2.2 _ (by simp; unfold pq; omega)
      have sz2 : ∀ j, j < cnt + 1 → SZc (w2.2.2.2 (pq q 2)) U ow2 kd2 Fv P f0 (w2.2.2.2 (pq q 35) (wb + h - 1 - j)) (s j) := fun j hj => (sW (wb + h - 1 - j) (by omega)).2.2 f0 (s j) (by rw [e2, e35]; exact hs j hj)
      obtain ⟨l, l1, l2, l3⟩ := p2.2.2.2.2.2.1
      have loop : ∀ (K d : Nat) (w : MS), d ≤ cnt → cnt - d < K → CEL q w2 w → LRW (w2.2.2.2 (pq q 2)) (w.2.2.2 (pq q 2)) U d (fun j => w2.2.2.2 (pq q 35) (wb + h - 1 - (cnt - j))) → OK (fun w _ => OPQ T Fv P PR q c w) (hg_Ma_list N K w q (I ((cnt : Nat) : Int)) (I ((U : Nat) : Int)) (I ((d : Nat) : Int))) := by
        intro K
        induction K with
        | zero => intro d _ _ hK; omega
        | succ K ih =>
          intro d w hd hK cl lr
          show OK _ (hb_Ma_list_44 N (hg_Ma_list N K) w q (I ((cnt : Nat) : Int)) (I ((U : Nat) : Int)) (I ((d : Nat) : Int)))
          unfold hb_Ma_list_44
          have bel : ∀ {y : Int} {k : Nat}, y = ((k : Nat) : Int) → k < wb + h → hm_Fr_below N w q (I y) = some (w, w2.2.2.2 (pq q 35) (wb + h - 1 - k)) := fun hy hk => by
            rw [below_e (W := wb + h) (l := l) (by rw [cl.F]; exact p2.2.2.1.1) (by rw [cl.F]; exact l1) l2 l3 hy hk, cl.2.2.1 _ (by unfold pq; omega)]
          refine k_le ⟨by omega, by omega⟩ ⟨by omega, by omega⟩ (fun hh => ?_) (fun hh => ?_)
          · have ed : d = cnt := by omega
            subst ed
            rw [lit0q, bel (y := 0) (k := 0) rfl (by omega), bnd_so, endList_e h1 (by omega), bnd_so, I_lit (n := 7), e_make, bnd_so]
            have ss := smm_first (c := s) (a := 0) d
            have sr := smm_rev (c := fun j => s (1 + j)) d
            have se : smm (fun j => s (d - j)) 0 d = smm s (0 + 1) d := by
              rw [smm_ext (c := s) (d := fun j => s (1 + j)) (a := 0 + 1) (b := 0) d (fun j _ => by simp), ← sr]
              refine smm_ext d (fun j hj => ?_)
              show s (d - (0 + j)) = s (1 + (d - 1 - (0 + j)))
              rw [show d - (0 + j) = 1 + (d - 1 - (0 + j)) by omega]
            obtain ⟨fm3, ow3, kd3, p3, g2, g3⟩ := LST_fin (s := fun j => s (d - j)) (f0 := f0) (sr := s 0) (rest := w2.2.2.2 (pq q 35) (wb + h - 1 - 0)) p2 cl lr h1 (fun k hk => sz2 (d - k) (by omega)) (sz2 0 (by omega)) (by omega) (by rw [se]; omega)
            rw [lit1q, I_add]
            refine ok_bnd.mpr (ok_mono (answer_t (N := N) (k := d + 1) p3 (LNB_m (LNB_fc ln2 (fun k _ => by show w.1 _ = _; rw [cl.2.1])) (by simp) (by omega)) (by omega) (by omega) (by omega) g2) (fun w5 _ hw5 => ok_lt.mpr (ok_some.mpr ?_)))
            obtain ⟨fm5, p5, ln5⟩ := hw5
            rw [show wb + h - (d + 1) + 1 = wb + (h - d) by omega] at p5
            rw [I_lit (n := 2)]
            exact fin_t M2 k9 k8 (by omega) hx (FNc.tr fm3 fm5) p5 ln5 t2 (by show _ + (2 : Int) = _; omega) (by omega) (by omega)
          · rw [I_sub, bel (k := cnt - d) (by omega) (by omega), bnd_so, I_lit (n := 2), I_mul, I_add]
            rw [show ((U : Nat) : Int) + (OfNat.ofNat 2 : Int) * ((d : Nat) : Int) = ((U + 2 * d : Nat) : Int) by show _ + (2 : Int) * _ = _; omega]
            refine e_in ⟨by omega, by omega⟩ (by decide) (ok_lt.mpr ?_)
            rw [tnI (n := U + 2 * d) rfl (by omega), wj_e, I_add, I_lit (n := 7), e_make, bnd_so, lit1q, I_add]
            refine e_in ⟨by omega, by omega⟩ (by decide) (ok_lt.mpr ?_)
            rw [tnI (n := U + 2 * d + 1) (by omega) (by omega), wj_e, I_add, show ((d : Nat) : Int) + 1 = ((d + 1 : Nat) : Int) by omega, show ((U + 2 * d : Nat) : Int) + (OfNat.ofNat 2 : Int) = ((U + 2 * (d + 1) : Nat) : Int) by show _ + (2 : Int) = _; omega]
            exact ih (d + 1) _ (by omega) (by omega) cl.put.put (LRW_step lr rfl)
      rw [lit0q, show (0 : Int) = ((0 : Nat) : Int) from rfl]
      exact loop N 0 _ (by omega) (by omega) CEL.rf ⟨fun _ _ => rfl, fun j hj => by omega⟩
  · exact ok_bnd.mpr (ok_mono (ERR_w (N := N) (a := 11) M1 (by rw [s9]; exact t9) (by rw [s8]; exact t8) (by rw [ph1]; exact hf) (by omega)) (fun w _ hw => ok_some.mpr hw))
theorem GT_0c (c : CTX Fv P u) {y : Int} (hy : RG y) : GT n ow kd P (mk 0 y) := GT_nu c (Or.inl rfl) hy
theorem GT_6 (c : CTX Fv P u) : GT n ow kd P (mk 6 0) := Or.inl ⟨nh_so (by rw [so_mk (by decide) (by decide)]; decide), c.2.2.2.2.2.2⟩
theorem string_ok {cnt : Nat} (M : MIc T Fv P PR q u i h m L g x j wb nb cb rk) (hx : x < i) (t9 : F u 1109 = 0) (t8 : F u 1108 = 0) (hf : PHc T u q i x rk ≤ c) (hc : cnt ≤ 40) (t2 : T (i + 2 + cnt) = some (h + 1, m, L, g, x)) (hN : 3000000 ≤ N) : OK (fun w _ => OPQ T Fv P PR q c w) (hm_Ma_string N u q (I ((cnt : Nat) : Int))) := by
  obtain ⟨n, ow, kd, Y, p⟩ := MI_p M
  have mb := MI_b M
  have w2b := (M.1.2.2.1 _ _ _ _ _ _ t2).1
  have wf := (M.1.2.2.1 _ _ _ _ _ _ t2).2.1
  unfold hm_Ma_string hb_Ma_string_0
  rw [I_lit (n := 2), I_mul, show (OfNat.ofNat 2 : Int) * ((cnt : Nat) : Int) = ((2 * cnt : Nat) : Int) by show (2 : Int) * _ = _; omega]
  refine ok_bnd.mpr (ok_mono (room_ok (N := N) M hx t9 t8 p ⟨by omega, by omega⟩ hN) (fun w2 r hw2 => ?_))
  rcases hw2 with ⟨rfl, e⟩ | ⟨rfl, ⟨M2, ph2, k9, k8⟩, ln2, fm2, -, U, ow2, kd2, p2, hU, sB, sW⟩
  · exact ok_br.mpr ⟨fun _ => ok_some.mpr (Or.inr (Or.inr (Or.inl e))), fun z => absurd z (by decide)⟩
  · refine ok_br.mpr ⟨fun z => absurd z (by decide), fun _ => ?_⟩
    rw [I_F (k := pq q 4), p2.1.1]
    have cx := M2.1.2.1
    have fin : ∀ (G : MS → Nat → Int32 → Int32 → Int32 → Option (MS × Unit)) (w : MS) (n3 : Nat) (ow3 kd3 : Nat → Nat) (y : Int64), FNc q w2 w → PTQ w q n3 ow3 kd3 Fv P (nb + m) (wb + h) Y → LNB w q → GT n3 ow3 kd3 P y → OK (fun w _ => OPQ T Fv P PR q c w) (hb_Ma_string_126 N G w q (I ((cnt : Nat) : Int)) q y) := by
      intro G w n3 ow3 kd3 y fm3 p3 ln3 gy
      unfold hb_Ma_string_126
      refine ok_bnd.mpr (ok_mono (push_t (N := N) p3 ln3 (by omega) gy) (fun w5 _ hw5 => ok_lt.mpr (ok_some.mpr ?_)))
      obtain ⟨fm5, p5, ln5, -⟩ := hw5
      rw [show wb + h + 1 = wb + (h + 1) by omega] at p5
      rw [I_lit (n := 2), I_add]
      exact fin_t M2 k9 k8 (by omega) hx (FNc.tr fm3 fm5) p5 ln5 t2 (by show _ + ((2 : Int) + _) = _; omega) (by omega) (by omega)
    have loop : ∀ (K d : Nat) (w : MS), d ≤ cnt → cnt - d < K → CEL q w2 w → (∃ e, (∀ k, k < cnt → ∃ y, RG y ∧ e k = mk 0 y) ∧ LRW (w2.2.2.2 (pq q 2)) (w.2.2.2 (pq q 2)) U d e) → OK (fun w _ => OPQ T Fv P PR q c w) (hg_Ma_string N K w q (I ((cnt : Nat) : Int)) (I ((U : Nat) : Int)) (I ((d : Nat) : Int))) := by
      intro K
      induction K with
      | zero => intro d _ _ hK; omega
      | succ K ih =>
        intro d w hd hK cl ⟨e, he, lr⟩
        show OK _ (hb_Ma_string_21 N (hg_Ma_string N K) w q (I ((cnt : Nat) : Int)) (I ((U : Nat) : Int)) (I ((d : Nat) : Int)))
        unfold hb_Ma_string_21
        refine k_le ⟨by omega, by omega⟩ ⟨by omega, by omega⟩ (fun hh => ?_) (fun hh => ?_)
        · have ed : d = cnt := by omega
          subst ed
          rw [I_lit (n := 6), lit0q, e_make, bnd_so]
          by_cases z : d = 0
          · subst z
            rw [endList_0, bnd_so]
            refine k_eq ⟨by decide, by decide⟩ ⟨by decide, by decide⟩ (fun _ => ?_) (fun z => absurd rfl z)
            rw [e_make, bnd_so]
            obtain ⟨fm3, p3⟩ := use_t p2 cl (n2 := U) (by omega) (by
              have : ∀ k, k < U → w.2.2.2 (pq q 2) k = w2.2.2.2 (pq q 2) k := lr.1
              have hp := HP_holec (h2 := w.2.2.2 (pq q 2)) 0 p2.1.2.2 this
              exact hp) (fun t gt => GT_hole 0 gt)
            exact fin _ _ _ _ _ _ fm3 p3 (LNB_m (LNB_fc ln2 (fun k _ => by rw [cl.2.1])) (by simp) (by omega)) (GT_6 cx)
          · rw [endList_e (by omega) (by omega), bnd_so]
            refine k_eq ⟨by omega, by omega⟩ ⟨by decide, by decide⟩ (fun y => absurd y (by omega)) (fun _ => ?_)
            rw [I_lit (n := 7), e_make, bnd_so]
            obtain ⟨fm3, ow3, kd3, p3, g2, g3⟩ := LST_fin (s := fun _ => 0) (f0 := 1) (sr := 0) (rest := mk 6 0) p2 cl lr (by omega) (fun k hk => by
              obtain ⟨y, y1, y2⟩ := he k hk
              rw [y2]
              exact Or.inl ⟨nh_so (by rw [so_mk (by decide) (by decide)]; decide), (cx.2.2.2.2.1 y y1).1, rfl⟩) (Or.inl ⟨nh_so (by rw [so_mk (by decide) (by decide)]; decide), cx.2.2.2.2.2.2, rfl⟩) (by omega) (by
              have : ∀ k, smm (fun _ => 0) 0 k = 0 := by
                intro k
                induction k with
                | zero => rfl
                | succ k ih => show smm (fun _ => 0) 0 k + 0 = 0; rw [ih]
              rw [this]; omega)
            exact fin _ _ _ _ _ _ fm3 p3 (LNB_m (LNB_fc ln2 (fun k _ => by show w.1 _ = _; rw [cl.2.1])) (by simp) (by omega)) g2
        · obtain ⟨r, hr⟩ := Co_any (N := N) (u := w) ((w.1 1105) + 2 + I ((d : Nat) : Int))
          rw [hr, bnd_so, lit0q, I_of r, e_make, bnd_so, I_lit (n := 2), I_mul, I_add]
          rw [show ((U : Nat) : Int) + (OfNat.ofNat 2 : Int) * ((d : Nat) : Int) = ((U + 2 * d : Nat) : Int) by show _ + (2 : Int) * _ = _; omega]
          refine e_in ⟨by omega, by omega⟩ (by decide) (ok_lt.mpr ?_)
          rw [tnI (n := U + 2 * d) rfl (by omega), wj_e, I_add, I_lit (n := 7), e_make, bnd_so, lit1q, I_add]
          refine e_in ⟨by omega, by omega⟩ (by decide) (ok_lt.mpr ?_)
          rw [tnI (n := U + 2 * d + 1) (by omega) (by omega), wj_e, I_add, show ((d : Nat) : Int) + 1 = ((d + 1 : Nat) : Int) by omega, show ((U + 2 * d : Nat) : Int) + (OfNat.ofNat 2 : Int) = ((U + 2 * (d + 1) : Nat) : Int) by show _ + (2 : Int) = _; omega]
          refine ih (d + 1) _ (by omega) (by omega) cl.put.put ⟨fun k => if k = d then mk 0 r.toInt else e k, fun k hk => ?_, LRW_step ⟨lr.1, fun j hj => ⟨(lr.2 j hj).1.trans (if_neg (by omega)).symm, (lr.2 j hj).2⟩⟩ (if_pos rfl).symm⟩
          by_cases z : k = d
          · exact ⟨r.toInt, ti_rng r, if_pos z⟩
          · obtain ⟨y, y1, y2⟩ := he k hk
            exact ⟨y, y1, (if_neg z).trans y2⟩
    rw [lit0q, show (0 : Int) = ((0 : Nat) : Int) from rfl]
    exact loop N 0 _ (by omega) (by omega) CEL.rf ⟨fun _ => mk 0 0, fun k _ => ⟨0, ⟨by decide, by decide⟩, rfl⟩, fun _ _ => rfl, fun j hj => by omega⟩
end
