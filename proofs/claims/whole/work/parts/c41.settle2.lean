/-! ends are told one behind another, both sides -/
set_option maxRecDepth 100000
section
variable {b : Int → Nat → Nat → Prop} {Fv Fv' : Int64 → Int64 → Prop} {P P' : Int64 → Prop} {N f PR q r o s U B W Y i j d e e' hm y : Nat} {m w m1 w1 m2 w2 m3 w3 : MS} {t x : Int64} {wr v4 : Int} {cur src : Option Nat} {RR : Nat → MS → MS → Prop} {L L2 : List Int} {T : List Int32}
theorem DW_ev (d : DW Fv P PR w) {eF eM : Nat} (f : FR [149, 150] [] [] [] w w2) (h1 : F w2 149 = ((eF : Nat) : Int)) (h2 : F w2 150 = ((eM : Nat) : Int)) (h3 : eF ≤ eM) (h4 : ((eM : Nat) : Int) ≤ F w 150) (h5 : F w 149 ≤ ((eF : Nat) : Int) ∨ eF = eM) : DW Fv P PR w2 := by
  obtain ⟨⟨d1, d2⟩, d3, ⟨n, ow, kd, d4, d5, d6⟩, d7, ⟨eF0, eM0, k1, k2, k3, k4, k5⟩, d9⟩ := d
  have hA : ∀ K i, A w2 K i = A w K i := fun K i => FR.A f (by simp)
  have hJ : ∀ K, w2.2.2.2 K = w.2.2.2 K := fun K => f.2.2.2 K (by simp)
  have hL : w2.2.1 139 = w.2.1 139 := f.2.1 _ (by simp)
  have hH : ∀ p, hp w2 p = hp w p := fun p => by unfold hp; rw [hJ]
  have cE9 : cE w2 PR = cE w PR := cE_eq PR (fun p _ => hA 109 p)
  refine ⟨⟨by rw [FR.F f (by simp)]; exact d1, d2⟩, fun p hp1 => ?_, ⟨n, ow, kd, by rw [hA]; exact d4, d5, by rw [hH]; exact d6⟩, by rw [FR.F f (by simp)]; exact d7, ⟨eF, eM, h1, h2, h3, by rw [cE9]; omega, fun i hi1 hi2 => ?_⟩, fun p hp1 => by rw [hA]; exact d9 p hp1⟩
  · obtain ⟨n, ow, kd, oM, bM, xM, c1, x1, x2, x3, x4, x5, x6, x7, x8, x9, x10, x11⟩ := d3 p hp1
    exact ⟨n, ow, kd, oM, bM, xM, by rw [hA]; exact c1, rfl, by rw [hH]; exact x2, x3, x4, by rw [hA]; exact x5, by rw [hA]; exact x6, by rw [hA]; exact x7, fun i hi => by rw [hJ]; exact x8 i hi, fun i hi => by rw [hJ]; exact x9 i hi, fun i hi => by rw [hJ]; exact x10 i hi, fun z => by rw [hL]; exact x11 (by rw [← FR.F f (by simp)]; exact z)⟩
  · obtain ⟨t1, t2, t3, t4⟩ := k5 i (by omega) (by omega)
    refine ⟨by rw [hA]; exact t1, by rw [hA]; exact t2, by rw [hA]; exact t3, ?_⟩
    rw [hA, hJ]
    rcases t4 with t4 | ⟨y1, y2, n, ow, kd, y3, y4, y5, y6⟩
    · exact Or.inl t4
    · exact Or.inr ⟨y1, by rw [hA]; exact y2, n, ow, kd, by rw [hA]; exact y3, y4, by rw [hH]; exact y5, y6⟩
/-- the next one -/
theorem WL_pop (W : WLs RR PR Fv P Fv' P' none i j m w) (s2 : SFs Fv P Fv' P' PR m2 w2) (pg : PGs m w m2 w2) (h54 : A m 54 i = ((r : Nat) : Int)) (hr : r < PR) (hrd : F m (pq r 9) = 3) (hne : F m 955 ≠ ((i : Nat) : Int)) (D : ∀ d, d ≠ r → LOCm d m m2 ∧ LOCw d w w2) (D24 : LOCw 24 w w2)
    (dm : F m2 (pq r 9) = 3 ∧ m2.2.2.2 (pq r 2) = m.2.2.2 (pq r 2) ∧ m2.1 (pq r 17) = m.1 (pq r 17) ∧ m2.2.1 (pq r 16) = m.2.1 (pq r 16)) (dw : (∀ i, i < 500 → hp w2 r i = hp w r i) ∧ A w2 89 r = A w 89 r ∧ A w2 109 r = 3) (h1 : m2.1 955 = m.1 955) (h2 : m2.2.2.1 54 = m.2.2.1 54) (h3 : w2.1 150 = w.1 150) (h4 : ∀ K, K = 145 ∨ K = 146 ∨ K = 147 → w2.2.2.1 K = w.2.2.1 K) (h5 : w2.2.2.2 148 = w.2.2.2 148) : WLs RR PR Fv P Fv' P' (some r) (i + 1) (j + 1) m2 w2 := by
  obtain ⟨sf, ⟨n, q1, q2, q3, q4⟩, pr, hR⟩ := W
  have hn : n ≠ 0 := fun c => by subst c; exact hne q1
  obtain ⟨n, rfl⟩ : ∃ k, n = k + 1 := ⟨n - 1, by omega⟩
  have f9 : ∀ d, d ≠ r → F m2 (pq d 9) = F m (pq d 9) := fun d hd => congrArg Int32.toInt ((D d hd).1 9 (by omega)).1
  have a9 : ∀ d, d ≠ r → A w2 109 d = A w 109 d := fun d hd => congrArg Int32.toInt ((D d hd).2.1 109 d (Or.inl ⟨by omega, rfl⟩))
  have dm2 : ∀ d, F m (pq d 9) = 3 → F m2 (pq d 9) = 3 ∧ m2.2.2.2 (pq d 2) = m.2.2.2 (pq d 2) := fun d hd => by
    by_cases c : d = r
    · subst c; exact ⟨dm.1, dm.2.1⟩
    · exact ⟨by rw [f9 d c]; exact hd, ((D d c).1 2 (by omega)).2.2.2⟩
  have e955 : F m2 955 = F m 955 := congrArg Int32.toInt h1
  have e54 : ∀ k, A m2 54 k = A m 54 k := fun k => by show (m2.2.2.1 54 k).toInt = _; rw [h2]; rfl
  have e150 : F w2 150 = F w 150 := congrArg Int32.toInt h3
  have eK : ∀ K k, K = 145 ∨ K = 146 ∨ K = 147 → A w2 K k = A w K k := fun K k h => by show (w2.2.2.1 K k).toInt = _; rw [h4 K h]; rfl
  refine ⟨s2, ⟨n, by rw [e955, q1]; omega, by rw [e150, q2]; omega, fun k hk => ?_, fun k l hk hl e => ?_⟩, fun d hd => ?_, hR⟩
  · obtain ⟨r', wr, o, ⟨x1, x2, x3⟩, x4, x5, x6, x7, x8, x9⟩ := q3 (k + 1) (by omega)
    rw [show i + (k + 1) = i + 1 + k by omega] at x4
    rw [show j + (k + 1) = j + 1 + k by omega] at x5 x6 x7 x8
    have rr : r' ≠ r := fun c => by
      subst c
      have := q4 0 (k + 1) (by omega) (by omega) (by rw [Nat.add_zero, h54, show i + (k + 1) = i + 1 + k by omega, x4])
      omega
    refine ⟨r', wr, o, ⟨x1, fun c => rr (by injection c), (dm2 r' x3).1⟩, by rw [e54]; exact x4, by rw [eK 145 _ (by omega)]; exact x5, by rw [eK 146 _ (by omega)]; exact x6, by rw [eK 147 _ (by omega)]; exact x7, ?_, QEs_st x9 (D r' rr).1 (D r' rr).2⟩
    rw [h5]
    refine RQs_st x8 ((D r' rr).1 17 (by omega)).1 ((D r' rr).1 16 (by omega)).2.1 dm2 (fun d hd i9 hi => ?_) (fun d hd => ?_) (fun d hd => ?_)
    · by_cases c : d = r
      · subst c; exact dw.1 i9 hi
      · exact (D d c).2.2.2.2.2.1 _ (by omega) (by omega)
    · by_cases c : d = r
      · subst c; exact dw.2.2
      · rw [a9 d c]; exact hd
    · by_cases c : d = r
      · subst c; exact dw.2.1
      · exact congrArg Int32.toInt ((D d c).2.2.1 89 (by omega))
  · rw [e54, e54] at e
    have := q4 (k + 1) (l + 1) (by omega) (by omega) (by rw [show i + (k + 1) = i + 1 + k by omega, show i + (l + 1) = i + 1 + l by omega]; exact e)
    omega
  · by_cases c : d = r
    · subst c
      exact Or.inr ⟨dm.1, dw.2.2, Or.inl rfl⟩
    · rcases pr d hd with ⟨x1, x2, x3⟩ | ⟨x1, x2, x3⟩
      · exact Or.inl ⟨by rw [f9 d c]; exact x1, by rw [a9 d c]; exact x2, ALs_loc hR sf hd x1 x3 pg (D d c).1 (D d c).2⟩
      · refine Or.inr ⟨by rw [f9 d c]; exact x1, by rw [a9 d c]; exact x2, ?_⟩
        rcases x3 with x3 | ⟨k, k1, k2, k3⟩ | x3
        · cases x3
        · refine Or.inr (Or.inl ⟨k, ?_, by rw [e955]; exact k2, by rw [e54]; exact k3⟩)
          apply Classical.byContradiction
          intro z
          have : k = i := by omega
          subst this
          rw [h54] at k3
          exact c (by omega)
        · exact Or.inr (Or.inr (DEs_st x3 pg.1 (D d c).1 (D d c).2 dm2))
/-- it is told -/
theorem WL_done (W : WLs RR PR Fv P Fv' P' (some r) i j m w) (s2 : SFs Fv P Fv' P' PR m2 w) (f1 : FR [956] [] [] [] m m2) (de : DEs m w r) : WLs RR PR Fv P Fv' P' none i j m2 w := by
  obtain ⟨sf, ⟨n, q1, q2, q3, q4⟩, pr, hR⟩ := W
  have pg : PGs m w m2 w := PGs_fr f1 (FR.rf (is := []) (ls := []) (as := []) (js := [])) (by simp) (by simp) (by simp) (by simp) (by simp) (by simp)
  have lm : ∀ d, LOCm d m m2 := fun d k hk => ⟨f1.1 _ (by simp; exact fun c => pq_n (by omega) c.symm), f1.2.1 _ (by simp), f1.2.2.1 _ (by simp), f1.2.2.2 _ (by simp)⟩
  have f9 : ∀ d, F m2 (pq d 9) = F m (pq d 9) := fun d => congrArg Int32.toInt (lm d 9 (by omega)).1
  have dm2 : ∀ d, F m (pq d 9) = 3 → F m2 (pq d 9) = 3 ∧ m2.2.2.2 (pq d 2) = m.2.2.2 (pq d 2) := fun d hd => ⟨by rw [f9]; exact hd, (lm d 2 (by omega)).2.2.2⟩
  have e955 : F m2 955 = F m 955 := FR.F f1 (by simp)
  have e54 : ∀ k, A m2 54 k = A m 54 k := fun k => FR.A f1 (by simp)
  refine ⟨s2, ⟨n, by rw [e955]; exact q1, q2, fun k hk => ?_, fun k l hk hl e => q4 k l hk hl (by rw [← e54, ← e54 (i + l)]; exact e)⟩, fun d hd => ?_, hR⟩
  · obtain ⟨r', wr, o, ⟨x1, x2, x3⟩, x4, x5, x6, x7, x8, x9⟩ := q3 k hk
    exact ⟨r', wr, o, ⟨x1, (fun c => by cases c), (dm2 r' x3).1⟩, by rw [e54]; exact x4, x5, x6, x7, RQs_st x8 (lm r' 17 (by omega)).1 (lm r' 16 (by omega)).2.1 dm2 (fun _ _ _ _ => rfl) (fun _ h => h) (fun _ _ => rfl), QEs_st x9 (lm r') LOCw.rf⟩
  · rcases pr d hd with ⟨x1, x2, x3⟩ | ⟨x1, x2, x3⟩
    · exact Or.inl ⟨by rw [f9]; exact x1, x2, ALs_loc hR sf hd x1 x3 pg (lm d) LOCw.rf⟩
    · refine Or.inr ⟨by rw [f9]; exact x1, x2, ?_⟩
      rcases x3 with x3 | ⟨k, k1, k2, k3⟩ | x3
      · injection x3 with x3
        subst x3
        exact Or.inr (Or.inr (DEs_st de pg.1 (lm d) LOCw.rf dm2))
      · exact Or.inr (Or.inl ⟨k, k1, by rw [e955]; exact k2, by rw [e54]; exact k3⟩)
      · exact Or.inr (Or.inr (DEs_st x3 pg.1 (lm d) LOCw.rf dm2))
/-- texts of a REASON are alike -/
theorem RQ_text (rq : RQs Fv P Fv' P' PR m w r wr o x) (cn : CNq P P' m w) (hPR : PR ≤ 24) : ∃ hm k z k' z', rf (m.1 (pq r 17)) = some hm ∧ hm < 24 ∧ F m (pq hm 9) = 3 ∧ SZp (m.2.2.2 (pq hm 2)) (LFs (F m 22)) k (m.2.1 (pq r 16)) z ∧ z ≤ 1020 ∧ SZp (hp w o) (LFr (F w 14)) k' x z' ∧ z' ≤ 1000 ∧ TXs (m.2.2.2 (pq hm 2)) (ATc m) (m.2.1 (pq r 16)) = (if wr = 0 then TXs (hp w o) (ATr w) x else 123 :: (ATr w (if wr = 1 then 7 else 19) ++ 44 :: (TXs (hp w o) (ATr w) x ++ [125]))) := by
  obtain ⟨hm, s, g1, g2, g3, g4, g5, g6⟩ := rq
  obtain ⟨c1, c2, c3, c4, c5, c6⟩ := cn
  obtain ⟨ho, sr⟩ := g5
  rcases sr with ⟨e, -⟩ | ⟨jj, bS, n, ow, kd, f, n', ow', kd', f', e, ⟨y1, y2, y3⟩, ⟨y4, y5, y6⟩, y7, y8, y9⟩
  · cases e
  injection e with e
  subst e
  have hs := SZ_max y1 y8
  have sp := SZp_c (R := LFs (F m 22)) (show n ≤ 1000 by omega) c6 y8
  rcases y9 with ⟨z1, z2, z3⟩ | ⟨z, z1, z2, z3, z4, z5, z6, z7⟩
  · have hz := SZ_1000 y4 y5 z3
    refine ⟨hm, f, s, f', s, g1, by omega, g3, sp, by omega, SZp_m (R := LFr (F w 14)) (by omega) c5 z3, hz, ?_⟩
    rw [if_pos z1]
    exact TXs_isr y7 c1 z2 (SZp_m (R := LFr (F w 14)) (by omega) c5 z3)
  · have hz := SZ_1000 y4 y5 z7
    refine ⟨hm, f, s, f', z, g1, by omega, g3, sp, by omega, SZp_m (R := LFr (F w 14)) (by omega) c5 z7, hz, ?_⟩
    rw [if_neg (by omega), TXs_tup sp (by omega) z3, z4]
    show 123 :: ((TXs _ _ (m.2.2.2 (pq hm 2) (vn (m.2.1 (pq r 16)) + 1)) ++ 44 :: TXs _ _ (m.2.2.2 (pq hm 2) (vn (m.2.1 (pq r 16)) + 2))) ++ [125]) = _
    have so1 : ∀ a : Int, so (mk 1 a) = 1 := fun a => so_mk (by omega) (by omega)
    have tx : ∀ a : Nat, a < 22 → TXs (m.2.2.2 (pq hm 2)) (ATc m) (mk 1 ((a : Nat) : Int)) = ATr w a := fun a ha => by
      rw [TXs_al (by rw [so1]; omega) (by rw [so1]; omega), alT_1 (so1 _), show vn (mk 1 ((a : Nat) : Int)) = a from by unfold vn; rw [va_mk (by omega) (by omega)]; omega]
      exact c1 a (by omega)
    have e1 : TXs (m.2.2.2 (pq hm 2)) (ATc m) (m.2.2.2 (pq hm 2) (vn (m.2.1 (pq r 16)) + 1)) = ATr w (if wr = 1 then 7 else 19) := by
      rw [z5]
      by_cases c : wr = 1
      · rw [if_pos c, if_pos c]; exact tx 7 (by omega)
      · rw [if_neg c, if_neg c]; exact tx 19 (by omega)
    rw [e1, TXs_isr y7 c1 z6 (SZp_m (R := LFr (F w 14)) (by omega) c5 z7)]
    simp
end
