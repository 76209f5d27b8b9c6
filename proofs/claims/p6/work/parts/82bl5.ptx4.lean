set_option maxRecDepth 100000
section
variable {m0 w0 m w v u m1 m2 m3 w1 w2 w5 mi D : MS} {K nm Nk W W1 W2 : Nat → Nat} {T p n N q q2 r X X1 X2 Y n1 n2 n3 lo li ni p2 ν μ x o o' kk c0 l4 : Nat} {sc sc1 sc2 sc3 t t2 : SCT} {NC ND : Nat → Prop} {S : SG_M_rowPattern} {k : Nat} {a b c g v1 v2 v3 v4 : Int32} {l : List Nat}
theorem PXR_1 (h : PTX N w0 K T nm Nk m2 lo n2 ν p p2 o NC1 X) (hν : lo < ν ∧ ν ≤ n2) (h21 : m2.2.2.1 21 ν = 0) (hp : p < p2) : PXR N w0 K T nm Nk m2 lo n2 o [ν] p p2 X := ⟨p2, m2, lo, n2, X, h, ⟨fun _ _ _ => ⟨rfl, fun _ => rfl⟩, Kc_rf⟩, ⟨Nat.le_refl _, Nat.le_refl _⟩, hν, fun z => absurd rfl z, h21, hp, Or.inl ⟨rfl, rfl, rfl⟩⟩
theorem PXR_hd : ∀ {l : List Nat} {p X : Nat}, PXR N w0 K T nm Nk m2 lo n2 o l p p2 X → l.headD 0 ≤ l.getLastD 0 ∧ lo < l.headD 0 ∧ l.getLastD 0 ≤ n2
  | [], _, _, h => h.elim
  | [ν], _, _, ⟨_, _, _, _, _, _, _, h3, h4, _⟩ => ⟨Nat.le_refl _, by show lo < ν; omega, by show ν ≤ n2; omega⟩
  | ν :: μ :: l, p, X, ⟨q, mi, li, ni, X1, h1, h2, h3, h4, h5, h6, h7, h8⟩ => by
    rcases h8 with ⟨h8, -⟩ | ⟨-, X2, h8, -⟩
    · cases h8
    · obtain ⟨r1, r2, r3⟩ := PXR_hd h8
      have r1 : μ ≤ (μ :: l).getLastD 0 := r1
      have c : ni < μ := h5 (fun z => by cases z)
      refine ⟨?_, by show lo < ν; omega, r3⟩
      show ν ≤ (μ :: l).getLastD 0
      omega
theorem PXR_snoc (hn : n2 ≤ n3) (hk : Kcc m2 m3) (hμ : n2 < μ ∧ μ ≤ ni ∧ ni ≤ n3) (hli : lo ≤ li ∧ li < μ) (hp : PTX N w0 K T nm Nk mi li ni μ (p2 + 1) q2 o NC1 Y) (hx : KPX li ni μ mi m3) (h21 : m3.2.2.1 21 μ = 0) (hq : p2 + 1 < q2) (h26 : K p2 = 26) : ∀ {l : List Nat} {p X : Nat}, (∀ j, j ≤ n2 → nod m3 j = nod m2 j ∧ (j ≠ l.getLastD 0 → m3.2.2.1 21 j = m2.2.2.1 21 j)) → m3.2.2.1 21 (l.getLastD 0) = I (μ : Nat) → PXR N w0 K T nm Nk m2 lo n2 o l p p2 X → PXR N w0 K T nm Nk m3 lo n3 o (l ++ [μ]) p q2 (max X Y)
  | [], _, _, _, _, h => h.elim
  | [ν], p, X, hs, hy, ⟨q, mj, lj, nj, X1, h1, h2, h3, h4, h5, h6, h7, h8⟩ => by
    rcases h8 with ⟨-, h8, hX⟩ | ⟨-, X2, h8, -⟩
    · subst h8
      subst hX
      have hs : ∀ j, j ≤ n2 → nod m3 j = nod m2 j ∧ (j ≠ ν → m3.2.2.1 21 j = m2.2.2.1 21 j) := hs
      refine ⟨q, mj, lj, nj, X, h1, ⟨fun j j1 j2 => ⟨(hs j (by omega)).1.trans (h2.1 j j1 j2).1, fun z => ((hs j (by omega)).2 z).trans ((h2.1 j j1 j2).2 z)⟩, Kc_tr h2.2 hk⟩, ⟨h3.1, by omega⟩, h4, fun _ => ?_, hy, h7, Or.inr ⟨h26, Y, ⟨q2, mi, li, ni, Y, hp, hx, ⟨hli.1, hμ.2.2⟩, ⟨hli.2, hμ.2.1⟩, fun z => absurd rfl z, h21, hq, Or.inl ⟨rfl, rfl, rfl⟩⟩, rfl⟩⟩
      show nj < μ
      omega
    · exact h8.elim
  | ν :: κ :: l, p, X, hs, hy, ⟨q, mj, lj, nj, X1, h1, h2, h3, h4, h5, h6, h7, h8⟩ => by
    rcases h8 with ⟨h8, -⟩ | ⟨k26, X2, h8, hX⟩
    · cases h8
    · have hs : ∀ j, j ≤ n2 → nod m3 j = nod m2 j ∧ (j ≠ (κ :: l).getLastD 0 → m3.2.2.1 21 j = m2.2.2.1 21 j) := hs
      obtain ⟨d1, d2, d3⟩ := PXR_hd h8
      have d1 : κ ≤ (κ :: l).getLastD 0 := d1
      have c2 : nj < κ := h5 (fun z => by cases z)
      refine ⟨q, mj, lj, nj, X1, h1, ⟨fun j j1 j2 => ⟨(hs j (by omega)).1.trans (h2.1 j j1 j2).1, fun z => ((hs j (by omega)).2 (by omega)).trans ((h2.1 j j1 j2).2 z)⟩, Kc_tr h2.2 hk⟩, ⟨h3.1, by omega⟩, h4, fun _ => c2, ?_, h7, Or.inr ⟨k26, max X2 Y, PXR_snoc hn hk hμ hli hp hx h21 hq h26 hs hy h8, by omega⟩⟩
      show m3.2.2.1 21 ν = I (κ : Nat)
      rw [(hs ν (by omega)).2 (by omega)]
      exact h6
theorem PXR_k (hn : n2 ≤ n3) (hk : Kcc m2 m3) (ho : KPO n2 m2 m3) : ∀ {l : List Nat} {p X : Nat}, PXR N w0 K T nm Nk m2 lo n2 o l p p2 X → PXR N w0 K T nm Nk m3 lo n3 o l p p2 X
  | [], _, _, h => h.elim
  | ν :: l, p, X, ⟨q, mj, lj, nj, X1, h1, h2, h3, h4, h5, h6, h7, h8⟩ => by
    refine ⟨q, mj, lj, nj, X1, h1, ⟨fun j j1 j2 => ⟨(ho j (by omega)).1.trans (h2.1 j j1 j2).1, fun z => ((ho j (by omega)).2).trans ((h2.1 j j1 j2).2 z)⟩, Kc_tr h2.2 hk⟩, ⟨h3.1, by omega⟩, h4, h5, (ho ν (by omega)).2.trans h6, h7, ?_⟩
    rcases h8 with h8 | ⟨h8, X2, h9, h10⟩
    · exact Or.inl h8
    · exact Or.inr ⟨h8, X2, PXR_k hn hk ho h9, h10⟩
theorem rowP_b {kc : Nat} {v9 vt : Int32} {Qf : MS → Int32 → Prop} {d : Nat} (hw : WP w K T p) (h67 : w.1 67 = 0) (hl : p < T) (hr : RNs w sc) (hk : (K p = 22 ∧ kc = 23 ∧ v9 = 3 ∧ vt = 1) ∨ (K p = 24 ∧ kc = 25 ∧ v9 = 5 ∧ vt = 0)) (h1 : ∀ D r13, WP D K T (p + 1) → RNs D sc → D.1 66 = w.1 66 → WFP w D → K (p + 1) = kc → PK Qf (fb_M_rowPattern_194 N (rc_M_rowPattern N d) (gg_M_rowPattern N (rc_M_rowPattern N d) N) D v9 r13 0)) (h2 : ∀ D r13, WP D K T (p + 1) → RNs D sc → D.1 66 = w.1 66 → WFP w D → K (p + 1) ≠ kc → PK Qf (gg_M_rowPattern N (rc_M_rowPattern N d) N D 0 vt v9 r13 (-1) 0 1)) : PK Qf (fm_M_rowPattern N (rc_M_rowPattern N d) w 0) := by
  have key : ∀ t1, PK Qf (fb_M_rowPattern_27 N (rc_M_rowPattern N d) (gg_M_rowPattern N (rc_M_rowPattern N d) N) w 0 vt v9 t1) := fun t1 => by
    unfold fb_M_rowPattern_27
    refine pk_bnd (fun u13 r13 x13 => pk_lt ?_)
    have f13 := yr_fm_M_pattern (u0 := w) Kr_rf u13 r13 x13
    have q13 := WNQ_kr (WNQ_0 hw hr) f13
    have qD : WNQ K T (p + 1) sc (w.1 66) w (upI u13 69 (u13.1 69 + 1)) := WNQ_on q13 hl (by rw [q13.1.2.1, i_suc])
    generalize hD : upI u13 69 (u13.1 69 + 1) = D at qD
    have D0 : D.1 67 = 0 := by rw [qD.2.2.2.1 67 (by decide)]; exact h67
    have kk : 20 ≤ kc ∧ kc ≤ 44 ∧ v9 = I (svK kc : Nat) := by
      rcases hk with ⟨-, rfl, rfl, -⟩ | ⟨-, rfl, rfl, -⟩ <;> exact ⟨by decide, by decide, rfl⟩
    rw [decide_eq_true D0, br_tq, isS_e (k := kc) (s := v9) qD.1 ⟨kk.1, kk.2.1⟩ kk.2.2, bnd_s]
    by_cases z : K (p + 1) = kc
    · rw [if_pos z, show decide ((1 : Int32) = 0) = false from rfl, br_fq]
      exact h1 D r13 qD.1 qD.2.1 qD.2.2.1 (WNQ_f qD) z
    · rw [if_neg z, show decide ((0 : Int32) = 0) = true from rfl, br_tq]
      exact h2 D r13 qD.1 qD.2.1 qD.2.2.1 (WNQ_f qD) z
  unfold fm_M_rowPattern fb_M_rowPattern_0 fb_M_rowPattern_15
  rw [isS_e (k := 22) (s := 2) hw (by decide) rfl]
  rcases hk with ⟨k1, rfl, rfl, rfl⟩ | ⟨k1, rfl, rfl, rfl⟩
  · rw [if_pos k1, bnd_s, show decide ((1 : Int32) = 0) = false from rfl, br_fq, br_fq]
    exact key 5
  · rw [if_neg (by omega), bnd_s, show decide ((0 : Int32) = 0) = true from rfl, br_tq, br_tq]
    exact key 6
theorem rowP_e {kc : Nat} {v9 v6 : Int32} {Qf : MS → Int32 → Prop} {G : MS → Int32 → Int32 → Int32 → Int32 → Int32 → Int32 → Int32 → Option (MS × Int32)} (hw : WP w K T q) (h67 : w.1 67 = 0) (hkc : 20 ≤ kc ∧ kc ≤ 44) (h9 : v9 = I (svK kc : Nat)) (hF : K q ≠ kc → ∀ w r, FLW w → Qf w r) (h1 : K q = kc → q < T → ∀ w', WP w' K T q → w'.1 = w.1 → (∀ k, k ≠ 35 → w'.2.2.1 k = w.2.2.1 k) → Qf (adv w' q) v4) : PK Qf (fb_M_rowPattern_194 N S G w v9 v4 v6) := by
  unfold fb_M_rowPattern_194
  refine pk_ck (fun _ => pk_lt ?_)
  have hw2 : WP (upA w 35 (upd (w.2.2.1 35) v4.toNatClampNeg v6)) K T q := WP_e hw hw.2.1 hw.2.2 (upA_no (by decide)) (upA_no (by decide))
  by_cases z : K q = kc
  · have hl : q < T := hw.1.1.lt hw.2.2 (by omega) (by omega)
    rw [ndS_1 hw2 h67 hkc h9 z, bnd_s]
    exact pk_some (h1 z hl _ hw2 rfl (fun k hk => upA_no hk))
  · exact pk_bnd (pk_mo (ndS_0 (N := N) hw2 h67 hkc h9 z) (fun v r2 y => pk_some (hF z v v4 y)))
theorem isP_6 {isA : Bool} (hν : ν ≤ 8015) (hc : ∀ d M, PK (fun v r => v = m3 ∧ r = b2c isA) (hg_Tr_isPattern N (hrc_Tr_isPattern N d) M m3 (I (ν : Nat)) b)) (e1 : m3.2.2.1 18 ν = b) (e0 : m3.2.2.1 16 ν = I ((6 : Nat) : Int) ∨ m3.2.2.1 16 ν = I ((7 : Nat) : Int)) : ∀ (d : Nat), PK (fun v r => v = m3 ∧ r = b2c isA) (hrc_Tr_isPattern N d m3 (I (ν : Nat)))
  | 0 => pk_none
  | d + 1 => by
    show PK _ (hb_Tr_isPattern_0 N (hrc_Tr_isPattern N d) (hg_Tr_isPattern N (hrc_Tr_isPattern N d) N) m3 (I (ν : Nat)))
    unfold hb_Tr_isPattern_0
    refine pk_ck (fun z => ?_)
    rw [tnI (n := ν) rfl (by omega), e1]
    rcases e0 with e0 | e0
    · rw [e0, show decide (I ((6 : Nat) : Int) = 1) = false from rfl, br_fq, show decide (I ((6 : Nat) : Int) = 2) = false from rfl, br_fq, show decide (I ((6 : Nat) : Int) = 3) = false from rfl, br_fq, show decide (I ((6 : Nat) : Int) = 4) = false from rfl, br_fq, show decide (I ((6 : Nat) : Int) = 5) = false from rfl, br_fq, show decide (I ((6 : Nat) : Int) = 6) = true from rfl, br_tq]
      exact pk_ck (fun _ => hc d N)
    · rw [e0, show decide (I ((7 : Nat) : Int) = 1) = false from rfl, br_fq, show decide (I ((7 : Nat) : Int) = 2) = false from rfl, br_fq, show decide (I ((7 : Nat) : Int) = 3) = false from rfl, br_fq, show decide (I ((7 : Nat) : Int) = 4) = false from rfl, br_fq, show decide (I ((7 : Nat) : Int) = 5) = false from rfl, br_fq, show decide (I ((7 : Nat) : Int) = 6) = false from rfl, br_fq, show decide (I ((7 : Nat) : Int) = 7) = true from rfl, br_tq]
      exact pk_ck (fun _ => hc d N)
theorem isP_z6 {d : Nat} (hν : ν ≤ 8015) (e0 : m3.2.2.1 16 ν = I ((6 : Nat) : Int)) : ∀ M, PK (fun v r => v = m3 ∧ r = b2c true) (hg_Tr_isPattern N (hrc_Tr_isPattern N d) M m3 (I (ν : Nat)) 0)
  | 0 => pk_none
  | M + 1 => by
    show PK _ (hb_Tr_isPattern_129 N (hrc_Tr_isPattern N d) (hg_Tr_isPattern N (hrc_Tr_isPattern N d) M) m3 (I (ν : Nat)) 0)
    unfold hb_Tr_isPattern_129 hb_Tr_isPattern_186 hb_Tr_isPattern_191
    rw [show decide ((0 : Int32) = 0) = true from rfl, br_tq, tnI (n := ν) rfl (by omega), e0, show decide (I ((6 : Nat) : Int) = 6) = true from rfl, br_tq]
    exact pk_ck (fun _ => pk_ck (fun _ => pk_some ⟨rfl, rfl⟩))
theorem isP_z7 {d : Nat} {isT : Bool} (hν : ν ≤ 8015) (e0 : m3.2.2.1 16 ν = I ((7 : Nat) : Int)) (e2 : m3.2.2.1 20 ν = I (c0 : Nat)) (hc : (c0 = 0 ∧ isT = true) ∨ (1 ≤ c0 ∧ c0 ≤ 8015 ∧ ∀ d, PK (fun v r => v = m3 ∧ r = b2c isT) (hrc_Tr_isPattern N d m3 (I (c0 : Nat))))) : ∀ M, PK (fun v r => v = m3 ∧ r = b2c isT) (hg_Tr_isPattern N (hrc_Tr_isPattern N d) M m3 (I (ν : Nat)) 0)
  | 0 => pk_none
  | M + 1 => by
    show PK _ (hb_Tr_isPattern_129 N (hrc_Tr_isPattern N d) (hg_Tr_isPattern N (hrc_Tr_isPattern N d) M) m3 (I (ν : Nat)) 0)
    unfold hb_Tr_isPattern_129 hb_Tr_isPattern_186 hb_Tr_isPattern_191
    rw [show decide ((0 : Int32) = 0) = true from rfl, br_tq, tnI (n := ν) rfl (by omega), e0, show decide (I ((7 : Nat) : Int) = 6) = false from rfl, br_fq, e2]
    refine pk_ck (fun _ => pk_ck (fun _ => ?_))
    rcases hc with ⟨rfl, rfl⟩ | ⟨c1, c2, hc⟩
    · rw [show decide (I ((0 : Nat) : Int) = 0) = true from rfl, br_tq]
      exact pk_ck (fun _ => pk_some ⟨rfl, rfl⟩)
    · rw [show decide (I (c0 : Nat) = 0) = false from decide_eq_false (fun z => by
          have z : I (c0 : Nat) = I ((0 : Nat) : Int) := z
          have := (I_eq (x := (c0 : Nat)) (y := ((0 : Nat) : Int)) (by omega) (by omega) (by omega) (by omega)).mp z
          omega), br_fq]
      refine pk_ck (fun _ => pk_bnd (pk_mo (hc d) (fun v r y => ?_)))
      obtain ⟨rfl, rfl⟩ := y
      cases isT with
      | false => rw [show decide (b2c false = 0) = true from rfl, br_tq]; exact pk_ck (fun _ => pk_some ⟨rfl, rfl⟩)
      | true => rw [show decide (b2c true = 0) = false from rfl, br_fq]; exact pk_ck (fun _ => pk_some ⟨rfl, rfl⟩)
theorem pt_rw {Qf : MS → Int32 → Prop} {d : Nat} (hw : WP w K T p) (h67 : w.1 67 = 0) (h0 : w.1 70 < 25) (hk : K p = 22 ∨ K p = 24) (hr : RNs w sc) (h : ∀ d, PK (fun w2 r => PK Qf (fb_M_patternAt_388 N S () w2 r)) (fm_M_rowPattern N (rc_M_rowPattern N d) (upI w 70 (w.1 70 + 1)) 0)) (hS : ∀ u r, fb_M_patternAt_388 N (rc_M_rowPattern N d) () u r = fb_M_patternAt_388 N S () u r) : PK Qf (fm_M_patternAt N (rc_M_rowPattern N d) w 0) := by
  rw [pB_row hw h67 h0 hk]
  cases d with
  | zero => exact pk_none
  | succ d =>
    refine pk_bnd (pk_mo (h d) (fun w2 r z => ?_))
    exact z
theorem upI70_k (kt : Ktc w0 w) {y : Int32} : Ktc w0 (upI w 70 y) := ⟨fun k hk => by rw [upI_ne (fun z => by rw [z] at hk; revert hk; decide)]; exact kt.1 k hk, kt.2⟩
theorem WFP_Kt (kt : Ktc w0 w) (h : WFP w v) : Ktc w0 v := Kt_tr kt (WFP_k h)
theorem PTX_tup (hn : nod m2 ν = (I ((6 : Nat) : Int), a, I ((l.headD 0 : Nat) : Int), c, g)) (hlo : lo < ν) (hν : ν ≤ n2) (hl : n2 ≤ 8015) (h : (l = [] ∧ q = p + 1 ∧ X = 0) ∨ (PXR N w0 K T nm Nk m1 lo n1 (o + 1) l (p + 1) q X ∧ l.length ≤ 8 ∧ K (p + 1) ≠ 23)) (hk1 : KPO n1 m1 m2) (hk2 : Kcc m1 m2) (hn1 : n1 < ν) (hk : K p = 22) (hkq : K q = 23) (hT : q < T) (ho : o < 25) (hpq : p < q) : PTX N w0 K T nm Nk m2 lo n2 ν p (q + 1) o NC X := by
  have g1 : ∀ j, p ≤ j → j < p + 1 → K j ≠ 3 := fun j h1 h2 => by rw [show j = p by omega]; omega
  have g2 : ∀ j, q ≤ j → j < q + 1 → K j ≠ 3 := fun j h1 h2 => by rw [show j = q by omega]; omega
  have fin : ∀ (w : MS) (sc : SCT) (D w5 w' : MS), WFP (upI w 70 (w.1 70 + 1)) D → D.1 66 = w.1 66 → PZW Nk K nm T (p + 1) q sc D w5 (fun sc2 X W => PRW N K nm m1 lo n1 false W l (p + 1) q sc sc2 X) → WP w' K T q → w'.1 = w5.1 → (∀ k, k ≠ 35 → w'.2.2.1 k = w5.2.2.1 k) → PZW Nk K nm T p (q + 1) sc w (upI (adv w' q) 70 ((adv w' q).1 70 - 1)) (fun sc2 X W => PTN N K nm m2 lo n2 ν false p (q + 1) sc sc2 X W) := fun w sc D w5 w' hf h6 hz hw' e1 e2 => by
    have hz2 : PZW Nk K nm T (p + 1) q sc D w' (fun sc2 X W => PRW N K nm m1 lo n1 false W l (p + 1) q sc sc2 X) := by
      obtain ⟨sc2, X, W, a1, a2, a3, a4, a5, a6, a7, a8⟩ := hz
      exact ⟨sc2, X, W, hw', RNs_e a2 (by rw [e1]) (fun j h1 h2 => e2 j (by omega)), a3, a4, a5, by rw [e1]; exact a6, ⟨fun k hk => by rw [e1]; exact a7.1 k hk, fun k hk => by rw [e2 k (by omega)]; exact a7.2 k hk⟩, a8⟩
    refine PZW_in hz2 (by omega) hT (by omega) g1 (fun k hk => ?_) h6 ?_ (fun k hk => ?_) (fun sc2 X W s1 s2 s3 b => ?_)
    · simp only [List.mem_cons, List.not_mem_nil, or_false] at hk
      rw [hf.1 k (by simp only [List.mem_cons, List.not_mem_nil, or_false]; omega), upI_ne (by omega)]
    · rw [hf.1 70 (by decide), upI_at]
    · rw [hf.2 k hk]; rfl
    · exact ptn_tup (l := l) (q := p + 1) (q2 := q) hn hlo hν hl ⟨by omega, by omega, by omega⟩ g1 g2 (by omega) (m1 := m1) (n1 := n1) b hk1 hk2 hn1
  have ex : ∃ isA : Bool, (isA = true → X = 0) ∧ (∀ m3, KPX lo n2 ν m2 m3 → ∀ d M, PK (fun v r => v = m3 ∧ r = b2c isA) (hg_Tr_isPattern N (hrc_Tr_isPattern N d) M m3 (I (ν : Nat)) (I ((l.headD 0 : Nat) : Int)))) ∧ ∀ (d : Nat) (w : MS) (sc : SCT) (o' : Nat) (Qf : MS → Int32 → Prop), WP w K T p → Ktc w0 w → w.1 67 = 0 → w.1 70 = I ((o' + 1 : Nat) : Int) → o' ≤ o → RNs w sc → (isA = false → ∀ w r, FLW w → Qf w r) → (isA = true → ∀ D w5 w' r, WFP w D → D.1 66 = w.1 66 → PZW Nk K nm T (p + 1) q sc D w5 (fun sc2 X W => PRW N K nm m1 lo n1 false W l (p + 1) q sc sc2 X) → WP w' K T q → w'.1 = w5.1 → (∀ k, k ≠ 35 → w'.2.2.1 k = w5.2.2.1 k) → Qf (adv w' q) r) → PK Qf (fm_M_rowPattern N (rc_M_rowPattern N d) w 0) := by
    rcases h with ⟨rfl, rfl, rfl⟩ | ⟨hx, hlen, h23⟩
    · refine ⟨true, fun _ => rfl, fun m3 kx d M => isP_z6 (by omega) (KPX_16 hn hlo hν kx).1 M, fun d w sc o' Qf hw kt h67 h70 ho2 hr hF hE => ?_⟩
      refine rowP_b (kc := 23) (v9 := 3) (vt := 1) hw h67 (by omega) hr (Or.inl ⟨hk, rfl, rfl, rfl⟩) (fun D r13 hD rD D6 fD k23 => ?_) (fun D r13 _ _ _ _ z => absurd hkq z)
      have D0 : D.1 67 = 0 := by rw [fD.1 67 (by decide)]; exact h67
      refine rowP_e (kc := 23) hD D0 (by decide) rfl (fun z => absurd hkq z) (fun _ _ w' hw' e1 e2 => hE rfl D D w' r13 fD D6 ⟨sc, 0, fun _ => 32, hD, rD, SCX_0 hr, HDs_no (fun j h1 h2 => absurd h2 (by omega)), ⟨by omega, by omega⟩, by rw [lgS_0], ⟨fun _ _ => rfl, fun _ _ => rfl⟩, fun j h1 h2 => absurd h2 (by omega), PNM_0 (fun z => by have := hr.2.1.1; rw [z] at this; exact absurd this (by decide)) (fun j h1 h2 => absurd h2 (by omega)), ⟨rfl, rfl, rfl⟩⟩ hw' e1 e2)
    · obtain ⟨isA, r0, r1, r2⟩ := pxr_all (by omega) (by omega) (by omega) hx
      refine ⟨isA, r0, fun m3 kx d M => ?_, fun d w sc o' Qf hw kt h67 h70 ho2 hr hF hE => ?_⟩
      · have ck := chi_k hk1 hk2 hn1 hν kx
        refine r1 d M m3 (I (ν : Nat)) _ ck.1 ck.2 (fun z => ⟨rfl, by rw [z]; rfl⟩) (fun z M' => ?_)
        rw [z]
        exact isP_z6 (by omega) (KPX_16 hn hlo hν kx).1 M'
      · refine rowP_b (kc := 23) (v9 := 3) (vt := 1) hw h67 (by omega) hr (Or.inl ⟨hk, rfl, rfl, rfl⟩) (fun D r13 _ _ _ _ z => absurd z h23) (fun D r13 hD rD D6 fD _ => ?_)
        have D0 : D.1 67 = 0 := by rw [fD.1 67 (by decide)]; exact h67
        refine r2 d N D sc (o' + 1) 0 1 3 r13 (-1) Qf hD (WFP_Kt kt fD) D0 (by rw [fD.1 70 (by decide)]; exact h70) (by omega) rD (by omega) hF (fun hA M w5 q5 v5 k5 hw5 h5 nc => ?_) (fun z M w5 v5 k5 hz => ?_)
        · unfold fb_M_rowPattern_151
          rw [show decide ((1 : Int32) = 0) = false from rfl, br_fq]
          exact rowP_e (kc := 23) hw5 h5 (by decide) rfl (fun _ => hF hA) (fun z => absurd z (nc1_n nc).2.1)
        · unfold fb_M_rowPattern_151
          rw [show decide ((1 : Int32) = 0) = false from rfl, br_fq]
          obtain ⟨sc2, X, W, a1, a2, a3, a4, a5, a6, a7, a8⟩ := id hz
          exact rowP_e (kc := 23) a1 (by rw [a7.1 67 (by decide)]; exact D0) (by decide) rfl (fun z => absurd hkq z) (fun _ _ w' hw' e1 e2 => hE z D w5 w' r13 fD D6 hz hw' e1 e2)
  obtain ⟨isA, x0, x1, x2⟩ := ex
  refine ⟨isA, x0, fun d m3 kx => isP_6 (by omega) (x1 m3 kx) (KPX_16 hn hlo hν kx).2.1 (Or.inl (KPX_16 hn hlo hν kx).1) d, fun d w sc o' hw kt h67 h70 ho2 hr => ?_⟩
  cases d with
  | zero => exact pk_none
  | succ d =>
    refine pt_rw (S := rc_M_rowPattern N d) hw h67 (I_25 h70 (by omega)) (Or.inl hk) hr (fun d2 => ?_) (fun _ _ => rfl)
    have hw2 : WP (upI w 70 (w.1 70 + 1)) K T p := WP_e hw (by rw [upI_ne (by decide)]; exact hw.2.1) hw.2.2 rfl rfl
    refine x2 d2 (upI w 70 (w.1 70 + 1)) sc o' _ hw2 (upI70_k kt) (by rw [upI_ne (by decide)]; exact h67) (by rw [upI_at, h70, i_suc]) ho2 (WFP_rn hr (upI_ne (by decide)) rfl) (fun hA w2 r z => ?_) (fun z D w5 w' r fD D6 hz hw' e1 e2 => ?_)
    · refine pk_mo (Q := fun w2 (_ : Int32) => FLW w2) (Kf_pk (yf_fb_M_patternAt_388 (u0 := w2) z ((rcS N d).1 w2) ((rcS N d).2 w2))) (fun w3 r3 z3 => ?_)
      exact Or.inr ⟨hA, Or.inl z3⟩
    · unfold fb_M_patternAt_388
      exact pk_lt (pk_some (Or.inl ⟨z, fin w sc D w5 w' fD (by rw [D6, upI_ne (by decide)]) hz hw' e1 e2⟩))
theorem PZW_two {Q1 Q2 : SCT → Nat → (Nat → Nat) → Prop} (hp : p ≤ q) (hk : K q ≠ 3) (hq2 : q + 1 ≤ p2) (h : WP w1 K T q ∧ RNs w1 sc1 ∧ SCX sc sc1 X1 ∧ HDs Nk K W1 p q sc sc1 ∧ (tot sc1 ≤ tot sc + (q - p) ∧ X1 ≤ 1400) ∧ w1.1 66 = lgS sc X1 (w.1 66) ∧ WFP w w1 ∧ WCN Nk K nm W1 p q sc ∧ PNM Nk K nm p q sc sc1 X1) (Di : ∀ k, k ≠ 69 → D.1 k = w1.1 k) (Dr : D.2.2.1 = w1.2.2.1) (h2 : PZW Nk K nm T (q + 1) p2 sc1 D w2 Q1) (hQ : ∀ sc2 X2 W2, SCX sc1 sc2 X2 → X2 ≤ 1400 → tot sc2 ≤ tot sc1 + (p2 - (q + 1)) → Q1 sc2 X2 W2 → Q2 sc2 (max X1 X2) (mrg q W1 W2)) : PZW Nk K nm T p p2 sc w w2 Q2 := by
  obtain ⟨a1, a2, a3, a4, a5, a6, a7, a8, a9⟩ := h
  obtain ⟨sc2, X2, W2, b1, b2, b3, b4, b5, b6, b7, b8, b9, b10⟩ := h2
  have gp : ∀ j, q ≤ j → j < q + 1 → K j ≠ 3 := fun j h1 h2 => by rw [show j = q by omega]; exact hk
  have ge : ∀ j, p2 ≤ j → j < p2 → K j ≠ 3 := fun j h1 h2 => absurd h2 (by omega)
  refine ⟨sc2, max X1 X2, mrg q W1 W2, b1, b2, SCX_tr a3 b3, ?_, ⟨by omega, by omega⟩, ?_, ?_, WCN_tr a8 (WCN_gap b8 gp ge) a3 (PNM_sn a9), PNM_tr a9 (PNM_gap b9 ⟨by omega, Nat.le_refl _⟩ gp ge) hp (by omega) a3 b3, hQ sc2 X2 W2 b3 b5.2 b5.1 b10⟩
  · refine HDs_tr (p2 := q) hp (by omega) (HDs_w (fun j _ h => mrg_l h) a4) ?_
    exact HDs_ext (q := q + 1) (q2 := p2) (by omega) (Nat.le_refl _) gp ge (HDs_w (fun j h _ => mrg_r (by omega)) b4)
  · rw [b6, Di 66 (by decide), a6, lgS_tr a3]
  · refine WFP_tr a7 (WFP_tr ⟨fun k hk => Di k (fun z => hk (by rw [z]; decide)), fun k hk => by rw [Dr]⟩ b7)
theorem PTX_lst (hn : nod m2 ν = (I ((7 : Nat) : Int), a, I ((l.headD 0 : Nat) : Int), c, I (c0 : Nat))) (hlo : lo < ν) (hν : ν ≤ n2) (hl : n2 ≤ 8015) (h : (l = [] ∧ c0 = 0 ∧ q = p + 1 ∧ r = q ∧ X = 0) ∨ (∃ X1, PXR N w0 K T nm Nk m1 lo n1 (o + 1) l (p + 1) q X1 ∧ l.length ≤ 8 ∧ K (p + 1) ≠ 25 ∧ ((c0 = 0 ∧ r = q ∧ X = X1) ∨ (K q = 29 ∧ q + 1 < r ∧ (lo ≤ l4 ∧ l4 < c0 ∧ c0 ≤ n1) ∧ ∃ X3, PTX N w0 K T nm Nk m1 l4 n1 c0 (q + 1) r (o + 1) NC1 X3 ∧ X = max X1 X3)))) (hk1 : KPO n1 m1 m2) (hk2 : Kcc m1 m2) (hn1 : n1 < ν) (hk : K p = 24) (hkr : K r = 25) (hT : r < T) (ho : o < 25) (hpq : p < q ∧ q ≤ r) : PTX N w0 K T nm Nk m2 lo n2 ν p (r + 1) o NC X := by
  have g1 : ∀ j, p ≤ j → j < p + 1 → K j ≠ 3 := fun j h1 h2 => by rw [show j = p by omega]; omega
  have g2 : ∀ j, r ≤ j → j < r + 1 → K j ≠ 3 := fun j h1 h2 => by rw [show j = r by omega]; omega
  have fin : ∀ (w : MS) (sc : SCT) (D w5 w' : MS), WFP (upI w 70 (w.1 70 + 1)) D → D.1 66 = w.1 66 → PZW Nk K nm T (p + 1) r sc D w5 (fun sc2 X W => PTN N K nm m2 lo n2 ν false p (r + 1) sc sc2 X W) → WP w' K T r → w'.1 = w5.1 → (∀ k, k ≠ 35 → w'.2.2.1 k = w5.2.2.1 k) → PZW Nk K nm T p (r + 1) sc w (upI (adv w' r) 70 ((adv w' r).1 70 - 1)) (fun sc2 X W => PTN N K nm m2 lo n2 ν false p (r + 1) sc sc2 X W) := fun w sc D w5 w' hf h6 hz hw' e1 e2 => by
    have hz2 : PZW Nk K nm T (p + 1) r sc D w' (fun sc2 X W => PTN N K nm m2 lo n2 ν false p (r + 1) sc sc2 X W) := by
      obtain ⟨sc2, X, W, a1, a2, a3, a4, a5, a6, a7, a8⟩ := hz
      exact ⟨sc2, X, W, hw', RNs_e a2 (by rw [e1]) (fun j h1 h2 => e2 j (by omega)), a3, a4, a5, by rw [e1]; exact a6, ⟨fun k hk => by rw [e1]; exact a7.1 k hk, fun k hk => by rw [e2 k (by omega)]; exact a7.2 k hk⟩, a8⟩
    refine PZW_in hz2 (by omega) hT (by omega) g1 (fun k hk => ?_) h6 ?_ (fun k hk => ?_) (fun sc2 X W s1 s2 s3 b => b)
    · simp only [List.mem_cons, List.not_mem_nil, or_false] at hk
      rw [hf.1 k (by simp only [List.mem_cons, List.not_mem_nil, or_false]; omega), upI_ne (by omega)]
    · rw [hf.1 70 (by decide), upI_at]
    · rw [hf.2 k hk]; rfl
  have ex : ∃ isA : Bool, (isA = true → X = 0) ∧ (∀ m3, KPX lo n2 ν m2 m3 → ∀ d M, PK (fun v r => v = m3 ∧ r = b2c isA) (hg_Tr_isPattern N (hrc_Tr_isPattern N d) M m3 (I (ν : Nat)) (I ((l.headD 0 : Nat) : Int)))) ∧ ∀ (d : Nat) (w : MS) (sc : SCT) (o' : Nat) (Qf : MS → Int32 → Prop), WP w K T p → Ktc w0 w → w.1 67 = 0 → w.1 70 = I ((o' + 1 : Nat) : Int) → o' ≤ o → RNs w sc → (isA = false → ∀ w r, FLW w → Qf w r) → (isA = true → ∀ D w5 w' r5, WFP w D → D.1 66 = w.1 66 → PZW Nk K nm T (p + 1) r sc D w5 (fun sc2 X W => PTN N K nm m2 lo n2 ν false p (r + 1) sc sc2 X W) → WP w' K T r → w'.1 = w5.1 → (∀ k, k ≠ 35 → w'.2.2.1 k = w5.2.2.1 k) → Qf (adv w' r) r5) → PK Qf (fm_M_rowPattern N (rc_M_rowPattern N d) w 0) := by
    rcases h with ⟨rfl, rfl, rfl, rfl, rfl⟩ | ⟨Xr, hx, hlen, h25, ht⟩
    · refine ⟨true, fun _ => rfl, fun m3 kx d M => isP_z7 (by omega) (KPX_16 hn hlo hν kx).1 (KPX_16 hn hlo hν kx).2.2 (Or.inl ⟨rfl, rfl⟩) M, fun d w sc o' Qf hw kt h67 h70 ho2 hr hF hE => ?_⟩
      refine rowP_b (kc := 25) (v9 := 5) (vt := 0) hw h67 (by omega) hr (Or.inr ⟨hk, rfl, rfl, rfl⟩) (fun D r13 hD rD D6 fD _ => ?_) (fun D r13 _ _ _ _ z => absurd hkr z)
      have D0 : D.1 67 = 0 := by rw [fD.1 67 (by decide)]; exact h67
      refine rowP_e (kc := 25) hD D0 (by decide) rfl (fun z => absurd hkr z) (fun _ _ w' hw' e1 e2 => hE rfl D D w' r13 fD D6 ⟨sc, 0, fun _ => 32, hD, rD, SCX_0 hr, HDs_no (fun j h1 h2 => absurd h2 (by omega)), ⟨by omega, by omega⟩, by rw [lgS_0], ⟨fun _ _ => rfl, fun _ _ => rfl⟩, fun j h1 h2 => absurd h2 (by omega), PNM_0 (fun z => by have := hr.2.1.1; rw [z] at this; exact absurd this (by decide)) (fun j h1 h2 => absurd h2 (by omega)), ?_⟩ hw' e1 e2)
      have := ptn_lst (N := N) (K := K) (nm := nm) (own := false) (W := fun _ => 32) (sc := sc) (sc2 := sc) (sc3 := sc) (l := []) (q := p + 1) (q2 := p + 1) (q3 := p + 1) (p2 := p + 1 + 1) (X := 0) (X3 := 0) hn hlo hν hl ⟨by omega, by omega, by omega, by omega⟩ g1 g2 ⟨by omega, by omega⟩ (m1 := m1) (n1 := n1) ⟨rfl, rfl, rfl⟩ hk1 hk2 hn1 (Or.inl ⟨rfl, rfl, rfl, fun j h1 h2 => absurd h2 (by omega)⟩)
      exact this
    · have h26 : K q ≠ 26 := by
        rcases ht with ⟨-, rfl, -⟩ | ⟨ht, -⟩ <;> omega
      obtain ⟨isA, r0, r1, r2⟩ := pxr_all (by omega) (by omega) h26 hx
      rcases ht with ⟨rfl, rfl, rfl⟩ | ⟨h29, hqr, hc0, X3t, ⟨isT, t0, t1, t2⟩, hXt⟩
      · refine ⟨isA, r0, fun m3 kx d M => ?_, fun d w sc o' Qf hw kt h67 h70 ho2 hr hF hE => ?_⟩
        · have ck := chi_k hk1 hk2 hn1 hν kx
          refine r1 d M m3 (I (ν : Nat)) _ ck.1 ck.2 (fun z => ⟨rfl, by rw [z]; rfl⟩) (fun z M' => ?_)
          rw [z]
          exact isP_z7 (by omega) (KPX_16 hn hlo hν kx).1 (KPX_16 hn hlo hν kx).2.2 (Or.inl ⟨rfl, rfl⟩) M'
        · refine rowP_b (kc := 25) (v9 := 5) (vt := 0) hw h67 (by omega) hr (Or.inr ⟨hk, rfl, rfl, rfl⟩) (fun D r13 _ _ _ _ z => absurd z h25) (fun D r13 hD rD D6 fD _ => ?_)
          have D0 : D.1 67 = 0 := by rw [fD.1 67 (by decide)]; exact h67
          refine r2 d N D sc (o' + 1) 0 0 5 r13 (-1) Qf hD (WFP_Kt kt fD) D0 (by rw [fD.1 70 (by decide)]; exact h70) (by omega) rD (by omega) hF (fun hA M w5 q5 v5 k5 hw5 h5 nc => ?_) (fun z M w5 v5 k5 hz => ?_)
          · unfold fb_M_rowPattern_151
            rw [show decide ((0 : Int32) = 0) = true from rfl, br_tq, tkS_e (k := 29) (s := 9) hw5 h5 (by decide) rfl, if_neg (nc1_n nc).2.2.2.2, bnd_s, show decide ((0 : Int32) = 0) = true from rfl, br_tq]
            exact rowP_e (kc := 25) hw5 h5 (by decide) rfl (fun _ => hF hA) (fun z => absurd z (nc1_n nc).2.2.1)
          · obtain ⟨sc2, X, W, a1, a2, a3, a4, a5, a6, a7, a8, a9, a10⟩ := id hz
            have h5 : w5.1 67 = 0 := by rw [a7.1 67 (by decide)]; exact D0
            unfold fb_M_rowPattern_151
            rw [show decide ((0 : Int32) = 0) = true from rfl, br_tq, tkS_e (k := 29) (s := 9) a1 h5 (by decide) rfl, if_neg (by omega), bnd_s, show decide ((0 : Int32) = 0) = true from rfl, br_tq]
            refine rowP_e (kc := 25) a1 h5 (by decide) rfl (fun z => absurd hkr z) (fun _ _ w' hw' e1 e2 => hE z D w5 w' r13 fD D6 (PZW_mo hz (fun sc2 X W s1 s2 s3 b => ?_)) hw' e1 e2)
            have := ptn_lst (N := N) (K := K) (nm := nm) (own := false) (l := l) (q := p + 1) (q2 := r) (q3 := r) (p2 := r + 1) (X := X) (X3 := 0) (sc3 := sc2) hn hlo hν hl ⟨by omega, by omega, by omega, by omega⟩ g1 g2 ⟨by omega, by omega⟩ (m1 := m1) (n1 := n1) b hk1 hk2 hn1 (Or.inl ⟨rfl, rfl, rfl, fun j h1 h2 => absurd h2 (by omega)⟩)
            rw [show max X 0 = X by omega] at this
            exact this
      · refine ⟨isA && isT, fun z => by
          rw [Bool.and_eq_true] at z
          rw [hXt, r0 z.1, t0 z.2]; rfl, fun m3 kx d M => ?_, fun d w sc o' Qf hw kt h67 h70 ho2 hr hF hE => ?_⟩
        · have ck := chi_k hk1 hk2 hn1 hν kx
          refine r1 d M m3 (I (ν : Nat)) _ ck.1 ck.2 (fun z => ⟨rfl, by rw [z]; rfl⟩) (fun z M' => ?_)
          rw [z]
          have kx4 : KPX l4 n1 c0 m1 m3 := ⟨fun j j1 j2 => ⟨(ck.1 j (by omega) j2).1, fun _ => (ck.1 j (by omega) j2).2⟩, ck.2⟩
          exact isP_z7 (c0 := c0) (by omega) (KPX_16 hn hlo hν kx).1 (KPX_16 hn hlo hν kx).2.2 (Or.inr ⟨by omega, by omega, fun d => t1 d m3 kx4⟩) M'
        · refine rowP_b (kc := 25) (v9 := 5) (vt := 0) hw h67 (by omega) hr (Or.inr ⟨hk, rfl, rfl, rfl⟩) (fun D r13 _ _ _ _ z => absurd z h25) (fun D r13 hD rD D6 fD _ => ?_)
          have D0 : D.1 67 = 0 := by rw [fD.1 67 (by decide)]; exact h67
          refine r2 d N D sc (o' + 1) 0 0 5 r13 (-1) Qf hD (WFP_Kt kt fD) D0 (by rw [fD.1 70 (by decide)]; exact h70) (by omega) rD (by omega) (fun z => hF (by rw [z]; rfl)) (fun hA M w5 q5 v5 k5 hw5 h5 nc => ?_) (fun z M w5 v5 k5 hz => ?_)
          · unfold fb_M_rowPattern_151
            rw [show decide ((0 : Int32) = 0) = true from rfl, br_tq, tkS_e (k := 29) (s := 9) hw5 h5 (by decide) rfl, if_neg (nc1_n nc).2.2.2.2, bnd_s, show decide ((0 : Int32) = 0) = true from rfl, br_tq]
            exact rowP_e (kc := 25) hw5 h5 (by decide) rfl (fun _ => hF (by rw [hA]; rfl)) (fun z => absurd z (nc1_n nc).2.2.1)
          · obtain ⟨sc1, X1, W1, a1, a2, a3, a4, a5, a6, a7, a8, a9, a10⟩ := id hz
            have h5 : w5.1 67 = 0 := by rw [a7.1 67 (by decide)]; exact D0
            have Di : ∀ k, k ≠ 69 → (adv w5 q).1 k = w5.1 k := fun k hk => by unfold adv; exact upI_ne hk
            unfold fb_M_rowPattern_151
            rw [show decide ((0 : Int32) = 0) = true from rfl, br_tq, tkS_e (k := 29) (s := 9) a1 h5 (by decide) rfl, if_pos h29, bnd_s, show decide ((1 : Int32) = 0) = false from rfl, br_fq]
            refine pk_bnd (pk_mo (t2 d (adv w5 q) sc1 (o' + 1) (adv_p a1 (by omega)) (WFP_Kt (WFP_Kt (WFP_Kt kt fD) a7) ⟨fun k hk => Di k (fun z => hk (by rw [z]; decide)), fun _ _ => rfl⟩) (by rw [Di 67 (by decide)]; exact h5) (by rw [Di 70 (by decide), a7.1 70 (by decide), fD.1 70 (by decide)]; exact h70) (by omega) (RNs_e a2 (Di 65 (by decide)) (fun _ _ _ => rfl))) (fun w6 r6 y => ?_))
            have e186 : ∀ w7 : MS, w7.1 = w6.1 → (∀ k, k ≠ 37 → w7.2.2.1 k = w6.2.2.1 k) → PK Qf (fb_M_rowPattern_186 N (rc_M_rowPattern N d) (gg_M_rowPattern N (rc_M_rowPattern N d) M) w7 5 r13 k5) := fun w7 i7 j7 => by
              unfold fb_M_rowPattern_186
              refine pk_ck (fun _ => pk_lt ?_)
              rcases y with ⟨y, hy⟩ | ⟨y, y1 | ⟨y0, q', y1, y2⟩⟩
              · obtain ⟨sc2, X2, W2, b1, b2, b3, b4, b5, b6, b7, b8, b9, b10⟩ := id hy
                have hw8 : WP (upA w7 38 (upd (w7.2.2.1 38) r13.toNatClampNeg (vp_nar .boolean 1))) K T r := WP_e b1 (by show w7.1 69 = _; rw [i7]; exact b1.2.1) b1.2.2 (by rw [upA_no (by decide), j7 6 (by decide)]) (by rw [upA_no (by decide), j7 7 (by decide)])
                have hz3 : PZW Nk K nm T (p + 1) r sc D w6 (fun sc2 X W => PTN N K nm m2 lo n2 ν false p (r + 1) sc sc2 X W) := by
                  refine PZW_two (Q2 := fun sc2 X W => PTN N K nm m2 lo n2 ν false p (r + 1) sc sc2 X W) (by omega) (by omega) (by omega) ⟨a1, a2, a3, a4, a5, a6, a7, a8, a9⟩ Di rfl hy (fun sc2 X2 W2 s1 s2 s3 b => ?_)
                  exact ptn_lst (N := N) (K := K) (nm := nm) (own := false) (l := l) (q := p + 1) (q2 := q) (q3 := r) (p2 := r + 1) (X := X1) (X3 := X2) (sc3 := sc2) hn hlo hν hl ⟨by omega, by omega, by omega, by omega⟩ g1 g2 ⟨by omega, by omega⟩ (m1 := m1) (n1 := n1) (PRW_w (fun j _ h => mrg_l h) a10) hk1 hk2 hn1 (Or.inr ⟨by omega, hc0.2.2, q + 1, l4, hc0.1, ⟨by omega, by omega⟩, fun j h1 h2 => by rw [show j = q by omega]; omega, PTN_w (fun j h _ => mrg_r (by omega)) b⟩)
                refine rowP_e (kc := 25) hw8 (by show w7.1 67 = 0; rw [i7, b7.1 67 (by decide), Di 67 (by decide)]; exact h5) (by decide) rfl (fun z => absurd hkr z) (fun _ _ w' hw' e1 e2 => hE (by rw [z, y]; rfl) D (upA w7 38 (upd (w7.2.2.1 38) r13.toNatClampNeg (vp_nar .boolean 1))) w' r13 fD D6 (PZW_fr hz3 i7 (fun k hk => ?_)) hw' e1 e2)
                rw [upA_no (by omega), j7 k (by omega)]
              · have f7 : FLW (upA w7 38 (upd (w7.2.2.1 38) r13.toNatClampNeg (vp_nar .boolean 1))) := by show w7.1 67 ≠ 0; rw [i7]; exact y1
                exact pk_mo (Kf_pk (yf_fb_M_rowPattern_194 (u0 := upA w7 38 (upd (w7.2.2.1 38) r13.toNatClampNeg (vp_nar .boolean 1))) f7 ((rcS N d).1 _) ((rcS N d).2 _) (gg_f (rcS N d).1 (rcS N d).2 M))) (fun w9 r9 z9 => hF (by rw [y, Bool.and_false]) w9 r9 z9)
              · have hw8 : WP (upA w7 38 (upd (w7.2.2.1 38) r13.toNatClampNeg (vp_nar .boolean 1))) K T q' := WP_e y1 (by show w7.1 69 = _; rw [i7]; exact y1.2.1) y1.2.2 (by rw [upA_no (by decide), j7 6 (by decide)]) (by rw [upA_no (by decide), j7 7 (by decide)])
                exact rowP_e (kc := 25) hw8 (by show w7.1 67 = 0; rw [i7]; exact y0) (by decide) rfl (fun _ => hF (by rw [y, Bool.and_false])) (fun z => absurd z (nc1_n y2).2.2.1)
            exact pk_br (fun _ => e186 w6 rfl (fun _ _ => rfl)) (fun _ => pk_ck (fun _ => pk_lt (e186 _ rfl (fun k hk => upA_no hk))))
  obtain ⟨isA, x0, x1, x2⟩ := ex
  refine ⟨isA, x0, fun d m3 kx => isP_6 (by omega) (x1 m3 kx) (KPX_16 hn hlo hν kx).2.1 (Or.inr (KPX_16 hn hlo hν kx).1) d, fun d w sc o' hw kt h67 h70 ho2 hr => ?_⟩
  cases d with
  | zero => exact pk_none
  | succ d =>
    refine pt_rw (S := rc_M_rowPattern N d) hw h67 (I_25 h70 (by omega)) (Or.inr hk) hr (fun d2 => ?_) (fun _ _ => rfl)
    have hw2 : WP (upI w 70 (w.1 70 + 1)) K T p := WP_e hw (by rw [upI_ne (by decide)]; exact hw.2.1) hw.2.2 rfl rfl
    refine x2 d2 (upI w 70 (w.1 70 + 1)) sc o' _ hw2 (upI70_k kt) (by rw [upI_ne (by decide)]; exact h67) (by rw [upI_at, h70, i_suc]) ho2 (WFP_rn hr (upI_ne (by decide)) rfl) (fun hA w2 r z => ?_) (fun z D w5 w' r fD D6 hz hw' e1 e2 => ?_)
    · refine pk_mo (Q := fun w2 (_ : Int32) => FLW w2) (Kf_pk (yf_fb_M_patternAt_388 (u0 := w2) z ((rcS N d).1 w2) ((rcS N d).2 w2))) (fun w3 r3 z3 => ?_)
      exact Or.inr ⟨hA, Or.inl z3⟩
    · unfold fb_M_patternAt_388
      exact pk_lt (pk_some (Or.inl ⟨z, fin w sc D w5 w' fD (by rw [D6, upI_ne (by decide)]) hz hw' e1 e2⟩))
end
