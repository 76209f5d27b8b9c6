set_option maxRecDepth 100000
section
variable {m0 w0 m w v u m1 m2 m3 w1 w2 w5 mi : MS} {K nm Nk W W1 W2 : Nat → Nat} {T p n N q q2 X X1 X2 Y n1 n2 n3 lo li ni p2 ν μ x o o' kk : Nat} {sc sc1 sc2 sc3 t t2 : SCT} {e e2 : List Nat × List Nat × Nat} {NC ND : Nat → Prop} {S : SG_M_rowPattern} {k : Nat} {a b c g v1 v2 v3 v4 : Int32} {l : List Nat} {Q Q1 Q2 : SCT → Nat → (Nat → Nat) → Prop}
theorem PZW_fr (h : PZW Nk K nm T p p2 sc w w1 Q) (i : w2.1 = w1.1) (j : ∀ k, k < 23 ∨ 59 ≤ k → w2.2.2.1 k = w1.2.2.1 k) : PZW Nk K nm T p p2 sc w w2 Q := by
  obtain ⟨sc2, X, W, a1, a2, a3, a4, a5, a6, a7, a8⟩ := h
  exact ⟨sc2, X, W, WP_e a1 (by rw [i]; exact a1.2.1) a1.2.2 (j 6 (by omega)) (j 7 (by omega)), RNs_e a2 (by rw [i]) (fun k h1 h2 => j k (by omega)), a3, a4, a5, by rw [i]; exact a6, ⟨fun k hk => by rw [i]; exact a7.1 k hk, fun k hk => by rw [j k (by omega)]; exact a7.2 k hk⟩, a8⟩
theorem PZW_A {g : Nat → Int32} (h : PZW Nk K nm T p p2 sc w w1 Q) (hk : 23 ≤ k ∧ k < 59) : PZW Nk K nm T p p2 sc w (upA w1 k g) Q := by
  obtain ⟨sc2, X, W, a1, a2, a3, a4, a5, a6, a7, a8⟩ := h
  exact ⟨sc2, X, W, WP_e a1 a1.2.1 a1.2.2 (upA_no (by omega)) (upA_no (by omega)), RNs_e a2 rfl (fun j h1 h2 => upA_no (by omega)), a3, a4, a5, a6, ⟨a7.1, fun j hj => by rw [upA_no (by omega)]; exact a7.2 j hj⟩, a8⟩
theorem PZW_mo (h : PZW Nk K nm T p p2 sc w w1 Q1) (k : ∀ sc2 X W, SCX sc sc2 X → X ≤ 1400 → tot sc2 ≤ tot sc + (p2 - p) → Q1 sc2 X W → Q2 sc2 X W) : PZW Nk K nm T p p2 sc w w1 Q2 := by
  obtain ⟨sc2, X, W, a1, a2, a3, a4, a5, a6, a7, a8, a9, a10⟩ := h
  exact ⟨sc2, X, W, a1, a2, a3, a4, a5, a6, a7, a8, a9, k sc2 X W a3 a5.2 a5.1 a10⟩
theorem PRW_gap : ∀ {l : List Nat}, l ≠ [] → K p ≠ 3 → PRW N K nm m2 lo n2 false W l (p + 1) p2 sc sc2 X → PRW N K nm m2 lo n2 false W l p p2 sc sc2 X
  | [], h, _, _ => absurd rfl h
  | ν :: l, _, hk, ⟨q, q2, sc1, X1, X2, h1, g1, h2⟩ => ⟨q, q2, sc1, X1, X2, ⟨by omega, h1.2⟩, fun j j1 j2 => by
      by_cases z : j = p
      · rw [z]; exact hk
      · exact g1 j (by omega) j2, h2⟩
theorem PXR_ne (h : PXR N w0 K T nm Nk m2 lo n2 o l p p2 X) : l ≠ [] := by
  rintro rfl
  exact h
theorem PXR_lt : ∀ {l : List Nat} {p X : Nat}, PXR N w0 K T nm Nk m2 lo n2 o l p p2 X → p < p2
  | [], _, _, h => h.elim
  | ν :: l, p, X, ⟨q, mi, li, ni, X1, h1, h2, h3, h4, h5, h6, h7, h8⟩ => by
    rcases h8 with ⟨-, h8, -⟩ | ⟨-, X2, h8, -⟩
    · omega
    · have := PXR_lt h8; omega
theorem pxr_all (hl : n2 ≤ 8015) (hT : p2 ≤ T) (h26 : K p2 ≠ 26) : ∀ {l : List Nat} {p X : Nat}, PXR N w0 K T nm Nk m2 lo n2 o l p p2 X → ∃ isA : Bool, (isA = true → X = 0) ∧
    (∀ (d M : Nat) (m3 : MS) (ν0 : Int32) (Q : MS → Int32 → Prop), (∀ j, lo < j → j ≤ n2 → nod m3 j = nod m2 j ∧ m3.2.2.1 21 j = m2.2.2.1 21 j) → Kcc m2 m3 → (isA = false → Q m3 0) → (isA = true → ∀ M', PK Q (hg_Tr_isPattern N (hrc_Tr_isPattern N d) M' m3 ν0 0)) → PK Q (hg_Tr_isPattern N (hrc_Tr_isPattern N d) M m3 ν0 (I ((l.headD 0 : Nat) : Int)))) ∧
    (∀ (d M : Nat) (w : MS) (sc : SCT) (o' k : Nat) (v2 v3 v4 v5 : Int32) (Qf : MS → Int32 → Prop), WP w K T p → Ktc w0 w → w.1 67 = 0 → w.1 70 = I (o' : Nat) → o' ≤ o → RNs w sc → k + l.length ≤ 8 → (isA = false → ∀ w r, FLW w → Qf w r) → (isA = false → ∀ M w5 q v5 k, WP w5 K T q → w5.1 67 = 0 → NC1 (K q) → PK Qf (fb_M_rowPattern_151 N (rc_M_rowPattern N d) (gg_M_rowPattern N (rc_M_rowPattern N d) M) w5 0 v2 v3 v4 v5 k)) → (isA = true → ∀ M w5 v5 k, PZW Nk K nm T p p2 sc w w5 (fun sc2 X W => PRW N K nm m2 lo n2 false W l p p2 sc sc2 X) → PK Qf (fb_M_rowPattern_151 N (rc_M_rowPattern N d) (gg_M_rowPattern N (rc_M_rowPattern N d) M) w5 0 v2 v3 v4 v5 k)) → PK Qf (gg_M_rowPattern N (rc_M_rowPattern N d) M w 0 v2 v3 v4 v5 (I (k : Nat)) 1))
  | [], _, _, h => h.elim
  | ν :: l, p, X, ⟨q, mi, li, ni, X1, ⟨isP, i0, i1, i2⟩, h2, h3, h4, h5, h6, h7, h8⟩ => by
    have rest : (l = [] ∧ q = p2 ∧ X = X1) ∨ (K q = 26 ∧ l ≠ [] ∧ q + 1 < p2 ∧ ∃ X2, PXR N w0 K T nm Nk m2 lo n2 o l (q + 1) p2 X2 ∧ X = max X1 X2) := by
      rcases h8 with h8 | ⟨h8, X2, h9, h10⟩
      · exact Or.inl h8
      · exact Or.inr ⟨h8, PXR_ne h9, PXR_lt h9, X2, h9, h10⟩
    have out : ∀ (d : Nat) (M : Nat) (w : MS) (q : Nat) (k : Nat) (v2 v3 v4 v8 : Int32) (Qf : MS → Int32 → Prop), WP w K T q → w.1 67 = 0 → K q ≠ 26 → (∀ M k, PK Qf (fb_M_rowPattern_151 N (rc_M_rowPattern N d) (gg_M_rowPattern N (rc_M_rowPattern N d) M) w 0 v2 v3 v4 v8 k)) → PK Qf (fb_M_rowPattern_112 N (rc_M_rowPattern N d) (gg_M_rowPattern N (rc_M_rowPattern N d) M) w 0 v2 v3 v4 (I (k : Nat)) v8) := fun d M w q k v2 v3 v4 v8 Qf hw h0 hk h => by
      have o140 : PK Qf (fb_M_rowPattern_140 N (rc_M_rowPattern N d) (gg_M_rowPattern N (rc_M_rowPattern N d) M) w 0 v2 v3 v4 v8 (I (k : Nat) + 1)) := by
        unfold fb_M_rowPattern_140
        rw [tkS_e (k := 26) (s := 6) hw h0 (by decide) rfl, if_neg hk, bnd_s]
        cases M with
        | zero => exact pk_none
        | succ M =>
          show PK Qf (fb_M_rowPattern_66 N (rc_M_rowPattern N d) (gg_M_rowPattern N (rc_M_rowPattern N d) M) w 0 v2 v3 v4 v8 (I (k : Nat) + 1) 0)
          unfold fb_M_rowPattern_66
          rw [show decide ((0 : Int32) = 0) = true from rfl, br_tq]
          exact h M _
      unfold fb_M_rowPattern_112
      refine pk_br (fun _ => ?_) (fun _ => o140)
      rw [isS_e (k := 26) (s := 6) hw (by decide) rfl, if_neg hk, bnd_s, show decide ((0 : Int32) = 0) = true from rfl, br_tq]
      exact o140
    have first : ∀ (d M : Nat) (w : MS) (sc : SCT) (o' k : Nat) (v2 v3 v4 v5 : Int32) (Qf : MS → Int32 → Prop), WP w K T p → Ktc w0 w → w.1 67 = 0 → w.1 70 = I (o' : Nat) → o' ≤ o → RNs w sc → (isP = false → ∀ w r, FLW w → Qf w r) → (isP = false → ∀ M w5 q v5 k, WP w5 K T q → w5.1 67 = 0 → NC1 (K q) → PK Qf (fb_M_rowPattern_151 N (rc_M_rowPattern N d) (gg_M_rowPattern N (rc_M_rowPattern N d) M) w5 0 v2 v3 v4 v5 k)) → (isP = true → ∀ M w1 v8, PZW Nk K nm T p q sc w w1 (fun sc2 X W => PTN N K nm mi li ni ν false p q sc sc2 X W) → PK Qf (fb_M_rowPattern_112 N (rc_M_rowPattern N d) (gg_M_rowPattern N (rc_M_rowPattern N d) M) w1 0 v2 v3 v4 (I (k : Nat)) v8)) → PK Qf (gg_M_rowPattern N (rc_M_rowPattern N d) M w 0 v2 v3 v4 v5 (I (k : Nat)) 1) := fun d M w sc o' k v2 v3 v4 v5 Qf hw kt h67 h70 ho hr hF hD hT => by
      cases M with
      | zero => exact pk_none
      | succ M =>
        show PK Qf (fb_M_rowPattern_66 N (rc_M_rowPattern N d) (gg_M_rowPattern N (rc_M_rowPattern N d) M) w 0 v2 v3 v4 v5 (I (k : Nat)) 1)
        unfold fb_M_rowPattern_66
        rw [show decide ((1 : Int32) = 0) = false from rfl, br_fq, decide_eq_true h67, br_tq]
        refine pk_bnd (pk_mo (i2 d w sc o' hw kt h67 h70 ho hr) (fun w1 r1 z => ?_))
        rcases z with ⟨z, hz⟩ | ⟨z, y | ⟨y0, q', y1, y2⟩⟩
        · exact pk_br (fun _ => pk_ck (fun _ => pk_lt (hT z M _ _ (PZW_A hz (by omega))))) (fun _ => pk_ck (fun _ => pk_lt (hT z M _ _ (PZW_A hz (by omega)))))
        · refine pk_mo (Q := fun w2 _ => FLW w2) (Kf_pk (u0 := w1) ?_) (fun w2 r y => hF z w2 r y)
          refine Kf_br (Kf_ck (Kf_ltm (Kf_A y) (fun u h => ?_))) (Kf_ck (Kf_ltm (Kf_A y) (fun u h => ?_)))
          · exact yf_fb_M_rowPattern_112 h ((rcS N d).1 w1) ((rcS N d).2 w1) (gg_f (rcS N d).1 (rcS N d).2 M)
          · exact yf_fb_M_rowPattern_112 h ((rcS N d).1 w1) ((rcS N d).2 w1) (gg_f (rcS N d).1 (rcS N d).2 M)
        · have go : ∀ k' g, 23 ≤ k' → k' < 59 → PK Qf (fb_M_rowPattern_112 N (rc_M_rowPattern N d) (gg_M_rowPattern N (rc_M_rowPattern N d) M) (upA w1 k' g) 0 v2 v3 v4 (I (k : Nat)) r1) := fun k' g g1 g2 => by
            have hw6 : WP (upA w1 k' g) K T q' := WP_e y1 y1.2.1 y1.2.2 (upA_no (by omega)) (upA_no (by omega))
            exact out d M _ q' k v2 v3 v4 r1 Qf hw6 y0 (nc1_n y2).2.2.2.1 (fun M2 k2 => hD z M2 _ q' r1 k2 hw6 y0 y2)
          exact pk_br (fun _ => pk_ck (fun _ => pk_lt (go 36 _ (by decide) (by decide)))) (fun _ => pk_ck (fun _ => pk_lt (go 37 _ (by decide) (by decide))))
    have cfirst : ∀ (d M : Nat) (m3 : MS) (ν0 : Int32) (Q : MS → Int32 → Prop), (∀ j, lo < j → j ≤ n2 → nod m3 j = nod m2 j ∧ m3.2.2.1 21 j = m2.2.2.1 21 j) → Kcc m2 m3 → (isP = false → Q m3 0) → (isP = true → ∀ M', PK Q (hg_Tr_isPattern N (hrc_Tr_isPattern N d) M' m3 ν0 (I ((l.headD 0 : Nat) : Int)))) → PK Q (hg_Tr_isPattern N (hrc_Tr_isPattern N d) M m3 ν0 (I (ν : Nat))) := fun d M m3 ν0 Q hs hk hF hT => by
      cases M with
      | zero => exact pk_none
      | succ M =>
        show PK Q (hb_Tr_isPattern_129 N (hrc_Tr_isPattern N d) (hg_Tr_isPattern N (hrc_Tr_isPattern N d) M) m3 ν0 (I (ν : Nat)))
        unfold hb_Tr_isPattern_129
        rw [show decide (I (ν : Nat) = 0) = false from decide_eq_false (fun z => by
          have z : I (ν : Nat) = I ((0 : Nat) : Int) := z
          have := (I_eq (x := (ν : Nat)) (y := ((0 : Nat) : Int)) (by omega) (by omega) (by omega) (by omega)).mp z
          omega), br_fq]
        have kx : KPX li ni ν mi m3 := ⟨fun j j1 j2 => ⟨(hs j (by omega) (by omega)).1.trans (h2.1 j j1 j2).1, fun z => (hs j (by omega) (by omega)).2.trans ((h2.1 j j1 j2).2 z)⟩, Kc_tr h2.2 hk⟩
        refine pk_bnd (pk_mo (i1 d m3 kx) (fun v r z => ?_))
        obtain ⟨z1, z2⟩ := z
        subst z1
        subst z2
        cases hP : isP with
        | false =>
          rw [show decide (b2c false = 0) = true from rfl, br_tq]
          exact pk_ck (fun _ => pk_some (hF hP))
        | true =>
          rw [show decide (b2c true = 0) = false from rfl, br_fq]
          refine pk_ck (fun _ => ?_)
          rw [tnI (n := ν) rfl (by omega), (hs ν (by omega) (by omega)).2, h6]
          exact hT hP M
    rcases rest with ⟨rfl, rfl, rfl⟩ | ⟨k26, lne, qlt, X2, hr, hX⟩
    · refine ⟨isP, i0, fun d M m3 ν0 Q hs hk hF hT => cfirst d M m3 ν0 Q hs hk hF hT, fun d M w sc o' k v2 v3 v4 v5 Qf hw kt h67 h70 ho hr hkl hF hD hE => first d M w sc o' k v2 v3 v4 v5 Qf hw kt h67 h70 ho hr hF hD (fun hP M w1 v8 hz => ?_)⟩
      obtain ⟨sc2, X, W, a1, a2, a3, a4, a5, a6, a7, a8⟩ := id hz
      refine out d M w1 q k v2 v3 v4 v8 Qf a1 (by rw [a7.1 67 (by decide)]; exact h67) h26 (fun M2 k2 => hE hP M2 w1 v8 k2 (PZW_mo hz (fun sc2 X W s1 s2 s3 b => ?_)))
      exact ⟨p, q, sc2, X, 0, ⟨Nat.le_refl _, by omega, Nat.le_refl _⟩, fun j a b => absurd b (by omega), ⟨mi, li, ni, b, h2, h3, h4, fun z => absurd rfl z⟩, ⟨by omega, by omega⟩, h6, ⟨s3, SCX_len s1⟩, ⟨rfl, rfl, rfl⟩, by omega⟩
    · obtain ⟨isA, r0, r1, r2⟩ := pxr_all hl hT h26 hr
      refine ⟨isP && isA, fun z => by
        rw [Bool.and_eq_true] at z
        rw [hX, i0 z.1, r0 z.2]; rfl, fun d M m3 ν0 Q hs hk hF hT => ?_, fun d M w sc o' k v2 v3 v4 v5 Qf hw kt h67 h70 ho hrn hkl hF hD hE => ?_⟩
      · refine cfirst d M m3 ν0 Q hs hk (fun z => hF (by rw [z]; rfl)) (fun z M' => ?_)
        exact r1 d M' m3 ν0 Q hs hk (fun y => hF (by rw [y, Bool.and_false])) (fun y M2 => hT (by rw [z, y]; rfl) M2)
      · have hkl : k + (l.length + 1) ≤ 8 := hkl
        have ln1 : 1 ≤ l.length := by
          cases l with
          | nil => exact absurd rfl lne
          | cons a b => exact Nat.succ_le_succ (Nat.zero_le _)
        refine first d M w sc o' k v2 v3 v4 v5 Qf hw kt h67 h70 ho hrn (fun z => hF (by rw [z]; rfl)) (fun z => hD (by rw [z]; rfl)) (fun hP M w1 v8 hz => ?_)
        obtain ⟨sc1, X1, W1, a1, a2, a3, a4, a5, a6, a7, a8, a9, a10⟩ := id hz
        have h671 : w1.1 67 = 0 := by rw [a7.1 67 (by decide)]; exact h67
        have qT : q < T := by omega
        unfold fb_M_rowPattern_112 fb_M_rowPattern_140
        rw [i_suc, show (8 : Int32) = I ((8 : Nat) : Int) from rfl, I_dn (a := k + 1) (b := 8) (by omega) (by decide) rfl, decide_eq_false (p := k + 1 = 8) (by omega), br_fq, tkS_e (k := 26) (s := 6) a1 h671 (by decide) rfl, if_pos k26, bnd_s]
        have Di : ∀ k, k ≠ 69 → (adv w1 q).1 k = w1.1 k := fun k hk => by unfold adv; exact upI_ne hk
        refine r2 d M (adv w1 q) sc1 o' (k + 1) v2 v3 v4 v8 Qf (adv_p a1 qT) ⟨fun j hj => by rw [Di j (fun z => by rw [z] at hj; revert hj; decide), a7.1 j (by intro z; simp only [List.mem_cons, List.not_mem_nil, or_false] at z; rcases z with rfl | rfl | rfl | rfl <;> revert hj <;> decide)]; exact kt.1 j hj, fun j hj => by show w1.2.2.1 j = _; rw [a7.2 j (by unfold TRW at hj; simp only [List.mem_cons, List.not_mem_nil, or_false] at hj; omega)]; exact kt.2 j hj⟩ (by rw [Di 67 (by decide)]; exact h671) (by rw [Di 70 (by decide), a7.1 70 (by decide)]; exact h70) ho (RNs_e a2 (Di 65 (by decide)) (fun _ _ _ => rfl)) (by omega) (fun z => hF (by rw [z, Bool.and_false])) (fun z => hD (by rw [z, Bool.and_false])) (fun z M2 w5 v9 k9 hz2 => ?_)
        refine hE (by rw [hP, z]; rfl) M2 w5 v9 k9 ?_
        obtain ⟨sc2, X2, W2, b1, b2, b3, b4, b5, b6, b7, b8, b9, b10⟩ := hz2
        have gp : ∀ j, q ≤ j → j < q + 1 → K j ≠ 3 := fun j h1 h2 => by rw [show j = q by omega]; omega
        have ge : ∀ j, p2 ≤ j → j < p2 → K j ≠ 3 := fun j h1 h2 => absurd h2 (by omega)
        refine ⟨sc2, max X1 X2, mrg q W1 W2, b1, b2, SCX_tr a3 b3, ?_, ⟨by omega, by omega⟩, ?_, ?_, WCN_tr a8 (WCN_gap b8 gp ge) a3 (PNM_sn a9), PNM_tr a9 (PNM_gap b9 ⟨by omega, Nat.le_refl _⟩ gp ge) (by omega) (by omega) a3 b3, ?_⟩
        · refine HDs_tr (p2 := q) (by omega) (by omega) (HDs_w (fun j _ h => mrg_l h) a4) ?_
          exact HDs_ext (q := q + 1) (q2 := p2) (by omega) (Nat.le_refl _) gp ge (HDs_w (fun j h _ => mrg_r (by omega)) b4)
        · rw [b6, Di 66 (by decide), a6, lgS_tr a3]
        · exact WFP_tr a7 (WFP_tr ⟨fun k hk => Di k (fun z => hk (by rw [z]; decide)), fun k hk => rfl⟩ b7)
        · have rw2 := PRW_w (W2 := mrg q W1 W2) (fun j h _ => mrg_r (by omega)) b10
          refine ⟨p, q, sc1, X1, X2, ⟨Nat.le_refl _, by omega, by omega⟩, fun j a b => absurd b (by omega), ⟨mi, li, ni, PTN_w (fun j _ h => mrg_l h) a10, h2, h3, h4, h5⟩, ⟨by omega, by omega⟩, h6, ⟨a5.1, SCX_len a3⟩, PRW_gap lne (by omega) rw2, rfl⟩
end
