set_option maxRecDepth 100000
def PXR (N : Nat) (w0 : MS) (K : Nat → Nat) (T : Nat) (nm Nk : Nat → Nat) (m2 : MS) (lo n2 o : Nat) : List Nat → Nat → Nat → Nat → Prop
  | [], _, _, _ => False
  | ν :: l, p, p2, X => ∃ (q : Nat) (mi : MS) (li ni X1 : Nat), PTX N w0 K T nm Nk mi li ni ν p q o NC1 X1 ∧ KPX li ni ν mi m2 ∧ (lo ≤ li ∧ ni ≤ n2) ∧ (li < ν ∧ ν ≤ ni) ∧ (l ≠ [] → ni < l.headD 0) ∧ m2.2.2.1 21 ν = I ((l.headD 0 : Nat) : Int) ∧ p < q ∧ ((l = [] ∧ q = p2 ∧ X = X1) ∨ (K q = 26 ∧ ∃ X2, PXR N w0 K T nm Nk m2 lo n2 o l (q + 1) p2 X2 ∧ X = max X1 X2))
section
variable {m0 w0 m w v u m1 m2 m3 w2 mi : MS} {K nm Nk W W2 : Nat → Nat} {T p n N q q2 X Y n1 n2 n3 lo li ni p2 ν μ x o o' kk : Nat} {sc sc1 sc2 sc3 t t2 : SCT} {e e2 : List Nat × List Nat × Nat} {NC ND : Nat → Prop} {S : SG_M_rowPattern} {k : Nat} {a b c g v1 : Int32} {l : List Nat} {Q Q1 Q2 : SCT → Nat → (Nat → Nat) → Prop}
theorem pt_neg (hw : WP w K T p) (h67 : w.1 67 = 0) (hk : K p = 34) (hl : p < T) (ho2 : w.1 70 < 25) (hR : RNs w sc) (hS0 : ∀ (u0 u : MS) a0, Kfc u0 u → KfE u0 (S.1 u a0)) (hS1 : ∀ (u0 u : MS) a0, Kfc u0 u → KfE u0 (S.2 u a0)) : PK (fun w2 (_ : Int32) => (K (p + 1) ≠ 1 ∧ FLW w2) ∨ (K (p + 1) = 1 ∧ WNQ K T (p + 2) sc (w.1 66) w w2)) (fb_M_patternAt_0 N S () w v1) := by
  have hb : bPK (K p) = true := by rw [hk]; rfl
  have hr : fb_M_patternAt_0 N S () w v1 = fb_M_patternAt_178 N S () (upI w 70 (w.1 70 + 1)) 1 (I ((p + 1 : Nat) : Int)) := by
    rw [pAt_e hw h67, hb, pAt_101, show decide (b2c true = 0) = false from rfl, br_fq, if_pos hk, opn_e ho2, bnd_s]
    have hM1 : WP (upI w 70 (w.1 70 + 1)) K T p := WP_e hw (by rw [upI_ne (by decide)]; exact hw.2.1) hw.2.2 rfl rfl
    unfold pAtB fb_M_patternAt_160
    obtain ⟨a, b, -⟩ := WP_i hM1
    rw [show ln 6 = 4002 from rfl, a, b, srt_dc hM1 srK_2, decide_eq_false (by omega), hM1.2.1, i_suc]
    rfl
  rw [hr]
  generalize hM : upI w 70 (w.1 70 + 1) = M
  have hM1 : WP M K T p := by rw [← hM]; exact WP_e hw (by rw [upI_ne (by decide)]; exact hw.2.1) hw.2.2 rfl rfl
  have q0 : WNQ K T p sc (w.1 66) M M := by
    have := WNQ_0 (w := M) (sc := sc) hM1 (by rw [← hM]; exact RNs_e hR (upI_ne (by decide)) (fun _ _ _ => rfl))
    have e : M.1 66 = w.1 66 := by rw [← hM]; exact upI_ne (by decide)
    rw [e] at this
    exact this
  have q1 : WNQ K T (p + 1) sc (w.1 66) M (upI M 69 (I ((p + 1 : Nat) : Int))) := WNQ_on q0 hl rfl
  unfold fb_M_patternAt_178
  refine pk_lt (pk_ck (fun _ => ?_))
  rw [(WP_i q1.1).2.1, srt_dc q1.1 srK_4]
  by_cases k1 : K (p + 1) = 1
  · have hl2 : p + 1 < T := hw.1.1.lt hl (by omega) (by omega)
    rw [decide_eq_true k1, br_tq]
    unfold fb_M_patternAt_199 fb_M_patternAt_239
    refine pk_bnd (fun u5 r5 x5 => ?_)
    have q5 := WNQ_kr q1 (yr_fm_M_pattern Kr_rf u5 r5 x5)
    show PK _ _
    rw [show decide ((1 : Int32) = 0) = false from rfl, br_fq]
    refine pk_ck (fun _ => pk_bnd (fun u2 r2 x2 => pk_ck (fun _ => pk_ck (fun _ => pk_lt ?_))))
    exact pk_mo (on_1 (by rw [hM]; exact WNQ_J (WNQ_kr q5 (yr_fm_M_term Kr_rf u2 r2 x2))) hl2) (fun w2 r z => Or.inr ⟨k1, z⟩)
  · rw [decide_eq_false k1, br_fq]
    refine pk_bnd (fun v r z => ?_)
    exact pk_mo (Kf_pk (yf_fb_M_patternAt_199 (u0 := v) (wrong_s (u0 := v) (by decide) v r z) (hS0 v) (hS1 v))) (fun w2 r z => Or.inl ⟨k1, z⟩)
theorem PTX_neg (hn : nod m2 ν = (I ((17 : Nat) : Int), a, I (μ : Nat), c, g)) (hlo : lo < ν) (hν : ν ≤ n2) (hl : n2 ≤ 8015) (hμ : lo < μ ∧ μ ≤ n2) (hkk : m2.2.2.1 16 μ = I (kk : Nat)) (hk23 : kk < 23) (hk : K p = 34) (hT : p < T) (ho : o < 25) (h1 : kk = 1 → K (p + 1) = 1 ∧ p2 = p + 2 ∧ X = 0) (h2 : kk ≠ 1 → K (p + 1) = 1 → NC (K (p + 2))) : PTX N w0 K T nm Nk m2 lo n2 ν p p2 o NC X := by
  refine ⟨decide (kk = 1), fun z => (h1 (of_decide_eq_true z)).2.2, fun d m3 kx => ?_, fun d w sc o' hw kt h67 h70 ho2 hr => ?_⟩
  · obtain ⟨e1, e2, -⟩ := KPX_16 hn hlo hν kx
    have e3 := congrArg (fun z => z.1) (KPX_nod kx hμ.1 hμ.2)
    have e3 : m3.2.2.1 16 μ = m2.2.2.1 16 μ := e3
    exact isP_17 (by omega) (by omega) hk23 d m3 e1 e2 (e3.trans hkk)
  · cases d with
    | zero => exact pk_none
    | succ d =>
      show PK _ (fb_M_patternAt_0 N (rc_M_rowPattern N d) () w 0)
      refine pk_mo (pt_neg hw h67 hk hT (I_25 h70 (by omega)) hr (rcS N d).1 (rcS N d).2) (fun w2 r z => ?_)
      rcases z with ⟨z1, z2⟩ | ⟨z1, z2⟩
      · refine Or.inr ⟨decide_eq_false (fun y => z1 (h1 y).1), Or.inl z2⟩
      · by_cases y : kk = 1
        · obtain ⟨-, rfl, -⟩ := h1 y
          have k3 : ∀ j, p ≤ j → j < p + 2 → K j ≠ 3 := fun j h1 h2 => by
            by_cases z : j = p
            · rw [z]; omega
            · rw [show j = p + 1 by omega]; omega
          refine Or.inl ⟨decide_eq_true y, sc, 0, fun _ => 32, z2.1, z2.2.1, SCX_0 hr, HDs_no (fun j h1 h2 h3 => absurd h3 (k3 j h1 h2)), ⟨by omega, by omega⟩, by rw [lgS_0]; exact z2.2.2.1, WNQ_f z2, fun j h1 h2 h3 => absurd h3 (k3 j h1 h2), PNM_0 (fun z => by have := hr.2.1.1; rw [z] at this; exact absurd this (by decide)) (fun j h1 h2 h3 => absurd h3 (k3 j h1 h2)), ptn_neg hn hlo hν hl k3⟩
        · exact Or.inr ⟨decide_eq_false y, Or.inr ⟨by rw [z2.2.2.2.1 67 (by decide)]; exact h67, p + 2, z2.1, h2 y z1⟩⟩
theorem nc1_n {k : Nat} (h : NC1 k) : k ≠ 21 ∧ k ≠ 23 ∧ k ≠ 25 ∧ k ≠ 26 ∧ k ≠ 29 := by
  have : ∀ k, k < 46 → (k = 21 ∨ k = 23 ∨ k = 25 ∨ k = 26 ∨ k = 29) → ¬ (0 < rkK k) := by decide
  unfold NC1 NC0 at h
  by_cases z : k = 21 ∨ k = 23 ∨ k = 25 ∨ k = 26 ∨ k = 29
  · rcases h with (h | h) | h
    · exact absurd h (this k (by omega) z)
    · omega
    · omega
  · omega
theorem pt_grp (hw : WP w K T p) (h67 : w.1 67 = 0) (hk : K p = 20) (ho2 : w.1 70 < 25) : fb_M_patternAt_0 N S () w v1 = bnd (S.2 (adv (upI w 70 (w.1 70 + 1)) p) v1) (fun u11 r11 => bnd (fm_M_needSign N u11 1) (fun u12 _ => fb_M_patternAt_388 N S () u12 (r11))) := by
  have hb : bPK (K p) = true := by rw [hk]; rfl
  rw [pAt_e hw h67, hb, pAt_101, show decide (b2c true = 0) = false from rfl, br_fq, if_neg (by omega), opn_e ho2, bnd_s]
  have hM1 : WP (upI w 70 (w.1 70 + 1)) K T p := WP_e hw (by rw [upI_ne (by decide)]; exact hw.2.1) hw.2.2 rfl rfl
  have h67 : (upI w 70 (w.1 70 + 1)).1 67 = 0 := by rw [upI_ne (by decide)]; exact h67
  unfold pAtB
  obtain ⟨a, b, -⟩ := WP_i hM1
  rw [show ln 6 = 4002 from rfl, a, b, srt_dc hM1 srK_2, srt_dc hM1 srK_4, srt_dc hM1 srK_1, srt_dc hM1 srK_5, tkS_e (k := 20) (s := 0) hM1 h67 (by decide) rfl, if_pos hk, decide_eq_false (show ¬ K p = 3 by omega), decide_eq_false (show ¬ K p = 1 by omega), decide_eq_false (show ¬ K p = 2 by omega), decide_eq_false (show ¬ K p = 4 by omega)]
  rfl
theorem PZW_in {D : MS} (h : PZW Nk K nm T q q2 sc D w2 Q1) (hp : p ≤ q) (hq : q2 < T) (k2 : K q2 ≠ 3) (g1 : ∀ j, p ≤ j → j < q → K j ≠ 3) (Di : ∀ k, k ∉ [32, 39, 66, 69, 70] → D.1 k = w.1 k) (D6 : D.1 66 = w.1 66) (D7 : D.1 70 = w.1 70 + 1) (Dr : ∀ k, k < 23 ∨ 65 ≤ k → D.2.2.1 k = w.2.2.1 k) (hQ : ∀ sc2 X W, SCX sc sc2 X → X ≤ 1400 → tot sc2 ≤ tot sc + (q2 - q) → Q1 sc2 X W → Q2 sc2 X W) : PZW Nk K nm T p (q2 + 1) sc w (upI (adv w2 q2) 70 ((adv w2 q2).1 70 - 1)) Q2 := by
  obtain ⟨sc2, X, W, a1, a2, a3, a4, a5, a6, a7, a8, a9, a10⟩ := h
  have g2 : ∀ j, q2 ≤ j → j < q2 + 1 → K j ≠ 3 := fun j h1 h2 => by rw [show j = q2 by omega]; exact k2
  refine ⟨sc2, X, W, WP_e (adv_p a1 hq) (by rw [upI_ne (by decide)]; exact (adv_p a1 hq).2.1) hq rfl rfl, RNs_e a2 (by rw [upI_ne (by decide)]; unfold adv; exact upI_ne (by decide)) (fun _ _ _ => rfl), a3, HDs_ext hp (by omega) g1 g2 a4, ⟨by omega, a5.2⟩, ?_, ⟨fun k hk => ?_, fun k hk => ?_⟩, WCN_gap a8 g1 g2, PNM_gap a9 ⟨hp, by omega⟩ g1 g2, hQ sc2 X W a3 a5.2 a5.1 a10⟩
  · rw [upI_ne (by decide)]; unfold adv; rw [upI_ne (by decide), a6, D6]
  · simp only [List.mem_cons, List.not_mem_nil, or_false] at hk
    by_cases z : k = 70
    · subst z; rw [upI_at]; unfold adv; rw [upI_ne (by decide), a7.1 70 (by decide), D7, i_ps]
    · rw [upI_ne z]; unfold adv; rw [upI_ne (by omega), a7.1 k (by simp only [List.mem_cons, List.not_mem_nil, or_false]; omega), Di k (by simp only [List.mem_cons, List.not_mem_nil, or_false]; omega)]
  · show w2.2.2.1 k = _
    rw [a7.2 k hk, Dr k hk]
theorem PTX_grp (hn : nod m2 ν = (I ((5 : Nat) : Int), a, I (μ : Nat), c, g)) (hlo : lo < ν) (hν : ν ≤ n2) (hl : n2 ≤ 8015) (h : PTX N w0 K T nm Nk m1 li n1 μ (p + 1) q (o + 1) NC1 X) (hli : lo ≤ li) (hk1 : KPO n1 m1 m2) (hk2 : Kcc m1 m2) (hn1 : n1 < ν) (hμ : μ ≤ n1) (hk : K p = 20) (hq : p < q) (hkq : K q = 21) (hT : q < T) (ho : o < 25) : PTX N w0 K T nm Nk m2 lo n2 ν p (q + 1) o NC X := by
  obtain ⟨isP, h0, h1, h2⟩ := h
  refine ⟨isP, h0, fun d m3 kx => ?_, fun d w sc o' hw kt h67 h70 ho2 hr => ?_⟩
  · obtain ⟨e1, e2, -⟩ := KPX_16 hn hlo hν kx
    exact isP_5 (by omega) d m3 e1 e2 (fun d => h1 d m3 (KPX_di hk1 hk2 kx (by omega) hn1 hli))
  · cases d with
    | zero => exact pk_none
    | succ d =>
      show PK _ (fb_M_patternAt_0 N (rc_M_rowPattern N d) () w 0)
      rw [pt_grp hw h67 hk (I_25 h70 (by omega))]
      generalize hD : adv (upI w 70 (w.1 70 + 1)) p = D
      have Di : ∀ k, k ≠ 69 → k ≠ 70 → D.1 k = w.1 k := fun k h1 h2 => by rw [← hD]; unfold adv; rw [upI_ne h1, upI_ne h2]
      have D7 : D.1 70 = w.1 70 + 1 := by rw [← hD]; unfold adv; rw [upI_ne (by decide), upI_at]
      have D5 : D.1 69 = I ((p + 1 : Nat) : Int) := by rw [← hD]; unfold adv; rw [upI_at]
      have Dr : D.2.2.1 = w.2.2.1 := by rw [← hD]; rfl
      have hw2 : WP D K T (p + 1) := WP_e hw D5 (by omega) (by rw [Dr]) (by rw [Dr])
      have kt2 : Ktc w0 D := ⟨fun k hk => by rw [Di k (fun z => by rw [z] at hk; revert hk; decide) (fun z => by rw [z] at hk; revert hk; decide)]; exact kt.1 k hk, fun k hk => by rw [Dr]; exact kt.2 k hk⟩
      have rn : RNs D sc := WFP_rn hr (Di 65 (by decide) (by decide)) Dr
      have g1 : ∀ j, p ≤ j → j < p + 1 → K j ≠ 3 := fun j h1 h2 => by rw [show j = p by omega]; omega
      have g2 : ∀ j, q ≤ j → j < q + 1 → K j ≠ 3 := fun j h1 h2 => by rw [show j = q by omega]; omega
      refine pk_bnd (pk_mo (h2 d D sc (o' + 1) hw2 kt2 (by rw [Di 67 (by decide) (by decide)]; exact h67) (by rw [D7, h70, i_suc]) (by omega) rn) (fun w2 r z => ?_))
      rcases z with ⟨z, hz⟩ | ⟨z, y⟩
      · obtain ⟨sc2, X, W, a1, a2, a3, a4, a5, a6, a7, a8⟩ := id hz
        rw [ndS_1 (s := 1) a1 (by rw [a7.1 67 (by decide), Di 67 (by decide) (by decide)]; exact h67) (by decide) rfl hkq, bnd_s]
        unfold fb_M_patternAt_388
        refine pk_lt (pk_some (Or.inl ⟨z, ?_⟩))
        refine PZW_in hz (by omega) hT (by omega) g1 (fun k hk => Di k (fun z => hk (by rw [z]; decide)) (fun z => hk (by rw [z]; decide))) (Di 66 (by decide) (by decide)) D7 (fun k _ => by rw [Dr]) (fun sc2 X W _ _ _ b => ?_)
        exact ptn_grp (μ := μ) (q := p + 1) (q2 := q) (X := X) hn hlo hν (by omega) hl ⟨by omega, by omega, by omega⟩ g1 g2 (fun {m3} kx d cm => b d m3 cm (KPX_d hk1 hk2 kx (by omega) (by omega) hli))
      · refine pk_mo (Q := fun w2 (_ : Int32) => FLW w2) ?_ (fun w2 r y => Or.inr ⟨z, Or.inl y⟩)
        rcases y with y | ⟨y0, q', y1, y2⟩
        · have g : KfE w2 (bnd (fm_M_needSign N w2 1) (fun u12 _ => fb_M_patternAt_388 N (rc_M_rowPattern N d) () u12 r)) := Kf_bnd (yf_fm_M_needSign y) (fun _ _ z => yf_fb_M_patternAt_388 z ((rcS N d).1 w2) ((rcS N d).2 w2))
          exact Kf_pk g
        · refine pk_bnd (pk_mo (ndS_0 (N := N) (s := 1) y1 y0 (by decide) rfl (nc1_n y2).1) (fun v r2 z => ?_))
          exact Kf_pk (yf_fb_M_patternAt_388 (u0 := v) z ((rcS N d).1 v) ((rcS N d).2 v))
end
