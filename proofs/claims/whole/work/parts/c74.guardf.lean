/-! a GUARD fails: the next part is tried -/
set_option maxRecDepth 100000
/-- parts are tried, here from part k on, there from word a on -/
def TRs (m w : MS) (p j : Nat) (nb : Nat → Nat) (Hs Os : Nat → List Nat) (kd sc a : Nat) (k : Int) : Prop :=
  RUb m w p j nb Hs Os none ∧ F m 1105 = ((a : Nat) : Int) ∧ (F w 153 = ((kd : Nat) : Int) ∧ F w 154 = k ∧ F w 156 = ((nb j + (Hs j).length + (Os j).length : Nat) : Int)) ∧ TRr kd sc m w p (Hs j) (Os j) ∧ ((Os j).Nodup ∧ (Hs j).Nodup) ∧ ∃ f g, ZRs (A m 23) (ROs w) (w.2.2.2 34) (CRs (A m 23) (ROs w) (w.2.2.2 34) f) kd sc (Hs j) (Os j) g a k
section
variable {p j d : Nat} {m w m2 w2 m3 w3 : MS} {nb : Nat → Nat} {Hs Os : Nat → List Nat} {y : Option (Nat × Nat × Nat)} {how ar : Int} {t : Int64}
/-- FRAMES, catches: only the machine's numbers, what waits and names of the uppermost have changed -/
theorem TRr_w {kd sc : Nat} {H O0 : List Nat} (h : TRr kd sc m w p H O0) (f8 : m2.1 (pq p 8) = m.1 (pq p 8)) (fL : m2.2.1 (pq p 10) = m.2.1 (pq p 10)) (fJ : w2.2.2.2 111 p = w.2.2.2 111 p) (fw : ∀ k, k = 155 ∨ k = 158 ∨ k = 159 → w2.1 k = w.1 k) (e23 : m2.2.2.1 23 = m.2.2.1 23) (pr : ∀ K, PRr K → w2.2.2.1 K = w.2.2.1 K) (h34 : w2.2.2.2 34 = w.2.2.2 34) : TRr kd sc m2 w2 p H O0 := fun e3 => by
  obtain ⟨d1, n2, d2, d3, d4, d5, g2, d6⟩ := h e3
  have hP : ∀ K, PRr K → A w2 K = A w K := fun K a => by funext i; show (w2.2.2.1 K i).toInt = _; rw [pr K a]; rfl
  have h23 : A m2 23 = A m 23 := by funext i; show (m2.2.2.1 23 i).toInt = _; rw [e23]; rfl
  have e8 : F m2 (pq p 8) = F m (pq p 8) := congrArg Int32.toInt f8
  have wF : ∀ k, k = 155 ∨ k = 158 ∨ k = 159 → F w2 k = F w k := fun k c => congrArg Int32.toInt (fw k c)
  exact ⟨⟨by rw [wF 158 (by omega), e8]; exact d1.1, by rw [fL, fJ]; exact d1.2⟩, n2, by rw [wF 159 (by omega)]; exact d2, by rw [wF 155 (by omega), hP 25 (by unfold PRr; omega)]; exact d3, by rw [hP 23 (by unfold PRr; omega)]; exact d4, by rw [hP 27 (by unfold PRr; omega)]; exact d5, g2, by rw [h23, ROs_eq pr, h34]; exact d6⟩
end
section
variable {α β : Type} {b : Int → Nat → Nat → Prop} {N p U B W Y j kd k sc D : Nat} {m w m2 w2 : MS} {nb : Nat → Nat} {Hs Os : Nat → List Nat} {Q : MS → α → MS → β → Prop} {K1 : MS → Option (MS × α)} {K2 : MS → Option (MS × β)} {how kn : Int} {x : Int64}
/-- there -/
theorem gf_m {fl W0 B X : Nat} (h12 : F m 1112 = ((fl : Nat) : Int)) (h13 : F m 1113 = ((X : Nat) : Int)) (h14 : F m 1114 = ((W0 : Nat) : Int)) (h24 : F m (pq p 24) = ((B + X : Nat) : Int)) : hm_Ma_guardFails N m p = some (wi (wi (wi (wi m (pq p 26) ((W0 : Nat) : Int)) (pq p 24) ((B : Nat) : Int)) 1105 ((fl : Nat) : Int)) 1112 0, ()) := by
  have r24 := F_r m (pq p 24)
  rw [h24] at r24
  unfold hm_Ma_guardFails hb_Ma_guardFails_0 hm_Fr_forget hb_Fr_forget_0
  rw [I_F' h14, wi_e, lt_e]
  have e13 : F (wi m (pq p 26) ((W0 : Nat) : Int)) 1113 = ((X : Nat) : Int) := by rw [wi_ne (pq_n (by omega))]; exact h13
  have e24 : F (wi m (pq p 26) ((W0 : Nat) : Int)) (pq p 24) = ((B + X : Nat) : Int) := by rw [wi_ne (pq_inj (by omega))]; exact h24
  rw [I_F' e13, I_F' e24, show I ((B + X : Nat) : Int) - I ((X : Nat) : Int) = I ((B : Nat) : Int) by rw [I_sub]; congr 1; omega]
  have em : (if 0 < I ((B : Nat) : Int) then I ((B : Nat) : Int) else 0) = I ((B : Nat) : Int) := by
    by_cases c : 0 < I ((B : Nat) : Int)
    · rw [if_pos c]
    · rw [if_neg c]
      have : B = 0 := by
        rw [lit0, I_lt (by omega) (by omega) (by omega) (by omega)] at c
        omega
      rw [this]
      rfl
  rw [em, lt_e, wi_e, lt_e, bnd_so]
  have e12 : F (wi (wi m (pq p 26) ((W0 : Nat) : Int)) (pq p 24) ((B : Nat) : Int)) 1112 = ((fl : Nat) : Int) := by rw [wi_ne (pq_n (by omega)), wi_ne (pq_n (by omega))]; exact h12
  rw [I_F' e12, wi_e, lt_e, lit0, wi_e, lt_e]
/-- here -/
theorem gf_r {W0 : Nat} {S : SG_M_error} {k2 : Int} (hpp : p < 24) (h3 : F w 133 = ((p : Nat) : Int)) (h154 : F w 154 = ((k : Nat) : Int)) (h157 : F w 157 = ((W0 : Nat) : Int)) (h45 : A w 45 k = k2) (hk : k < 100000) {a : Option (MS × α)} (h : PP Q a (bnd (S.2.2.2.1 (wi (wa (wi w 152 0) 92 p ((W0 : Nat) : Int)) 154 k2)) (fun u _ => K2 u))) : PP Q a (bnd (fm_M_guardFails N S w) (fun u _ => K2 u)) := by
  unfold fm_M_guardFails fb_M_guardFails_0
  rw [lit0, wi_e, lt_e]
  have e3 : F (wi w 152 0) 133 = ((p : Nat) : Int) := by rw [wi_ne (by omega)]; exact h3
  have e7 : F (wi w 152 0) 157 = ((W0 : Nat) : Int) := by rw [wi_ne (by omega)]; exact h157
  refine rb_ck (fun _ => ?_)
  rw [I_F' e3, tnI (n := p) rfl (by omega), I_F' e7, wa_e, lt_e]
  have e4 : F (wa (wi w 152 0) 92 p ((W0 : Nat) : Int)) 154 = ((k : Nat) : Int) := by rw [F_wa, wi_ne (by omega)]; exact h154
  refine rb_ck (fun _ => ?_)
  have e45 : A (wa (wi w 152 0) 92 p ((W0 : Nat) : Int)) 45 k = k2 := by rw [wa_rne (by omega), A_wi]; exact h45
  rw [I_F' e4, tnI (n := k) rfl (by omega), I_A' e45, wi_e, lt_e]
  refine r_bb ?_
  exact h
/-- both -/
theorem gf_pp (hpp : p < 24) (pl : PLs b p (wi m (pq p 26) ((W : Nat) : Int)) w U B W Y) (ru : RUb m w p j nb Hs Os (some (kd, k, sc))) (bd : B ≤ 2500 ∧ W < 46000) (hk : k < 100000) (hw : F m 1114 ≤ ((W : Nat) : Int)) (nd : (Os j).Nodup ∧ (Hs j).Nodup) (hct : ∀ nC c : Nat, F m (pq p 28) = ((nC : Nat) : Int) → c < nC → A w 105 (1600 * p + c) + F m 1113 ≤ ((B : Nat) : Int)) {S : SG_M_error} (kt : ∀ m3 w3 B3 W3 a, PLs b p m3 (wa w3 94 p ((B3 : Nat) : Int)) U B3 W3 Y → A w3 92 p = ((W3 : Nat) : Int) → TRs m3 w3 p j nb Hs (fun i => if i = j then (Os j).take (B3 - (nb j + (Hs j).length)) else Os i) kd sc a (A w 45 k) → B3 ≤ B → W3 ≤ W → GGm p m m3 → GGw p w w3 → (SCs p m w → SCs p m3 w3) → (w3.2.2.2 88 = w.2.2.2 88 ∧ w3.1 140 = w.1 140) → PP Q (K1 m3) (bnd (S.2.2.2.1 w3) (fun u _ => K2 u))) : PP Q (bnd (hm_Ma_guardFails N m p) (fun u _ => K1 u)) (bnd (fm_M_guardFails N S w) (fun u _ => K2 u)) := by
  obtain ⟨⟨fa, ct⟩, ⟨r5, r6⟩, r7, ⟨r8, r9, r10⟩, r11, r12, r13⟩ := id ru
  rcases r7 with ⟨c1, -⟩ | ⟨kd', k', sc', c1, fl, W0, O0, X, c2, ⟨c3, c4, c5, c6⟩, ⟨c7, c8, c9, c10, c11⟩, c12, f2, g2, c13⟩
  · cases c1
  injection c1 with c1
  injection c1 with e1 c1
  injection c1 with e2 e3
  subst e1 e2 e3
  have hj : j < 60 := fa.1.2.2
  have hB : F m (pq p 24) = ((nb j + (Hs j ++ Os j).length : Nat) : Int) := fa.2.2.2
  have hB2 : B = nb j + (Hs j).length + O0.length + X.length := by
    have h3 := pl.2.1.1
    rw [wi_ne (pq_inj (by omega)), hB, List.length_append, c2, List.length_append] at h3
    omega
  have hW0 : W0 ≤ W := by rw [c6] at hw; omega
  have hB0 : F m (pq p 24) = ((nb j + (Hs j).length + O0.length + X.length : Nat) : Int) := by rw [hB, List.length_append, c2, List.length_append]; congr 1; omega
  rw [gf_m (B := nb j + (Hs j).length + O0.length) c3 c5 c6 hB0, bnd_so]
  refine gf_r hpp r11 c9 c11 rfl hk ?_
  have tk : (Os j).take (nb j + (Hs j).length + O0.length - (nb j + (Hs j).length)) = O0 := by
    rw [show nb j + (Hs j).length + O0.length - (nb j + (Hs j).length) = O0.length by omega, c2, List.take_left']
    rfl
  generalize hm3 : wi (wi (wi (wi m (pq p 26) ((W0 : Nat) : Int)) (pq p 24) ((nb j + (Hs j).length + O0.length : Nat) : Int)) 1105 ((fl : Nat) : Int)) 1112 0 = m3
  generalize hw3 : wi (wa (wi w 152 0) 92 p ((W0 : Nat) : Int)) 154 (A w 45 k) = w3
  have rfl12 := F_r m 1112
  rw [c3] at rfl12
  have i3 : ∀ l, l < 100 → l ≠ 24 → l ≠ 26 → m3.1 (pq p l) = m.1 (pq p l) := fun l h0 h1 h2 => by
    rw [← hm3, wi_1 (fun c => pq_n (by omega) c.symm), wi_1 (fun c => pq_n (by omega) c.symm), wi_1 (pq_inj h1), wi_1 (pq_inj h2)]
  have g3 : ∀ l, l < 2000 → l ≠ 1105 → l ≠ 1112 → m3.1 l = m.1 l := fun l h0 h1 h2 => by
    rw [← hm3, wi_1 h2, wi_1 h1, wi_1 (pq_n h0), wi_1 (pq_n h0)]
  have t3 : m3.2 = m.2 := by rw [← hm3]; rfl
  have e24 : F m3 (pq p 24) = ((nb j + (Hs j).length + O0.length : Nat) : Int) := by rw [← hm3, wi_ne (fun c => pq_n (by omega) c.symm), wi_ne (fun c => pq_n (by omega) c.symm), wi_sm (by omega) (by omega)]
  have e26 : F m3 (pq p 26) = ((W0 : Nat) : Int) := by rw [← hm3, wi_ne (fun c => pq_n (by omega) c.symm), wi_ne (fun c => pq_n (by omega) c.symm), wi_ne (pq_inj (by omega)), wi_sm (by omega) (by omega)]
  have e05 : F m3 1105 = ((fl : Nat) : Int) := by rw [← hm3, wi_ne (by omega), wi_sm (by omega) (by omega)]
  have e12 : F m3 1112 = 0 := by rw [← hm3, wi_sm (by omega) (by omega)]
  have w1 : ∀ l, l ≠ 152 → l ≠ 154 → w3.1 l = w.1 l := fun l h1 h2 => by
    rw [← hw3, wi_1 h2]
    show (wi w 152 0).1 l = _
    exact wi_1 h1
  have wF : ∀ l, l ≠ 152 → l ≠ 154 → F w3 l = F w l := fun l h1 h2 => congrArg Int32.toInt (w1 l h1 h2)
  have wA : ∀ K i, ¬ (K = 92 ∧ i = p) → w3.2.2.1 K i = w.2.2.1 K i := fun K i h => by rw [← hw3]; exact wa_at h
  have wR : ∀ K, K ≠ 92 → w3.2.2.1 K = w.2.2.1 K := fun K h => by funext i; exact wA K i (fun c => h c.1)
  have wJ : w3.2.2.2 = w.2.2.2 := by rw [← hw3]; rfl
  have wL : w3.2.1 = w.2.1 := by rw [← hw3]; rfl
  have e92 : A w3 92 p = ((W0 : Nat) : Int) := by rw [← hw3, A_wi, wa_sm (by omega) (by omega)]
  have e152 : F w3 152 = 0 := by
    rw [← hw3, wi_ne (by omega), F_wa, wi_sm (by omega) (by omega)]
  have rk := A_r w 45 k
  have e154 : F w3 154 = A w 45 k := by rw [← hw3, wi_sm rk.1 rk.2]
  have pr : ∀ K, PRr K → w3.2.2.1 K = w.2.2.1 K := fun K h => wR K (by unfold PRr at h; omega)
  have e23 : m3.2.2.1 23 = m.2.2.1 23 := by rw [t3]
  have gm : GGm p m m3 := by
    rw [← hm3]
    exact GGm.tr (GGm.tr (GGm.tr (GGm_own (by omega)) (GGm_own (by omega))) (GGm_reg (by omega))) (GGm_reg (by omega))
  have gw : GGw p w w3 := by
    refine ⟨fun d hd => ⟨fun K i h => wA K i (fun c => ?_), fun K h => by rw [wR K (by omega)], fun i _ _ => by rw [wR 131 (by omega)], by rw [wJ], fun i _ _ => by rw [wJ], fun i _ _ => by rw [wJ], fun i _ _ => by rw [wJ], fun i _ _ => by rw [wJ]⟩, ⟨pr, by rw [wJ], wR 12 (by omega), wR 13 (by omega), w1 14 (by omega) (by omega)⟩, w1 150 (by omega) (by omega), fun K h => wR K (by omega), by rw [wJ], fun K h => wR K (by omega), fun k h => w1 k (by omega) (by omega)⟩
    obtain ⟨rfl, rfl⟩ := c
    exact hd (OWi_d (Or.inl ⟨by omega, rfl⟩) h)
  have kn : O0.length ≤ (Os j).length := by rw [c2, List.length_append]; omega
  have fa3 : FAs m3 w3 p j nb Hs (tkO Os j O0.length) := FA_less fa kn (i3 21 (by omega) (by omega) (by omega)) e24 (fun l hl => by rw [t3]) e23 (wR' wR 95 (by omega)) (fun K r c1 c2 c3 c4 => wA K _ (fun c => by omega)) pr (by rw [wJ])
  have ct3 : CTs m3 w3 p j nb Hs (tkO Os j O0.length) := CT_less ct (fun nC c h1 h2 => by
    have := hct nC c h1 h2
    rw [c5] at this
    omega) kn (i3 28 (by omega) (by omega) (by omega)) (by rw [t3]) e23 (wR' wR 106 (by omega)) (fun K h1 h2 => wR K (by omega)) pr (by rw [wJ])
  have eO : (fun i => if i = j then (Os j).take (nb j + (Hs j).length + O0.length - (nb j + (Hs j).length)) else Os i) = tkO Os j O0.length := by
    funext i
    unfold tkO
    rw [show nb j + (Hs j).length + O0.length - (nb j + (Hs j).length) = O0.length by omega]
  have eOj : tkO Os j O0.length j = O0 := by rw [tkO_j, c2, List.take_left']; rfl
  refine kt m3 w3 (nb j + (Hs j).length + O0.length) W0 fl ?_ e92 ?_ (by omega) hW0 gm gw (fun s => SC_ow s (fun l hl => i3 l (by omega) (by omega) (by omega)) (by rw [t3]) (fun K h1 h2 => wR K (by omega))) ⟨by rw [wJ], w1 140 (by omega) (by omega)⟩
  · have q1 : PLs b p (wi m (pq p 26) ((W : Nat) : Int)) w U (nb j + (Hs j).length + O0.length + X.length) (W0 + (W - W0)) Y := by
      rw [← hB2, show W0 + (W - W0) = W by omega]
      exact pl
    have q2 := PLs_forget (PLs_drop q1 (by omega)) (by omega)
    refine PLs_cg q2 (fun l hl => ?_) (fun i _ => by rw [t3]; rfl) (fun i _ => by rw [t3]; rfl) (fun i _ => by rw [t3]; rfl) (fun i _ => by rw [t3]; rfl) (fun K hK => ?_) (fun i _ => ?_) (fun i _ => ?_) (fun i _ => ?_) (fun i _ => ?_)
    · simp only [List.mem_cons, List.not_mem_nil, or_false] at hl
      apply Int32.toInt_inj.mp
      show F m3 (pq p l) = F (wi (wi (wi m (pq p 26) ((W : Nat) : Int)) (pq p 26) ((W0 : Nat) : Int)) (pq p 24) ((nb j + (Hs j).length + O0.length : Nat) : Int)) (pq p l)
      rcases hl with rfl | rfl | rfl | rfl | rfl
      · rw [wi_ne (pq_inj (by omega)), wi_ne (pq_inj (by omega)), wi_ne (pq_inj (by omega))]
        exact congrArg Int32.toInt (i3 4 (by omega) (by omega) (by omega))
      · rw [wi_ne (pq_inj (by omega)), wi_ne (pq_inj (by omega)), wi_ne (pq_inj (by omega))]
        exact congrArg Int32.toInt (i3 5 (by omega) (by omega) (by omega))
      · rw [wi_sm (by omega) (by omega)]; exact e24
      · rw [wi_ne (pq_inj (by omega)), wi_sm (by omega) (by omega)]; exact e26
      · rw [wi_ne (pq_inj (by omega)), wi_ne (pq_inj (by omega)), wi_ne (pq_inj (by omega))]
        exact congrArg Int32.toInt (i3 7 (by omega) (by omega) (by omega))
    · simp only [List.mem_cons, List.not_mem_nil, or_false] at hK
      apply Int32.toInt_inj.mp
      show A (wa w3 94 p ((nb j + (Hs j).length + O0.length : Nat) : Int)) K p = A (wa (wa w 92 p ((W0 : Nat) : Int)) 94 p ((nb j + (Hs j).length + O0.length : Nat) : Int)) K p
      rcases hK with rfl | rfl | rfl | rfl | rfl
      · rw [wa_rne (by omega), wa_rne (by omega), wa_rne (by omega)]
        exact congrArg Int32.toInt (wA 89 p (by omega))
      · rw [wa_rne (by omega), wa_rne (by omega), wa_rne (by omega)]
        exact congrArg Int32.toInt (wA 90 p (by omega))
      · rw [wa_rne (by omega), wa_rne (by omega), wa_sm (by omega) (by omega)]
        exact e92
      · rw [wa_sm (by omega) (by omega), wa_sm (by omega) (by omega)]
      · rw [wa_rne (by omega), wa_rne (by omega), wa_rne (by omega)]
        exact congrArg Int32.toInt (wA 108 p (by omega))
    · show w3.2.2.2 88 _ = w.2.2.2 88 _
      rw [wJ]
    · show w3.2.2.2 93 _ = w.2.2.2 93 _
      rw [wJ]
    · show w3.2.2.2 91 _ = w.2.2.2 91 _
      rw [wJ]
    · show w3.2.2.2 107 _ = w.2.2.2 107 _
      rw [wJ]
  · rw [eO]
    have h23 : A m3 23 = A m 23 := by funext i; show (m3.2.2.1 23 i).toInt = _; rw [e23]; rfl
    refine ⟨⟨⟨fa3, ct3⟩, ⟨?_, ?_⟩, Or.inl ⟨rfl, e12, e152⟩, ⟨?_, ?_, ?_⟩, ?_, ?_, ?_⟩, e05, ⟨by rw [wF 153 (by omega) (by omega)]; exact c8, e154, ?_⟩, ?_, ⟨?_, nd.2⟩, f2, g2, ?_⟩
    · exact (congrArg Int32.toInt (i3 9 (by omega) (by omega) (by omega))).trans r5
    · exact (congrArg Int32.toInt (wA 109 p (by omega))).trans r6
    · exact (congrArg Int32.toInt (g3 1108 (by omega) (by omega) (by omega))).trans r8
    · exact (congrArg Int32.toInt (g3 1109 (by omega) (by omega) (by omega))).trans r9
    · exact (wF 151 (by omega) (by omega)).trans r10
    · exact (wF 133 (by omega) (by omega)).trans r11
    · rw [g3 1106 (by omega) (by omega) (by omega), w1 165 (by omega) (by omega)]; exact r12
    · rw [g3 1107 (by omega) (by omega) (by omega), w1 164 (by omega) (by omega)]; exact r13
    · rw [wF 156 (by omega) (by omega), eOj]; exact c10
    · rw [eOj]
      exact TRr_w c12 (i3 8 (by omega) (by omega) (by omega)) (by rw [t3]) (by rw [wJ]) (fun l hl => w1 l (by omega) (by omega)) e23 pr (by rw [wJ])
    · rw [eOj]
      have := nd.1
      rw [c2] at this
      exact (List.nodup_append.mp this).1
    · rw [eOj, h23, ROs_eq pr, wJ]
      exact c13
where
  wR' {w w3 : MS} {p : Nat} (wR : ∀ K, K ≠ 92 → w3.2.2.1 K = w.2.2.1 K) (K : Nat) (h : K ≠ 92) : w3.2.2.1 K p = w.2.2.1 K p := by rw [wR K h]
end
