/-! a receive: no message is left to be looked at -/
set_option maxRecDepth 100000
theorem lgc_gtz (y z : Int64) : (0 < lg_cmp y z) ↔ z.toInt < y.toInt := by
  unfold lg_cmp
  simp only [gt_iff_lt, Int64.lt_iff_toInt_lt, ← Int64.toInt_inj]
  repeat' split
  all_goals (constructor <;> intro h <;> first | omega | exact absurd h (by decide) | decide)
theorem lgc_ltz (y z : Int64) : (lg_cmp y z < 0) ↔ y.toInt < z.toInt := by
  unfold lg_cmp
  simp only [gt_iff_lt, Int64.lt_iff_toInt_lt, ← Int64.toInt_inj]
  repeat' split
  all_goals (constructor <;> intro h <;> first | omega | exact absurd h (by decide) | decide)
section
variable {N p : Nat} {m : MS}
/-- is its hour there, there -/
theorem isR_e (h7 : F m (pq p 7) ≤ F m (pq p 8)) : hm_Wl_isReady N m p = some (m, if m.2.1 (pq p 10) = -1 ∨ ((m.1 944).toInt64).toInt < (m.2.1 (pq p 10)).toInt then 0 else 1) := by
  unfold hm_Wl_isReady hb_Wl_isReady_0 hb_Wl_isReady_39 hb_Wl_isReady_35 hb_Wl_isReady_40
  have r7 := F_r m (pq p 7)
  have r8 := F_r m (pq p 8)
  have c0 : decide (m.1 (pq p 8) < m.1 (pq p 7)) = false := decide_eq_false (by
    rw [I_F (k := pq p 8), I_F (k := pq p 7), I_lt r8.1 r8.2 r7.1 r7.2]
    omega)
  rw [c0, br_f]
  by_cases c1 : m.2.1 (pq p 10) = -1
  · rw [dec_lg c1, br_t, if_pos (Or.inl c1)]
    rfl
  · rw [dec_lg0 c1, br_f]
    by_cases c2 : ((m.1 944).toInt64).toInt < (m.2.1 (pq p 10)).toInt
    · rw [decide_eq_true ((lgc_gtz _ _).mpr c2), br_t, if_pos (Or.inr c2)]
      rfl
    · rw [decide_eq_false (fun z => c2 ((lgc_gtz _ _).mp z)), br_f, if_neg (fun z => z.elim c1 c2)]
      rfl
end
section
variable {α β : Type} {b : Int → Nat → Nat → Prop} {N p U B W Y j n sc : Nat} {m w : MS} {nb : Nat → Nat} {Hs Os : Nat → List Nat} {Q : MS → α → MS → β → Prop} {D : Option (MS × α)} {K1 : MS → Option (MS × α)} {K2 : MS → Option (MS × β)}
/-- it waits, here -/
theorem aft_53 (hpp : p < 24) (h133 : F w 133 = ((p : Nat) : Int)) (h95 : A w 95 p = ((j + 1 : Nat) : Int)) (hj : j < 60) (h159 : F w 159 = ((n : Nat) : Int)) (h : PP Q D (K2 (wa (wa w 109 p 1) 98 (60 * p + j) ((n : Nat) : Int)))) : PP Q D (bnd (fb_M_afterMessages_53 N () w) (fun u _ => K2 u)) := by
  unfold fb_M_afterMessages_53 fb_M_afterMessages_71
  refine rb_ck (fun _ => ?_)
  rw [I_F' h133, tnI (n := p) rfl (by omega), lit1, wa_e, lt_e]
  have e1 : F (wa w 109 p 1) 159 = ((n : Nat) : Int) := h159
  rw [I_F' e1]
  refine rb_bnd (pk_mo (goto_r (N := N) (w := wa w 109 p 1) (n := ((n : Nat) : Int)) hpp h133 (by rw [wa_rne (by omega)]; exact h95) hj) (fun w2 _ e => ?_))
  subst e
  exact h
/-- no message is left: it waits, or its hour is there -/
theorem next_end (hpp : p < 24) (pl : PLs b p m w U B W Y) (ru : RUb m w p j nb Hs Os none) (hpc : F m 1105 = ((sc : Nat) : Int)) (hsc : sc + 1 < 24000) (h8 : F m (pq p 8) = ((Y : Nat) : Int)) (dl : DLs (m.2.1 (pq p 10)) (w.2.2.2 111 p)) (hcl : m.1 944 = w.1 120) (h159 : F w 159 = ((n : Nat) : Int)) (hn : n < 2147483648) (hun : A m 23 (sc - 1) = 0 → m.2.1 (pq p 10) = -1) (rc : ∃ g, RCs (A m 23) (ROs w) (w.2.2.2 34) (CRs (A m 23) (ROs w) (w.2.2.2 34) g) g sc n (Hs j) (Os j))
    (kW : PP Q (K1 (wi m (pq p 9) 1)) (K2 (wa (wa w 109 p 1) 98 (60 * p + j) ((n : Nat) : Int))))
    (kR : ∀ l q m3 w3, m3 = wi (wl (wi m (pq p 8) 0) (pq p 10) (-1)) 1105 ((l : Nat) : Int) → w3 = wa w 98 (60 * p + j) ((q : Nat) : Int) → PLs b p m3 w3 U B W Y → RUs m3 w3 p j nb Hs Os none l q → GGm p m m3 → GGw p w w3 → (SCs p m w → SCs p m3 w3) → PP Q (K1 m3) (K2 w3)) : PP Q (bnd (hm_Ma_flow N m p (I 32)) (fun u _ => K1 u)) (bnd (fm_M_afterMessages N w) (fun u _ => K2 u)) := by
  obtain ⟨⟨fa, ct⟩, ⟨r5, r6⟩, r7, ⟨r8, r9, r10⟩, r11, r12, r13⟩ := id ru
  obtain ⟨h12, h152⟩ : F m 1112 = 0 ∧ F w 152 = 0 := by
    rcases r7 with ⟨_, c3, c4⟩ | ⟨_, _, _, c, _⟩
    · exact ⟨c3, c4⟩
    · cases c
  have hj : j < 60 := fa.1.2.2
  have h7 : F m (pq p 7) = ((Y : Nat) : Int) := pl.2.2.2.1
  have Yr := F_r m (pq p 7)
  rw [h7] at Yr
  obtain ⟨dl1, dl2⟩ := dl
  obtain ⟨g, -, -, rc1, rc2⟩ := rc
  rw [ro_e (k := 31) (by unfold PRr; omega)] at rc1 rc2
  rw [flo32, I_F' hpc, show I ((sc : Nat) : Int) + 1 = I ((sc + 1 : Nat) : Int) from addN, Co_e (k := sc + 1) rfl hsc, bnd_so]
  refine l_bb (l_bb ?_)
  unfold hm_Ma_nextMessage hb_Ma_nextMessage_0 hb_Ma_nextMessage_78
  rw [I_F' h7, I_F' h8, decI (by omega) (by omega) (by omega) (by omega), decide_eq_true (by omega), br_t, isR_e (by rw [h7, h8]; exact Int.le_refl _), bnd_so]
  unfold fm_M_afterMessages fb_M_afterMessages_0
  refine rb_ck (fun _ => ?_)
  rw [I_F' r11, tnI (n := p) rfl (by omega), ← dl1, ← hcl]
  rw [← dl1] at dl2
  by_cases cw : m.2.1 (pq p 10) = -1 ∨ ((m.1 944).toInt64).toInt < (m.2.1 (pq p 10)).toInt
  · rw [if_pos cw, show decide ((0 : Int32) = 0) = true from rfl, br_t, lit1, wi_e, lt_e]
    have kW' := aft_53 (N := N) hpp r11 fa.1.2.1 hj h159 kW
    by_cases c0 : (m.2.1 (pq p 10)).toInt < 0
    · rw [decide_eq_true ((lgc_lt _).mpr c0), br_t]
      exact kW'
    · rw [decide_eq_false (fun z => c0 ((lgc_lt _).mp z)), br_f]
      refine rb_ck (fun _ => ?_)
      have c2 : ((m.1 944).toInt64).toInt < (m.2.1 (pq p 10)).toInt := by
        rcases cw with cw | cw
        · exfalso
          rw [cw] at c0
          exact c0 (by decide)
        · exact cw
      rw [decide_eq_true ((lgc_ltz _ _).mpr c2), br_t]
      exact kW'
  · have c1 : m.2.1 (pq p 10) ≠ -1 := fun z => cw (Or.inl z)
    have c2 : ¬ ((m.1 944).toInt64).toInt < (m.2.1 (pq p 10)).toInt := fun z => cw (Or.inr z)
    have c0 : ¬ (m.2.1 (pq p 10)).toInt < 0 := by
      rcases dl2 with d | d
      · exact absurd d c1
      · omega
    rw [if_neg cw, show decide ((1 : Int32) = 0) = false from rfl, br_f, decide_eq_false (fun z => c0 ((lgc_lt _).mp z)), br_f]
    refine rb_ck (fun _ => ?_)
    rw [decide_eq_false (fun z => c2 ((lgc_ltz _ _).mp z)), br_f]
    have c31 : A w 31 n ≠ -1 := fun z => c1 (hun (rc2 z))
    obtain ⟨af, l, q, a1, a2, a3, a4⟩ := rc1 c31
    rw [ro_e (k := 26) (by unfold PRr; omega)] at a3
    have cb := CR_b a4
    have af31 := A_r w 31 n
    rw [a1] at af31
    refine rb_ck (fun _ => rb_ck (fun _ => ?_))
    rw [I_F' h159, tnI (n := n) rfl (by omega), I_A' a1, tnI (n := af) rfl (by omega), I_A' a3, a2]
    rw [lit0, wi_e, lt_e, show upL (wi m (pq p 8) 0) (pq p 10) (-1) = wl (wi m (pq p 8) 0) (pq p 10) (-1) from rfl, lt_e, wi_e, lt_e]
    refine rb_bnd (pk_mo (goto_r (N := N) (n := ((q : Nat) : Int)) hpp r11 fa.1.2.1 hj) (fun w2 _ e => ?_))
    subst e
    generalize hm3 : wi (wl (wi m (pq p 8) 0) (pq p 10) (-1)) 1105 ((l : Nat) : Int) = m3
    generalize hw3 : wa w 98 (60 * p + j) ((q : Nat) : Int) = w3
    have mq : ∀ l, l ≠ 8 → m3.1 (pq p l) = m.1 (pq p l) := fun l h => by
      rw [← hm3, wi_1 (fun c => pq_n (by omega) c.symm)]
      show (wi m (pq p 8) 0).1 (pq p l) = _
      rw [wi_1 (pq_inj h)]
    have mg : ∀ l, l < 2000 → l ≠ 1105 → m3.1 l = m.1 l := fun l h0 h => by
      rw [← hm3, wi_1 h]
      show (wi m (pq p 8) 0).1 l = _
      rw [wi_1 (pq_n h0)]
    have mr : m3.2.2 = m.2.2 := by rw [← hm3]; rfl
    have wR : ∀ K, K ≠ 98 → w3.2.2.1 K = w.2.2.1 K := fun K h => by rw [← hw3]; exact wa_21 h
    have wA : ∀ K i, ¬ (K = 98 ∧ i = 60 * p + j) → w3.2.2.1 K i = w.2.2.1 K i := fun K i h => by rw [← hw3]; exact wa_at h
    have wJ : w3.2.2.2 = w.2.2.2 := by rw [← hw3]; rfl
    have w1 : w3.1 = w.1 := by rw [← hw3]; rfl
    have pr : ∀ K, PRr K → w3.2.2.1 K = w.2.2.1 K := fun K h => wR K (by unfold PRr at h; omega)
    have h23 : A m3 23 = A m 23 := by funext i; show (m3.2.2.1 23 i).toInt = _; rw [mr]; rfl
    have fc : FAs m3 w3 p j nb Hs Os ∧ CTs m3 w3 p j nb Hs Os := FC_w ⟨fa, ct⟩ (fun l h => mq l (by omega)) (fun l _ => by rw [mr]) (by rw [mr]) (fun K h => by rw [wR K (by omega)]) (fun K r h1 h2 h3 h4 => wA K _ (by omega)) (fun K c h1 h2 _ => by rw [wR K (by omega)]) pr (by rw [wJ])
    have pl3 : PLs b p m3 w3 U B W Y := PLs_cg pl (fun l hl => mq l (by simp at hl; omega)) (fun i _ => by rw [mr]) (fun i _ => by rw [mr]) (fun i _ => by rw [mr]) (fun i _ => by rw [mr]) (fun K hK => by rw [wR K (by simp at hK; omega)]) (fun i _ => by rw [wJ]) (fun i _ => by rw [wJ]) (fun i _ => by rw [wJ]) (fun i _ => by rw [wJ])
    refine kR l q m3 w3 hm3.symm hw3.symm pl3 ⟨fc, ⟨?_, ?_⟩, ⟨g, by rw [h23, ROs_eq pr, wJ]; exact a4⟩, ⟨(congrArg Int32.toInt (mq 9 (by omega))).trans r5, ?_⟩, Or.inl ⟨rfl, (congrArg Int32.toInt (mg 1112 (by omega) (by omega))).trans h12, ?_⟩, ⟨(congrArg Int32.toInt (mg 1108 (by omega) (by omega))).trans r8, (congrArg Int32.toInt (mg 1109 (by omega) (by omega))).trans r9, ?_⟩, ?_, ?_, ?_⟩ ?_ ?_ (fun s => SC_ow s (fun l hl => mq l (by omega)) (by rw [mr]) (fun K h1 h2 => wR K (by omega)))
    · rw [← hm3, wi_sm (by omega) (by omega)]
    · rw [← hw3, wa_sm (by omega) (by omega)]
    · show (w3.2.2.1 109 p).toInt = _
      rw [wR 109 (by omega)]; exact r6
    · show (w3.1 152).toInt = _
      rw [w1]; exact h152
    · show (w3.1 151).toInt = _
      rw [w1]; exact r10
    · show (w3.1 133).toInt = _
      rw [w1]; exact r11
    · rw [mg 1106 (by omega) (by omega), w1]; exact r12
    · rw [mg 1107 (by omega) (by omega), w1]; exact r13
    · rw [← hm3]
      exact GGm.tr (GGm.tr (GGm_own (by omega)) (GGm_l (by omega))) (GGm_reg (by omega))
    · rw [← hw3]
      exact GGw_own (Or.inr (Or.inl ⟨⟨by omega, by omega⟩, by omega, by omega⟩))
end
