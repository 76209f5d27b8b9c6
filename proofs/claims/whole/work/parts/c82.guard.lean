/-! a GUARD begins; a part that is tried without PATTERNS -/
set_option maxRecDepth 100000
/-- a GUARD begins, here -/
def gdR {γ : Type} (N : Nat) (w : MS) (G : MS → Option (MS × γ)) : Option (MS × γ) := lt (upI w 152 1) (fun w4 => ck (inb (w4.1 133) (ln 92)) (lt (upI w4 157 (w4.2.2.1 92 (w4.1 133).toNatClampNeg)) (fun w5 => ck (inb (w5.1 154) (ln 42)) (bnd (fm_M_goTo N w5 (w5.2.2.1 42 (w5.1 154).toNatClampNeg)) (fun u6 _ => G u6)))))
section
variable {α β : Type} {b : Int → Nat → Nat → Prop} {N p U B W Y j a k n kd sc fl M : Nat} {m w m2 w2 : MS} {nb : Nat → Nat} {Hs Os : Nat → List Nat} {O0 X : List Nat} {Q : MS → α → MS → β → Prop} {D : Option (MS × α)} {K : MS → Unit → Option (MS × β)} {K1 : MS → Option (MS × α)} {K2 : MS → Option (MS × β)} {S : SG_M_error}
/-- no more is tried -/
theorem cho_0 (h : PP Q D (K w ())) : PP Q D (bnd (gg_M_choose N S M w 0) K) := by
  cases M with
  | zero => exact pp_nr
  | succ M =>
    show PP Q D (bnd (fb_M_choose_2 N S (gg_M_choose N S M) w 0) K)
    unfold fb_M_choose_2
    rw [show decide ((0 : Int32) = 0) = true from rfl, br_t]
    exact h
/-- a GUARD begins -/
theorem op_guard (hpp : p < 24) (pl : PLs b p m w U B W Y) (ru : RUb m w p j nb Hs Os none) (hW : W < 46000) (eO : Os j = O0 ++ X) (hpc : F m 1105 = ((a : Nat) : Int)) (ha : a + 3 < 24000) (c1 : A m 23 (a + 1) = ((X.length : Nat) : Int)) (c2 : A m 23 (a + 2) = ((fl : Nat) : Int)) (hf : 0 < fl) (h153 : F w 153 = ((kd : Nat) : Int)) (h154 : F w 154 = ((k : Nat) : Int)) (hk : k < 100000) (h156 : F w 156 = ((nb j + (Hs j).length + O0.length : Nat) : Int)) (tr : TRr kd sc m w p (Hs j) O0) (zr : ∃ f g, ZRs (A m 23) (ROs w) (w.2.2.2 34) (CRs (A m 23) (ROs w) (w.2.2.2 34) f) kd sc (Hs j) O0 g fl (A w 45 k)) (h42 : A w 42 k = ((n : Nat) : Int)) (cr : ∃ f, CRs (A m 23) (ROs w) (w.2.2.2 34) f (some (kd, k, sc)) (a + 3) n (Hs j) (Os j))
    (c : ∀ m3 w3, PLs b p m3 w3 U B W Y → RUs m3 w3 p j nb Hs Os (some (kd, k, sc)) (a + 3) n → GGm p m m3 → GGw p w w3 → (SCs p m w → SCs p m3 w3) → PP Q (K1 m3) (K2 w3)) : PP Q (bnd (hm_Ma_flow N m p (I 21)) (fun u _ => K1 u)) (gdR N w K2) := by
  obtain ⟨⟨fa, ct⟩, ⟨r5, r6⟩, r7, ⟨r8, r9, r10⟩, r11, r12, r13⟩ := id ru
  have hj : j < 60 := fa.1.2.2
  have nr := A_r w 42 k
  rw [h42] at nr
  have fr := A_r m 23 (a + 2)
  rw [c2] at fr
  have xr := A_r m 23 (a + 1)
  rw [c1] at xr
  rw [flo21, I_F' hpc, show I ((a : Nat) : Int) + 1 = I ((a + 1 : Nat) : Int) from addN, Co_e (k := a + 1) rfl (by omega), bnd_so, c1, lt_e, wi_e]
  have e5 : F (wi m 1113 ((X.length : Nat) : Int)) 1105 = ((a : Nat) : Int) := by rw [wi_ne (by omega)]; exact hpc
  have e23 : A (wi m 1113 ((X.length : Nat) : Int)) 23 (a + 2) = ((fl : Nat) : Int) := c2
  rw [I_F' e5, show I ((a : Nat) : Int) + 2 = I ((a + 2 : Nat) : Int) from addN, Co_e (k := a + 2) rfl (by omega), bnd_so, e23, lt_e, wi_e]
  have e26 : F (wi (wi m 1113 ((X.length : Nat) : Int)) 1112 ((fl : Nat) : Int)) (pq p 26) = ((W : Nat) : Int) := by rw [wi_ne (fun c => pq_n (by omega) c.symm), wi_ne (fun c => pq_n (by omega) c.symm)]; exact pl.2.2.1.1
  rw [lt_e, I_F' e26, wi_e, lt_e]
  have e5' : F (wi (wi (wi m 1113 ((X.length : Nat) : Int)) 1112 ((fl : Nat) : Int)) 1114 ((W : Nat) : Int)) 1105 = ((a : Nat) : Int) := by rw [wi_ne (by omega), wi_ne (by omega), wi_ne (by omega)]; exact hpc
  rw [I_F' e5', show I ((a : Nat) : Int) + 3 = I ((a + 3 : Nat) : Int) from addN, wi_e, bnd_so]
  unfold gdR
  rw [show upI w 152 1 = wi w 152 1 from rfl, lt_e]
  have w1 : F (wi w 152 1) 133 = ((p : Nat) : Int) := by rw [wi_ne (by omega)]; exact r11
  have w92 : A (wi w 152 1) 92 p = ((W : Nat) : Int) := pl.2.2.1.2.1
  refine r_ck (fun _ => ?_)
  rw [I_F' w1, tnI (n := p) rfl (by omega), I_A' w92, wi_e, lt_e]
  have w2 : F (wi (wi w 152 1) 157 ((W : Nat) : Int)) 133 = ((p : Nat) : Int) := by rw [wi_ne (by omega)]; exact w1
  have w3 : F (wi (wi w 152 1) 157 ((W : Nat) : Int)) 154 = ((k : Nat) : Int) := by rw [wi_ne (by omega), wi_ne (by omega)]; exact h154
  have w42 : A (wi (wi w 152 1) 157 ((W : Nat) : Int)) 42 k = ((n : Nat) : Int) := h42
  refine r_ck (fun _ => ?_)
  rw [I_F' w3, tnI (n := k) rfl (by omega), I_A' w42]
  refine r_bnd (pk_mo (goto_r (N := N) (n := ((n : Nat) : Int)) hpp w2 fa.1.2.1 hj) (fun u _ h => ?_))
  subst h
  generalize hw3 : wa (wi (wi w 152 1) 157 ((W : Nat) : Int)) 98 (60 * p + j) ((n : Nat) : Int) = w4
  generalize hm3 : wi (wi (wi (wi m 1113 ((X.length : Nat) : Int)) 1112 ((fl : Nat) : Int)) 1114 ((W : Nat) : Int)) 1105 ((a + 3 : Nat) : Int) = m4
  have mg : ∀ l, l ≠ 1113 → l ≠ 1112 → l ≠ 1114 → l ≠ 1105 → m4.1 l = m.1 l := fun l h1 h2 h3 h4 => by rw [← hm3, wi_1 h4, wi_1 h3, wi_1 h2, wi_1 h1]
  have mq : ∀ l, m4.1 (pq p l) = m.1 (pq p l) := fun l => mg _ (fun c => pq_n (by omega) c.symm) (fun c => pq_n (by omega) c.symm) (fun c => pq_n (by omega) c.symm) (fun c => pq_n (by omega) c.symm)
  have m2 : m4.2 = m.2 := by rw [← hm3]; rfl
  have w4A : ∀ K i, ¬ (K = 98 ∧ i = 60 * p + j) → w4.2.2.1 K i = w.2.2.1 K i := fun K i h => by rw [← hw3, wa_at h]; rfl
  have w4R : ∀ K, K ≠ 98 → w4.2.2.1 K = w.2.2.1 K := fun K h => by rw [← hw3, wa_21 h]; rfl
  have w4J : w4.2.2.2 = w.2.2.2 := by rw [← hw3]; rfl
  have w4F : ∀ l, l ≠ 152 → l ≠ 157 → w4.1 l = w.1 l := fun l h1 h2 => by
    rw [← hw3]
    show (wi (wi w 152 1) 157 ((W : Nat) : Int)).1 l = _
    rw [wi_1 h2, wi_1 h1]
  have w4f : ∀ l, l ≠ 152 → l ≠ 157 → F w4 l = F w l := fun l h1 h2 => congrArg Int32.toInt (w4F l h1 h2)
  have pr : ∀ K, PRr K → w4.2.2.1 K = w.2.2.1 K := fun K h => w4R K (by unfold PRr at h; omega)
  have h23 : A m4 23 = A m 23 := by funext i; show (m4.2.2.1 23 i).toInt = _; rw [m2]; rfl
  have fc3 : FAs m4 w4 p j nb Hs Os ∧ CTs m4 w4 p j nb Hs Os := FC_w ⟨fa, ct⟩ (fun l _ => mq l) (fun l _ => by rw [m2]) (by rw [m2]) (fun K h => by rw [w4R K (by omega)]) (fun K r h1 h2 h3 h4 => w4A K _ (by omega)) (fun K c h1 h2 _ => by rw [w4R K (by omega)]) pr (by rw [w4J])
  have pl4 : PLs b p m4 w4 U B W Y := PLs_cg pl (fun l _ => mq l) (fun i _ => by rw [m2]) (fun i _ => by rw [m2]) (fun i _ => by rw [m2]) (fun i _ => by rw [m2]) (fun K hK => by
    simp only [List.mem_cons, List.not_mem_nil, or_false] at hK
    rw [w4R K (by omega)]) (fun i _ => by rw [w4J]) (fun i _ => by rw [w4J]) (fun i _ => by rw [w4J]) (fun i _ => by rw [w4J])
  have gm : GGm p m m4 := by
    rw [← hm3]
    exact GGm.tr (GGm.tr (GGm.tr (GGm_reg (by omega)) (GGm_reg (by omega))) (GGm_reg (by omega))) (GGm_reg (by omega))
  have gw : GGw p w w4 := by
    rw [← hw3]
    exact GGw.tr (GGw.tr (GGw_reg (by omega) (by omega)) (GGw_reg (by omega) (by omega))) (GGw_own (Or.inr (Or.inl ⟨⟨by omega, by omega⟩, by omega, by omega⟩)))
  have hP : ∀ K, PRr K → A w4 K = A w K := fun K c => by funext i; show (w4.2.2.1 K i).toInt = _; rw [pr K c]; rfl
  have gd : GDr (some (kd, k, sc)) m4 w4 p (nb j) (Hs j) (Os j) := by
    refine Or.inr ⟨kd, k, sc, rfl, fl, W, O0, X, eO, ⟨?_, hf, ?_, ?_⟩, ⟨?_, ?_, ?_, ?_, ?_⟩, TRr_w tr (mq 8) (by rw [m2]) (by rw [w4J]) (fun l hl => w4F l (by omega) (by omega)) (by rw [m2]) pr (by rw [w4J]), ?_⟩
    · rw [← hm3, wi_ne (by omega), wi_ne (by omega), wi_sm fr.1 fr.2]
    · rw [← hm3, wi_ne (by omega), wi_ne (by omega), wi_ne (by omega), wi_sm xr.1 xr.2]
    · rw [← hm3, wi_ne (by omega), wi_sm (by omega) (by omega)]
    · rw [← hw3]
      show F (wi (wi w 152 1) 157 ((W : Nat) : Int)) 152 = 1
      rw [wi_ne (by omega), wi_sm (by omega) (by omega)]
    · rw [w4f 153 (by omega) (by omega)]; exact h153
    · rw [w4f 154 (by omega) (by omega)]; exact h154
    · rw [w4f 156 (by omega) (by omega)]; exact h156
    · rw [← hw3]
      show F (wi (wi w 152 1) 157 ((W : Nat) : Int)) 157 = _
      rw [wi_sm (by omega) (by omega)]
    · rw [h23, ROs_eq pr, w4J, hP 45 (by unfold PRr; omega)]; exact zr
  refine c m4 w4 pl4 ⟨fc3, ⟨?_, ?_⟩, by rw [h23, ROs_eq pr, w4J]; exact cr, ⟨(congrArg Int32.toInt (mq 9)).trans r5, ?_⟩, gd, ⟨?_, ?_, (w4f 151 (by omega) (by omega)).trans r10⟩, (w4f 133 (by omega) (by omega)).trans r11, ?_, ?_⟩ gm gw (fun s => SC_ow s (fun l _ => mq l) (by rw [m2]) (fun K h1 h2 => w4R K (by omega)))
  · rw [← hm3, wi_sm (by omega) (by omega)]
  · rw [← hw3, wa_sm nr.1 nr.2]
  · show (w4.2.2.1 109 p).toInt = _
    rw [w4R 109 (by omega)]; exact r6
  · exact (congrArg Int32.toInt (mg 1108 (by omega) (by omega) (by omega) (by omega))).trans r8
  · exact (congrArg Int32.toInt (mg 1109 (by omega) (by omega) (by omega) (by omega))).trans r9
  · rw [mg 1106 (by omega) (by omega) (by omega) (by omega), w4F 165 (by omega) (by omega)]; exact r12
  · rw [mg 1107 (by omega) (by omega) (by omega) (by omega), w4F 164 (by omega) (by omega)]; exact r13
/-- nothing to fit: IF, or no ARGUMENTS -/
theorem fits_no {KK : MS → Int32 → Option (MS × β)} (hkd : F w 153 = 2 ∨ (F w 153 = 0 ∧ ∃ k : Nat, F w 154 = ((k : Nat) : Int) ∧ k < 100000 ∧ A w 41 k = 0)) (h : PP Q D (KK w 1)) : PP Q D (bnd (fm_M_fitsPart N w) KK) := by
  unfold fm_M_fitsPart fb_M_fitsPart_0
  rcases hkd with h2 | ⟨h0, k, h154, hk, h41⟩
  · rw [I_F' h2, show decide (I 2 = 2) = true from rfl, br_t]
    exact rb_ck (fun _ => h)
  · rw [I_F' h0, show decide (I 0 = 2) = false from rfl, br_f, show decide (I 0 = 3) = false from rfl, br_f, show decide (I 0 = 1) = false from rfl, br_f]
    refine rb_ck (fun _ => ?_)
    rw [I_F' h154, tnI (n := k) rfl (by omega), I_A' h41]
    unfold fb_M_fitsPart_70
    refine rb_ck (fun _ => ?_)
    rw [lt_e]
    cases N with
    | zero => exact pp_nr
    | succ N =>
      show PP Q D (bnd (fb_M_fitsPart_85 (N + 1) (gg_M_fitsPart (N + 1) N) w _ (I 0 - 1)) KK)
      unfold fb_M_fitsPart_85
      rw [show decide (I 0 - 1 < 0) = true from rfl, br_t]
      exact rb_ck (fun _ => h)
end
