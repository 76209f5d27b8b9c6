set_option maxRecDepth 100000
def TKKc (u : MS) (c : Nat) : Prop := c ≤ 4000 ∧ (A u 6 c = 0 ∨ A u 6 c = 45) ∧ ∀ t, t < c → 1 ≤ A u 6 t ∧ A u 6 t ≤ 44
def PSI (u : MS) (c p n q o s : Nat) : Prop := TKKc u c ∧ (F u 665 = ((p : Nat) : Int) ∧ p ≤ c) ∧ (F u 306 = ((n : Nat) : Int) ∧ n ≤ 2 * p) ∧ F u 449 = (if q < 400 then ((q : Nat) : Int) else 400) ∧ (F u 666 = ((o : Nat) : Int) ∧ o ≤ 25) ∧ (F u 664 = ((s : Nat) : Int) ∧ s ≤ p)
def KPG (u w : MS) : Prop := FR [306, 449, 664, 665, 666, 667] [] [16, 17, 18, 19, 20, 21, 34] [] u w
def OLDc (u w : MS) (n s : Nat) : Prop := (∀ k, k ≤ n → A w 16 k = A u 16 k ∧ A w 17 k = A u 17 k ∧ A w 18 k = A u 18 k ∧ A w 19 k = A u 19 k ∧ A w 20 k = A u 20 k ∧ A w 21 k = A u 21 k) ∧ ∀ i, i < s → A w 34 i = A u 34 i
def NDQ (Q : MS → Nat → Nat → Nat → Nat → Nat → Nat → Nat → Prop) (u : MS) (c p n q o s : Nat) (w : MS) (r : Int32 ⊕ Nat) : Prop := KPG u w ∧ match r with
  | .inr k => k = 3
  | .inl x => ∃ m p2 n2 q2 : Nat, x = I ((m : Nat) : Int) ∧ OLDc u w n s ∧ PSI w c p2 n2 q2 o s ∧ p ≤ p2 ∧ Q w m p p2 n n2 q q2
section
variable {u v w : MS} {N c p n q o s k p2 n2 q2 m a b l lo hi r d : Nat}
theorem KPG.rf : KPG u u := FR.rf
theorem KPG.tr (a : KPG u v) (b : KPG v w) : KPG u w := FR.tr a b
theorem OLDc.rf : OLDc u u n s := ⟨fun _ _ => ⟨rfl, rfl, rfl, rfl, rfl, rfl⟩, fun _ _ => rfl⟩
theorem OLDc.tr (a : OLDc u v n s) (b : OLDc v w n2 s) (h : n ≤ n2) : OLDc u w n s := ⟨fun k hk => by
  obtain ⟨a1, a2, a3, a4, a5, a6⟩ := a.1 k hk
  obtain ⟨b1, b2, b3, b4, b5, b6⟩ := b.1 k (by omega)
  exact ⟨b1.trans a1, b2.trans a2, b3.trans a3, b4.trans a4, b5.trans a5, b6.trans a6⟩, fun i hi => (b.2 i hi).trans (a.2 i hi)⟩
theorem OLDc.row (h : w.2.2.1 = u.2.2.1) : OLDc u w n s := by
  have e : ∀ r k, A w r k = A u r k := fun r k => by show (w.2.2.1 r k).toInt = _; rw [h]; rfl
  exact ⟨fun k _ => ⟨e _ _, e _ _, e _ _, e _ _, e _ _, e _ _⟩, fun i _ => e _ _⟩
theorem KN_old (g : KPG u w) (h : OLDc u w n s) (hb : b ≤ n) : KNc u w a b l := ⟨⟨g.2.2.1 6 (by simp), g.2.2.1 7 (by simp)⟩, fun k _ k2 => by
  obtain ⟨b1, b2, b3, b4, b5, b6⟩ := h.1 k (by omega)
  exact ⟨⟨b1, b2, b3, b4, b5⟩, fun _ => b6⟩⟩
theorem TKK_g (g : KPG u w) (h : TKKc u c) : TKKc w c := by
  have e : ∀ k, A w 6 k = A u 6 k := fun k => by show (w.2.2.1 6 k).toInt = _; rw [g.2.2.1 6 (by simp)]; rfl
  unfold TKKc
  simp only [e]; exact h
theorem KPG.a6 (g : KPG u w) : A w 6 k = A u 6 k := by show (w.2.2.1 6 k).toInt = _; rw [g.2.2.1 6 (by simp)]; rfl
theorem ok_T {α β : Type} {Q : MS → (β ⊕ Nat) → Prop} {x : Option (MS × (α ⊕ Nat))} {f : MS → α → Option (MS × (β ⊕ Nat))} (h : OK (fun w r => match r with
  | .inl a => OK Q (f w a)
  | .inr k => Q w (.inr k)) x) : OK Q (bTm x f) := by
  obtain ⟨w, r, e, h⟩ := h
  rw [e]
  cases r with
  | inl a => exact h
  | inr k => exact ⟨w, .inr k, rfl, h⟩
theorem refuse_e {x : Int32} {y : Option (MS × (Unit ⊕ Nat))} (h : PSI u c p n q o s) (hy : y = hm_Pa_refuse N u x) : ∃ w, y = some (w, .inr 3) ∧ KPG u w := by
  obtain ⟨h1, ⟨h2, h3⟩, -⟩ := h
  rw [hy]
  unfold hm_Pa_refuse hb_Pa_refuse_0
  have := h1.1
  rw [I_F (k := 665), h2, (I_inb (by omega) (by omega)).mpr ⟨by omega, by omega⟩, ck_t]
  generalize hz : x + 16 * _ = z
  refine ⟨wi u 667 z.toInt, ?_, FR.wi FR.rf (by simp)⟩
  show some (upI u 667 z, _) = some (upI u 667 (I z.toInt), _)
  rw [← I_of z]
theorem refuse_T {α : Type} {Q : MS → (α ⊕ Nat) → Prop} {f : MS → Unit → Option (MS × (α ⊕ Nat))} {x : Int32} (h : PSI u c p n q o s) (hf : ∀ w, KPG u w → Q w (.inr 3)) : OK Q (bTm (hm_Pa_refuse N u x) f) := by
  obtain ⟨w, e, g⟩ := refuse_e (N := N) (x := x) h rfl
  rw [e]
  exact ⟨w, .inr 3, rfl, hf w g⟩
theorem look_T {α : Type} {Q : MS → (α ⊕ Nat) → Prop} {f : MS → Int32 → Option (MS × (α ⊕ Nat))} (h : PSI u c p n q o s) (hf : ∀ w, KPG u w → Q w (.inr 3)) (hk : A u 6 p ≠ 45 → OK Q (f u (I (A u 6 p)))) : OK Q (bTm (hm_Pa_look N u) f) := by
  have h' := h
  obtain ⟨h1, ⟨h2, h3⟩, -⟩ := h
  have := h1.1
  unfold hm_Pa_look hb_Pa_look_0 hb_Pa_look_22
  rw [I_F (k := 665), h2, (I_inb (by omega) (by omega)).mpr ⟨by omega, by omega⟩, ck_t, tnI (n := p) rfl (by omega), I_A (k := 6)]
  by_cases z : A u 6 p = 45
  · rw [z, show decide (I 45 = (45 : Int32)) = true from by decide, br_tq]
    obtain ⟨w, e, g⟩ := refuse_e (N := N) (x := 1) h' rfl
    rw [e]
    exact ⟨w, .inr 3, rfl, hf w g⟩
  · have r := A_r u 6 p
    rw [decide_eq_false (show ¬ I (A u 6 p) = (45 : Int32) from fun y => z ((I_eq r.1 r.2 (by decide) (by decide)).mp (show I (A u 6 p) = I 45 from y))), br_fq]
    rw [ck_t]
    exact hk z
theorem PSI_at (h : PSI u c p n q o s) (hk : A u 6 p ≠ 0 ∧ A u 6 p ≠ 45) : p < c ∧ PSI (wi u 665 ((p + 1 : Nat) : Int)) c (p + 1) n q o s := by
  obtain ⟨h1, ⟨h2, h3⟩, ⟨h4, h5⟩, h6, ⟨h7, h8⟩, h9, h10⟩ := h
  have hp : p < c := by
    rcases Nat.lt_or_ge p c with z | z
    · exact z
    · have e : p = c := by omega
      rw [e] at hk
      rcases h1.2.1 with z | z
      · exact absurd z hk.1
      · exact absurd z hk.2
  have hc := h1.1
  have e : ∀ k, k ≠ 665 → F (wi u 665 ((p + 1 : Nat) : Int)) k = F u k := fun k hk => by rw [F_wi (by omega) (by omega), if_neg hk]
  refine ⟨hp, h1, ⟨by rw [F_wi (by omega) (by omega), if_pos rfl], hp⟩, ⟨by rw [e 306 (by decide)]; exact h4, by omega⟩, by rw [e 449 (by decide)]; exact h6, ⟨by rw [e 666 (by decide)]; exact h7, h8⟩, by rw [e 664 (by decide)]; exact h9, by omega⟩
theorem KPG_at {y : Int} : KPG u (wi u 665 y) := FR.wi FR.rf (by simp)
theorem inc_e (h : PSI u c p n q o s) : upI u 665 ((u.1 665) + 1) = wi u 665 ((p + 1 : Nat) : Int) := by rw [I_F (k := 665), h.2.1.1, lit1q, I_add, show ((p : Nat) : Int) + 1 = ((p + 1 : Nat) : Int) by omega]; rfl
theorem need_T {α : Type} {Q : MS → (α ⊕ Nat) → Prop} {f : MS → Int32 → Option (MS × (α ⊕ Nat))} {K : Int} (h : PSI u c p n q o s) (hK : 1 ≤ K ∧ K ≤ 44) (hf : ∀ w, KPG u w → Q w (.inr 3)) (hk : A u 6 p = K → PSI (wi u 665 ((p + 1 : Nat) : Int)) c (p + 1) n q o s → OK Q (f (wi u 665 ((p + 1 : Nat) : Int)) (I ((p : Nat) : Int)))) : OK Q (bTm (hm_Pa_need N u (I K)) f) := by
  unfold hm_Pa_need hb_Pa_need_0 hb_Pa_need_13
  refine ok_T (look_T h (fun w g => hf w g) (fun h45 => ?_))
  have r := A_r u 6 p
  refine k_eq r ⟨by omega, by omega⟩ (fun e => ?_) (fun _ => refuse_T h (fun w g => hf w g))
  obtain ⟨hp, h2⟩ := PSI_at h ⟨by omega, by omega⟩
  refine ok_lt.mpr (ok_some.mpr ?_)
  rw [inc_e h]
  have hc := h.1.1
  have e2 : (wi u 665 ((p + 1 : Nat) : Int)).1 665 - 1 = I ((p : Nat) : Int) := by rw [I_F (k := 665), h2.2.1.1, lit1q, I_sub, show ((p + 1 : Nat) : Int) - 1 = ((p : Nat) : Int) by omega]
  show OK Q (f _ _)
  rw [e2]
  exact hk e h2
theorem opens_T {α : Type} {Q : MS → (α ⊕ Nat) → Prop} {f : MS → Unit → Option (MS × (α ⊕ Nat))} {x : Int32} (h : PSI u c p n q o s) (hf : ∀ w, KPG u w → Q w (.inr 3)) (hk : x ≠ 0 → o < 25 → PSI (wi u 666 ((o + 1 : Nat) : Int)) c p n q (o + 1) s → OK Q (f (wi u 666 ((o + 1 : Nat) : Int)) ())) : OK Q (bTm (hm_Pa_opens N u x) f) := by
  unfold hm_Pa_opens hb_Pa_opens_0 hb_Pa_opens_9 hb_Pa_opens_23
  refine ok_T (ok_br.mpr ⟨fun _ => refuse_T h (fun w g => hf w g), fun hx => ?_⟩)
  obtain ⟨h1, h2, h3, h6, ⟨h7, h8⟩, h9, h10⟩ := h
  rw [I_F (k := 666), h7, show (25 : Int32) = I 25 from rfl]
  refine k_lt ⟨by omega, by omega⟩ ⟨by decide, by decide⟩ (fun h25 => ok_lt.mpr (ok_some.mpr ?_)) (fun _ => refuse_T (p := p) (n := n) (q := q) (o := o) (s := s) ⟨h1, h2, h3, h6, ⟨h7, h8⟩, h9, h10⟩ (fun w g => hf w g))
  have e : ∀ k, k ≠ 666 → F (wi u 666 ((o + 1 : Nat) : Int)) k = F u k := fun k hk => by rw [F_wi (by omega) (by omega), if_neg hk]
  rw [lit1q, I_add, show ((o : Nat) : Int) + 1 = ((o + 1 : Nat) : Int) by omega, wi_e]
  refine hk (of_decide_eq_false hx) (by omega) ⟨h1, ⟨by rw [e 665 (by decide)]; exact h2.1, h2.2⟩, ⟨by rw [e 306 (by decide)]; exact h3.1, h3.2⟩, by rw [e 449 (by decide)]; exact h6, ⟨by rw [F_wi (by omega) (by omega), if_pos rfl], by omega⟩, by rw [e 664 (by decide)]; exact h9, h10⟩
theorem KPG_op {y : Int} : KPG u (wi u 666 y) := FR.wi FR.rf (by simp)
theorem close_e (h : PSI u c p n q (o + 1) s) : upI u 666 ((u.1 666) - 1) = wi u 666 ((o : Nat) : Int) ∧ PSI (wi u 666 ((o : Nat) : Int)) c p n q o s := by
  obtain ⟨h1, h2, h3, h6, ⟨h7, h8⟩, h9, h10⟩ := h
  have e : ∀ k, k ≠ 666 → F (wi u 666 ((o : Nat) : Int)) k = F u k := fun k hk => by rw [F_wi (by omega) (by omega), if_neg hk]
  refine ⟨by rw [I_F (k := 666), h7, lit1q, I_sub, show ((o + 1 : Nat) : Int) - 1 = ((o : Nat) : Int) by omega]; rfl, h1, ⟨by rw [e 665 (by decide)]; exact h2.1, h2.2⟩, ⟨by rw [e 306 (by decide)]; exact h3.1, h3.2⟩, by rw [e 449 (by decide)]; exact h6, ⟨by rw [F_wi (by omega) (by omega), if_pos rfl], by omega⟩, by rw [e 664 (by decide)]; exact h9, h10⟩
theorem add_ok2 {x1 x2 x3 x4 x5 : Int} (h4 : F u 306 = ((n : Nat) : Int)) (hn2 : n ≤ 8000) (r1 : RG x1) (r2 : RG x2) (r3 : RG x3) (r4 : RG x4) (r5 : RG x5) : ∃ w, hm_Tr_add N u (I x1) (I x2) (I x3) (I x4) (I x5) = some (w, I ((n + 1 : Nat) : Int)) ∧ KPG u w ∧ OLDc u w n s ∧ (∃ z : MS, w.1 = z.1 ∧ z = wi u 306 ((n + 1 : Nat) : Int)) ∧ (A w 16 (n + 1) = x1 ∧ A w 17 (n + 1) = x2 ∧ A w 18 (n + 1) = x3 ∧ A w 19 (n + 1) = x4 ∧ A w 20 (n + 1) = x5 ∧ A w 21 (n + 1) = 0) := by
  unfold hm_Tr_add hb_Tr_add_0
  rw [I_F (k := 306), h4, lit1q, I_add, show (8016 : Int32) = I 8016 from rfl, decL (by omega) (by omega) (by decide) (by decide), decide_eq_true (by omega), br_tq, show ((n : Nat) : Int) + 1 = ((n + 1 : Nat) : Int) by omega, wi_e]
  have e0 : (wi u 306 ((n + 1 : Nat) : Int)).1 306 = I ((n + 1 : Nat) : Int) := by rw [I_F (k := 306), F_wi (by omega) (by omega), if_pos rfl]
  have f0 : KPG u (wi u 306 ((n + 1 : Nat) : Int)) := FR.wi FR.rf (by simp)
  have r0 : (wi u 306 ((n + 1 : Nat) : Int)).2.2.1 = u.2.2.1 := rfl
  generalize hW : wi u 306 ((n + 1 : Nat) : Int) = W at e0 f0 r0 ⊢
  have i1 : inb (I ((n + 1 : Nat) : Int)) 8016 = true := (I_inb (by omega) (by omega)).mpr ⟨by omega, by omega⟩
  have st : ∀ (w : MS) (r : Nat) (x : Int) (f : MS → Option (MS × Int32)), w.1 306 = I ((n + 1 : Nat) : Int) → ck (inb (w.1 306) 8016) (lt (upA w r (upd (w.2.2.1 r) (w.1 306).toNatClampNeg (I x))) f) = f (wa w r (n + 1) x) := fun w r x f e => by
    rw [e, i1, ck_t, lt_e, tnI (n := n + 1) rfl (by omega), wa_e]
  have e1 : (wa W 16 (n + 1) x1).1 306 = I ((n + 1 : Nat) : Int) := e0
  have e2 : (wa (wa W 16 (n + 1) x1) 17 (n + 1) x2).1 306 = I ((n + 1 : Nat) : Int) := e0
  have e3 : (wa (wa (wa W 16 (n + 1) x1) 17 (n + 1) x2) 18 (n + 1) x3).1 306 = I ((n + 1 : Nat) : Int) := e0
  have e4 : (wa (wa (wa (wa W 16 (n + 1) x1) 17 (n + 1) x2) 18 (n + 1) x3) 19 (n + 1) x4).1 306 = I ((n + 1 : Nat) : Int) := e0
  have e5 : (wa (wa (wa (wa (wa W 16 (n + 1) x1) 17 (n + 1) x2) 18 (n + 1) x3) 19 (n + 1) x4) 20 (n + 1) x5).1 306 = I ((n + 1 : Nat) : Int) := e0
  have e6 : (wa (wa (wa (wa (wa (wa W 16 (n + 1) x1) 17 (n + 1) x2) 18 (n + 1) x3) 19 (n + 1) x4) 20 (n + 1) x5) 21 (n + 1) 0).1 306 = I ((n + 1 : Nat) : Int) := e0
  rw [lt_e, st _ _ _ _ e0, st _ _ _ _ e1, st _ _ _ _ e2, st _ _ _ _ e3, st _ _ _ _ e4, lit0q, st _ _ _ _ e5, e6]
  have eA : ∀ r k, A W r k = A u r k := fun r k => by show (W.2.2.1 r k).toInt = _; rw [r0]; rfl
  refine ⟨_, rfl, FR.wa (FR.wa (FR.wa (FR.wa (FR.wa (FR.wa f0 (by simp)) (by simp)) (by simp)) (by simp)) (by simp)) (by simp), ⟨fun k hk => ?_, fun i _ => ?_⟩, ⟨W, rfl, rfl⟩, ?_⟩
  · refine ⟨?_, ?_, ?_, ?_, ?_, ?_⟩ <;> rw [wa_ne (by omega), wa_ne (by omega), wa_ne (by omega), wa_ne (by omega), wa_ne (by omega), wa_ne (by omega), eA]
  · rw [wa_rne (by decide), wa_rne (by decide), wa_rne (by decide), wa_rne (by decide), wa_rne (by decide), wa_rne (by decide), eA]
  · refine ⟨?_, ?_, ?_, ?_, ?_, ?_⟩
    · rw [wa_rne (by decide), wa_rne (by decide), wa_rne (by decide), wa_rne (by decide), wa_rne (by decide), wa_eq r1]
    · rw [wa_rne (by decide), wa_rne (by decide), wa_rne (by decide), wa_rne (by decide), wa_eq r2]
    · rw [wa_rne (by decide), wa_rne (by decide), wa_rne (by decide), wa_eq r3]
    · rw [wa_rne (by decide), wa_rne (by decide), wa_eq r4]
    · rw [wa_rne (by decide), wa_eq r5]
    · rw [wa_eq ⟨by decide, by decide⟩]
theorem add_ok {x1 x2 x3 x4 x5 : Int} (h : PSI u c p n q o s) (hn : n + 1 ≤ 2 * p ∨ n ≤ 8000) (r1 : RG x1) (r2 : RG x2) (r3 : RG x3) (r4 : RG x4) (r5 : RG x5) : ∃ w, hm_Tr_add N u (I x1) (I x2) (I x3) (I x4) (I x5) = some (w, I ((n + 1 : Nat) : Int)) ∧ KPG u w ∧ OLDc u w n s ∧ (∃ z : MS, w.1 = z.1 ∧ z = wi u 306 ((n + 1 : Nat) : Int)) ∧ (A w 16 (n + 1) = x1 ∧ A w 17 (n + 1) = x2 ∧ A w 18 (n + 1) = x3 ∧ A w 19 (n + 1) = x4 ∧ A w 20 (n + 1) = x5 ∧ A w 21 (n + 1) = 0) := by
  obtain ⟨h1, ⟨h2, h3⟩, ⟨h4, h5⟩, h6⟩ := h
  have hc := h1.1
  exact add_ok2 h4 (by omega) r1 r2 r3 r4 r5
theorem PSI_n (h : PSI u c p n q o s) (e : w.1 = (wi u 306 ((n2 : Nat) : Int)).1) (g : KPG u w) (hn : n2 ≤ 2 * p) (hn2 : n2 ≤ 100000) : PSI w c p n2 q o s := by
  obtain ⟨h1, h2, h3, h6, h7, h9⟩ := h
  have eF : ∀ k, F w k = F (wi u 306 ((n2 : Nat) : Int)) k := fun k => by show (w.1 k).toInt = _; rw [e]; rfl
  have e' : ∀ k, k ≠ 306 → F w k = F u k := fun k hk => by rw [eF, F_wi (by omega) (by omega), if_neg hk]
  exact ⟨TKK_g g h1, ⟨by rw [e' 665 (by decide)]; exact h2.1, h2.2⟩, ⟨by rw [eF, F_wi (by omega) (by omega), if_pos rfl], hn⟩, by rw [e' 449 (by decide)]; exact h6, ⟨by rw [e' 666 (by decide)]; exact h7.1, h7.2⟩, by rw [e' 664 (by decide)]; exact h9.1, h9.2⟩
theorem chain_e {y : Int} (hm : m ≤ 8015) : hm_Pa_chain N u (I ((m : Nat) : Int)) (I y) = some (wa u 21 m y, I y) := by
  unfold hm_Pa_chain hb_Pa_chain_0
  rw [(I_inb (by omega) (by omega)).mpr ⟨by omega, by omega⟩, ck_t, tnI (n := m) rfl (by omega), lt_e, wa_e]
end
