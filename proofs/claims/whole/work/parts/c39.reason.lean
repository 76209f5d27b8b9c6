/-! the text of a REASON is kept, here -/
set_option maxRecDepth 100000
section
variable {α β γ δ : Type} {R : MS → α → MS → β → Prop} {a : Option (MS × α)} {K : MS → δ → Option (MS × β)}
theorem rb_bnd {o : Option (MS × γ)} {f : MS → γ → Option (MS × δ)} (h : PK (fun w r => PP R a (bnd (f w r) K)) o) : PP R a (bnd (bnd o f) K) := by
  cases o with
  | none => exact pp_nr
  | some x => exact h x.1 x.2 rfl
theorem rb_br {c : Bool} {p q : Option (MS × δ)} (h1 : c = true → PP R a (bnd p K)) (h2 : c = false → PP R a (bnd q K)) : PP R a (bnd (br c p q) K) := by
  cases c with
  | true => exact h1 rfl
  | false => exact h2 rfl
theorem rb_ck {c : Bool} {p : Option (MS × δ)} (h : c = true → PP R a (bnd p K)) : PP R a (bnd (ck c p) K) := by
  cases c with
  | true => exact h rfl
  | false => exact pp_nr
theorem rb_bnd_so {u : MS} {r : γ} {f : MS → γ → Option (MS × δ)} : bnd (bnd (some (u, r)) f) K = bnd (f u r) K := rfl
theorem rb_lt {c : γ} {f : γ → Option (MS × δ)} (h : PP R a (bnd (f c) K)) : PP R a (bnd (lt c f) K) := h
theorem rb_le {i j : Int} {p q : Option (MS × δ)} (hi : RG i) (hj : RG j) (h1 : i ≤ j → PP R a (bnd p K)) (h2 : ¬ i ≤ j → PP R a (bnd q K)) : PP R a (bnd (br (decide (I i ≤ I j)) p q) K) := by
  rw [decI hi.1 hi.2 hj.1 hj.2]
  exact rb_br (fun c => h1 (of_decide_eq_true c)) (fun c => h2 (of_decide_eq_false c))
end
theorem nar_by (v : Int32) : vp_nar .byte (byS8 v) = byS8 v := by
  show (((v.toInt8.toInt32).toInt8.toInt32).toInt8.toInt32 : Int32) = (v.toInt8.toInt32).toInt8.toInt32
  simp
/-- a text is kept as far as it goes -/
def TXq (w0 w : MS) (T : List Int32) : Prop := ∃ L, OUr w0 w L ∧ L.length ≤ 7000 ∧ (L = T ∨ (100 ≤ L.length ∧ 100 ≤ T.length ∧ ∀ i, i < 100 → L.getD i 0 = T.getD i 0))
/-- its REASON's text is told, its name is gone -/
def TXt (r : Nat) (T : List Int32) (w w2 : MS) : Prop := FR [144] [] [113, 131, 132, 143] [141] w w2 ∧ (∀ k, w2.2.2.1 132 k = if k = r then I ((min T.length 100 : Nat) : Int) else w.2.2.1 132 k) ∧ (∀ i, i < min T.length 100 → w2.2.2.1 131 (100 * r + i) = byS8 (T.getD i 0)) ∧ (∀ i, ¬ (100 * r ≤ i ∧ i < 100 * r + 100) → w2.2.2.1 131 i = w.2.2.1 131 i) ∧ ∀ k, w2.2.2.1 113 k = if k = r then I (-1) else w.2.2.1 113 k
section
variable {α : Type} {N r o k z : Nat} {w w0 w1 : MS} {T L : List Int32} {wr : Int} {x t : Int64} {Q : MS → α → MS → Unit → Prop} {Am : Option (MS × α)} {K : MS → Unit → Option (MS × Unit)} {h : Nat → Int64}
theorem getD_pre {L X : List Int32} {i : Nat} (hi : i < L.length) : (L ++ X).getD i 0 = L.getD i 0 := by
  rw [List.getD_eq_getElem?_getD, List.getD_eq_getElem?_getD, List.getElem?_append_left hi]
theorem TXq_dn (d : DNr w0 w T) : TXq w0 w T := by
  obtain ⟨L, o, hl, ⟨X, e⟩, c⟩ := d
  refine ⟨L, o, by omega, ?_⟩
  rcases c with c | c
  · exact Or.inl c
  · refine Or.inr ⟨c, by rw [e, List.length_append]; omega, fun i hi => by rw [e, getD_pre (by omega)]⟩
theorem TXq_sg {v : Int32} (d : TXq w0 w T) (hl : ∀ L, OUr w0 w L → L.length ≤ 7000 → L.length ≤ 6500) : PK (fun w2 (_ : Unit) => TXq w0 w2 (T ++ [v])) (fm_M_sign N w v) := by
  obtain ⟨L, o, h1, c⟩ := d
  have h2 := hl L o h1
  refine pk_mo (sign_r (N := N) (v := v) (by omega) o) (fun w2 _ h => ?_)
  refine ⟨L ++ [v], h.1, by rw [List.length_append]; show L.length + 1 ≤ 7000; omega, ?_⟩
  rcases c with c | ⟨c1, c2, c3⟩
  · exact Or.inl (by rw [c])
  · refine Or.inr ⟨by rw [List.length_append]; omega, by rw [List.length_append]; omega, fun i hi => ?_⟩
    rw [getD_pre (by omega), getD_pre (by omega)]
    exact c3 i hi
/-- the kept text goes into its row -/
theorem cpy_lp (hr : r < 24) (hT : ∀ M w2, TXt r T w0 w2 → PP Q Am (bnd ((gg_M_end N M).2.1 w2 (I ((r : Nat) : Int)) (I wr) (I ((o : Nat) : Int)) x) K)) : ∀ (M i : Nat) (w : MS), i ≤ min T.length 100 → FR [144] [] [131, 132, 143] [141] w0 w → (∀ k, w.2.2.1 132 k = if k = r then I ((min T.length 100 : Nat) : Int) else w0.2.2.1 132 k) → (∀ k, k < min T.length 100 → w.2.2.1 143 k = byS8 (T.getD k 0)) → (∀ k, k < i → w.2.2.1 131 (100 * r + k) = byS8 (T.getD k 0)) → (∀ k, ¬ (100 * r ≤ k ∧ k < 100 * r + 100) → w.2.2.1 131 k = w0.2.2.1 131 k) → PP Q Am (bnd ((gg_M_end N M).1 w (I ((r : Nat) : Int)) (I wr) (I ((o : Nat) : Int)) x (I ((i : Nat) : Int))) K) := by
  intro M
  induction M with
  | zero => intro i w _ _ _ _ _ _; exact pp_nr
  | succ M ih =>
    intro i w hi f h132 h143 h131 hot
    show PP Q Am (bnd (fb_M_end_86 N (gg_M_end N M) w (I ((r : Nat) : Int)) (I wr) (I ((o : Nat) : Int)) x (I ((i : Nat) : Int))) K)
    unfold fb_M_end_86
    refine rb_ck (fun _ => ?_)
    rw [tnI (n := r) rfl (by omega), h132 r, if_pos rfl]
    refine rb_le ⟨by omega, by omega⟩ ⟨by omega, by omega⟩ (fun c => ?_) (fun c => ?_)
    · refine rb_ck (fun _ => rb_lt (hT M _ ⟨?_, fun k => h132 k, fun k hk => h131 k (by omega), hot, fun k => ?_⟩))
      · exact ⟨f.1, f.2.1, fun k hk => (if_neg (fun c => hk (by simp [c]))).trans (f.2.2.1 k (by simp at hk ⊢; omega)), f.2.2.2⟩
      · show (if (113 : Nat) = 113 then upd (w.2.2.1 113) r (-1) else w.2.2.1 113) k = _
        rw [if_pos rfl]
        show (if k = r then (-1 : Int32) else w.2.2.1 113 k) = _
        rw [f.2.2.1 113 (by simp)]
        rfl
    · refine rb_ck (fun _ => rb_ck (fun _ => rb_lt ?_))
      have ix : (100 * I ((r : Nat) : Int) + I ((i : Nat) : Int)).toNatClampNeg = 100 * r + i := by
        rw [show (100 : Int32) = I 100 from rfl, I_mul, I_add]
        exact tnI (n := 100 * r + i) (by omega) (by omega)
      rw [ix, tnI (n := i) rfl (by omega), h143 i (by omega), nar_by, show I ((i : Nat) : Int) + 1 = I ((i + 1 : Nat) : Int) from addN]
      have row : ∀ k, (upA w 131 (upd (w.2.2.1 131) (100 * r + i) (byS8 (T.getD i 0)))).2.2.1 131 k = if k = 100 * r + i then byS8 (T.getD i 0) else w.2.2.1 131 k := fun k => by
        show (if (131 : Nat) = 131 then upd (w.2.2.1 131) (100 * r + i) (byS8 (T.getD i 0)) else w.2.2.1 131) k = _
        rw [if_pos rfl]
        rfl
      refine ih (i + 1) _ (by omega) ⟨f.1, f.2.1, fun k hk => (if_neg (fun c => hk (by simp [c]))).trans (f.2.2.1 k hk), f.2.2.2⟩ h132 h143 (fun k hk => ?_) (fun k hk => ?_)
      · rw [row]
        by_cases c2 : k = i
        · subst c2; rw [if_pos rfl]
        · rw [if_neg (by omega)]; exact h131 k (by omega)
      · rw [row, if_neg (by omega)]
        exact hot k hk
theorem e59_r (hr : r < 24) (d : TXq w0 w T) (hT : ∀ M w2, TXt r T w0 w2 → PP Q Am (bnd ((gg_M_end N M).2.1 w2 (I ((r : Nat) : Int)) (I wr) (I ((o : Nat) : Int)) x) K)) {M : Nat} : PP Q Am (bnd (fb_M_end_59 N (gg_M_end N M) w (I ((r : Nat) : Int)) (I wr) (I ((o : Nat) : Int)) x) K) := by
  obtain ⟨L, ⟨f, o2, o3⟩, h1, c⟩ := d
  have lm : min L.length 100 = min T.length 100 := by
    rcases c with c | ⟨c1, c2, -⟩
    · rw [c]
    · omega
  have row : ∀ k, k < min T.length 100 → w.2.2.1 143 k = byS8 (T.getD k 0) := fun k hk => by
    rw [o3 k (by omega)]
    rcases c with c | ⟨c1, c2, c3⟩
    · rw [c]
    · rw [c3 k (by omega)]
  have main : PP Q Am (bnd (fb_M_end_82 N (gg_M_end N M) w (I ((r : Nat) : Int)) (I wr) (I ((o : Nat) : Int)) x 132 (I ((r : Nat) : Int)) (I ((min T.length 100 : Nat) : Int))) K) := by
    unfold fb_M_end_82
    refine rb_ck (fun _ => rb_ck (fun _ => rb_lt ?_))
    rw [tnI (n := r) rfl (by omega), lit0, show (0 : Int) = ((0 : Nat) : Int) from rfl]
    refine cpy_lp hr hT M 0 _ (by omega) ⟨f.1, f.2.1, fun k hk => (if_neg (fun c => hk (by simp [c]))).trans (f.2.2.1 k (by simp at hk ⊢; omega)), f.2.2.2⟩ (fun k => ?_) row (fun k hk => absurd hk (Nat.not_lt_zero _)) (fun k _ => ?_)
    · show (if (132 : Nat) = 132 then upd (w.2.2.1 132) r (I ((min T.length 100 : Nat) : Int)) else w.2.2.1 132) k = _
      rw [if_pos rfl]
      show (if k = r then I ((min T.length 100 : Nat) : Int) else w.2.2.1 132 k) = _
      rw [f.2.2.1 132 (by simp)]
    · show w.2.2.1 131 k = _
      rw [f.2.2.1 131 (by simp)]
  unfold fb_M_end_59
  rw [I_F' o2, show (100 : Int32) = I 100 from rfl]
  refine rb_le ⟨by omega, by omega⟩ ⟨by omega, by omega⟩ (fun y => ?_) (fun y => ?_)
  · rw [show ((L.length : Nat) : Int) = ((min T.length 100 : Nat) : Int) by omega]
    exact main
  · have : ((min T.length 100 : Nat) : Int) = 100 := by omega
    rw [this] at main
    exact main
/-- its REASON is written, with a wrap or without, and kept -/
theorem end_text (hr : r < 24) (ho : o < 25) (hw : wr = 0 ∨ wr = 1 ∨ wr = 2) (hA : ATM w) (h22 : 22 ≤ F w 14) (hat : ∀ a, a = 7 ∨ a = 19 → (ATr w a).length ≤ 50) (y : SZp (hp w o) (LFr (F w 14)) k x z) (hz : z ≤ 1000) (eT : T = if wr = 0 then TXs (hp w o) (ATr w) x else 123 :: (ATr w (if wr = 1 then 7 else 19) ++ 44 :: (TXs (hp w o) (ATr w) x ++ [125])))
    (hT : ∀ M w2, TXt r T w w2 → PP Q Am (bnd ((gg_M_end N M).2.1 w2 (I ((r : Nat) : Int)) (I wr) (I ((o : Nat) : Int)) x) K)) {M : Nat} : PP Q Am (bnd (fb_M_end_0 N (gg_M_end N M) w (I ((r : Nat) : Int)) (I wr) (I ((o : Nat) : Int)) x) K) := by
  have keep : ∀ {w2 : MS} {L : List Int32}, OUr w w2 L → hp w2 = hp w ∧ ATM w2 ∧ F w2 14 = F w 14 ∧ ATr w2 = ATr w := fun {w2 L} o => by
    have f := o.1
    have e14 : F w2 14 = F w 14 := FR.F f (by simp)
    have e13 : ∀ i, A w2 13 i = A w 13 i := fun i => FR.A f (by simp)
    refine ⟨?_, ?_, e14, ?_⟩
    · funext p i
      unfold hp
      rw [f.2.2.2 88 (by simp)]
    · obtain ⟨a1, a2, a3⟩ := hA
      refine ⟨by rw [e14]; exact a1, by rw [e14]; exact a2, fun q hq => ?_⟩
      rw [e14] at hq
      rw [e13, e13]
      exact a3 q hq
    · funext a
      unfold ATr
      rw [f.2.2.1 12 (by simp)]
      congr 1
      funext i
      rw [e13]
  unfold fb_M_end_0
  refine rb_lt ?_
  rw [lit0, wi_e]
  have o0 : OUr w (wi w 144 0) [] := ⟨FR.wi FR.rf (by simp), by rw [F_wi (by omega) (by omega), if_pos rfl]; rfl, fun i hi => by simp at hi⟩
  -- the term itself
  have tm : ∀ (w1 : MS) (L : List Int32), OUr w w1 L → L.length ≤ 100 → PK (fun w2 (_ : Unit) => DNr w w2 (L ++ TXs (hp w o) (ATr w) x)) (fm_M_writeOn N w1 (I ((o : Nat) : Int)) x) := fun w1 L o1 hl => by
    obtain ⟨k1, k2, k3, k4⟩ := keep o1
    have := writeOn_r (N := N) (p := o) (h := hp w o) (m := w1) ho (by rw [k1]) k2 hl o1 (by rw [k3]; exact y) hz
    rw [k4] at this
    exact this
  refine rb_le ⟨by omega, by omega⟩ ⟨by decide, by decide⟩ (fun c => ?_) (fun c => ?_)
  · have w0 : wr = 0 := by omega
    rw [if_pos w0] at eT
    unfold fb_M_end_42
    refine rb_bnd (pk_mo (tm _ [] o0 (by simp)) (fun w2 _ d => ?_))
    rw [List.nil_append, ← eT] at d
    rw [lit0]
    exact rb_le ⟨by omega, by omega⟩ ⟨by decide, by decide⟩ (fun _ => e59_r hr (TXq_dn d) hT) (fun c2 => absurd c c2)
  · rw [if_neg (by omega)] at eT
    refine rb_bnd (pk_mo (sign_r (N := N) (v := 123) (by simp) o0) (fun w1 _ h1 => ?_))
    have o1 : OUr w w1 [123] := h1.1
    have main : ∀ a : Nat, (a = 7 ∨ a = 19) → a = (if wr = 1 then 7 else 19) → PP Q Am (bnd (fb_M_end_30 N (gg_M_end N M) w1 (I ((r : Nat) : Int)) (I wr) (I ((o : Nat) : Int)) x (I ((r : Nat) : Int)) 1 (I ((a : Nat) : Int))) K) := fun a ha ea => by
      obtain ⟨k1, k2, k3, k4⟩ := keep o1
      unfold fb_M_end_30
      rw [lit1, term_e, rb_bnd_so]
      have so1 : so (mk 1 ((a : Nat) : Int)) = 1 := so_mk (by omega) (by omega)
      have va1 : va (mk 1 ((a : Nat) : Int)) = ((a : Nat) : Int) := va_mk (by omega) (by omega)
      have nh : ¬ isH (mk 1 ((a : Nat) : Int)) := nh_mk (by omega)
      have tx : TXs (hp w1 r) (ATr w1) (mk 1 ((a : Nat) : Int)) = ATr w a := by
        rw [TXs_al (by omega) (by omega), alT_1 so1, k4]
        congr 1
        unfold vn
        rw [va1]
        omega
      refine rb_bnd (pk_mo (writeOn_r (N := N) (p := r) (h := hp w1 r) (m := w1) (k := 1) (z := 0) (by omega) rfl k2 (by simp) o1 (Or.inl ⟨nh, ⟨by omega, fun _ => by rw [va1, k3]; omega⟩, rfl⟩) (by omega)) (fun w2 _ d => ?_))
      rw [tx] at d
      have hl := hat a ha
      obtain ⟨L, o2, -, ⟨X, eX⟩, c2⟩ := d
      have eL : L = [123] ++ ATr w a := by
        rcases c2 with c2 | c2
        · exact c2
        · have := congrArg List.length eX
          rw [List.length_append, List.length_append] at this
          have l1 : ([123] : List Int32).length = 1 := rfl
          omega
      subst eL
      have l2 : ([123] ++ ATr w a).length ≤ 51 := by rw [List.length_append]; show 1 + _ ≤ 51; omega
      refine rb_bnd (pk_mo (sign_r (N := N) (v := 44) (by omega) o2) (fun w3 _ h3 => ?_))
      have o3 : OUr w w3 ([123] ++ ATr w a ++ [44]) := h3.1
      unfold fb_M_end_42
      refine rb_bnd (pk_mo (tm w3 _ o3 (by rw [List.length_append]; show _ + 1 ≤ 100; omega)) (fun w4 _ d4 => ?_))
      rw [lit0]
      refine rb_le ⟨by omega, by omega⟩ ⟨by decide, by decide⟩ (fun c2 => absurd c2 c) (fun _ => ?_)
      refine rb_bnd (pk_mo (TXq_sg (N := N) (v := 125) (TXq_dn d4) (fun L9 o9 _ => ?_)) (fun w5 _ d5 => ?_))
      · obtain ⟨L8, o8, l8, -⟩ := d4
        have a1 := o8.2.1
        have a2 := o9.2.1
        omega
      · have : [123] ++ ATr w a ++ [44] ++ TXs (hp w o) (ATr w) x ++ [125] = T := by
          rw [eT, ← ea]
          simp
        rw [this] at d5
        exact e59_r hr d5 hT
    rw [lit1, decE (by omega) (by omega) (by omega) (by omega), ← lit1]
    by_cases c1 : wr = 1
    · rw [decide_eq_true c1]
      exact rb_br (fun _ => main 7 (Or.inl rfl) (by rw [if_pos c1])) (fun z => by cases z)
    · rw [decide_eq_false c1]
      exact rb_br (fun z => by cases z) (fun _ => main 19 (Or.inr rfl) (by rw [if_neg c1]))
end
