/-! MATCH, here: what is taken back -/
set_option maxRecDepth 100000
/-- taken back: u to x, as it was in w -/
def TKbk (w u x : MS) (L : Nat) : Prop := TBK w u x (L + 1) ∧ (x.1 39 = w.1 39 ∧ x.1 46 = w.1 46 ∧ x.1 56 = w.1 56 ∧ x.1 58 = w.1 58 ∧ x.1 71 = w.1 71) ∧ x.2.2.2 = u.2.2.2
/-- the same names held -/
def HEq2 : SCT → SCT → Prop
  | [], [] => True
  | e :: t, e2 :: t2 => e2.2.1 = e.2.1 ∧ HEq2 t t2
  | _, _ => False
/-- more names held -/
def HPre : SCT → SCT → Prop
  | [], [] => True
  | e :: t, e2 :: t2 => e.2.1 <+: e2.2.1 ∧ HPre t t2
  | _, _ => False
section
variable {α β : Type} {m0 w0 m w m2 w2 m3 w3 v u w1 wS x y : MS} {K nm Nk W W1 W2 : Nat → Nat} {N T D d o b c q r s lo lo0 mid hi i j f f2 n k kk p p2 p3 σ tk xa xb xc M M1 M2 pi pj L : Nat} {Q Q0 Q2 Q3 : Nat → Nat} {sc sc0 sc2 sc3 t t1 t2 : SCT} {e e1 e2 : List Nat × List Nat × Nat} {v1 v2 v3 v4 v5 v6 t0 xx : Int32} {RR : MS → α → MS → β → Prop} {RX : MS → α → MS → Int32 → Prop} {A' : Option (MS × α)} {S : SG_M_behind} {l l2 : List Nat}
theorem SVd_fr (h : SVd w v Q L) (h74 : ∀ j, j < Q 75 + 8 → u.2.2.1 74 j = v.2.2.1 74 j) (h76 : ∀ j, j < Q 77 + 54 → u.2.2.1 76 j = v.2.2.1 76 j) (hL : L ≤ 27) : SVd w u Q L := by
  obtain ⟨h1, ⟨c1, c2, c3, c4⟩, h3, h4, h5, h6, h7⟩ := h
  refine ⟨h1, ⟨by rw [h74 _ (by omega)]; exact c1, by rw [h74 _ (by omega)]; exact c2, by rw [h74 _ (by omega)]; exact c3, fun i hi => ?_⟩, by rw [h74 _ (by omega)]; exact h3, by rw [h74 _ (by omega)]; exact h4, by rw [h74 _ (by omega)]; exact h5, by rw [h74 _ (by omega)]; exact h6, by rw [h74 _ (by omega)]; exact h7⟩
  rw [h76 _ (by omega), h76 _ (by omega)]
  exact c4 i hi
theorem tb_x {F : MS → Unit → Option (MS × β)} (h65 : u.1 65 = I ((L : Nat) : Int)) (hL : L ≤ 26) (h75 : u.1 75 = I ((Q 75 + 8 : Nat) : Int)) (h77 : u.1 77 = I ((Q 77 + 54 : Nat) : Int)) (hs : SVd w u Q (L + 1)) (h : ∀ x, TKbk w u x L → PP RR A' (F x ())) : PP RR A' (bnd (fm_M_takeBack N u) F) := by
  obtain ⟨⟨b1, b2⟩, c1, c3, c4, c5, c6, c7⟩ := hs
  refine r_bnd (fun x z hx => h x ?_)
  have a1 := tb_p (N := N) h65 hL h75 b1 h77 (by omega) c1 x z hx
  obtain ⟨d1, d2, d3, d4, d5⟩ := tb2 (N := N) h75 b1 x z hx
  exact ⟨a1, ⟨d1.trans c3, d2.trans c4, d3.trans c5, d4.trans c6, d5.trans c7⟩, (yv9_fm_M_takeBack (u0 := u) Kv9_rf x z hx).1⟩
theorem RNl_b1 : ∀ {a b : SCT}, RNl w a → RNl u b → HLp a b → (∀ i, i < a.length → x.2.2.1 60 i = w.2.2.1 60 i ∧ x.2.2.1 63 i = w.2.2.1 63 i) → x.2.2.1 59 = u.2.2.1 59 → x.2.2.1 61 = u.2.2.1 61 → x.2.2.1 64 = u.2.2.1 64 → RNl x a
  | [], [], _, _, _, _, _, _, _ => trivial
  | [], _ :: _, _, _, h, _, _, _, _ => h.elim
  | _ :: _, [], _, _, h, _, _, _, _ => h.elim
  | e :: t, e2 :: t2, ha, hb, hl, h1, h2, h3, h4 => by
    have ln := HLp_len hl.2
    obtain ⟨a1, a2, a3, a4, a5⟩ := ha.1
    obtain ⟨b1, b2, b3, b4, b5⟩ := hb.1
    rw [ln] at b2 b4 b5
    obtain ⟨c1, c2⟩ := h1 t.length (by show t.length < t.length + 1; omega)
    obtain ⟨l1, l2, l3⟩ := hl.1
    exact ⟨⟨by rw [c1]; exact a1, fun k y hy => by rw [h2]; exact b2 k y (by rw [l1]; exact hy), by rw [c2]; exact a3, fun k y hy => by rw [h3]; exact b4 k y (pre_get l3 hy), by rw [h4, b5, l2]⟩, RNl_b1 ha.2 hb.2 hl.2 (fun i hi => h1 i (by show i < t.length + 1; omega)) h2 h3 h4⟩
theorem RNl_b2 : ∀ {a b : SCT}, RNl w a → RNl y b → BDs a b → (∀ i, i < a.length → x.2.2.1 60 i = w.2.2.1 60 i ∧ x.2.2.1 63 i = y.2.2.1 63 i) → x.2.2.1 59 = y.2.2.1 59 → x.2.2.1 61 = y.2.2.1 61 → x.2.2.1 64 = y.2.2.1 64 → RNl x b
  | [], [], _, _, _, _, _, _, _ => trivial
  | [], _ :: _, _, _, h, _, _, _, _ => h.elim
  | _ :: _, [], _, _, h, _, _, _, _ => h.elim
  | e :: t, e2 :: t2, ha, hb, hl, h1, h2, h3, h4 => by
    have ln := (BDs_len hl.2).1
    obtain ⟨a1, a2, a3, a4, a5⟩ := ha.1
    obtain ⟨b1, b2, b3, b4, b5⟩ := hb.1
    obtain ⟨c1, c2⟩ := h1 t.length (by show t.length < t.length + 1; omega)
    obtain ⟨l1, l2⟩ := hl.1
    refine ⟨?_, RNl_b2 ha.2 hb.2 hl.2 (fun i hi => h1 i (by show i < t.length + 1; omega)) h2 h3 h4⟩
    rw [ln] at b1 b2 b3 b4 b5 ⊢
    exact ⟨by rw [c1, a1, l1], fun k y hy => by rw [h2]; exact b2 k y hy, by rw [c2]; exact b3, fun k y hy => by rw [h3]; exact b4 k y hy, by rw [h4]; exact b5⟩
theorem HFl_62 : ∀ {sc : SCT}, HFl w sc → H62 w x sc → HFl x sc
  | [], _, _ => trivial
  | e :: t, h, h2 => ⟨fun k y hk => by
    have kl := (List.getElem?_eq_some_iff.mp hk).1
    obtain ⟨i, i1, i2⟩ := h.1 k y hk
    refine ⟨i, ?_, i2⟩
    rw [h2 t.length k (by show t.length < t.length + 1; omega) (by show k < if t.length = t.length then e.2.1.length else hcn t t.length; rw [if_pos rfl]; exact kl)]
    exact i1, HFl_62 h.2 (fun s k hs hk => h2 s k (by show s < t.length + 1; omega) (by show k < if s = t.length then e.2.1.length else hcn t s; rw [if_neg (by omega)]; exact hk))⟩
/-- names of the first reading of the PATTERN: held names stay -/
theorem SOK_b2 (h : SOK (e :: t)) (h1 : SOK (e1 :: t1)) (hp : e.1 <+: e1.1) : SOK ((e.1, e1.2.1, e1.2.2) :: t1) := ⟨⟨h.1.1, h.1.2.1, h1.1.2.2.1, Nat.le_trans hp.length_le h1.1.2.2.2.1, h1.1.2.2.2.2.1, h1.1.2.2.2.2.2.1, h1.1.2.2.2.2.2.2⟩, h1.2⟩
theorem QRR_n (h1 : ∀ k, k ≠ 60 → k ≠ 63 → k ≠ 78 → u.2.2.1 k = v.2.2.1 k) (h2 : u.2.2.2 = v.2.2.2) : QRR Q v u := by
  refine ⟨fun k a1 a2 a3 => h1 k (by omega) (by omega) a3, fun k q a1 _ => ?_, fun k q _ => by rw [h2]⟩
  have gr : k ≠ 60 ∧ k ≠ 63 ∧ k ≠ 78 := ⟨fun z => a1 (by rw [z]; rfl), fun z => a1 (by rw [z]; rfl), fun z => a1 (by rw [z]; rfl)⟩
  rw [h1 k gr.1 gr.2.1 gr.2.2]
/-- the first loop -/
theorem mt_75 (h65 : u.1 65 = I ((L : Nat) : Int)) (hL : L ≤ 26) (h : ∀ (u2 : MS) (M : Nat), u2.1 = u.1 → (∀ k, k ≠ 78 → u2.2.2.1 k = u.2.2.1 k) → u2.2.2.2 = u.2.2.2 → (∀ i, i ≤ L → u2.2.2.1 78 i = u.2.2.1 63 i) → PP RX A' (bnd (fm_M_takeBack N u2) (fun u12 _ => (kg_M_matched N S M).2 u12 v1 v2 0))) : ∀ (M i : Nat) (r : MS), i ≤ L + 1 → r.1 = u.1 → (∀ k, k ≠ 78 → r.2.2.1 k = u.2.2.1 k) → r.2.2.2 = u.2.2.2 → (∀ j, j < i → r.2.2.1 78 j = u.2.2.1 63 j) → PP RX A' ((kg_M_matched N S M).1 r v1 v2 (I (i : Nat)))
  | 0, _, _, _, _, _, _, _ => pp_nr
  | M + 1, i, r, hi, e1, e2, e3, e4 => by
    show PP RX A' (kb_M_matched_75 N S (kg_M_matched N S M) r v1 v2 (I (i : Nat)))
    unfold kb_M_matched_75
    rw [e1, h65, decL (by omega) (by omega) (by omega) (by omega)]
    by_cases z : L < i
    · rw [decide_eq_true (by omega), br_t]
      exact h r M e1 e2 e3 (fun j hj => e4 j (by omega))
    · rw [decide_eq_false (by omega), br_f]
      refine r_ck (fun _ => r_ck (fun _ => r_lt ?_))
      rw [i_nt2 (p := i) (by omega), i_suc]
      refine mt_75 h65 hL h M (i + 1) _ (by omega) e1 (fun k hk => by rw [upA_no hk]; exact e2 k hk) e3 (fun j hj => ?_)
      rw [upA_at]
      by_cases y : j = i
      · rw [y, upd_at, e2 63 (by decide)]
      · rw [upd_no y]; exact e4 j (by omega)
/-- the second -/
theorem mt_111 (h65 : u.1 65 = I ((L : Nat) : Int)) (hL : L ≤ 26) (h : ∀ (u2 : MS) (G : (MS → Int32 → Int32 → Int32 → Option (MS × Int32)) × (MS → Int32 → Int32 → Int32 → Option (MS × Int32))), u2.1 = u.1 → (∀ k, k ≠ 63 → u2.2.2.1 k = u.2.2.1 k) → u2.2.2.2 = u.2.2.2 → (∀ i, i ≤ L → u2.2.2.1 63 i = u.2.2.1 78 i) → PP RX A' (br (decide ((u2.1 73) = 0)) (kb_M_matched_154 N S G u2 v1 v2) (bnd (fm_M_rule N u2 7 v2) (fun u10 _ => kb_M_matched_154 N S G u10 v1 v2)))) : ∀ (M i : Nat) (r : MS), i ≤ L + 1 → r.1 = u.1 → (∀ k, k ≠ 63 → r.2.2.1 k = u.2.2.1 k) → r.2.2.2 = u.2.2.2 → (∀ j, j < i → r.2.2.1 63 j = u.2.2.1 78 j) → PP RX A' ((kg_M_matched N S M).2 r v1 v2 (I (i : Nat)))
  | 0, _, _, _, _, _, _, _ => pp_nr
  | M + 1, i, r, hi, e1, e2, e3, e4 => by
    show PP RX A' (kb_M_matched_111 N S (kg_M_matched N S M) r v1 v2 (I (i : Nat)))
    unfold kb_M_matched_111
    rw [show decide (r.1 65 < I (i : Nat)) = decide (((L : Nat) : Int) < ((i : Nat) : Int)) by rw [e1, h65, decL (by omega) (by omega) (by omega) (by omega)]]
    by_cases z : L < i
    · rw [decide_eq_true (by omega), br_t]
      exact h r _ e1 e2 e3 (fun j hj => e4 j (by omega))
    · rw [decide_eq_false (by omega), br_f]
      refine r_ck (fun _ => r_ck (fun _ => r_lt ?_))
      rw [i_nt2 (p := i) (by omega), i_suc]
      refine mt_111 h65 hL h M (i + 1) _ (by omega) e1 (fun k hk => by rw [upA_no hk]; exact e2 k hk) e3 (fun j hj => ?_)
      rw [upA_at]
      by_cases y : j = i
      · rw [y, upd_at, e2 78 (by decide)]
      · rw [upd_no y]; exact e4 j (by omega)
/-- names held: the order, once more -/
theorem hdc_cg : ∀ (n p : Nat) (l : List Nat), (∀ j, p ≤ j → j < p + n → K j = 3 → (W1 j < L ↔ W2 j < L)) → hdc Nk K W2 L n p l = hdc Nk K W1 L n p l
  | 0, _, _, _ => rfl
  | n + 1, p, l, h => by
    show hdc Nk K W2 L n (p + 1) _ = hdc Nk K W1 L n (p + 1) _
    have e : (if K p = 3 ∧ W2 p < L ∧ Nk p ∉ l ∧ l.length < 60 then l ++ [Nk p] else l) = (if K p = 3 ∧ W1 p < L ∧ Nk p ∉ l ∧ l.length < 60 then l ++ [Nk p] else l) := by
      by_cases z : K p = 3
      · have := h p (Nat.le_refl _) (by omega) z
        by_cases z1 : W1 p < L
        · have z2 := this.mp z1
          by_cases z3 : Nk p ∉ l ∧ l.length < 60
          · rw [if_pos ⟨z, z2, z3⟩, if_pos ⟨z, z1, z3⟩]
          · rw [if_neg (fun q => z3 q.2.2), if_neg (fun q => z3 q.2.2)]
        · rw [if_neg (fun q => z1 (this.mpr q.2.1)), if_neg (fun q => z1 q.2.1)]
      · rw [if_neg (fun q => z q.1), if_neg (fun q => z q.1)]
    rw [e]
    exact hdc_cg n (p + 1) _ (fun j a b c => h j (by omega) (by omega) c)
theorem HDo_cg : ∀ {a b : SCT}, (∀ j, p ≤ j → j < p2 → K j = 3 → ∀ L, L < a.length → (W1 j < L ↔ W2 j < L)) → (∀ j, p ≤ j → j < p2 → K j = 3 → W2 j ≤ 32) → HDo Nk K W1 p p2 a b → HDo Nk K W2 p p2 a b
  | [], [], _, h2, _ => h2
  | [], _ :: _, _, _, h => h.elim
  | _ :: _, [], _, _, h => h.elim
  | e :: t, e2 :: t2, h1, h2, h => by
    have el : (e :: t).length = t.length + 1 := rfl
    refine ⟨?_, HDo_cg (fun j a b c L hL => h1 j a b c L (by omega)) h2 h.2⟩
    rw [h.1]
    exact (hdc_cg (p2 - p) p e.2.1 (fun j a b c => h1 j a (by omega) c t.length (by omega))).symm
theorem hdc_idem : ∀ (n p : Nat) (l l2 : List Nat), hdc Nk K W L n p l <+: l2 → hdc Nk K W L n p l2 = l2
  | 0, _, _, _, _ => rfl
  | n + 1, p, l, l2, h => by
    have h : hdc Nk K W L n (p + 1) (if K p = 3 ∧ W p < L ∧ Nk p ∉ l ∧ l.length < 60 then l ++ [Nk p] else l) <+: l2 := h
    show hdc Nk K W L n (p + 1) (if K p = 3 ∧ W p < L ∧ Nk p ∉ l2 ∧ l2.length < 60 then l2 ++ [Nk p] else l2) = l2
    have e : (if K p = 3 ∧ W p < L ∧ Nk p ∉ l2 ∧ l2.length < 60 then l2 ++ [Nk p] else l2) = l2 := by
      refine if_neg (fun z => ?_)
      have pre : (if K p = 3 ∧ W p < L ∧ Nk p ∉ l ∧ l.length < 60 then l ++ [Nk p] else l) <+: l2 := (hdc_pre n (p + 1) _).trans h
      by_cases y : Nk p ∉ l ∧ l.length < 60
      · rw [if_pos ⟨z.1, z.2.1, y⟩] at pre
        exact z.2.2.1 (pre.subset (List.mem_append_right _ (List.mem_singleton.mpr rfl)))
      · rw [if_neg (fun q => y q.2.2)] at pre
        by_cases y1 : Nk p ∈ l
        · exact z.2.2.1 (pre.subset y1)
        · have := pre.length_le
          exact y ⟨y1, by omega⟩
    rw [e]
    exact hdc_idem n (p + 1) _ l2 h
theorem HPre_of : ∀ {a b : SCT}, HDo Nk K W p p2 a b → HPre a b
  | [], [], _ => trivial
  | [], _ :: _, h => h.elim
  | _ :: _, [], h => h.elim
  | e :: t, e2 :: t2, h => ⟨by rw [h.1]; exact hdc_pre _ _ _, HPre_of h.2⟩
theorem HDo_idem : ∀ {a b c d : SCT}, HDo Nk K W p p2 a b → HPre b c → HDo Nk K W p p2 c d → HEq2 c d
  | [], [], [], [], _, _, _ => trivial
  | [], [], [], _ :: _, _, _, h => h.elim
  | [], [], _ :: _, _, _, h, _ => h.elim
  | [], _ :: _, _, _, h, _, _ => h.elim
  | _ :: _, [], _, _, h, _, _ => h.elim
  | _ :: _, _ :: _, [], _, _, h, _ => h.elim
  | _ :: _, _ :: _, _ :: _, [], _, _, h => h.elim
  | ea :: ta, eb :: tb, ec :: tc, ed :: td, h1, h2, h3 => by
    have l1 := HDo_len h1.2
    have l3 := HDo_len h3.2
    have l2 : tc.length = tb.length := by
      have : ∀ {b c : SCT}, HPre b c → c.length = b.length := fun {b} => by
        induction b with
        | nil => intro c h; cases c with
          | nil => rfl
          | cons _ _ => exact h.elim
        | cons _ t ih => intro c h; cases c with
          | nil => exact h.elim
          | cons _ t2 => exact congrArg Nat.succ (ih h.2)
      exact this h2.2
    refine ⟨?_, HDo_idem h1.2 h2.2 h3.2⟩
    rw [h3.1, show tc.length = ta.length by omega]
    exact hdc_idem (p2 - p) p ea.2.1 ec.2.1 (by rw [← h1.1]; exact h2.1)
theorem HDo_eq : ∀ {a c d : SCT}, HDo Nk K W p p2 a c → HEq2 c d → HDo Nk K W p p2 a d
  | [], [], [], h, _ => h
  | [], [], _ :: _, _, h => h.elim
  | [], _ :: _, _, h, _ => h.elim
  | _ :: _, [], _, h, _ => h.elim
  | _ :: _, _ :: _, [], _, h => h.elim
  | ea :: ta, ec :: tc, ed :: td, h, k => ⟨by rw [k.1]; exact h.1, HDo_eq h.2 k.2⟩
theorem WCN_lt (h1 : WCN Nk K nm W1 p p2 sc) (h2 : WCN Nk K nm W2 p p2 sc) : ∀ j, p ≤ j → j < p2 → K j = 3 → ∀ L, L < sc.length → (W1 j < L ↔ W2 j < L) := fun j a b c L hL => by
  obtain ⟨f1, f2⟩ := h1 j a b c
  obtain ⟨g1, g2⟩ := h2 j a b c
  by_cases z : nm (Nk j) = 0 ∨ fnb (Nk j) sc = false
  · have := f2 z
    have := g2 z
    omega
  · have n0 : nm (Nk j) ≠ 0 := fun q => z (Or.inl q)
    have fb : fnb (Nk j) sc = true := by
      cases q : fnb (Nk j) sc with
      | false => exact absurd (Or.inr q) z
      | true => rfl
    rw [f1 n0 fb, g1 n0 fb]
end
