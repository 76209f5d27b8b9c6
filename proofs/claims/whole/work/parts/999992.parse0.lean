/-! the reference's parser: its small helpers, as they are -/
set_option maxRecDepth 100000
section PH0
variable {N p : Nat} {w : MS} {s v : Int32}
/-- at the token p stands the sign s, the reserved word s -/
def isS (w : MS) (p : Nat) (s : Int32) : Bool := decide (w.2.2.1 6 p = 6) && decide (w.2.2.1 7 p = s)
def isV (w : MS) (p : Nat) (s : Int32) : Bool := decide (w.2.2.1 6 p = 3) && decide (w.2.2.1 7 p = s)
theorem isM_ok (h : w.1 69 = Int32.ofNat p) (hp : p < 4002) : fm_M_isSign N w s = some (w, b2i (isS w p s)) := by
  unfold fm_M_isSign fb_M_isSign_0 fb_M_isSign_31 fb_M_isSign_32
  rw [h, q_ck (q_inb (by show p < 4002; exact hp) (by decide)), q_ck (q_inb (by show p < 4002; exact hp) (by decide)), q_nat (by omega)]
  unfold isS
  by_cases h1 : w.2.2.1 6 p = 6
  · by_cases h2 : w.2.2.1 7 p = s
    · rw [decide_eq_true h1, decide_eq_true h2]; rfl
    · rw [decide_eq_true h1, decide_eq_false h2]; rfl
  · rw [decide_eq_false h1]; rfl
theorem isV_ok (h : w.1 69 = Int32.ofNat p) (hp : p < 4002) : fm_M_isWord N w s = some (w, b2i (isV w p s)) := by
  unfold fm_M_isWord fb_M_isWord_0 fb_M_isWord_30 fb_M_isWord_31
  rw [h, q_ck (q_inb (by show p < 4002; exact hp) (by decide)), q_ck (q_inb (by show p < 4002; exact hp) (by decide)), q_nat (by omega)]
  unfold isV
  by_cases h1 : w.2.2.1 6 p = 3
  · by_cases h2 : w.2.2.1 7 p = s
    · rw [decide_eq_true h1, decide_eq_true h2]; rfl
    · rw [decide_eq_true h1, decide_eq_false h2]; rfl
  · rw [decide_eq_false h1]; rfl
/-- a fault of the text is noted, if it is the first -/
def wrM (w : MS) (p : Nat) (v : Int32) : MS := if w.1 67 = 0 then upI (upI w 67 (if w.2.2.1 6 p = 7 then 1 else v)) 68 (w.2.2.1 8 p) else w
theorem wr_ok (h : w.1 69 = Int32.ofNat p) (hp : p < 4002) : fm_M_wrong N w v = some (wrM w p v, ()) := by
  unfold fm_M_wrong fb_M_wrong_0 fb_M_wrong_27 fb_M_wrong_43 wrM
  by_cases h0 : w.1 67 = 0
  · have e : ∀ t, inb ((upI w 67 t).1 69) (ln 8) = true := fun t => by
      show inb (w.1 69) 4002 = true
      rw [h]; exact q_inb hp (by decide)
    have n69 : ∀ t, ((upI w 67 t).1 69).toNatClampNeg = p := fun t => by
      show (w.1 69).toNatClampNeg = p
      rw [h]; exact q_nat (by omega)
    have t27 : ∀ t, lt (upI w 67 t) (fun w1 => ck (inb (w1.1 69) (ln 8)) (lt (upI w1 68 (w1.2.2.1 8 (w1.1 69).toNatClampNeg)) (fun w2 => some (w2, ())))) = some (upI (upI w 67 t) 68 (w.2.2.1 8 p), ()) := fun t => by
      rw [q_ls, q_ck (e t), q_ls, n69 t]
      rfl
    rw [decide_eq_true h0, q_b1, if_pos h0, t27, t27, h, q_ck (q_inb (by show p < 4002; exact hp) (by decide)), q_nat (by omega)]
    by_cases h7 : w.2.2.1 6 p = 7
    · rw [decide_eq_true h7, q_b1, if_pos h7]
    · rw [decide_eq_false h7, q_b0, if_neg h7]
  · rw [decide_eq_false h0, q_b0, if_neg h0]
theorem wr_p : (wrM w p v).1 69 = w.1 69 := by unfold wrM; split <;> rfl
theorem wr_f (h1 : v ≠ 0) : (wrM w p v).1 67 ≠ 0 := by
  unfold wrM
  by_cases h : w.1 67 = 0
  · rw [if_pos h]
    show (if w.2.2.1 6 p = 7 then (1 : Int32) else v) ≠ 0
    split
    · decide
    · exact h1
  · rw [if_neg h]; exact h
theorem wr_id (h : w.1 67 ≠ 0) : wrM w p v = w := if_neg h
def I678 (k : Nat) : Prop := k = 67 ∨ k = 68
theorem wr_fr {A : Nat → Prop} : FrM I678 A w (wrM w p v) := by
  unfold wrM
  split
  · exact (FrM.iI (Or.inl rfl)).tr (FrM.iI (Or.inr rfl))
  · exact FrM.rf
theorem tkS_ok (h : w.1 69 = Int32.ofNat p) (hp : p < 4002) : fm_M_takeSign N w s = some (if w.1 67 = 0 ∧ isS w p s = true then (upI w 69 (Int32.ofNat (p + 1)), 1) else (w, 0)) := by
  unfold fm_M_takeSign fb_M_takeSign_0 fb_M_takeSign_15
  by_cases h0 : w.1 67 = 0
  · rw [decide_eq_true h0, q_b1, isM_ok h hp, q_bn, b2i_0]
    cases hs : isS w p s with
    | true =>
      rw [if_pos ⟨h0, rfl⟩, h, q_suc]; rfl
    | false =>
      rw [if_neg (fun z => by cases z.2)]; rfl
  · rw [decide_eq_false h0, q_b0, if_neg (fun z => h0 z.1)]; rfl
theorem tkW_ok (h : w.1 69 = Int32.ofNat p) (hp : p < 4002) : fm_M_takeWord N w s = some (if w.1 67 = 0 ∧ isV w p s = true then (upI w 69 (Int32.ofNat (p + 1)), 1) else (w, 0)) := by
  unfold fm_M_takeWord fb_M_takeWord_0 fb_M_takeWord_15
  by_cases h0 : w.1 67 = 0
  · rw [decide_eq_true h0, q_b1, isV_ok h hp, q_bn, b2i_0]
    cases hs : isV w p s with
    | true =>
      rw [if_pos ⟨h0, rfl⟩, h, q_suc]; rfl
    | false =>
      rw [if_neg (fun z => by cases z.2)]; rfl
  · rw [decide_eq_false h0, q_b0, if_neg (fun z => h0 z.1)]; rfl
theorem ndS_ok (h : w.1 69 = Int32.ofNat p) (hp : p < 4002) : fm_M_needSign N w s = some (if w.1 67 = 0 ∧ isS w p s = true then upI w 69 (Int32.ofNat (p + 1)) else wrM w p 2, ()) := by
  unfold fm_M_needSign fb_M_needSign_0 fb_M_needSign_13
  rw [tkS_ok h hp]
  by_cases hc : w.1 67 = 0 ∧ isS w p s = true
  · rw [if_pos hc, if_pos hc]; rfl
  · rw [if_neg hc, if_neg hc, q_bn]
    show br true _ _ = _
    rw [q_b1, wr_ok h hp]; rfl
theorem ndW_ok (h : w.1 69 = Int32.ofNat p) (hp : p < 4002) : fm_M_needWord N w s = some (if w.1 67 = 0 ∧ isV w p s = true then upI w 69 (Int32.ofNat (p + 1)) else wrM w p 2, ()) := by
  unfold fm_M_needWord fb_M_needWord_0 fb_M_needWord_13
  rw [tkW_ok h hp]
  by_cases hc : w.1 67 = 0 ∧ isV w p s = true
  · rw [if_pos hc, if_pos hc]; rfl
  · rw [if_neg hc, if_neg hc, q_bn]
    show br true _ _ = _
    rw [q_b1, wr_ok h hp]; rfl
theorem opn_ok {d : Nat} (h : w.1 69 = Int32.ofNat p) (hp : p < 4002) (hd : w.1 70 = Int32.ofNat d) (hd2 : d < 1000) : fm_M_opens N w = some (upI (if d < 25 then w else wrM w p 3) 70 (Int32.ofNat (d + 1)), ()) := by
  have e70 : (wrM w p 3).1 70 = Int32.ofNat d := by
    rw [(wr_fr (A := fun _ => False)).1 70 (by unfold I678; decide)]; exact hd
  unfold fm_M_opens fb_M_opens_0 fb_M_opens_14
  by_cases h25 : d < 25
  · have z : Int32.ofNat d < 25 := (q_lt (a := d) (b := 25) (by omega) (by decide)).mpr h25
    rw [hd, decide_eq_true z, q_b1, q_ls, if_pos h25, q_suc]
  · have z : ¬ w.1 70 < 25 := fun z => h25 ((q_lt (a := d) (b := 25) (by omega) (by decide)).mp (by rw [← hd]; exact z))
    rw [decide_eq_false z, q_b0, wr_ok h hp, q_bn, q_ls, e70, if_neg h25, q_suc]
/-- a rule that is not kept: that of the first token, of one token the least -/
def ruM (w : MS) (v t : Int32) : MS := if w.1 72 = 0 ∨ t < w.1 71 ∨ (t = w.1 71 ∧ v < w.1 72) then upI (upI w 72 v) 71 t else w
theorem ru_ok {t : Int32} : fm_M_rule N w v t = some (ruM w v t, ()) := by
  unfold fm_M_rule fb_M_rule_0 fb_M_rule_31 fb_M_rule_41 ruM
  by_cases h1 : w.1 72 = 0
  · rw [decide_eq_true h1, q_b1, if_pos (Or.inl h1)]; rfl
  · rw [decide_eq_false h1, q_b0]
    by_cases h2 : t < w.1 71
    · rw [decide_eq_true h2, q_b1, if_pos (Or.inr (Or.inl h2))]; rfl
    · rw [decide_eq_false h2, q_b0]
      by_cases h3 : t = w.1 71
      · rw [decide_eq_true h3, q_b1]
        by_cases h4 : v < w.1 72
        · rw [decide_eq_false (Int32.not_le.mpr h4), q_b0, if_pos (Or.inr (Or.inr ⟨h3, h4⟩))]; rfl
        · rw [decide_eq_true (Int32.not_lt.mp h4), q_b1, if_neg (fun z => by rcases z with z | z | z; exact h1 z; exact h2 z; exact h4 z.2)]
      · rw [decide_eq_false h3, q_b0, if_neg (fun z => by rcases z with z | z | z; exact h1 z; exact h2 z; exact h3 z.1)]
def I712 (k : Nat) : Prop := k = 71 ∨ k = 72
theorem ru_fr {A : Nat → Prop} {t : Int32} : FrM I712 A w (ruM w v t) := by
  unfold ruM
  split
  · exact (FrM.iI (Or.inr rfl)).tr (FrM.iI (Or.inl rfl))
  · exact FrM.rf
/-- one node more -/
def nwN (w : MS) (n : Nat) (k t : Int32) : MS := upI (upA (upA (upA (upA (upA (upA (upA (upA w 23 (upd (w.2.2.1 23) n (nrB (k.toInt8.toInt32)))) 24 (upd (w.2.2.1 24) n (vp_nar .short (t.toInt16.toInt32)))) 25 (upd (w.2.2.1 25) n (-1))) 26 (upd (w.2.2.1 26) n (-1))) 27 (upd (w.2.2.1 27) n (-1))) 28 (upd (w.2.2.1 28) n (-1))) 29 (upd (w.2.2.1 29) n (-1))) 30 (upd (w.2.2.1 30) n (vp_nar .boolean 0))) 32 (Int32.ofNat (n + 1))
def AN (k : Nat) : Prop := 23 ≤ k ∧ k ≤ 30
theorem nwN_fr {n : Nat} {k t : Int32} : FrM (fun j => j = 32) AN w (nwN w n k t) := ((((((((FrM.iA (by unfold AN; decide)).tr (FrM.iA (by unfold AN; decide))).tr (FrM.iA (by unfold AN; decide))).tr (FrM.iA (by unfold AN; decide))).tr (FrM.iA (by unfold AN; decide))).tr (FrM.iA (by unfold AN; decide))).tr (FrM.iA (by unfold AN; decide))).tr (FrM.iA (by unfold AN; decide))).tr (FrM.iI rfl)
theorem nwN_ok {n : Nat} {k t : Int32} (h : w.1 32 = Int32.ofNat n) (hn : n < 16000) : fm_M_node N w k t = some (nwN w n k t, Int32.ofNat n) := by
  have e : inb (w.1 32) 16000 = true := by rw [h]; exact q_inb hn (by decide)
  have en : (w.1 32).toNatClampNeg = n := by rw [h]; exact q_nat (by omega)
  unfold fm_M_node fb_M_node_0
  refine Eq.trans (q_ck e) ?_
  rw [q_ls]
  refine Eq.trans (q_ck e) ?_
  rw [q_ls]
  refine Eq.trans (q_ck e) ?_
  rw [q_ls]
  refine Eq.trans (q_ck e) ?_
  rw [q_ls]
  refine Eq.trans (q_ck e) ?_
  rw [q_ls]
  refine Eq.trans (q_ck e) ?_
  rw [q_ls]
  refine Eq.trans (q_ck e) ?_
  rw [q_ls]
  refine Eq.trans (q_ck e) ?_
  rw [q_ls, q_ls]
  show some (upI (upA (upA (upA (upA (upA (upA (upA (upA w 23 (upd (w.2.2.1 23) (w.1 32).toNatClampNeg _)) 24 (upd (w.2.2.1 24) (w.1 32).toNatClampNeg _)) 25 (upd (w.2.2.1 25) (w.1 32).toNatClampNeg (-1))) 26 (upd (w.2.2.1 26) (w.1 32).toNatClampNeg (-1))) 27 (upd (w.2.2.1 27) (w.1 32).toNatClampNeg (-1))) 28 (upd (w.2.2.1 28) (w.1 32).toNatClampNeg (-1))) 29 (upd (w.2.2.1 29) (w.1 32).toNatClampNeg (-1))) 30 (upd (w.2.2.1 30) (w.1 32).toNatClampNeg _)) 32 (w.1 32 + 1), w.1 32 + 1 - 1) = _
  rw [en, h, q_suc, show (1 : Int32) = Int32.ofNat 1 from rfl, q_sub (by omega), show n + 1 - 1 = n from by omega]
  rfl
end PH0
