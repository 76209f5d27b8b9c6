/-! patterns: the reference's parser goes as the grammar says -/
set_option maxRecDepth 100000
theorem bP_k : ∀ k, k < 46 → bP k = true → k = 1 ∨ k = 2 ∨ k = 3 ∨ k = 4 ∨ k = 20 ∨ k = 22 ∨ k = 24 ∨ k = 34 := by decide +kernel
section PTT
variable {N p d np s T : Nat} {w : MS} {K : Nat → Nat} {v : Int32}
/-- what follows opens() in patternAt -/
def bdy (N : Nat) (S : SG_M_rowPattern) (v1 v2 : Int32) (u8 : MS) : Option (MS × Int32) := ck (inb (u8.1 69) (ln 6)) (br (decide ((u8.2.2.1 6 (u8.1 69).toNatClampNeg) = 2)) (bnd (fm_M_namePattern N u8 v1) (fun u20 r20 => fb_M_patternAt_388 N S () u20 (r20))) (br (decide (v2 = 0)) (ck (inb (u8.1 69) (ln 6)) (br (decide ((u8.2.2.1 6 (u8.1 69).toNatClampNeg) = 4)) (fb_M_patternAt_160 N S () u8 (v2)) (ck (inb (u8.1 69) (ln 6)) (br (decide ((u8.2.2.1 6 (u8.1 69).toNatClampNeg) = 1)) (bnd (fm_M_pattern N u8 3) (fun u16 r16 => ck (inb (u16.1 69) (ln 7)) (bnd (fm_M_term N u16 1 (u16.2.2.1 7 (u16.1 69).toNatClampNeg)) (fun u17 r17 => ck (inb r16 (ln 34)) (lt (upJ u17 34 (vp_updL (u17.2.2.2 34) r16.toNatClampNeg r17)) (fun w18 => lt (upI w18 69 ((w18.1 69) + 1)) (fun w19 => fb_M_patternAt_388 N S () w19 (r16)))))))) (ck (inb (u8.1 69) (ln 6)) (br (decide ((u8.2.2.1 6 (u8.1 69).toNatClampNeg) = 5)) (bnd (fm_M_pattern N u8 4) (fun u13 r13 => ck (inb (u13.1 69) (ln 7)) (ck (inb r13 (ln 35)) (lt (upA u13 35 (upd (u13.2.2.1 35) r13.toNatClampNeg (u13.2.2.1 7 (u13.1 69).toNatClampNeg))) (fun w14 => lt (upI w14 69 ((w14.1 69) + 1)) (fun w15 => fb_M_patternAt_388 N S () w15 (r13))))))) (bnd (fm_M_takeSign N u8 0) (fun u9 r9 => br (decide (r9 = 0)) (bnd (S.1 u9 v1) (fun u10 r10 => fb_M_patternAt_388 N S () u10 (r10))) (bnd (S.2 u9 v1) (fun u11 r11 => bnd (fm_M_needSign N u11 1) (fun u12 _ => fb_M_patternAt_388 N S () u12 (r11)))))))))))) (fb_M_patternAt_160 N S () u8 (v2))))
theorem p101 {S : SG_M_rowPattern} {v2 : Int32} : fb_M_patternAt_101 N S () w v v2 1 = bnd (fm_M_opens N w) (fun u8 _ => bdy N S v v2 u8) := rfl
section BDY
variable {S : SG_M_rowPattern} {v2 : Int32}
/-- a name, atom, string: one token, whatever the fault was -/
theorem bdy1 (h : PV w K T p (d + 1) np s) (hp : p < T) (hn : np < 5000) (hd : d < 1000) (hk : K p = 2 ∨ K p = 3 ∨ K p = 4) (hv2 : v2 = 0) (hN : 50000 ≤ N) : AL K T p d np s w (p + 1) (bdy N S v v2 w) := by
  have t4 := h.tv.t4
  have ck6 : inb (w.1 69) (ln 6) = true := by rw [h.ps]; exact q_inb (by show p < 4002; omega) (by decide)
  have en : (w.1 69).toNatClampNeg = p := by rw [h.ps]; exact q_nat (by omega)
  have dd : ∀ c, c ≠ K p → decide (K p = c) = false := fun c hc => decide_eq_false (fun z => hc z.symm)
  unfold bdy
  rw [q_ck ck6, en, h.tv.so2 (by omega)]
  rcases hk with hk | hk | hk
  · rw [dd 3 (by omega), q_b0, hv2, show decide ((0 : Int32) = 0) = true from rfl, q_b1, q_ck ck6, h.tv.so4 (by omega), dd 1 (by omega), q_b0, q_ck ck6, h.tv.so1 (by omega), decide_eq_true hk, q_b1]
    obtain ⟨w1, a1, a2, a3, a4, a5⟩ := h.pat (N := N) (v := 3) hn
    have ck7 : inb (w1.1 69) (ln 7) = true := by rw [a3.ps]; exact q_inb (by show p < 4002; omega) (by decide)
    rw [a1, q_bn, q_ck ck7]
    obtain ⟨w2, b1, b2, b3, b4, b5⟩ := a239 (N := N) (S := S) (d0 := np) (t2 := 1) (t3 := w1.2.2.1 7 (w1.1 69).toNatClampNeg) a3 hn hd
    refine ⟨w2, ?_, a2.tr b2, b3, b4.trans a4, b5.trans a5⟩
    rw [← b1]
    unfold fb_M_patternAt_239 fm_M_term fb_M_term_0
    rw [q_bn, q_bn, q_ck (show isK 34 5 = true from by decide)]
  · rw [decide_eq_true hk, q_b1]
    obtain ⟨w1, a1, a2, a3, a4, a5⟩ := nmP_ok (N := N) (v := v) h hp hk hn hN
    obtain ⟨b1, b2⟩ := a388 (N := N) (S := S) (r := Int32.ofNat np) a3 hd
    rw [a1, q_bn, b1]
    exact ⟨_, rfl, a2.tr i70, b2, a4, a5⟩
  · rw [dd 3 (by omega), q_b0, hv2, show decide ((0 : Int32) = 0) = true from rfl, q_b1, q_ck ck6, h.tv.so4 (by omega), dd 1 (by omega), q_b0, q_ck ck6, h.tv.so1 (by omega), dd 2 (by omega), q_b0, q_ck ck6, h.tv.so5 (by omega), decide_eq_true hk, q_b1]
    obtain ⟨w1, a1, a2, a3, a4, a5⟩ := h.pat (N := N) (v := 4) hn
    have ck7 : inb (w1.1 69) (ln 7) = true := by rw [a3.ps]; exact q_inb (by show p < 4002; omega) (by decide)
    rw [a1, q_bn, q_ck ck7, q_ck (q_inb (by show np < 5000; exact hn) (by decide)), q_ls, q_ls]
    have h2 : PV (upA w1 35 (upd (w1.2.2.1 35) (Int32.ofNat np).toNatClampNeg (w1.2.2.1 7 (w1.1 69).toNatClampNeg))) K T p (d + 1) (np + 1) s := a3.frA (Or.inr (Or.inl rfl))
    have f2 : FrP IP APt w (upA w1 35 (upd (w1.2.2.1 35) (Int32.ofNat np).toNatClampNeg (w1.2.2.1 7 (w1.1 69).toNatClampNeg))) := a2.tr (iA5 (Or.inr (Or.inl rfl)))
    have e67 : (upA w1 35 (upd (w1.2.2.1 35) (Int32.ofNat np).toNatClampNeg (w1.2.2.1 7 (w1.1 69).toNatClampNeg))).1 67 = w.1 67 := a4
    have e68 : (upA w1 35 (upd (w1.2.2.1 35) (Int32.ofNat np).toNatClampNeg (w1.2.2.1 7 (w1.1 69).toNatClampNeg))).1 68 = w.1 68 := a5
    generalize upA w1 35 (upd (w1.2.2.1 35) (Int32.ofNat np).toNatClampNeg (w1.2.2.1 7 (w1.1 69).toNatClampNeg)) = w2 at h2 f2 e67 e68
    rw [h2.ps, q_suc]
    obtain ⟨b1, b2⟩ := a388 (N := N) (S := S) (r := Int32.ofNat np) (h2.pos (x := p + 1) (by omega)) hd
    rw [b1]
    exact ⟨_, rfl, (f2.tr i69).tr i70, b2, e67, e68⟩
/-- a number, or - and a number -/
theorem bdy2 (h : PV w K T p (d + 1) np s) (hp : p < T) (hn : np < 5000) (hd : d < 1000) (hk : K p = 1 ∨ K p = 34) (hv2 : v2 = b2i (decide (K p = 34))) : ∃ w2 q, bdy N S v v2 w = some (w2, Int32.ofNat np) ∧ FrP IP APt w w2 ∧ PV w2 K T q d (np + 1) s ∧ p < q ∧ q ≤ T + 1 ∧
    ((w.1 67 ≠ 0 ∧ w2.1 67 = w.1 67 ∧ w2.1 68 = w.1 68) ∨ (w.1 67 = 0 ∧ K p = 1 ∧ q = p + 1 ∧ w2.1 67 = 0) ∨ (w.1 67 = 0 ∧ K p = 34 ∧ K (p + 1) = 1 ∧ q = p + 2 ∧ w2.1 67 = 0) ∨ (w.1 67 = 0 ∧ K p = 34 ∧ K (p + 1) ≠ 1 ∧ w2.1 67 = flt K 2 (p + 1) ∧ w2.1 68 = w.2.2.1 8 (p + 1))) := by
  have t4 := h.tv.t4
  have ck6 : inb (w.1 69) (ln 6) = true := by rw [h.ps]; exact q_inb (by show p < 4002; omega) (by decide)
  have en : (w.1 69).toNatClampNeg = p := by rw [h.ps]; exact q_nat (by omega)
  have e178 : ∀ q v2, q ≤ T → PV (upI w 69 (Int32.ofNat q)) K T q (d + 1) np s → ∃ w2, fb_M_patternAt_178 N S () w v2 (Int32.ofNat q) = some (w2, Int32.ofNat np) ∧ FrP IP APt w w2 ∧ PV w2 K T (q + 1) d (np + 1) s ∧ ((K q = 1 ∧ w2.1 67 = w.1 67 ∧ w2.1 68 = w.1 68) ∨ (K q ≠ 1 ∧ w2.1 67 = (wrM (upI w 69 (Int32.ofNat q)) q 2).1 67 ∧ w2.1 68 = (wrM (upI w 69 (Int32.ofNat q)) q 2).1 68)) := fun q v2 hq hq1 => by
    have ckq : inb ((upI w 69 (Int32.ofNat q)).1 69) (ln 6) = true := by show inb (Int32.ofNat q) 4002 = true; exact q_inb (by omega) (by decide)
    have enq : ((upI w 69 (Int32.ofNat q)).1 69).toNatClampNeg = q := by show (Int32.ofNat q).toNatClampNeg = q; exact q_nat (by omega)
    unfold fb_M_patternAt_178
    rw [q_ls, q_ck ckq, enq, hq1.tv.so4 hq]
    by_cases h1 : K q = 1
    · rw [decide_eq_true h1, q_b1]
      obtain ⟨w2, b1, b2, b3, b4, b5⟩ := a199 (N := N) (S := S) (v2 := v2) hq1 (by omega) hn hd
      exact ⟨w2, b1, i69.tr b2, b3, Or.inl ⟨h1, b4, b5⟩⟩
    · rw [decide_eq_false h1, q_b0, wr_ok hq1.ps (by omega), q_bn]
      obtain ⟨w2, b1, b2, b3, b4, b5⟩ := a199 (N := N) (S := S) (v2 := v2) (hq1.wr (x := q) (v := 2)) (by omega) hn hd
      exact ⟨w2, b1, (i69.tr wr_P).tr b2, b3, Or.inr ⟨h1, b4, b5⟩⟩
  rcases hk with hk | hk
  · obtain ⟨w2, c1, c2, c3, c4⟩ := e178 p 0 (by omega) (h.pos (Nat.le_refl _))
    have c4 := c4.resolve_right (fun z => z.1 hk)
    refine ⟨w2, p + 1, ?_, c2, c3, by omega, by omega, ?_⟩
    · unfold bdy
      have hv0 : v2 = 0 := by rw [hv2, decide_eq_false (show ¬ K p = 34 by omega)]; rfl
      rw [q_ck ck6, en, h.tv.so2 (by omega), decide_eq_false (show ¬ K p = 3 by omega), q_b0, hv0, show decide ((0 : Int32) = 0) = true from rfl, q_b1, q_ck ck6, h.tv.so4 (by omega), decide_eq_true hk, q_b1, ← c1]
      unfold fb_M_patternAt_160
      rw [h.ps, show decide ((0 : Int32) = 0) = true from rfl, q_b1]
    · by_cases z : w.1 67 = 0
      · exact Or.inr (Or.inl ⟨z, hk, rfl, c4.2.1.trans z⟩)
      · exact Or.inl ⟨z, c4.2.1, c4.2.2⟩
  · obtain ⟨w2, c1, c2, c3, c4⟩ := e178 (p + 1) 1 (by omega) (h.pos (by omega))
    refine ⟨w2, p + 2, ?_, c2, c3, by omega, by omega, ?_⟩
    · unfold bdy
      have hv0 : v2 = 1 := by rw [hv2, decide_eq_true hk]; rfl
      rw [q_ck ck6, en, h.tv.so2 (by omega), decide_eq_false (show ¬ K p = 3 by omega), q_b0, hv0, show decide ((1 : Int32) = 0) = false from rfl, q_b0, ← c1]
      unfold fb_M_patternAt_160
      rw [h.ps, q_suc, show decide ((1 : Int32) = 0) = false from rfl, q_b0]
    · by_cases z : w.1 67 = 0
      · rcases c4 with ⟨e1, e2, e3⟩ | ⟨e1, e2, e3⟩
        · exact Or.inr (Or.inr (Or.inl ⟨z, hk, e1, rfl, e2.trans z⟩))
        · have z' : (upI w 69 (Int32.ofNat (p + 1))).1 67 = 0 := z
          obtain ⟨k1, k2⟩ := wr_67 (v := 2) (x := p + 1) z' (h.pos (x := p + 1) (by omega)).tv (by omega)
          exact Or.inr (Or.inr (Or.inr ⟨z, hk, e1, e2.trans k1, e3.trans k2⟩))
      · have z' : (upI w 69 (Int32.ofNat (p + 1))).1 67 ≠ 0 := z
        refine Or.inl ⟨z, ?_, ?_⟩
        · rcases c4 with ⟨e1, e2, e3⟩ | ⟨e1, e2, e3⟩
          · exact e2
          · rw [e2, wr_id z']; rfl
        · rcases c4 with ⟨e1, e2, e3⟩ | ⟨e1, e2, e3⟩
          · exact e3
          · rw [e3, wr_id z']; rfl
/-- ( { [ : what is asked next -/
theorem bdy3 (h : PV w K T p (d + 1) np s) (hp : p < T) (hk : K p = 20 ∨ K p = 22 ∨ K p = 24) (hv2 : v2 = 0) : bdy N S v v2 w = if w.1 67 = 0 ∧ K p = 20 then bnd (S.2 (upI w 69 (Int32.ofNat (p + 1))) v) (fun u11 r11 => bnd (fm_M_needSign N u11 1) (fun u12 _ => fb_M_patternAt_388 N S () u12 r11)) else bnd (S.1 w v) (fun u10 r10 => fb_M_patternAt_388 N S () u10 r10) := by
  have t4 := h.tv.t4
  have ck6 : inb (w.1 69) (ln 6) = true := by rw [h.ps]; exact q_inb (by show p < 4002; omega) (by decide)
  have en : (w.1 69).toNatClampNeg = p := by rw [h.ps]; exact q_nat (by omega)
  have d2 : decide (K p = 3) = false := decide_eq_false (by omega)
  have d4 : decide (K p = 1) = false := decide_eq_false (by omega)
  have d1 : decide (K p = 2) = false := decide_eq_false (by omega)
  have d5 : decide (K p = 4) = false := decide_eq_false (by omega)
  unfold bdy
  rw [q_ck ck6, en, h.tv.so2 (by omega), d2, q_b0, hv2, show decide ((0 : Int32) = 0) = true from rfl, q_b1, q_ck ck6, h.tv.so4 (by omega), d4, q_b0, q_ck ck6, h.tv.so1 (by omega), d1, q_b0, q_ck ck6, h.tv.so5 (by omega), d5, q_b0, tkS_ok h.ps (by omega), show (0 : Int32) = sgV 0 from by decide +kernel, h.tv.sg (by omega) (m := 0) (by decide)]
  by_cases hc : w.1 67 = 0 ∧ K p = 20
  · have cc : w.1 67 = sgV 0 ∧ decide (K p = 20 + 0) = true := ⟨hc.1, decide_eq_true hc.2⟩
    rw [if_pos cc, q_bn]
    have hc' : w.1 67 = sgV 0 ∧ K p = 20 := ⟨hc.1, hc.2⟩
    rw [if_pos hc']
    rfl
  · have cc : ¬ (w.1 67 = sgV 0 ∧ decide (K p = 20 + 0) = true) := fun z => hc ⟨z.1, of_decide_eq_true z.2⟩
    have hc' : ¬ (w.1 67 = sgV 0 ∧ K p = 20) := hc
    rw [if_neg cc, if_neg hc', q_bn]
    rfl
end BDY
end PTT
