/-! patterns: the reference's parser and the grammar go the same way -/
set_option maxRecDepth 100000
section PAT
variable {N p d np s T : Nat} {w : MS} {K : Nat → Nat} {v : Int32} {S : SG_M_rowPattern}
/-- one pattern that is a token alone, or - and a number: whatever the fault was -/
def AL (K : Nat → Nat) (T p d np s : Nat) (w : MS) (q : Nat) (x : Option (MS × Int32)) : Prop := ∃ w2, x = some (w2, Int32.ofNat np) ∧ FrP IP APt w w2 ∧ PV w2 K T q d (np + 1) s ∧ w2.1 67 = w.1 67 ∧ w2.1 68 = w.1 68
theorem a239 {d0 q : Nat} {t2 t3 : Int32} (h : PV w K T q (d + 1) np s) (hx : d0 < 5000) (hd : d < 1000) : ∃ w2, fb_M_patternAt_239 N S () w (Int32.ofNat d0) 34 (Int32.ofNat d0) t2 t3 = some (w2, Int32.ofNat d0) ∧ FrP IP APt w w2 ∧ PV w2 K T (q + 1) d np s ∧ w2.1 67 = w.1 67 ∧ w2.1 68 = w.1 68 := by
  unfold fb_M_patternAt_239 fb_M_patternAt_388 fm_M_term fb_M_term_0
  rw [q_bn, q_ck (show isK 34 5 = true from by decide), q_ck (q_inb (by show d0 < 5000; exact hx) (by decide)), q_ls, q_ls, q_ls]
  have h1 := h.frJ (g := vp_updL (w.2.2.2 34) (Int32.ofNat d0).toNatClampNeg ((t2.toInt64 <<< ((32 : Int32).toInt64 &&& 63)) ||| (t3.toInt64 &&& 4294967295)))
  have e69 := h1.ps
  have e70 := h1.od
  have eo : Int32.ofNat (d + 1) - 1 = Int32.ofNat d := q_sub (k := d + 1) (m := 1) (by omega)
  refine ⟨upI (upI (upJ w 34 (vp_updL (w.2.2.2 34) (Int32.ofNat d0).toNatClampNeg ((t2.toInt64 <<< ((32 : Int32).toInt64 &&& 63)) ||| (t3.toInt64 &&& 4294967295)))) 69 (Int32.ofNat (q + 1))) 70 (Int32.ofNat d), ?_, (FrP.iJ.tr i69).tr i70, (h1.pos (by omega)).op, rfl, rfl⟩
  show some (upI (upI (upJ w 34 _) 69 (w.1 69 + 1)) 70 (w.1 70 - 1), _) = _
  rw [h.ps, q_suc, h.od, eo]
/-- a number, with - ahead or not, at q -/
theorem a199 {q : Nat} {v2 : Int32} (h : PV w K T q (d + 1) np s) (hq : q ≤ T + 1) (hn : np < 5000) (hd : d < 1000) : AL K T q d np s w (q + 1) (fb_M_patternAt_199 N S () w v2) := by
  have t4 := h.tv.t4
  obtain ⟨w1, a1, a2, a3, a4, a5⟩ := h.pat (N := N) (v := 3) hn
  have ck7 : inb (w1.1 69) (ln 7) = true := by rw [a3.ps]; exact q_inb (by show q < 4002; omega) (by decide)
  unfold fb_M_patternAt_199
  rw [a1, q_bn, q_ck ck7, q_ck ck7]
  have fin : ∀ t3, AL K T q d np s w (q + 1) (fb_M_patternAt_239 N S () w1 (Int32.ofNat np) 34 (Int32.ofNat np) 0 t3) := fun t3 => by
    obtain ⟨w2, b1, b2, b3, b4, b5⟩ := a239 (N := N) (S := S) (d0 := np) (t2 := 0) (t3 := t3) a3 hn hd
    exact ⟨w2, b1, a2.tr b2, b3, b4.trans a4, b5.trans a5⟩
  by_cases e : v2 = 0
  · rw [decide_eq_true e, q_b1]; exact fin _
  · rw [decide_eq_false e, q_b0]; exact fin _
theorem a388 {r : Int32} (h : PV w K T p (d + 1) np s) (hd : d < 1000) : fb_M_patternAt_388 N S () w r = some (upI w 70 (Int32.ofNat d), r) ∧ PV (upI w 70 (Int32.ofNat d)) K T p d np s := by
  unfold fb_M_patternAt_388
  rw [q_ls, h.od, show (1 : Int32) = Int32.ofNat 1 from rfl, q_sub (by omega), show d + 1 - 1 = d from by omega]
  exact ⟨rfl, h.op⟩
/-- where a pattern may begin -/
theorem a0 (h : PV w K T p d np s) (h0 : w.1 67 = 0) (hp : p ≤ T) : fb_M_patternAt_0 N S () w v = fb_M_patternAt_101 N S () w v (b2i (decide (K p = 34))) (b2i (bP (K p))) := by
  have t4 := h.tv.t4
  have hp2 : p < 4002 := by omega
  have Sg : ∀ m, m < 25 → fm_M_isSign N w (sgV m) = some (w, b2i (decide (K p = 20 + m))) := fun m hm => by rw [isM_ok h.ps hp2, h.tv.sg hp hm]
  have s0 : fm_M_isSign N w 0 = _ := Sg 0 (by decide)
  have s2 : fm_M_isSign N w 2 = _ := Sg 2 (by decide)
  have s4 : fm_M_isSign N w 4 = _ := Sg 4 (by decide)
  have s19 : fm_M_isSign N w 19 = some (w, b2i (decide (K p = 34))) := Sg 14 (by decide)
  have k46 := h.tv.k46 hp
  unfold fb_M_patternAt_0 fb_M_patternAt_96
  rw [decide_eq_true h0, q_b1, s19, q_bn, h.ps, q_ck (q_inb (by show p < 4002; exact hp2) (by decide)), q_nat (by omega), h.tv.so2 hp, q_ck (q_inb (by show p < 4002; exact hp2) (by decide)), h.tv.so4 hp, q_ck (q_inb (by show p < 4002; exact hp2) (by decide)), h.tv.so1 hp, q_ck (q_inb (by show p < 4002; exact hp2) (by decide)), h.tv.so5 hp, s2, q_bn, s4, q_bn, s0, q_bn]
  generalize K p = k at k46
  apply k46c (P := fun k => _ = fb_M_patternAt_101 N S () w v (b2i (decide (k = 34))) (b2i (bP k))) k46 <;> rfl
end PAT
