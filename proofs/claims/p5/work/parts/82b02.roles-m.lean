section
set_option maxRecDepth 100000
theorem RP_role {o : Option Nat} {c : Nat → Nat} {m m2 : MS} {u : CS} (h : RP o c m u) {q k : Nat} {x : LC} (hq : MD c q) (hk : isR k) (hx : ROL c m2 q k x) (hy : okC u.1.1 x = true)
    (a1 : ∀ j, j < 2000 → m2.1 j = m.1 j) (a2 : ∀ j, j < 2000 → m2.2.1 j = m.2.1 j) (a3 : ∀ j, j < 2000 → m2.2.2.1 j = m.2.2.1 j) (a4 : ∀ j, j < 2000 → m2.2.2.2 j = m.2.2.2 j)
    (b1 : ∀ r l, MD c r → isR l → ¬ (r = q ∧ l = k) → SMR c m m2 r l) (b2 : ∀ r r2, MD c r → rf (m2.1 (pq r 17)) = some r2 → MD c r2) (b3 : ∀ r l, MD c r → isL l → m2.1 (pq r l) = m.1 (pq r l)) : RP o c m2 (cup u (c (pq q k)) x) := by
  obtain ⟨⟨s1, s2, s3, s4, s5, s6, s7⟩, r2, r3, ⟨q1, q2⟩, ⟨d1, d2⟩, ⟨p1, p2⟩, t1, t2, t3⟩ := h
  have hb := d2 q k hq hk
  have hn : ∀ i, i < 57 → (cup u (c (pq q k)) x).2 i = u.2 i := fun i hi => cup_ne (by omega)
  refine ⟨⟨sk_cup57 s1 hb.1, fun i l hi hl => ?_, ?_, fun i hi => ?_, fun i hi => ?_, ?_, ?_⟩, wf_cup r2 (fun _ => hy), fun r hr => ?_, ⟨fun r hr => ?_, fun r hr => ?_⟩, ⟨d1, d2⟩, ⟨fun r l hr hl => ?_, b2⟩, ?_, t2, fun r l hr hl => ?_⟩
  · rw [FI_at (hn i hi), s2 i l hi hl, a1 _ (by omega)]
  · rw [FJ_at (hn 55 (by omega)), s3, a2 _ (by omega)]
  · rw [AI_at (hn i hi), s4 i hi, a3 _ (by omega)]
  · rw [AJ_at (hn i hi), s5 i hi, a4 _ (by omega)]
  · rw [FR_at (hn 43 (by omega)), s6, a1 _ (by omega)]
  · rw [a1 _ (by omega)]; exact s7
  · rw [FR_at (hn 55 (by omega)), FR_at (hn 55 (by omega))]; exact r3 r hr
  · rw [AP_at (hn 48 (by omega))]; exact q1 r hr
  · rw [a3 _ (by omega)]; exact q2 r hr
  · by_cases e : r = q ∧ l = k
    · obtain ⟨rfl, rfl⟩ := e
      rw [cup_eq]; exact hx
    · rw [cup_ne (fun z => e (d1 r l q k hr hq hl hk z))]
      exact ROL_same (p1 r l hr hl) (b1 r l hr hl e)
  · rw [cup_1, t1]
    refine congrArg _ (slT_eq (fun r hr => ?_)).symm
    by_cases e : c (pq r 0) = 0
    · unfold slQ; rw [if_pos e, if_pos e]
    · exact slQ_eq (fun l hl => b3 r l ⟨hr, e⟩ hl)
  · rw [b3 r l hr hl]; exact t3 r l hr hl
def PVn (c : Nat → Nat) (j q : Nat) : Prop := MD c q ∧ j = c (pq q 0)
def FVn (c : Nat → Nat) (j q : Nat) : Prop := MD c q ∧ j = c (pq q 20)
def CVn (c : Nat → Nat) (j b : Nat) : Prop := ∃ q, MD c q ∧ b = pq q 2 ∧ j = c (pq q 2)
def PVo (c : Nat → Nat) (a b : Option Nat) : Prop := (a = none ∧ b = none) ∨ ∃ j q, a = some j ∧ b = some q ∧ PVn c j q
def FVo (c : Nat → Nat) (a b : Option Nat) : Prop := (a = none ∧ b = none) ∨ ∃ j q, a = some j ∧ b = some q ∧ FVn c j q
def CVo (c : Nat → Nat) (a b : Option Nat) : Prop := (a = none ∧ b = none) ∨ ∃ j q, a = some j ∧ b = some q ∧ CVn c j q
def XVn (c : Nat → Nat) (q j b : Nat) : Prop := MD c q ∧ ∃ k, (k = 33 ∨ k = 35 ∨ k = 6 ∨ k = 3) ∧ b = pq q k ∧ j = c (pq q k)
def fr (b : Option Nat) : Int32 := match b with
  | none => -1
  | some r => Int32.ofNat r
theorem rf_ofNat {r : Nat} (h : r < 2147483648) : rf (Int32.ofNat r) = some r := by
  have e : Int32.ofNat r = I (r : Int) := rfl
  unfold rf
  have h1 : ¬ (Int32.ofNat r < 0) := by
    rw [e, I_lit (n := 0), I_lt (by omega) (by omega) (by decide) (by decide)]
    have : (OfNat.ofNat 0 : Int) = 0 := rfl
    omega
  rw [if_neg h1, e, I_tn (by omega) (by omega)]
  rfl
theorem rf_fr {b : Option Nat} (h : ∀ r, b = some r → r < 24) : rf (fr b) = b := by
  cases b with
  | none => rfl
  | some r => exact rf_ofNat (by have := h r rfl; omega)
theorem PVo.lt {c : Nat → Nat} {a b : Option Nat} (h : PVo c a b) : ∀ r, b = some r → r < 24 := by
  intro r e
  rcases h with h | ⟨j, q, h1, h2, h3⟩
  · rw [h.2] at e; cases e
  · rw [h2] at e; cases e; exact h3.1.1
theorem PVo.map {c : Nat → Nat} {a b : Option Nat} (h : PVo c a b) : a = b.map (fun r => c (pq r 0)) := by
  rcases h with h | ⟨j, q, h1, h2, h3⟩
  · rw [h.1, h.2]; rfl
  · rw [h1, h2, h3.2]; rfl
section
variable {o : Option Nat} {c : Nat → Nat} {m : MS} {u : CS} {j q k : Nat}
theorem RP.lt (h : RP o c m u) (hq : MD c q) (hk : isR k) : c (pq q k) < u.1.1 := (h.2.2.2.2.1.2 q k hq hk).2
theorem RP.rol (h : RP o c m u) (hq : MD c q) (hk : isR k) : ROL c m q k (u.2 (c (pq q k))) := h.2.2.2.2.2.1.1 q k hq hk
theorem RP.sk (h : RP o c m u) : skB u = true := h.1.1
theorem isR0 : isR 0 := Or.inl rfl
theorem isR20 : isR 20 := Or.inr (Or.inl rfl)
theorem oF_P (h : RP o c m u) (hj : PVn c j q) : ∃ f, oF u j 7 = some f ∧ u.2 j = .inl (7, f) ∧ j < u.1.1 ∧ roP c m q (.inl (7, f)) := by
  obtain ⟨hq, rfl⟩ := hj
  have hr := (h.rol hq isR0).1 rfl
  obtain ⟨f, e, r⟩ := hr
  refine ⟨f, ?_, e, h.lt hq isR0, f, rfl, r⟩
  unfold oF
  rw [if_pos (h.lt hq isR0), e]
  exact if_pos rfl
theorem oF_F (h : RP o c m u) (hj : FVn c j q) : ∃ f, oF u j 4 = some f ∧ u.2 j = .inl (4, f) ∧ j < u.1.1 ∧ roF c m q (.inl (4, f)) := by
  obtain ⟨hq, rfl⟩ := hj
  have hr := (h.rol hq isR20).2.1 rfl
  obtain ⟨f, e, r⟩ := hr
  refine ⟨f, ?_, e, h.lt hq isR20, f, rfl, r⟩
  unfold oF
  rw [if_pos (h.lt hq isR20), e]
  exact if_pos rfl
theorem io_P (h : RP o c m u) (hj : PVn c j q) : isO u j 7 = true := by
  obtain ⟨f, e, -⟩ := oF_P h hj
  unfold isO; rw [e]; rfl
theorem io_F (h : RP o c m u) (hj : FVn c j q) : isO u j 4 = true := by
  obtain ⟨f, e, -⟩ := oF_F h hj
  unfold isO; rw [e]; rfl
theorem gI_P0 (h : RP o c m u) (hj : PVn c j q) : gI u j 7 0 = some (Int32.ofNat q) := by
  obtain ⟨f, e, -, -, g, e2, r⟩ := oF_P h hj
  cases e2
  unfold gI; rw [e]; simp only [r.1]
theorem gI_P (h : RP o c m u) (hj : PVn c j q) (hk : KI k) : gI u j 7 k = some (m.1 (pq q k)) := by
  obtain ⟨f, e, -, -, g, e2, r⟩ := oF_P h hj
  cases e2
  unfold gI; rw [e]; simp only [r.2.2.2.2.2.2.2.1 k hk]
theorem gJ_P10 (h : RP o c m u) (hj : PVn c j q) : gJ u j 7 10 = some (m.2.1 (pq q 10)) := by
  obtain ⟨f, e, -, -, g, e2, r⟩ := oF_P h hj
  cases e2
  unfold gJ; rw [e]; simp only [r.2.2.2.2.2.2.2.2.1]
theorem gJ_P16 (h : RP o c m u) (hj : PVn c j q) : gJ u j 7 16 = some (m.2.1 (pq q 16)) := by
  obtain ⟨f, e, -, -, g, e2, r⟩ := oF_P h hj
  cases e2
  unfold gJ; rw [e]; simp only [r.2.2.2.2.2.2.2.2.2]
theorem gR_P1 (h : RP o c m u) (hj : PVn c j q) : gR u j 7 1 = some (some (c (pq q 20))) := by
  obtain ⟨f, e, -, -, g, e2, r⟩ := oF_P h hj
  cases e2
  unfold gR; rw [e]; simp only [r.2.1, rfv]
theorem gR_P2 (h : RP o c m u) (hj : PVn c j q) : gR u j 7 2 = some (some (c (pq q 2))) := by
  obtain ⟨f, e, -, -, g, e2, r⟩ := oF_P h hj
  cases e2
  unfold gR; rw [e]; simp only [r.2.2.1, rfv]
theorem gR_P3 (h : RP o c m u) (hj : PVn c j q) : gR u j 7 3 = some (some (c (pq q 3))) := by
  obtain ⟨f, e, -, -, g, e2, r⟩ := oF_P h hj
  cases e2
  unfold gR; rw [e]; simp only [r.2.2.2.1, rfv]
theorem gR_P6 (h : RP o c m u) (hj : PVn c j q) : gR u j 7 6 = some (some (c (pq q 6))) := by
  obtain ⟨f, e, -, -, g, e2, r⟩ := oF_P h hj
  cases e2
  unfold gR; rw [e]; simp only [r.2.2.2.2.1, rfv]
theorem gR_P14 (h : RP o c m u) (hj : PVn c j q) : gR u j 7 14 = some (some (c (pq q 14))) := by
  obtain ⟨f, e, -, -, g, e2, r⟩ := oF_P h hj
  cases e2
  unfold gR; rw [e]; simp only [r.2.2.2.2.2.1, rfv]
theorem gR_P17 (h : RP o c m u) (hj : PVn c j q) : gR u j 7 17 = some (hmR c m q) := by
  obtain ⟨f, e, -, -, g, e2, r⟩ := oF_P h hj
  cases e2
  unfold gR; rw [e]; simp only [r.2.2.2.2.2.2.1]
theorem PV_home (h : RP o c m u) (hj : PVn c j q) : PVo c (hmR c m q) (rf (m.1 (pq q 17))) := by
  have := h.2.2.2.2.2.1.2 q
  unfold hmR
  cases e : rf (m.1 (pq q 17)) with
  | none => exact Or.inl ⟨rfl, rfl⟩
  | some r => exact Or.inr ⟨_, r, rfl, rfl, this r hj.1 e, rfl⟩
theorem gI_F (h : RP o c m u) (hj : FVn c j q) (hk : KG k) : gI u j 4 k = some (m.1 (pq q (20 + k))) := by
  obtain ⟨f, e, -, -, g, e2, r⟩ := oF_F h hj
  cases e2
  unfold gI; rw [e]; simp only [r.2.2.2.2.2 k hk]
theorem gR_F0 (h : RP o c m u) (hj : FVn c j q) : gR u j 4 0 = some (some (c (pq q 30))) := by
  obtain ⟨f, e, -, -, g, e2, r⟩ := oF_F h hj
  cases e2
  unfold gR; rw [e]; simp only [r.1, rfv]
theorem gR_F2 (h : RP o c m u) (hj : FVn c j q) : gR u j 4 2 = some (some (c (pq q 32))) := by
  obtain ⟨f, e, -, -, g, e2, r⟩ := oF_F h hj
  cases e2
  unfold gR; rw [e]; simp only [r.2.1, rfv]
theorem gR_F3 (h : RP o c m u) (hj : FVn c j q) : gR u j 4 3 = some (some (c (pq q 33))) := by
  obtain ⟨f, e, -, -, g, e2, r⟩ := oF_F h hj
  cases e2
  unfold gR; rw [e]; simp only [r.2.2.1, rfv]
theorem gR_F5 (h : RP o c m u) (hj : FVn c j q) : gR u j 4 5 = some (some (c (pq q 35))) := by
  obtain ⟨f, e, -, -, g, e2, r⟩ := oF_F h hj
  cases e2
  unfold gR; rw [e]; simp only [r.2.2.2.1, rfv]
theorem gR_F7 (h : RP o c m u) (hj : FVn c j q) : gR u j 4 7 = some (some (c (pq q 37))) := by
  obtain ⟨f, e, -, -, g, e2, r⟩ := oF_F h hj
  cases e2
  unfold gR; rw [e]; simp only [r.2.2.2.2.1, rfv]
theorem oL_ar {n : Nat} {f : Nat → Int64} {i : Nat} (hi : i < u.1.1) (h : arJ n f (u.2 i)) : ∃ g, oL u i = some (n, g) ∧ u.2 i = .inr (.inr (.inl (n, g))) ∧ ∀ z, z < n → g z = f z := by
  obtain ⟨g, e, h2⟩ := h
  refine ⟨g, ?_, e, h2⟩
  unfold oL
  rw [if_pos hi, e]
theorem oA_ar {n : Nat} {f : Nat → Int32} {i : Nat} (hi : i < u.1.1) (h : arI n f (u.2 i)) : ∃ g, oA u i 4 = some (n, g) ∧ u.2 i = .inr (.inl (4, n, g)) ∧ ∀ z, z < n → g z = f z := by
  obtain ⟨g, e, h2⟩ := h
  refine ⟨g, ?_, e, h2⟩
  unfold oA
  rw [if_pos hi, e]
  exact if_pos rfl
theorem inb_lt {i : Int32} {n : Nat} (h : inb i n = true) : i.toNatClampNeg < n := by
  unfold inb at h
  have := of_decide_eq_true h
  omega
theorem aJ_ar {n : Nat} {f : Nat → Int64} {i : Nat} {z : Int32} (hi : i < u.1.1) (h : arJ n f (u.2 i)) : aJ u i z = if inb z n = true then some (f z.toNatClampNeg) else none := by
  obtain ⟨g, e, -, h2⟩ := oL_ar hi h
  unfold aJ
  rw [e]
  show (if inb z n = true then some (g z.toNatClampNeg) else none) = _
  by_cases b : inb z n = true
  · rw [if_pos b, if_pos b, h2 _ (inb_lt b)]
  · rw [if_neg b, if_neg b]
theorem aI_ar {n : Nat} {f : Nat → Int32} {i : Nat} {z : Int32} (hi : i < u.1.1) (h : arI n f (u.2 i)) : aI u i 4 z = if inb z n = true then some (f z.toNatClampNeg) else none := by
  obtain ⟨g, e, -, h2⟩ := oA_ar hi h
  unfold aI
  rw [e]
  show (if inb z n = true then some (g z.toNatClampNeg) else none) = _
  by_cases b : inb z n = true
  · rw [if_pos b, if_pos b, h2 _ (inb_lt b)]
  · rw [if_neg b, if_neg b]
def lnJ (m : MS) (q k : Nat) : Nat := if k = 2 ∨ k = 3 then 512 else if k = 6 then 30 else if k = 33 then lnQ m q 43 else lnQ m q 45
def lnI (m : MS) (q k : Nat) : Nat := if k = 14 then 24 else if k = 30 then 300 else if k = 32 then lnQ m q 42 else lnQ m q 47
def isJ (k : Nat) : Prop := k = 2 ∨ k = 3 ∨ k = 6 ∨ k = 33 ∨ k = 35
def isI (k : Nat) : Prop := k = 14 ∨ k = 30 ∨ k = 32 ∨ k = 37
theorem isJR {k : Nat} (h : isJ k) : isR k := by unfold isJ at h; unfold isR; omega
theorem isIR {k : Nat} (h : isI k) : isR k := by unfold isI at h; unfold isR; omega
theorem ROL_J {x : LC} (hk : isJ k) : ROL c m q k x ↔ arJ (lnJ m q k) (m.2.2.2 (pq q k)) x := by
  unfold isJ at hk
  unfold ROL lnJ
  rcases hk with rfl | rfl | rfl | rfl | rfl <;> simp
theorem ROL_I {x : LC} (hk : isI k) : ROL c m q k x ↔ arI (lnI m q k) (m.2.2.1 (pq q k)) x := by
  unfold isI at hk
  unfold ROL lnI
  rcases hk with rfl | rfl | rfl | rfl <;> simp
theorem aJ_R (h : RP o c m u) (hq : MD c q) (hk : isJ k) {z : Int32} : aJ u (c (pq q k)) z = if inb z (lnJ m q k) = true then some (m.2.2.2 (pq q k) z.toNatClampNeg) else none :=
  aJ_ar (h.lt hq (isJR hk)) ((ROL_J hk).mp (h.rol hq (isJR hk)))
theorem aI_R (h : RP o c m u) (hq : MD c q) (hk : isI k) {z : Int32} : aI u (c (pq q k)) 4 z = if inb z (lnI m q k) = true then some (m.2.2.1 (pq q k) z.toNatClampNeg) else none :=
  aI_ar (h.lt hq (isIR hk)) ((ROL_I hk).mp (h.rol hq (isIR hk)))
theorem ofNat_cl {x : Int32} (h : ¬ x < 0) : Int32.ofNat x.toNatClampNeg = x := by
  rw [I_of x] at h ⊢
  have hr := ti_rng x
  rw [I_lit (n := 0), I_lt hr.1 hr.2 (by decide) (by decide)] at h
  have z : (OfNat.ofNat 0 : Int) = 0 := rfl
  rw [I_tn hr.1 hr.2]
  show I ((x.toInt.toNat : Nat) : Int) = _
  congr 1
  omega
theorem nJ_R (h : RP o c m u) (hq : MD c q) {l : Nat} (hk : (k = 33 ∧ l = 43) ∨ (k = 35 ∧ l = 45)) : nJ u (c (pq q k)) = some (m.1 (pq q l)) := by
  have hj : isJ k := by unfold isJ; omega
  obtain ⟨g, e, -⟩ := oL_ar (h.lt hq (isJR hj)) ((ROL_J hj).mp (h.rol hq (isJR hj)))
  unfold nJ
  rw [e]
  show some (Int32.ofNat (lnJ m q k)) = _
  have hn := h.2.2.2.2.2.2.2.2 q l hq (by unfold isL; omega)
  rcases hk with ⟨rfl, rfl⟩ | ⟨rfl, rfl⟩
  · show some (Int32.ofNat (lnQ m q 43)) = _
    unfold lnQ; rw [ofNat_cl hn]
  · show some (Int32.ofNat (lnQ m q 45)) = _
    unfold lnQ; rw [ofNat_cl hn]
theorem nA_R (h : RP o c m u) (hq : MD c q) {l : Nat} (hk : (k = 32 ∧ l = 42) ∨ (k = 37 ∧ l = 47)) : nA u (c (pq q k)) 4 = some (m.1 (pq q l)) := by
  have hj : isI k := by unfold isI; omega
  obtain ⟨g, e, -⟩ := oA_ar (h.lt hq (isIR hj)) ((ROL_I hj).mp (h.rol hq (isIR hj)))
  unfold nA
  rw [e]
  show some (Int32.ofNat (lnI m q k)) = _
  have hn := h.2.2.2.2.2.2.2.2 q l hq (by unfold isL; omega)
  rcases hk with ⟨rfl, rfl⟩ | ⟨rfl, rfl⟩
  · show some (Int32.ofNat (lnQ m q 42)) = _
    unfold lnQ; rw [ofNat_cl hn]
  · show some (Int32.ofNat (lnQ m q 47)) = _
    unfold lnQ; rw [ofNat_cl hn]
end
end
section
set_option maxRecDepth 100000
theorem okV_int {n : Nat} {v : Int32} : okV n (.inl v) = true := rfl
section
variable {o : Option Nat} {c : Nat → Nat} {m : MS} {u : CS} {j q k : Nat}
theorem SMR_I {x : Int32} {r l a : Nat} (h1 : l = 0 → ¬ (r = q ∧ a < 20)) (h2 : l = 20 → ¬ (r = q ∧ 20 ≤ a ∧ a < 30)) (h3 : ¬ (r = q ∧ 30 ≤ a)) (ha : a < 100) : SMR c m (upI m (pq q a) x) r l := by
  refine ⟨fun z => ⟨fun d hd => if_neg ?_, fun _ _ => rfl⟩, fun z d hd1 hd2 => if_neg ?_, rfl, rfl, fun d hd hd2 => if_neg ?_⟩
  · have := h1 z; unfold pq; omega
  · have := h2 z; unfold pq; omega
  · unfold pq; omega
theorem pI_frame {x : Int32} {a : Nat} : ∀ i, i < 2000 → (upI m (pq q a) x).1 i = m.1 i := fun i hi => if_neg (by unfold pq; omega)
theorem RP_qI (h : RP o c m u) (hj : PVn c j q) (hk : KI k) {v : Int32} : ∃ w, pF u j 7 k (.inl v) = some w ∧ RP o c (upI m (pq q k) v) w ∧ w.1 = u.1 := by
  obtain ⟨f, e, e1, hlt, g, e2, r⟩ := oF_P h hj
  cases e2
  obtain ⟨hq, rfl⟩ := hj
  have hk1 : k < 16 := by unfold KI at hk; omega
  refine ⟨cup u (c (pq q 0)) (.inl (7, fun j => if j = k then .inl v else f j)), by unfold pF; rw [e], ?_, rfl⟩
  refine RP_role h hq isR0 ⟨fun _ => ?_, fun z => (by cases z), fun z => (by cases z), fun z => (by cases z), fun z => (by cases z), fun z => (by cases z), fun z => (by cases z), fun z => (by cases z), fun z => (by cases z), fun z => (by cases z), fun z => (by cases z)⟩ (okC_upd (okC_of h.2.1 hlt e1) rfl) pI_frame (fun _ _ => rfl) (fun _ _ => rfl) (fun _ _ => rfl) (fun r l hr hl hne => SMR_I (by omega) (by omega) (by omega) (by omega)) (fun r r2 hr => ?_) (fun r l hr hl => if_neg ?_)
  · obtain ⟨r0, r1, r2, r3, r6, r14, r17, rI, r10, r16⟩ := r
    have hn : ∀ l, ¬ KI l → l ≠ k := fun l z y => z (y ▸ hk)
    refine ⟨_, rfl, ?_, ?_, ?_, ?_, ?_, ?_, ?_, fun l hl => ?_, ?_, ?_⟩
    · rw [if_neg (hn 0 (by unfold KI; omega))]; exact r0
    · rw [if_neg (hn 1 (by unfold KI; omega))]; exact r1
    · rw [if_neg (hn 2 (by unfold KI; omega))]; exact r2
    · rw [if_neg (hn 3 (by unfold KI; omega))]; exact r3
    · rw [if_neg (hn 6 (by unfold KI; omega))]; exact r6
    · rw [if_neg (hn 14 (by unfold KI; omega))]; exact r14
    · rw [if_neg (hn 17 (by unfold KI; omega)), r17]
      unfold hmR
      rw [show (upI m (pq q k) v).1 (pq q 17) = m.1 (pq q 17) from if_neg (by unfold pq; omega)]
    · by_cases ee : l = k
      · subst ee; rw [if_pos rfl]; exact congrArg _ (if_pos rfl).symm
      · rw [if_neg ee, rI l hl]; exact congrArg _ (if_neg (by unfold pq; omega)).symm
    · rw [if_neg (hn 10 (by unfold KI; omega))]; exact r10
    · rw [if_neg (hn 16 (by unfold KI; omega))]; exact r16
  · rw [show (upI m (pq q k) v).1 (pq r 17) = m.1 (pq r 17) from if_neg (by unfold pq; omega)]
    exact h.2.2.2.2.2.1.2 r r2 hr
  · unfold isL at hl; unfold pq; omega
theorem RP_qL (h : RP o c m u) (hj : PVn c j q) (hk : k = 10 ∨ k = 16) {v : Int64} : ∃ w, pF u j 7 k (.inr (.inl v)) = some w ∧ RP o c (upL m (pq q k) v) w ∧ w.1 = u.1 := by
  obtain ⟨f, e, e1, hlt, g, e2, r⟩ := oF_P h hj
  cases e2
  obtain ⟨hq, rfl⟩ := hj
  refine ⟨cup u (c (pq q 0)) (.inl (7, fun j => if j = k then .inr (.inl v) else f j)), by unfold pF; rw [e], ?_, rfl⟩
  refine RP_role h hq isR0 ⟨fun _ => ?_, fun z => (by cases z), fun z => (by cases z), fun z => (by cases z), fun z => (by cases z), fun z => (by cases z), fun z => (by cases z), fun z => (by cases z), fun z => (by cases z), fun z => (by cases z), fun z => (by cases z)⟩ (okC_upd (okC_of h.2.1 hlt e1) rfl) (fun _ _ => rfl) (fun i hi => if_neg (by unfold pq; omega)) (fun _ _ => rfl) (fun _ _ => rfl) (fun r l hr hl hne => ⟨fun z => ⟨fun _ _ => rfl, fun d hd => if_neg (by unfold pq; omega)⟩, fun _ _ _ _ => rfl, rfl, rfl, fun _ _ _ => rfl⟩) h.2.2.2.2.2.1.2 (fun r l hr hl => rfl)
  obtain ⟨r0, r1, r2, r3, r6, r14, r17, rI, r10, r16⟩ := r
  refine ⟨_, rfl, ?_, ?_, ?_, ?_, ?_, ?_, ?_, fun l hl => ?_, ?_, ?_⟩
  · rw [if_neg (by omega)]; exact r0
  · rw [if_neg (by omega)]; exact r1
  · rw [if_neg (by omega)]; exact r2
  · rw [if_neg (by omega)]; exact r3
  · rw [if_neg (by omega)]; exact r6
  · rw [if_neg (by omega)]; exact r14
  · rw [if_neg (by omega)]; exact r17
  · rw [if_neg (by unfold KI at hl; omega)]; exact rI l hl
  · by_cases ee : 10 = k
    · subst ee; rw [if_pos rfl]; exact congrArg _ (congrArg _ (if_pos rfl).symm)
    · rw [if_neg ee, r10]; exact congrArg _ (congrArg _ (if_neg (by unfold pq; omega)).symm)
  · by_cases ee : 16 = k
    · subst ee; rw [if_pos rfl]; exact congrArg _ (congrArg _ (if_pos rfl).symm)
    · rw [if_neg ee, r16]; exact congrArg _ (congrArg _ (if_neg (by unfold pq; omega)).symm)
theorem RP_qH (h : RP o c m u) (hj : PVn c j q) {a b : Option Nat} (hp : PVo c a b) : ∃ w, pF u j 7 17 (.inr (.inr a)) = some w ∧ RP o c (upI m (pq q 17) (fr b)) w ∧ w.1 = u.1 := by
  obtain ⟨f, e, e1, hlt, g, e2, r⟩ := oF_P h hj
  cases e2
  obtain ⟨hq, rfl⟩ := hj
  have hv : okV u.1.1 (.inr (.inr a)) = true := by
    rcases hp with ⟨rfl, -⟩ | ⟨j2, q2, rfl, -, h3, rfl⟩
    · rfl
    · exact decide_eq_true (h.lt h3 isR0)
  refine ⟨cup u (c (pq q 0)) (.inl (7, fun j => if j = 17 then .inr (.inr a) else f j)), by unfold pF; rw [e], ?_, rfl⟩
  refine RP_role h hq isR0 ⟨fun _ => ?_, fun z => (by cases z), fun z => (by cases z), fun z => (by cases z), fun z => (by cases z), fun z => (by cases z), fun z => (by cases z), fun z => (by cases z), fun z => (by cases z), fun z => (by cases z), fun z => (by cases z)⟩ (okC_upd (okC_of h.2.1 hlt e1) hv) pI_frame (fun _ _ => rfl) (fun _ _ => rfl) (fun _ _ => rfl) (fun r l hr hl hne => SMR_I (by omega) (by omega) (by omega) (by omega)) (fun r5 r2 hr => ?_) (fun r l hr hl => if_neg ?_)
  · obtain ⟨r0, r1, r2, r3, r6, r14, r17, rI, r10, r16⟩ := r
    refine ⟨_, rfl, r0, r1, r2, r3, r6, r14, ?_, fun l hl => ?_, r10, r16⟩
    · rw [if_pos rfl]
      unfold hmR
      rw [show (upI m (pq q 17) (fr b)).1 (pq q 17) = fr b from if_pos rfl, rf_fr hp.lt, hp.map]
    · rw [if_neg (by unfold KI at hl; omega), rI l hl]; exact congrArg _ (if_neg (by unfold KI at hl; unfold pq; omega)).symm
  · by_cases ee : r5 = q
    · subst ee
      rw [show (upI m (pq r5 17) (fr b)).1 (pq r5 17) = fr b from if_pos rfl, rf_fr hp.lt]
      intro z
      rcases hp with ⟨-, h2⟩ | ⟨j2, q2, -, h2, h3, -⟩
      · rw [h2] at z; cases z
      · rw [h2] at z; cases z; exact h3
    · rw [show (upI m (pq q 17) (fr b)).1 (pq r5 17) = m.1 (pq r5 17) from if_neg (by unfold pq; omega)]
      exact h.2.2.2.2.2.1.2 r5 r2 hr
  · unfold isL at hl; unfold pq; omega
theorem RP_fI (h : RP o c m u) (hj : FVn c j q) (hk : KG k) {v : Int32} : ∃ w, pF u j 4 k (.inl v) = some w ∧ RP o c (upI m (pq q (20 + k)) v) w ∧ w.1 = u.1 := by
  obtain ⟨f, e, e1, hlt, g, e2, r⟩ := oF_F h hj
  cases e2
  obtain ⟨hq, rfl⟩ := hj
  have hk1 : k < 10 ∧ 0 < k := by unfold KG at hk; omega
  refine ⟨cup u (c (pq q 20)) (.inl (4, fun j => if j = k then .inl v else f j)), by unfold pF; rw [e], ?_, rfl⟩
  refine RP_role h hq isR20 ⟨fun z => (by cases z), fun _ => ?_, fun z => (by cases z), fun z => (by cases z), fun z => (by cases z), fun z => (by cases z), fun z => (by cases z), fun z => (by cases z), fun z => (by cases z), fun z => (by cases z), fun z => (by cases z)⟩ (okC_upd (okC_of h.2.1 hlt e1) rfl) pI_frame (fun _ _ => rfl) (fun _ _ => rfl) (fun _ _ => rfl) (fun r l hr hl hne => SMR_I (by omega) (by omega) (by omega) (by omega)) (fun r r2 hr => ?_) (fun r l hr hl => if_neg ?_)
  · obtain ⟨r0, r2, r3, r5, r7, rI⟩ := r
    have hn : ∀ l, ¬ KG l → l ≠ k := fun l z y => z (y ▸ hk)
    refine ⟨_, rfl, ?_, ?_, ?_, ?_, ?_, fun l hl => ?_⟩
    · rw [if_neg (hn 0 (by unfold KG; omega))]; exact r0
    · rw [if_neg (hn 2 (by unfold KG; omega))]; exact r2
    · rw [if_neg (hn 3 (by unfold KG; omega))]; exact r3
    · rw [if_neg (hn 5 (by unfold KG; omega))]; exact r5
    · rw [if_neg (hn 7 (by unfold KG; omega))]; exact r7
    · by_cases ee : l = k
      · subst ee; rw [if_pos rfl]; exact congrArg _ (if_pos rfl).symm
      · rw [if_neg ee, rI l hl]; exact congrArg _ (if_neg (by unfold pq; omega)).symm
  · rw [show (upI m (pq q (20 + k)) v).1 (pq r 17) = m.1 (pq r 17) from if_neg (by unfold pq; omega)]
    exact h.2.2.2.2.2.1.2 r r2 hr
  · unfold isL at hl; unfold pq; omega
theorem SMR_J {g : Nat → Int64} {r l a : Nat} (hl : l < 100) (ha : a < 100) (h : ¬ (r = q ∧ l = a)) : SMR c m (upJ m (pq q a) g) r l := ⟨fun _ => ⟨fun _ _ => rfl, fun _ _ => rfl⟩, fun _ _ _ _ => rfl, rfl, if_neg (by unfold pq; omega), fun _ _ _ => rfl⟩
theorem SMR_A {g : Nat → Int32} {r l a : Nat} (hl : l < 100) (ha : a < 100) (h : ¬ (r = q ∧ l = a)) : SMR c m (upA m (pq q a) g) r l := ⟨fun _ => ⟨fun _ _ => rfl, fun _ _ => rfl⟩, fun _ _ _ _ => rfl, if_neg (by unfold pq; omega), rfl, fun _ _ _ => rfl⟩
theorem RP_rJ (h : RP o c m u) (hq : MD c q) (hk : isJ k) {g : Nat → Int64} {g2 : Nat → Int64} (hg : ∀ i, i < lnJ m q k → g2 i = g i) : RP o c (upJ m (pq q k) g) (cup u (c (pq q k)) (.inr (.inr (.inl (lnJ m q k, g2))))) := by
  have hk2 := isR_lt (isJR hk)
  refine RP_role h hq (isJR hk) ((ROL_J hk).mpr ⟨g2, rfl, fun i hi => ?_⟩) rfl (fun _ _ => rfl) (fun _ _ => rfl) (fun _ _ => rfl) (fun i hi => if_neg (by unfold pq; omega)) (fun r l hr hl hne => SMR_J (isR_lt hl) hk2 hne) h.2.2.2.2.2.1.2 (fun _ _ _ _ => rfl)
  rw [show (upJ m (pq q k) g).2.2.2 (pq q k) = g from if_pos rfl]
  exact hg i hi
theorem RP_rI (h : RP o c m u) (hq : MD c q) (hk : isI k) {g : Nat → Int32} {g2 : Nat → Int32} (hg : ∀ i, i < lnI m q k → g2 i = g i) : RP o c (upA m (pq q k) g) (cup u (c (pq q k)) (.inr (.inl (4, lnI m q k, g2)))) := by
  have hk2 := isR_lt (isIR hk)
  refine RP_role h hq (isIR hk) ((ROL_I hk).mpr ⟨g2, rfl, fun i hi => ?_⟩) rfl (fun _ _ => rfl) (fun _ _ => rfl) (fun i hi => if_neg (by unfold pq; omega)) (fun _ _ => rfl) (fun r l hr hl hne => SMR_A (isR_lt hl) hk2 hne) h.2.2.2.2.2.1.2 (fun _ _ _ _ => rfl)
  rw [show (upA m (pq q k) g).2.2.1 (pq q k) = g from if_pos rfl]
  exact hg i hi
theorem RP_sJ (h : RP o c m u) (hq : MD c q) (hk : isJ k) {z : Int32} {v : Int64} (hz : inb z (lnJ m q k) = true) : ∃ w, sJ u (c (pq q k)) z v = some w ∧ RP o c (upJ m (pq q k) (vp_updL (m.2.2.2 (pq q k)) z.toNatClampNeg v)) w ∧ w.1 = u.1 := by
  obtain ⟨g, e, e2, h2⟩ := oL_ar (h.lt hq (isJR hk)) ((ROL_J hk).mp (h.rol hq (isJR hk)))
  refine ⟨cup u (c (pq q k)) (.inr (.inr (.inl (lnJ m q k, vp_updL g z.toNatClampNeg v)))), by unfold sJ; rw [e]; exact if_pos hz, RP_rJ h hq hk (fun i hi => ?_), rfl⟩
  unfold vp_updL
  by_cases ee : i = z.toNatClampNeg
  · rw [if_pos ee, if_pos ee]
  · rw [if_neg ee, if_neg ee]; exact h2 i hi
theorem RP_sI (h : RP o c m u) (hq : MD c q) (hk : isI k) {z v : Int32} (hz : inb z (lnI m q k) = true) : ∃ w, sI u (c (pq q k)) 4 z v = some w ∧ RP o c (upA m (pq q k) (upd (m.2.2.1 (pq q k)) z.toNatClampNeg v)) w ∧ w.1 = u.1 := by
  obtain ⟨g, e, e2, h2⟩ := oA_ar (h.lt hq (isIR hk)) ((ROL_I hk).mp (h.rol hq (isIR hk)))
  refine ⟨cup u (c (pq q k)) (.inr (.inl (4, lnI m q k, upd g z.toNatClampNeg v))), by unfold sI; rw [e]; exact if_pos hz, RP_rI h hq hk (fun i hi => ?_), rfl⟩
  unfold upd
  by_cases ee : i = z.toNatClampNeg
  · rw [if_pos ee, if_pos ee]
  · rw [if_neg ee, if_neg ee]; exact h2 i hi
theorem cpOk_s {a b n : Int32} {x y : Nat} (h : cpOk a b n x y = true) : a.toNatClampNeg + n.toNatClampNeg ≤ x ∧ b.toNatClampNeg + n.toNatClampNeg ≤ y := by
  unfold cpOk at h
  exact (of_decide_eq_true h).2.2.2
theorem cpy_same {α : Type} {f f2 g g2 : Nat → α} {a b n x y : Nat} (hf : ∀ i, i < x → f2 i = f i) (hg : ∀ i, i < y → g2 i = g i) (h : a + n ≤ x ∧ b + n ≤ y) : ∀ i, i < y → va_cpy f2 g2 a b n i = va_cpy f g a b n i := by
  intro i hi
  unfold va_cpy
  by_cases e : b ≤ i ∧ i < b + n
  · rw [if_pos e, if_pos e]; exact hf _ (by omega)
  · rw [if_neg e, if_neg e]; exact hg i hi
theorem RP_cJ (h : RP o c m u) {q2 k2 : Nat} (hq : MD c q) (hk : isJ k) (hq2 : MD c q2) (hk2 : isJ k2) {a b n : Int32} (hz : cpOk a b n (lnJ m q k) (lnJ m q2 k2) = true) : ∃ w, cpJ u (c (pq q k)) a (c (pq q2 k2)) b n = some w ∧ RP o c (upJ m (pq q2 k2) (va_cpy (m.2.2.2 (pq q k)) (m.2.2.2 (pq q2 k2)) a.toNatClampNeg b.toNatClampNeg n.toNatClampNeg)) w ∧ w.1 = u.1 := by
  obtain ⟨g, e, e2, h2⟩ := oL_ar (h.lt hq (isJR hk)) ((ROL_J hk).mp (h.rol hq (isJR hk)))
  obtain ⟨g3, e3, e4, h3⟩ := oL_ar (h.lt hq2 (isJR hk2)) ((ROL_J hk2).mp (h.rol hq2 (isJR hk2)))
  refine ⟨cup u (c (pq q2 k2)) (.inr (.inr (.inl (lnJ m q2 k2, va_cpy g g3 a.toNatClampNeg b.toNatClampNeg n.toNatClampNeg)))), by unfold cpJ; rw [e, e3]; show ck (cpOk a b n (lnJ m q k) (lnJ m q2 k2)) _ = _; unfold ck; rw [if_pos hz], RP_rJ h hq2 hk2 (cpy_same h2 h3 (cpOk_s hz)), rfl⟩
theorem RP_cI (h : RP o c m u) (hq : MD c q) (hk : isI k) {a b n : Int32} (hz : cpOk a b n (lnI m q k) (lnI m q k) = true) : ∃ w, cpI u 4 (c (pq q k)) a (c (pq q k)) b n = some w ∧ RP o c (upA m (pq q k) (va_cpy (m.2.2.1 (pq q k)) (m.2.2.1 (pq q k)) a.toNatClampNeg b.toNatClampNeg n.toNatClampNeg)) w ∧ w.1 = u.1 := by
  obtain ⟨g, e, e2, h2⟩ := oA_ar (h.lt hq (isIR hk)) ((ROL_I hk).mp (h.rol hq (isIR hk)))
  refine ⟨cup u (c (pq q k)) (.inr (.inl (4, lnI m q k, va_cpy g g a.toNatClampNeg b.toNatClampNeg n.toNatClampNeg))), by unfold cpI; rw [e]; show ck (cpOk a b n (lnI m q k) (lnI m q k)) (ck (ftB 4 g a.toNatClampNeg n.toNatClampNeg) _) = _; unfold ck; rw [if_pos hz, if_pos (show ftB 4 g a.toNatClampNeg n.toNatClampNeg = true from rfl)], RP_rI h hq hk (cpy_same h2 h2 (cpOk_s hz)), rfl⟩
end
end
section
set_option maxRecDepth 100000
def EX (z : Nat) (c : Nat → Nat) (u : CS) (c2 : Nat → Nat) (u2 : CS) : Prop := (∀ q, MD c q → MD c2 q ∧ c2 (pq q 0) = c (pq q 0) ∧ c2 (pq q 20) = c (pq q 20)) ∧ u.1.1 ≤ u2.1.1 ∧ u.1.2 ≤ u2.1.2 ∧ (z ≤ 1 → ∀ q, MD c q → c2 (pq q 2) = c (pq q 2)) ∧ (z = 0 → c2 = c) ∧ (z = 0 ∨ z = 3 → u2.1 = u.1)
def zle (z z2 : Nat) : Prop := z = 0 ∨ z2 = 2 ∨ z = z2
theorem zle0 {z : Nat} : zle 0 z := Or.inl rfl
theorem zler {z : Nat} : zle z z := Or.inr (Or.inr rfl)
theorem zle2 {z : Nat} : zle z 2 := Or.inr (Or.inl rfl)
def RF {α β : Type} (z : Nat) (o : Option Nat) (V : (Nat → Nat) → α → β → Prop) (c : Nat → Nat) (u : CS) (x : Option (CS × α)) (y : Option (MS × β)) : Prop := ∀ m2 b, y = some (m2, b) → ∃ c2 u2 a, x = some (u2, a) ∧ RP o c2 m2 u2 ∧ EX z c u c2 u2 ∧ V c2 a b
def VE {α : Type} : (Nat → Nat) → α → α → Prop := fun _ a b => a = b
def bTm {α β : Type} (x : Option (MS × (α ⊕ Nat))) (f : MS → α → Option (MS × (β ⊕ Nat))) : Option (MS × (β ⊕ Nat)) := match x with
  | none => none
  | some (u, .inl v) => f u v
  | some (u, .inr k) => some (u, .inr k)
def bHm {α β : Type} (x : Option (MS × (α ⊕ Nat))) (f : MS → α → Option β) (h : MS → Option β) : Option β := match x with
  | none => none
  | some (u, .inl v) => f u v
  | some (u, .inr k) => if k = 3 then h u else none
theorem EX.rf {z : Nat} {c : Nat → Nat} {u u2 : CS} (h : u2.1 = u.1) : EX z c u c u2 := ⟨fun q hq => ⟨hq, rfl, rfl⟩, by rw [h]; exact Nat.le_refl _, by rw [h]; exact Nat.le_refl _, fun _ _ _ => rfl, fun _ => rfl, fun _ => h⟩
theorem EX.tr {z : Nat} {c c2 c3 : Nat → Nat} {u u2 u3 : CS} (a : EX z c u c2 u2) (b : EX z c2 u2 c3 u3) : EX z c u c3 u3 := by
  obtain ⟨a1, a2, a3, a4, a5, a6⟩ := a
  obtain ⟨b1, b2, b3, b4, b5, b6⟩ := b
  refine ⟨fun q hq => ?_, Nat.le_trans a2 b2, Nat.le_trans a3 b3, fun hz q hq => ?_, fun hz => (b5 hz).trans (a5 hz), fun hz => (b6 hz).trans (a6 hz)⟩
  · obtain ⟨x1, x2, x3⟩ := a1 q hq
    obtain ⟨y1, y2, y3⟩ := b1 q x1
    exact ⟨y1, y2.trans x2, y3.trans x3⟩
  · exact (b4 hz q (a1 q hq).1).trans (a4 hz q hq)
theorem EX.mo {z z2 : Nat} {c c2 : Nat → Nat} {u u2 : CS} (a : EX z c u c2 u2) (h : zle z z2) : EX z2 c u c2 u2 := by
  obtain ⟨a1, a2, a3, a4, a5, a6⟩ := a
  unfold zle at h
  exact ⟨a1, a2, a3, fun hz => a4 (by omega), fun hz => a5 (by omega), fun hz => a6 (by omega)⟩
theorem EX.P {z : Nat} {c c2 : Nat → Nat} {u u2 : CS} (a : EX z c u c2 u2) {j q : Nat} (h : PVn c j q) : PVn c2 j q := ⟨(a.1 q h.1).1, h.2.trans (a.1 q h.1).2.1.symm⟩
theorem EX.F {z : Nat} {c c2 : Nat → Nat} {u u2 : CS} (a : EX z c u c2 u2) {j q : Nat} (h : FVn c j q) : FVn c2 j q := ⟨(a.1 q h.1).1, h.2.trans (a.1 q h.1).2.2.symm⟩
theorem EX.C {z : Nat} {c c2 : Nat → Nat} {u u2 : CS} (a : EX z c u c2 u2) (hz : z ≤ 1) {j b : Nat} (h : CVn c j b) : CVn c2 j b := by
  obtain ⟨q, h1, h2, h3⟩ := h
  exact ⟨q, (a.1 q h1).1, h2, h3.trans (a.2.2.2.1 hz q h1).symm⟩
theorem EX.Po {z : Nat} {c c2 : Nat → Nat} {u u2 : CS} (a : EX z c u c2 u2) {x y : Option Nat} (h : PVo c x y) : PVo c2 x y := by
  rcases h with h | ⟨j, q, h1, h2, h3⟩
  · exact Or.inl h
  · exact Or.inr ⟨j, q, h1, h2, a.P h3⟩
theorem EX.Fo {z : Nat} {c c2 : Nat → Nat} {u u2 : CS} (a : EX z c u c2 u2) {x y : Option Nat} (h : FVo c x y) : FVo c2 x y := by
  rcases h with h | ⟨j, q, h1, h2, h3⟩
  · exact Or.inl h
  · exact Or.inr ⟨j, q, h1, h2, a.F h3⟩
theorem EX.Co {z : Nat} {c c2 : Nat → Nat} {u u2 : CS} (a : EX z c u c2 u2) (hz : z ≤ 1) {x y : Option Nat} (h : CVo c x y) : CVo c2 x y := by
  rcases h with h | ⟨j, q, h1, h2, h3⟩
  · exact Or.inl h
  · exact Or.inr ⟨j, q, h1, h2, a.C hz h3⟩
theorem EX.M {z : Nat} {c c2 : Nat → Nat} {u u2 : CS} (a : EX z c u c2 u2) {q : Nat} (h : MD c q) : MD c2 q := (a.1 q h).1
section
variable {α β γ δ ε : Type} {z : Nat} {o : Option Nat} {V : (Nat → Nat) → α → β → Prop} {c : Nat → Nat} {u : CS} {m : MS}
theorem rf_bo {e : Option γ} {x : γ} {f : γ → Option (CS × α)} {y : Option (MS × β)} (h : e = some x) (q : RF z o V c u (f x) y) : RF z o V c u (bo e f) y := by subst h; exact q
theorem rf_so {x : γ} {f : γ → Option (CS × α)} {y : Option (MS × β)} (q : RF z o V c u (f x) y) : RF z o V c u (bo (some x) f) y := q
theorem rf_br {b : Bool} {x1 x2 : Option (CS × α)} {y1 y2 : Option (MS × β)} (h1 : RF z o V c u x1 y1) (h2 : RF z o V c u x2 y2) : RF z o V c u (br b x1 x2) (br b y1 y2) := by cases b; exact h2; exact h1
theorem rf_br2 {b b2 : Bool} {x1 x2 : Option (CS × α)} {y1 y2 : Option (MS × β)} (e : b = b2) (h1 : RF z o V c u x1 y1) (h2 : RF z o V c u x2 y2) : RF z o V c u (br b x1 x2) (br b2 y1 y2) := by subst e; cases b; exact h2; exact h1
theorem rf_ck {b : Bool} {x : Option (CS × α)} {y : Option (MS × β)} (h : b = true) (q : RF z o V c u x y) : RF z o V c u (ck b x) y := by subst h; exact q
theorem rf_ckk {b : Bool} {x : Option (CS × α)} {y : Option (MS × β)} (q : RF z o V c u x y) : RF z o V c u (ck b x) (ck b y) := by
  cases b
  · intro m2 b2 h; cases h
  · exact q
theorem rf_ret {a : α} {b : β} (h : RP o c m u) (v : V c a b) : RF z o V c u (some (u, a)) (some (m, b)) := by
  intro m2 b2 e
  cases e
  exact ⟨c, u, a, rfl, h, EX.rf rfl, v⟩
theorem rf_none {x : Option (CS × α)} : RF z o V c u x none := by intro m2 b2 e; cases e
theorem rf_lt {e : γ} {f : γ → Option (CS × α)} {g : γ → Option (MS × β)} (q : RF z o V c u (f e) (g e)) : RF z o V c u (lt e f) (lt e g) := q
theorem rf_ai {e : Option γ} {b : Bool} {x : γ} {f : γ → Option (CS × α)} {y : Option (MS × β)} (h : e = if b = true then some x else none) (q : RF z o V c u (f x) y) : RF z o V c u (bo e f) (ck b y) := by
  cases b
  · intro m2 b2 h; cases h
  · subst h; exact q
theorem rf_w {e : Option CS} {m2 : MS} {f : CS → Option (CS × α)} {g : MS → Option (MS × β)} (h : ∃ w, e = some w ∧ RP o c m2 w ∧ w.1 = u.1) (q : ∀ m3 w, RP o c m3 w → RF z o V c w (f w) (g m3)) : RF z o V c u (bo e f) (lt m2 g) := by
  obtain ⟨w, e1, h1, h2⟩ := h
  subst e1
  intro m4 b hb
  obtain ⟨c2, u2, a, k1, k2, k3, k4⟩ := q m2 w h1 m4 b hb
  exact ⟨c2, u2, a, k1, k2, (EX.rf h2).tr k3, k4⟩
theorem rf_wk {e : Option CS} {b : Bool} {m2 : MS} {f : CS → Option (CS × α)} {g : MS → Option (MS × β)} (h : b = true → ∃ w, e = some w ∧ RP o c m2 w ∧ w.1 = u.1) (q : ∀ m3 w, RP o c m3 w → RF z o V c w (f w) (g m3)) : RF z o V c u (bo e f) (ck b (lt m2 g)) := by
  cases b
  · intro m4 b2 h; cases h
  · exact rf_w (h rfl) q
theorem rf_bx {z1 : Nat} {V1 : (Nat → Nat) → γ → δ → Prop} {x : Option (CS × γ)} {y : Option (MS × δ)} {f : CS → γ → Option (CS × α)} {g : MS → δ → Option (MS × β)} (h : RF z1 o V1 c u x y) (hz : zle z1 z) (q : ∀ c2 m2 u2 a b, RP o c2 m2 u2 → EX z1 c u c2 u2 → V1 c2 a b → RF z o V c2 u2 (f u2 a) (g m2 b)) : RF z o V c u (bx x f) (bnd y g) := by
  cases hy : y with
  | none => intro m2 b e; cases e
  | some p =>
    obtain ⟨c2, u2, a, k1, k2, k3, k4⟩ := h p.1 p.2 hy
    subst k1
    intro m4 b hb
    obtain ⟨c3, u3, a3, l1, l2, l3, l4⟩ := q c2 p.1 u2 a p.2 k2 k3 k4 m4 b hb
    exact ⟨c3, u3, a3, l1, l2, (k3.mo hz).tr l3, l4⟩
theorem rf_bx0 {x : Option (CS × γ)} {y : Option (MS × γ)} {f : CS → γ → Option (CS × α)} {g : MS → γ → Option (MS × β)} (h : RF 0 o VE c u x y) (q : ∀ m2 u2 a, RP o c m2 u2 → RF z o V c u2 (f u2 a) (g m2 a)) : RF z o V c u (bx x f) (bnd y g) := by
  refine rf_bx h (zle0) (fun c2 m2 u2 a b r e v => ?_)
  have hc := e.2.2.2.2.1 rfl
  subst hc
  cases v
  exact q m2 u2 a r
theorem rf_bxP {x : Option (CS × Option Nat)} {y : Option (MS × Option Nat)} {f : CS → Option Nat → Option (CS × α)} {g : MS → Option Nat → Option (MS × β)} (h : RF 0 o PVo c u x y) (q : ∀ m2 u2 a b, RP o c m2 u2 → PVo c a b → RF z o V c u2 (f u2 a) (g m2 b)) : RF z o V c u (bx x f) (bnd y g) := by
  refine rf_bx h (zle0) (fun c2 m2 u2 a b r e v => ?_)
  have hc := e.2.2.2.2.1 rfl
  subst hc
  exact q m2 u2 a b r v
theorem rf_z {z1 : Nat} {x : Option (CS × α)} {y : Option (MS × β)} (h : RF z1 o V c u x y) (hz : zle z1 z) : RF z o V c u x y := by
  intro m2 b hb
  obtain ⟨c2, u2, a, k1, k2, k3, k4⟩ := h m2 b hb
  exact ⟨c2, u2, a, k1, k2, k3.mo hz, k4⟩
theorem rf_gw {x : Option (CS × α)} {y : Option (MS × β)} (h : RF z o V c u x y) : RF z o V c u (gw u x) y := by
  intro m2 b hb
  obtain ⟨c2, u2, a, k1, k2, k3, k4⟩ := h m2 b hb
  subst k1
  exact ⟨c2, u2, a, if_pos ⟨k3.2.1, k3.2.2.1⟩, k2, k3, k4⟩
theorem rf_gz {x : Option (CS × α)} {y : Option (MS × β)} (h : RF z o V c u x y) (hz : z = 0 ∨ z = 3) : RF z o V c u (gz u x) y := by
  intro m2 b hb
  obtain ⟨c2, u2, a, k1, k2, k3, k4⟩ := h m2 b hb
  subst k1
  have := k3.2.2.2.2.2 hz
  exact ⟨c2, u2, a, if_pos ⟨by rw [this], by rw [this]⟩, k2, k3, k4⟩
theorem rf_bT {x : Option (CS × (γ ⊕ Nat))} {y : Option (MS × (γ ⊕ Nat))} {f : CS → γ → Option (CS × (δ ⊕ Nat))} {g : MS → γ → Option (MS × (δ ⊕ Nat))} (h : RF 0 o VE c u x y) (q : ∀ m2 u2 a, RP o c m2 u2 → RF z o VE c u2 (f u2 a) (g m2 a)) : RF z o VE c u (bT x f) (bTm y g) := by
  cases hy : y with
  | none => intro m2 b e; cases e
  | some p =>
    obtain ⟨c2, u2, a, k1, k2, k3, k4⟩ := h p.1 p.2 hy
    have hc := k3.2.2.2.2.1 rfl
    subst hc
    subst k1
    cases k4
    obtain ⟨p1, p2⟩ := p
    cases p2 with
    | inl v =>
      intro m4 b hb
      obtain ⟨c3, u3, a3, l1, l2, l3, l4⟩ := q p1 u2 v k2 m4 b hb
      exact ⟨c3, u3, a3, l1, l2, (k3.mo (zle0)).tr l3, l4⟩
    | inr k =>
      intro m4 b hb
      cases hb
      exact ⟨c2, u2, .inr k, rfl, k2, k3.mo (zle0), rfl⟩
theorem rf_bH {x : Option (CS × (γ ⊕ Nat))} {y : Option (MS × (γ ⊕ Nat))} {f : CS → γ → Option (CS × δ)} {g : MS → γ → Option (MS × δ)} {f2 : CS → Option (CS × δ)} {g2 : MS → Option (MS × δ)} (h : RF 0 o VE c u x y) (q : ∀ m2 u2 a, RP o c m2 u2 → RF z o VE c u2 (f u2 a) (g m2 a)) (q2 : ∀ m2 u2, RP o c m2 u2 → RF z o VE c u2 (f2 u2) (g2 m2)) : RF z o VE c u (bH x f f2) (bHm y g g2) := by
  cases hy : y with
  | none => intro m2 b e; cases e
  | some p =>
    obtain ⟨c2, u2, a, k1, k2, k3, k4⟩ := h p.1 p.2 hy
    have hc := k3.2.2.2.2.1 rfl
    subst hc
    subst k1
    cases k4
    obtain ⟨p1, p2⟩ := p
    cases p2 with
    | inl v =>
      intro m4 b hb
      obtain ⟨c3, u3, a3, l1, l2, l3, l4⟩ := q p1 u2 v k2 m4 b hb
      exact ⟨c3, u3, a3, l1, l2, (k3.mo (zle0)).tr l3, l4⟩
    | inr k =>
      intro m4 b hb
      by_cases e : k = 3
      · subst e
        obtain ⟨c3, u3, a3, l1, l2, l3, l4⟩ := q2 p1 u2 k2 m4 b hb
        exact ⟨c3, u3, a3, l1, l2, (k3.mo (zle0)).tr l3, l4⟩
      · have : (if k = 3 then g2 p1 else none) = some (m4, b) := hb
        rw [if_neg e] at this
        cases this
theorem rf_boP {a b : Option Nat} {f : Nat → Option (CS × α)} {g : Nat → Option (MS × β)} (h : PVo c a b) (q : ∀ j q, PVn c j q → RF z o V c u (f j) (g q)) : RF z o V c u (bo a f) (bo b g) := by
  rcases h with ⟨rfl, rfl⟩ | ⟨j, r, rfl, rfl, h3⟩
  · exact rf_none
  · exact q j r h3
theorem rf_boF {a b : Option Nat} {f : Nat → Option (CS × α)} {g : Nat → Option (MS × β)} (h : FVo c a b) (q : ∀ j q, FVn c j q → RF z o V c u (f j) (g q)) : RF z o V c u (bo a f) (bo b g) := by
  rcases h with ⟨rfl, rfl⟩ | ⟨j, r, rfl, rfl, h3⟩
  · exact rf_none
  · exact q j r h3
theorem rf_boC {a b : Option Nat} {f : Nat → Option (CS × α)} {g : Nat → Option (MS × β)} (h : CVo c a b) (q : ∀ j q, CVn c j q → RF z o V c u (f j) (g q)) : RF z o V c u (bo a f) (bo b g) := by
  rcases h with ⟨rfl, rfl⟩ | ⟨j, r, rfl, rfl, h3⟩
  · exact rf_none
  · exact q j r h3
theorem rf_soP {q : Nat} {f : Nat → Option (CS × α)} {y : Option (MS × β)} (h : MD c q) (k : ∀ j, PVn c j q → RF z o V c u (f j) y) : RF z o V c u (bo (some (c (pq q 0))) f) y := k _ ⟨h, rfl⟩
theorem rf_soF {q : Nat} {f : Nat → Option (CS × α)} {y : Option (MS × β)} (h : MD c q) (k : ∀ j, FVn c j q → RF z o V c u (f j) y) : RF z o V c u (bo (some (c (pq q 20))) f) y := k _ ⟨h, rfl⟩
theorem PV_n {a b : Option Nat} (h : PVo c a b) : (decide (a = none)) = decide (b = none) := by
  rcases h with ⟨rfl, rfl⟩ | ⟨j, r, rfl, rfl, h3⟩ <;> rfl
theorem PV_e (h : RP o c m u) {a b a2 b2 : Option Nat} (h1 : PVo c a b) (h2 : PVo c a2 b2) : (decide (a = a2)) = decide (b = b2) := by
  rcases h1 with ⟨rfl, rfl⟩ | ⟨j, r, rfl, rfl, h3⟩ <;> rcases h2 with ⟨rfl, rfl⟩ | ⟨j2, r2, rfl, rfl, h4⟩
  · rfl
  · rfl
  · rfl
  · by_cases e : r = r2
    · subst e
      rw [h3.2, h4.2, decide_eq_true rfl, decide_eq_true rfl]
    · have : ¬ (j = j2) := by
        rw [h3.2, h4.2]
        exact fun zz => e (h.2.2.2.2.1.1 r 0 r2 0 h3.1 h4.1 isR0 isR0 zz).1
      rw [decide_eq_false (fun zz => this (by injection zz)), decide_eq_false (fun zz => e (by injection zz))]
theorem PV_s {q : Nat} (h : MD c q) : PVo c (some (c (pq q 0))) (some q) := Or.inr ⟨_, _, rfl, rfl, h, rfl⟩
theorem FV_s {q : Nat} (h : MD c q) : FVo c (some (c (pq q 20))) (some q) := Or.inr ⟨_, _, rfl, rfl, h, rfl⟩
theorem CV_s {q : Nat} (h : MD c q) : CVo c (some (c (pq q 2))) (some (pq q 2)) := Or.inr ⟨_, _, rfl, rfl, q, h, rfl, rfl⟩
theorem PV_j {j q : Nat} (h : PVn c j q) : PVo c (some j) (some q) := Or.inr ⟨_, _, rfl, rfl, h⟩
theorem FV_j {j q : Nat} (h : FVn c j q) : FVo c (some j) (some q) := Or.inr ⟨_, _, rfl, rfl, h⟩
theorem PV_0 : PVo c none none := Or.inl ⟨rfl, rfl⟩
theorem CV_0 : CVo c none none := Or.inl ⟨rfl, rfl⟩
theorem RP.md {p : Nat} (h : RP (some p) c m u) : MD c p := (h.2.2.1 p rfl).1
theorem gR_M3 {p : Nat} (h : RP (some p) c m u) : gR u 55 5 3 = some (some (c (pq p 0))) := by rw [gd_55_3 h.1.1, (h.2.2.1 p rfl).2.1]
theorem gR_M4 {p : Nat} (h : RP (some p) c m u) : gR u 55 5 4 = some (some (c (pq p 20))) := by rw [gd_55_4 h.1.1, (h.2.2.1 p rfl).2.2]
theorem okR_s (h : RP o c m u) {i : Nat} (hi : i < 57) : okR u.1.1 (some i) = true := decide_eq_true (by have := sk_n h.1.1; omega)
theorem okR_r (h : RP o c m u) {q k : Nat} (hq : MD c q) (hk : isR k) : okR u.1.1 (some (c (pq q k))) = true := decide_eq_true (h.lt hq hk)
theorem okR_P (h : RP o c m u) {j q : Nat} (hj : PVn c j q) : okR u.1.1 (some j) = true := by rw [hj.2]; exact okR_r h hj.1 isR0
theorem okR_F (h : RP o c m u) {j q : Nat} (hj : FVn c j q) : okR u.1.1 (some j) = true := by rw [hj.2]; exact okR_r h hj.1 isR20
theorem okR_Po (h : RP o c m u) {a b : Option Nat} (hj : PVo c a b) : okR u.1.1 a = true := by
  rcases hj with ⟨rfl, -⟩ | ⟨j, q, rfl, -, h3⟩
  · rfl
  · exact okR_P h h3
theorem okR_Fo (h : RP o c m u) {a b : Option Nat} (hj : FVo c a b) : okR u.1.1 a = true := by
  rcases hj with ⟨rfl, -⟩ | ⟨j, q, rfl, -, h3⟩
  · rfl
  · exact okR_F h h3
theorem okR_Co (h : RP o c m u) {a b : Option Nat} (hj : CVo c a b) : okR u.1.1 a = true := by
  rcases hj with ⟨rfl, -⟩ | ⟨j, b, rfl, -, q, h3, -, rfl⟩
  · rfl
  · exact okR_r h h3 (by unfold isR; omega)
theorem all1 {n : Nat} {a : Option Nat} (h : okR n a = true) : List.all [a] (okR n) = true := by simp only [List.all_cons, List.all_nil, h, Bool.and_true]
theorem all2 {n : Nat} {a a2 : Option Nat} (h : okR n a = true) (h2 : okR n a2 = true) : List.all [a, a2] (okR n) = true := by simp only [List.all_cons, List.all_nil, h, h2, Bool.and_true]
theorem all3 {n : Nat} {a a2 a3 : Option Nat} (h : okR n a = true) (h2 : okR n a2 = true) (h3 : okR n a3 = true) : List.all [a, a2, a3] (okR n) = true := by simp only [List.all_cons, List.all_nil, h, h2, h3, Bool.and_true]
theorem all4 {n : Nat} {a a2 a3 a4 : Option Nat} (h : okR n a = true) (h2 : okR n a2 = true) (h3 : okR n a3 = true) (h4 : okR n a4 = true) : List.all [a, a2, a3, a4] (okR n) = true := by simp only [List.all_cons, List.all_nil, h, h2, h3, h4, Bool.and_true]
theorem all5 {n : Nat} {a a2 a3 a4 a5 : Option Nat} (h : okR n a = true) (h2 : okR n a2 = true) (h3 : okR n a3 = true) (h4 : okR n a4 = true) (h5 : okR n a5 = true) : List.all [a, a2, a3, a4, a5] (okR n) = true := by simp only [List.all_cons, List.all_nil, h, h2, h3, h4, h5, Bool.and_true]
theorem oP_48 (h : RP o c m u) : ∃ g, oP u 48 = some (24, g) ∧ g = AP u 48 := by
  have h1 := sk_at h.1.1 (i := 48) (by decide)
  have hn := sk_n h.1.1
  have e : tbl.getD 48 (9, []) = (2, [24]) := rfl
  rw [e] at h1
  unfold oP
  rw [if_pos (by omega)]
  unfold AP
  cases hc : u.2 48 with
  | inl q => rw [hc] at h1; simp [okS] at h1
  | inr q =>
    rcases q with q | q | q
    · rw [hc] at h1; simp [okS] at h1
    · rw [hc] at h1; simp [okS] at h1
    · rw [hc] at h1
      simp [okS] at h1
      exact ⟨q.2, by show some q = some (24, q.2); rw [h1], rfl⟩
theorem aP_48 (h : RP o c m u) {i : Int32} : ∃ a, aP u 48 i = (if inb i 24 = true then some a else none) ∧ (inb i 24 = true → PVo c a (rf (m.2.2.1 1948 i.toNatClampNeg))) := by
  obtain ⟨g, e, e2⟩ := oP_48 h
  refine ⟨g i.toNatClampNeg, by unfold aP; rw [e], fun hb => ?_⟩
  have hl := inb_lt hb
  rw [e2, h.2.2.2.1.1 _ hl, h.2.2.2.1.2 _ hl]
  by_cases e3 : c (pq i.toNatClampNeg 0) = 0
  · rw [if_pos e3, if_pos e3]; exact PV_0
  · rw [if_neg e3, if_neg e3, rf_ofNat (by omega)]
    exact PV_s ⟨hl, e3⟩
theorem rf_aP (h : RP o c m u) {i : Int32} {f : Option Nat → Option (CS × α)} {y : Option (MS × β)} (q : ∀ a, PVo c a (rf (m.2.2.1 1948 i.toNatClampNeg)) → RF z o V c u (f a) y) : RF z o V c u (bo (aP u 48 i) f) (ck (inb i 24) y) := by
  obtain ⟨a, e, h2⟩ := aP_48 h (i := i)
  cases hb : inb i 24 with
  | false => intro m2 b2 h; cases h
  | true => rw [e, if_pos hb]; exact q a (h2 hb)
end
end
section
set_option maxRecDepth 100000
section
variable {o : Option Nat} {c : Nat → Nat} {m : MS} {u : CS}
theorem gI_s (h : RP o c m u) {i ci k : Nat} {ks : List Nat} (hi : i < 57 ∧ k < 20) (ht : tbl.getD i (9, []) = (3, ci :: ks)) (hk : k < ks.length) (h0 : ks.getD k 9 = 0) : gI u i ci k = some (m.1 (20 * i + k)) := by
  rw [sk_gI h.1.1 hi.1 ht hk h0, h.1.2.1 i k hi.1 hi.2]
theorem aI_s (h : RP o c m u) {i t n : Nat} {j : Int32} (hi : i < 57) (ht : tbl.getD i (9, []) = (0, [t, n])) : aI u i t j = if inb j n = true then some (m.2.2.1 i j.toNatClampNeg) else none := by
  rw [sk_aI h.1.1 hi ht, h.1.2.2.2.1 i hi]
theorem aJ_s (h : RP o c m u) {i n : Nat} {j : Int32} (hi : i < 57) (ht : tbl.getD i (9, []) = (1, [n])) : aJ u i j = if inb j n = true then some (m.2.2.2 i j.toNatClampNeg) else none := by
  rw [sk_aJ h.1.1 hi ht, h.1.2.2.2.2.1 i hi]
theorem pI_s (h : RP o c m u) {i ci k : Nat} {ks : List Nat} {v : Int32} (hi : i < 57 ∧ k < 20) (ht : tbl.getD i (9, []) = (3, ci :: ks)) (hk : ks[k]? = some 0) (hx : i ≠ 43 ∨ k ≠ 4) (hy : i ≠ 55 ∨ (k ≠ 3 ∧ k ≠ 4 ∧ k ≠ 10)) (hz : i ≠ 48) : ∃ w, pF u i ci k (.inl v) = some w ∧ RP o c (upI m (20 * i + k) v) w ∧ w.1 = u.1 :=
  ⟨_, (RP_pI h hi ht hk hx hy hz).1, (RP_pI h hi ht hk hx hy hz).2, uF_1⟩
theorem sI_s (h : RP o c m u) {i t n : Nat} {j v : Int32} (hi : i < 57) (hz : i ≠ 48) (ht : tbl.getD i (9, []) = (0, [t, n])) (hb : inb j n = true) : ∃ w, sI u i t j v = some w ∧ RP o c (upA m i (upd (m.2.2.1 i) j.toNatClampNeg v)) w ∧ w.1 = u.1 := by
  refine ⟨_, (sk_sI h.1.1 hi ht).trans (if_pos hb), ?_, uA_1⟩
  rw [h.1.2.2.2.1 i hi]
  exact RP_pA h hi ht hz
theorem sJ_s (h : RP o c m u) {i n : Nat} {j : Int32} {v : Int64} (hi : i < 57) (hz : i ≠ 48) (ht : tbl.getD i (9, []) = (1, [n])) (hb : inb j n = true) : ∃ w, sJ u i j v = some w ∧ RP o c (upJ m i (vp_updL (m.2.2.2 i) j.toNatClampNeg v)) w ∧ w.1 = u.1 := by
  refine ⟨_, (sk_sJ h.1.1 hi ht).trans (if_pos hb), ?_, uJ_1⟩
  rw [h.1.2.2.2.2.1 i hi]
  exact RP_pJ h hi ht hz
theorem gJ_s10 (h : RP o c m u) : gJ u 55 5 10 = some (m.2.1 1110) := by rw [gj_55_10 h.1.1, h.1.2.2.1]
theorem pL_s10 (h : RP o c m u) {v : Int64} : ∃ w, pF u 55 5 10 (.inr (.inl v)) = some w ∧ RP o c (upL m 1110 v) w ∧ w.1 = u.1 := ⟨_, RP_pL h |>.1, RP_pL h |>.2, uF_1⟩
def isWd (v : Nat) : Prop := v = 1 ∨ v = 9 ∨ v = 12 ∨ v = 36
def bl (j : Nat) : Nat := match tbl.getD j (9, []) with
  | (0, [3, n]) => n
  | _ => 0
def il (j : Nat) : Nat := match tbl.getD j (9, []) with
  | (0, [4, n]) => n
  | _ => 0
def isBy (j : Nat) : Prop := j < 57 ∧ j ≠ 48 ∧ tbl.getD j (9, []) = (0, [3, bl j])
def isOu (j : Nat) : Prop := j = 52 ∨ j = 56
theorem By_ou {j : Nat} (h : isOu j) : isBy j := by rcases h with rfl | rfl <;> exact ⟨by decide, by decide, rfl⟩
theorem By_5 : isBy 5 := ⟨by decide, by decide, rfl⟩
theorem By_w {v : Nat} (h : isWd v) : isBy (v + 1) := by rcases h with rfl | rfl | rfl | rfl <;> exact ⟨by decide, by decide, rfl⟩
theorem io_W (h : RP o c m u) {v : Nat} (hv : isWd v) : isO u v 11 = true := by rcases hv with rfl | rfl | rfl | rfl <;> exact sk_isO h.1.1 (by decide) rfl
theorem gr_W0 (h : RP o c m u) {v : Nat} (hv : isWd v) : gR u v 11 0 = some (some (v + 1)) := by rcases hv with rfl | rfl | rfl | rfl <;> exact sk_gR h.1.1 (by decide) rfl (by decide) rfl
theorem gr_W1 (h : RP o c m u) {v : Nat} (hv : isWd v) : gR u v 11 1 = some (some (v + 2)) := by rcases hv with rfl | rfl | rfl | rfl <;> exact sk_gR h.1.1 (by decide) rfl (by decide) rfl
theorem gi_W2 (h : RP o c m u) {v : Nat} (hv : isWd v) : gI u v 11 2 = some (m.1 (20 * v + 2)) := by rcases hv with rfl | rfl | rfl | rfl <;> exact gI_s h (by decide) rfl (by decide) rfl
theorem pf_W2 (h : RP o c m u) {v : Nat} (hv : isWd v) {x : Int32} : ∃ w, pF u v 11 2 (.inl x) = some w ∧ RP o c (upI m (20 * v + 2) x) w ∧ w.1 = u.1 := by rcases hv with rfl | rfl | rfl | rfl <;> exact pI_s h (by decide) rfl rfl (by decide) (by decide) (by decide)
theorem ai_W (h : RP o c m u) {v : Nat} (hv : isWd v) {j : Int32} : aI u (v + 2) 4 j = if inb j (il (v + 2)) = true then some (m.2.2.1 (v + 2) j.toNatClampNeg) else none := by rcases hv with rfl | rfl | rfl | rfl <;> exact aI_s h (by decide) rfl
theorem si_W (h : RP o c m u) {v : Nat} (hv : isWd v) {j x : Int32} (hb : inb j (il (v + 2)) = true) : ∃ w, sI u (v + 2) 4 j x = some w ∧ RP o c (upA m (v + 2) (upd (m.2.2.1 (v + 2)) j.toNatClampNeg x)) w ∧ w.1 = u.1 := by rcases hv with rfl | rfl | rfl | rfl <;> exact sI_s h (by decide) (by decide) rfl hb
theorem na_W (h : RP o c m u) {v : Nat} (hv : isWd v) : nA u (v + 2) 4 = some (Int32.ofNat (il (v + 2))) := by rcases hv with rfl | rfl | rfl | rfl <;> exact sk_nA h.1.1 (by decide) rfl
theorem ai_B (h : RP o c m u) {v : Nat} (hv : isBy v) {j : Int32} : aI u v 3 j = if inb j (bl v) = true then some (m.2.2.1 v j.toNatClampNeg) else none := aI_s h hv.1 hv.2.2
theorem si_B (h : RP o c m u) {v : Nat} (hv : isBy v) {j x : Int32} (hb : inb j (bl v) = true) : ∃ w, sI u v 3 j x = some w ∧ RP o c (upA m v (upd (m.2.2.1 v) j.toNatClampNeg x)) w ∧ w.1 = u.1 := sI_s h hv.1 hv.2.1 hv.2.2 hb
theorem na_B (h : RP o c m u) {v : Nat} (hv : isBy v) : nA u v 3 = some (Int32.ofNat (bl v)) := sk_nA h.1.1 hv.1 hv.2.2
theorem cp_B (h : RP o c m u) {v w : Nat} (hv : isBy v) (hw : isBy w) {a b n : Int32} (hz : (cpOk a b n (bl v) (bl w) && ftB 3 (m.2.2.1 v) a.toNatClampNeg n.toNatClampNeg) = true) : ∃ x, cpI u 3 v a w b n = some x ∧ RP o c (upA m w (va_cpy (m.2.2.1 v) (m.2.2.1 w) a.toNatClampNeg b.toNatClampNeg n.toNatClampNeg)) x ∧ x.1 = u.1 := by
  rw [Bool.and_eq_true] at hz
  obtain ⟨h1, h2⟩ := sk_a h.1.1 hv.1 hv.2.2
  obtain ⟨h3, h4⟩ := sk_a h.1.1 hw.1 hw.2.2
  have e1 : oA u v 3 = some (bl v, AI u v) := by unfold oA; rw [if_pos h1, h2]; exact if_pos rfl
  have e2 : oA u w 3 = some (bl w, AI u w) := by unfold oA; rw [if_pos h3, h4]; exact if_pos rfl
  refine ⟨uA u w (va_cpy (AI u v) (AI u w) a.toNatClampNeg b.toNatClampNeg n.toNatClampNeg), ?_, ?_, uA_1⟩
  · unfold cpI
    rw [e1, e2]
    show ck (cpOk a b n (bl v) (bl w)) (ck (ftB 3 (AI u v) a.toNatClampNeg n.toNatClampNeg) _) = _
    rw [h.1.2.2.2.1 v hv.1]
    unfold ck
    rw [if_pos hz.1, if_pos hz.2]
    unfold uA
    rw [h4]
  · rw [h.1.2.2.2.1 v hv.1, h.1.2.2.2.1 w hw.1]
    exact RP_pA h hw.1 hw.2.2 hw.2.1
theorem gr_out (h : RP o c m u) : gR u 43 8 4 = some (rf (m.1 1964)) := by rw [sk_gD (k := 4) h.1.1 (by decide) rfl (by decide) rfl, h.1.2.2.2.2.2.1]
theorem pf_out (h : RP o c m u) {v : Nat} (hv : isOu v) : ∃ w, pF u 43 8 4 (.inr (.inr (some v))) = some w ∧ RP o c (upI m 1964 (Int32.ofNat v)) w ∧ w.1 = u.1 := by
  obtain ⟨⟨s1, s2, s3, s4, s5, s6, s7⟩, r2, r3, r4⟩ := h
  have hr : rf (Int32.ofNat v) = some v := rf_ofNat (by rcases hv with rfl | rfl <;> decide)
  refine ⟨uF u 43 4 (.inr (.inr (some v))), sk_pF s1 (by decide) rfl, ?_, uF_1⟩
  refine RP_low (u := u) (m := m) ⟨⟨s1, s2, s3, s4, s5, s6, s7⟩, r2, r3, r4⟩ ⟨sk_uF (x := 2) s1 (by decide) rfl rfl rfl, fun i2 k2 hi2 hk2 => ?_, ?_, fun i2 h2 => ?_, fun i2 h2 => ?_, ?_, ?_⟩ (wf_uF r2 (okR_s (o := o) (c := c) (m := m) ⟨⟨s1, s2, s3, s4, s5, s6, s7⟩, r2, r3, r4⟩ (by rcases hv with rfl | rfl <;> decide))) (fun q hq => ?_) uF_1 (fun j hj => uF_ne (by omega)) (fun j hj => if_neg (by omega)) (fun _ _ => rfl) (fun _ _ => rfl) (fun _ _ => rfl)
  · by_cases e : i2 = 43 ∧ k2 = 4
    · obtain ⟨rfl, rfl⟩ := e
      rw [show (upI m 1964 (Int32.ofNat v)).1 (20 * 43 + 4) = m.1 (20 * 43 + 4) from rfl]
      rw [← s2 43 4 (by omega) (by omega)]
      obtain ⟨f, h1, h2, h3⟩ := sk_o s1 (i := 43) (by decide) rfl
      unfold FI uF
      rw [h2]
      simp only [cup, if_true]
      have := h3 4 (by decide)
      cases hf : f 4 with
      | inl z => rw [hf] at this; cases this
      | inr z => rfl
    · rw [FI_F (by omega), s2 i2 k2 hi2 hk2]
      exact (if_neg (by omega)).symm
  · rw [FJ_F (by omega)]; exact s3
  · rw [AI_F]; exact s4 i2 h2
  · rw [AJ_F]; exact s5 i2 h2
  · rw [FR_self s1 (by decide) rfl, show (upI m 1964 (Int32.ofNat v)).1 1964 = Int32.ofNat v from rfl, hr]
  · rw [show (upI m 1964 (Int32.ofNat v)).1 1964 = Int32.ofNat v from rfl, hr]
    intro j e
    cases e
    exact hv
  · rw [FR_F (by omega), FR_F (by omega)]; exact r3 q hq
theorem ou_out (h : RP o c m u) : ∀ j, rf (m.1 1964) = some j → isOu j := h.1.2.2.2.2.2.2
theorem rf_boB {α β : Type} {z : Nat} {V : (Nat → Nat) → α → β → Prop} {a : Option Nat} {f : Nat → Option (CS × α)} {g : Nat → Option (MS × β)} (h : ∀ j, a = some j → isOu j) (q : ∀ j, isOu j → RF z o V c u (f j) (g j)) : RF z o V c u (bo a f) (bo a g) := by
  cases a with
  | none => exact rf_none
  | some j => exact q j (h j rfl)
theorem ox_0 (h : RP o c m u) : isO u 0 1 = true := sk_isO h.1.1 (by decide) rfl
theorem rx_0_0 (h : RP o c m u) : gR u 0 1 0 = some (some 1) := sk_gR h.1.1 (by decide) rfl (by decide) rfl
theorem rx_0_1 (h : RP o c m u) : gR u 0 1 1 = some (some 4) := sk_gR h.1.1 (by decide) rfl (by decide) rfl
theorem rx_0_2 (h : RP o c m u) : gR u 0 1 2 = some (some 22) := sk_gR h.1.1 (by decide) rfl (by decide) rfl
theorem rx_0_3 (h : RP o c m u) : gR u 0 1 3 = some (some 33) := sk_gR h.1.1 (by decide) rfl (by decide) rfl
theorem rx_0_4 (h : RP o c m u) : gR u 0 1 4 = some (some 35) := sk_gR h.1.1 (by decide) rfl (by decide) rfl
theorem rx_0_5 (h : RP o c m u) : gR u 0 1 5 = some (some 43) := sk_gR h.1.1 (by decide) rfl (by decide) rfl
theorem rx_0_6 (h : RP o c m u) : gR u 0 1 6 = some (some 47) := sk_gR h.1.1 (by decide) rfl (by decide) rfl
theorem rx_0_7 (h : RP o c m u) : gR u 0 1 7 = some (some 55) := sk_gR h.1.1 (by decide) rfl (by decide) rfl
theorem rx_0_8 (h : RP o c m u) : gR u 0 1 8 = some (some 56) := sk_gR h.1.1 (by decide) rfl (by decide) rfl
theorem gx_0_9 (h : RP o c m u) : gI u 0 1 9 = some (m.1 9) := gI_s h (by decide) rfl (by decide) rfl
theorem px_0_9 (h : RP o c m u) {v : Int32} : ∃ w, pF u 0 1 9 (.inl v) = some w ∧ RP o c (upI m 9 v) w ∧ w.1 = u.1 := pI_s h (by decide) rfl rfl (by decide) (by decide) (by decide)
theorem gx_0_10 (h : RP o c m u) : gI u 0 1 10 = some (m.1 10) := gI_s h (by decide) rfl (by decide) rfl
theorem px_0_10 (h : RP o c m u) {v : Int32} : ∃ w, pF u 0 1 10 (.inl v) = some w ∧ RP o c (upI m 10 v) w ∧ w.1 = u.1 := pI_s h (by decide) rfl rfl (by decide) (by decide) (by decide)
theorem ox_1 (h : RP o c m u) : isO u 1 11 = true := sk_isO h.1.1 (by decide) rfl
theorem rx_1_0 (h : RP o c m u) : gR u 1 11 0 = some (some 2) := sk_gR h.1.1 (by decide) rfl (by decide) rfl
theorem rx_1_1 (h : RP o c m u) : gR u 1 11 1 = some (some 3) := sk_gR h.1.1 (by decide) rfl (by decide) rfl
theorem gx_1_2 (h : RP o c m u) : gI u 1 11 2 = some (m.1 22) := gI_s h (by decide) rfl (by decide) rfl
theorem px_1_2 (h : RP o c m u) {v : Int32} : ∃ w, pF u 1 11 2 (.inl v) = some w ∧ RP o c (upI m 22 v) w ∧ w.1 = u.1 := pI_s h (by decide) rfl rfl (by decide) (by decide) (by decide)
theorem ax_2 (h : RP o c m u) {j : Int32} : aI u 2 3 j = if inb j 4300 = true then some (m.2.2.1 2 j.toNatClampNeg) else none := aI_s h (by decide) rfl
theorem sx_2 (h : RP o c m u) {j v : Int32} (hb : inb j 4300 = true) : ∃ w, sI u 2 3 j v = some w ∧ RP o c (upA m 2 (upd (m.2.2.1 2) j.toNatClampNeg v)) w ∧ w.1 = u.1 := sI_s h (by decide) (by decide) rfl hb
theorem nx_2 (h : RP o c m u) : nA u 2 3 = some 4300 := sk_nA h.1.1 (by decide) rfl
theorem ax_3 (h : RP o c m u) {j : Int32} : aI u 3 4 j = if inb j 2101 = true then some (m.2.2.1 3 j.toNatClampNeg) else none := aI_s h (by decide) rfl
theorem sx_3 (h : RP o c m u) {j v : Int32} (hb : inb j 2101 = true) : ∃ w, sI u 3 4 j v = some w ∧ RP o c (upA m 3 (upd (m.2.2.1 3) j.toNatClampNeg v)) w ∧ w.1 = u.1 := sI_s h (by decide) (by decide) rfl hb
theorem nx_3 (h : RP o c m u) : nA u 3 4 = some 2101 := sk_nA h.1.1 (by decide) rfl
theorem ox_4 (h : RP o c m u) : isO u 4 9 = true := sk_isO h.1.1 (by decide) rfl
theorem rx_4_0 (h : RP o c m u) : gR u 4 9 0 = some (some 5) := sk_gR h.1.1 (by decide) rfl (by decide) rfl
theorem gx_4_1 (h : RP o c m u) : gI u 4 9 1 = some (m.1 81) := gI_s h (by decide) rfl (by decide) rfl
theorem px_4_1 (h : RP o c m u) {v : Int32} : ∃ w, pF u 4 9 1 (.inl v) = some w ∧ RP o c (upI m 81 v) w ∧ w.1 = u.1 := pI_s h (by decide) rfl rfl (by decide) (by decide) (by decide)
theorem rx_4_2 (h : RP o c m u) : gR u 4 9 2 = some (some 6) := sk_gR h.1.1 (by decide) rfl (by decide) rfl
theorem rx_4_3 (h : RP o c m u) : gR u 4 9 3 = some (some 7) := sk_gR h.1.1 (by decide) rfl (by decide) rfl
theorem rx_4_4 (h : RP o c m u) : gR u 4 9 4 = some (some 8) := sk_gR h.1.1 (by decide) rfl (by decide) rfl
theorem gx_4_5 (h : RP o c m u) : gI u 4 9 5 = some (m.1 85) := gI_s h (by decide) rfl (by decide) rfl
theorem px_4_5 (h : RP o c m u) {v : Int32} : ∃ w, pF u 4 9 5 (.inl v) = some w ∧ RP o c (upI m 85 v) w ∧ w.1 = u.1 := pI_s h (by decide) rfl rfl (by decide) (by decide) (by decide)
theorem rx_4_6 (h : RP o c m u) : gR u 4 9 6 = some (some 9) := sk_gR h.1.1 (by decide) rfl (by decide) rfl
theorem rx_4_7 (h : RP o c m u) : gR u 4 9 7 = some (some 1) := sk_gR h.1.1 (by decide) rfl (by decide) rfl
theorem rx_4_8 (h : RP o c m u) : gR u 4 9 8 = some (some 12) := sk_gR h.1.1 (by decide) rfl (by decide) rfl
theorem gx_4_9 (h : RP o c m u) : gI u 4 9 9 = some (m.1 89) := gI_s h (by decide) rfl (by decide) rfl
theorem px_4_9 (h : RP o c m u) {v : Int32} : ∃ w, pF u 4 9 9 (.inl v) = some w ∧ RP o c (upI m 89 v) w ∧ w.1 = u.1 := pI_s h (by decide) rfl rfl (by decide) (by decide) (by decide)
theorem gx_4_10 (h : RP o c m u) : gI u 4 9 10 = some (m.1 90) := gI_s h (by decide) rfl (by decide) rfl
theorem px_4_10 (h : RP o c m u) {v : Int32} : ∃ w, pF u 4 9 10 (.inl v) = some w ∧ RP o c (upI m 90 v) w ∧ w.1 = u.1 := pI_s h (by decide) rfl rfl (by decide) (by decide) (by decide)
theorem ax_5 (h : RP o c m u) {j : Int32} : aI u 5 3 j = if inb j 4000 = true then some (m.2.2.1 5 j.toNatClampNeg) else none := aI_s h (by decide) rfl
theorem sx_5 (h : RP o c m u) {j v : Int32} (hb : inb j 4000 = true) : ∃ w, sI u 5 3 j v = some w ∧ RP o c (upA m 5 (upd (m.2.2.1 5) j.toNatClampNeg v)) w ∧ w.1 = u.1 := sI_s h (by decide) (by decide) rfl hb
theorem nx_5 (h : RP o c m u) : nA u 5 3 = some 4000 := sk_nA h.1.1 (by decide) rfl
theorem ax_6 (h : RP o c m u) {j : Int32} : aI u 6 4 j = if inb j 4002 = true then some (m.2.2.1 6 j.toNatClampNeg) else none := aI_s h (by decide) rfl
theorem sx_6 (h : RP o c m u) {j v : Int32} (hb : inb j 4002 = true) : ∃ w, sI u 6 4 j v = some w ∧ RP o c (upA m 6 (upd (m.2.2.1 6) j.toNatClampNeg v)) w ∧ w.1 = u.1 := sI_s h (by decide) (by decide) rfl hb
theorem nx_6 (h : RP o c m u) : nA u 6 4 = some 4002 := sk_nA h.1.1 (by decide) rfl
theorem ax_7 (h : RP o c m u) {j : Int32} : aI u 7 4 j = if inb j 4002 = true then some (m.2.2.1 7 j.toNatClampNeg) else none := aI_s h (by decide) rfl
theorem sx_7 (h : RP o c m u) {j v : Int32} (hb : inb j 4002 = true) : ∃ w, sI u 7 4 j v = some w ∧ RP o c (upA m 7 (upd (m.2.2.1 7) j.toNatClampNeg v)) w ∧ w.1 = u.1 := sI_s h (by decide) (by decide) rfl hb
theorem nx_7 (h : RP o c m u) : nA u 7 4 = some 4002 := sk_nA h.1.1 (by decide) rfl
theorem ax_8 (h : RP o c m u) {j : Int32} : aI u 8 4 j = if inb j 4002 = true then some (m.2.2.1 8 j.toNatClampNeg) else none := aI_s h (by decide) rfl
theorem sx_8 (h : RP o c m u) {j v : Int32} (hb : inb j 4002 = true) : ∃ w, sI u 8 4 j v = some w ∧ RP o c (upA m 8 (upd (m.2.2.1 8) j.toNatClampNeg v)) w ∧ w.1 = u.1 := sI_s h (by decide) (by decide) rfl hb
theorem nx_8 (h : RP o c m u) : nA u 8 4 = some 4002 := sk_nA h.1.1 (by decide) rfl
theorem ox_9 (h : RP o c m u) : isO u 9 11 = true := sk_isO h.1.1 (by decide) rfl
theorem rx_9_0 (h : RP o c m u) : gR u 9 11 0 = some (some 10) := sk_gR h.1.1 (by decide) rfl (by decide) rfl
theorem rx_9_1 (h : RP o c m u) : gR u 9 11 1 = some (some 11) := sk_gR h.1.1 (by decide) rfl (by decide) rfl
theorem gx_9_2 (h : RP o c m u) : gI u 9 11 2 = some (m.1 182) := gI_s h (by decide) rfl (by decide) rfl
theorem px_9_2 (h : RP o c m u) {v : Int32} : ∃ w, pF u 9 11 2 (.inl v) = some w ∧ RP o c (upI m 182 v) w ∧ w.1 = u.1 := pI_s h (by decide) rfl rfl (by decide) (by decide) (by decide)
theorem ax_10 (h : RP o c m u) {j : Int32} : aI u 10 3 j = if inb j 100 = true then some (m.2.2.1 10 j.toNatClampNeg) else none := aI_s h (by decide) rfl
theorem sx_10 (h : RP o c m u) {j v : Int32} (hb : inb j 100 = true) : ∃ w, sI u 10 3 j v = some w ∧ RP o c (upA m 10 (upd (m.2.2.1 10) j.toNatClampNeg v)) w ∧ w.1 = u.1 := sI_s h (by decide) (by decide) rfl hb
theorem nx_10 (h : RP o c m u) : nA u 10 3 = some 100 := sk_nA h.1.1 (by decide) rfl
theorem ax_11 (h : RP o c m u) {j : Int32} : aI u 11 4 j = if inb j 21 = true then some (m.2.2.1 11 j.toNatClampNeg) else none := aI_s h (by decide) rfl
theorem sx_11 (h : RP o c m u) {j v : Int32} (hb : inb j 21 = true) : ∃ w, sI u 11 4 j v = some w ∧ RP o c (upA m 11 (upd (m.2.2.1 11) j.toNatClampNeg v)) w ∧ w.1 = u.1 := sI_s h (by decide) (by decide) rfl hb
theorem nx_11 (h : RP o c m u) : nA u 11 4 = some 21 := sk_nA h.1.1 (by decide) rfl
theorem ox_12 (h : RP o c m u) : isO u 12 11 = true := sk_isO h.1.1 (by decide) rfl
theorem rx_12_0 (h : RP o c m u) : gR u 12 11 0 = some (some 13) := sk_gR h.1.1 (by decide) rfl (by decide) rfl
theorem rx_12_1 (h : RP o c m u) : gR u 12 11 1 = some (some 14) := sk_gR h.1.1 (by decide) rfl (by decide) rfl
theorem gx_12_2 (h : RP o c m u) : gI u 12 11 2 = some (m.1 242) := gI_s h (by decide) rfl (by decide) rfl
theorem px_12_2 (h : RP o c m u) {v : Int32} : ∃ w, pF u 12 11 2 (.inl v) = some w ∧ RP o c (upI m 242 v) w ∧ w.1 = u.1 := pI_s h (by decide) rfl rfl (by decide) (by decide) (by decide)
theorem ax_13 (h : RP o c m u) {j : Int32} : aI u 13 3 j = if inb j 4300 = true then some (m.2.2.1 13 j.toNatClampNeg) else none := aI_s h (by decide) rfl
theorem sx_13 (h : RP o c m u) {j v : Int32} (hb : inb j 4300 = true) : ∃ w, sI u 13 3 j v = some w ∧ RP o c (upA m 13 (upd (m.2.2.1 13) j.toNatClampNeg v)) w ∧ w.1 = u.1 := sI_s h (by decide) (by decide) rfl hb
theorem nx_13 (h : RP o c m u) : nA u 13 3 = some 4300 := sk_nA h.1.1 (by decide) rfl
theorem ax_14 (h : RP o c m u) {j : Int32} : aI u 14 4 j = if inb j 2101 = true then some (m.2.2.1 14 j.toNatClampNeg) else none := aI_s h (by decide) rfl
theorem sx_14 (h : RP o c m u) {j v : Int32} (hb : inb j 2101 = true) : ∃ w, sI u 14 4 j v = some w ∧ RP o c (upA m 14 (upd (m.2.2.1 14) j.toNatClampNeg v)) w ∧ w.1 = u.1 := sI_s h (by decide) (by decide) rfl hb
theorem nx_14 (h : RP o c m u) : nA u 14 4 = some 2101 := sk_nA h.1.1 (by decide) rfl
theorem ox_15 (h : RP o c m u) : isO u 15 10 = true := sk_isO h.1.1 (by decide) rfl
theorem rx_15_0 (h : RP o c m u) : gR u 15 10 0 = some (some 16) := sk_gR h.1.1 (by decide) rfl (by decide) rfl
theorem rx_15_1 (h : RP o c m u) : gR u 15 10 1 = some (some 17) := sk_gR h.1.1 (by decide) rfl (by decide) rfl
theorem rx_15_2 (h : RP o c m u) : gR u 15 10 2 = some (some 18) := sk_gR h.1.1 (by decide) rfl (by decide) rfl
theorem rx_15_3 (h : RP o c m u) : gR u 15 10 3 = some (some 19) := sk_gR h.1.1 (by decide) rfl (by decide) rfl
theorem rx_15_4 (h : RP o c m u) : gR u 15 10 4 = some (some 20) := sk_gR h.1.1 (by decide) rfl (by decide) rfl
theorem rx_15_5 (h : RP o c m u) : gR u 15 10 5 = some (some 21) := sk_gR h.1.1 (by decide) rfl (by decide) rfl
theorem gx_15_6 (h : RP o c m u) : gI u 15 10 6 = some (m.1 306) := gI_s h (by decide) rfl (by decide) rfl
theorem px_15_6 (h : RP o c m u) {v : Int32} : ∃ w, pF u 15 10 6 (.inl v) = some w ∧ RP o c (upI m 306 v) w ∧ w.1 = u.1 := pI_s h (by decide) rfl rfl (by decide) (by decide) (by decide)
theorem ax_16 (h : RP o c m u) {j : Int32} : aI u 16 4 j = if inb j 8016 = true then some (m.2.2.1 16 j.toNatClampNeg) else none := aI_s h (by decide) rfl
theorem sx_16 (h : RP o c m u) {j v : Int32} (hb : inb j 8016 = true) : ∃ w, sI u 16 4 j v = some w ∧ RP o c (upA m 16 (upd (m.2.2.1 16) j.toNatClampNeg v)) w ∧ w.1 = u.1 := sI_s h (by decide) (by decide) rfl hb
theorem nx_16 (h : RP o c m u) : nA u 16 4 = some 8016 := sk_nA h.1.1 (by decide) rfl
theorem ax_17 (h : RP o c m u) {j : Int32} : aI u 17 4 j = if inb j 8016 = true then some (m.2.2.1 17 j.toNatClampNeg) else none := aI_s h (by decide) rfl
theorem sx_17 (h : RP o c m u) {j v : Int32} (hb : inb j 8016 = true) : ∃ w, sI u 17 4 j v = some w ∧ RP o c (upA m 17 (upd (m.2.2.1 17) j.toNatClampNeg v)) w ∧ w.1 = u.1 := sI_s h (by decide) (by decide) rfl hb
theorem nx_17 (h : RP o c m u) : nA u 17 4 = some 8016 := sk_nA h.1.1 (by decide) rfl
theorem ax_18 (h : RP o c m u) {j : Int32} : aI u 18 4 j = if inb j 8016 = true then some (m.2.2.1 18 j.toNatClampNeg) else none := aI_s h (by decide) rfl
theorem sx_18 (h : RP o c m u) {j v : Int32} (hb : inb j 8016 = true) : ∃ w, sI u 18 4 j v = some w ∧ RP o c (upA m 18 (upd (m.2.2.1 18) j.toNatClampNeg v)) w ∧ w.1 = u.1 := sI_s h (by decide) (by decide) rfl hb
theorem nx_18 (h : RP o c m u) : nA u 18 4 = some 8016 := sk_nA h.1.1 (by decide) rfl
theorem ax_19 (h : RP o c m u) {j : Int32} : aI u 19 4 j = if inb j 8016 = true then some (m.2.2.1 19 j.toNatClampNeg) else none := aI_s h (by decide) rfl
theorem sx_19 (h : RP o c m u) {j v : Int32} (hb : inb j 8016 = true) : ∃ w, sI u 19 4 j v = some w ∧ RP o c (upA m 19 (upd (m.2.2.1 19) j.toNatClampNeg v)) w ∧ w.1 = u.1 := sI_s h (by decide) (by decide) rfl hb
theorem nx_19 (h : RP o c m u) : nA u 19 4 = some 8016 := sk_nA h.1.1 (by decide) rfl
theorem ax_20 (h : RP o c m u) {j : Int32} : aI u 20 4 j = if inb j 8016 = true then some (m.2.2.1 20 j.toNatClampNeg) else none := aI_s h (by decide) rfl
theorem sx_20 (h : RP o c m u) {j v : Int32} (hb : inb j 8016 = true) : ∃ w, sI u 20 4 j v = some w ∧ RP o c (upA m 20 (upd (m.2.2.1 20) j.toNatClampNeg v)) w ∧ w.1 = u.1 := sI_s h (by decide) (by decide) rfl hb
theorem nx_20 (h : RP o c m u) : nA u 20 4 = some 8016 := sk_nA h.1.1 (by decide) rfl
theorem ax_21 (h : RP o c m u) {j : Int32} : aI u 21 4 j = if inb j 8016 = true then some (m.2.2.1 21 j.toNatClampNeg) else none := aI_s h (by decide) rfl
theorem sx_21 (h : RP o c m u) {j v : Int32} (hb : inb j 8016 = true) : ∃ w, sI u 21 4 j v = some w ∧ RP o c (upA m 21 (upd (m.2.2.1 21) j.toNatClampNeg v)) w ∧ w.1 = u.1 := sI_s h (by decide) (by decide) rfl hb
theorem nx_21 (h : RP o c m u) : nA u 21 4 = some 8016 := sk_nA h.1.1 (by decide) rfl
theorem ox_22 (h : RP o c m u) : isO u 22 2 = true := sk_isO h.1.1 (by decide) rfl
theorem rx_22_0 (h : RP o c m u) : gR u 22 2 0 = some (some 23) := sk_gR h.1.1 (by decide) rfl (by decide) rfl
theorem gx_22_1 (h : RP o c m u) : gI u 22 2 1 = some (m.1 441) := gI_s h (by decide) rfl (by decide) rfl
theorem px_22_1 (h : RP o c m u) {v : Int32} : ∃ w, pF u 22 2 1 (.inl v) = some w ∧ RP o c (upI m 441 v) w ∧ w.1 = u.1 := pI_s h (by decide) rfl rfl (by decide) (by decide) (by decide)
theorem gx_22_2 (h : RP o c m u) : gI u 22 2 2 = some (m.1 442) := gI_s h (by decide) rfl (by decide) rfl
theorem px_22_2 (h : RP o c m u) {v : Int32} : ∃ w, pF u 22 2 2 (.inl v) = some w ∧ RP o c (upI m 442 v) w ∧ w.1 = u.1 := pI_s h (by decide) rfl rfl (by decide) (by decide) (by decide)
theorem rx_22_3 (h : RP o c m u) : gR u 22 2 3 = some (some 24) := sk_gR h.1.1 (by decide) rfl (by decide) rfl
theorem rx_22_4 (h : RP o c m u) : gR u 22 2 4 = some (some 25) := sk_gR h.1.1 (by decide) rfl (by decide) rfl
theorem rx_22_5 (h : RP o c m u) : gR u 22 2 5 = some (some 26) := sk_gR h.1.1 (by decide) rfl (by decide) rfl
theorem rx_22_6 (h : RP o c m u) : gR u 22 2 6 = some (some 27) := sk_gR h.1.1 (by decide) rfl (by decide) rfl
theorem rx_22_7 (h : RP o c m u) : gR u 22 2 7 = some (some 28) := sk_gR h.1.1 (by decide) rfl (by decide) rfl
theorem rx_22_8 (h : RP o c m u) : gR u 22 2 8 = some (some 29) := sk_gR h.1.1 (by decide) rfl (by decide) rfl
theorem gx_22_9 (h : RP o c m u) : gI u 22 2 9 = some (m.1 449) := gI_s h (by decide) rfl (by decide) rfl
theorem px_22_9 (h : RP o c m u) {v : Int32} : ∃ w, pF u 22 2 9 (.inl v) = some w ∧ RP o c (upI m 449 v) w ∧ w.1 = u.1 := pI_s h (by decide) rfl rfl (by decide) (by decide) (by decide)
theorem rx_22_10 (h : RP o c m u) : gR u 22 2 10 = some (some 30) := sk_gR h.1.1 (by decide) rfl (by decide) rfl
theorem rx_22_11 (h : RP o c m u) : gR u 22 2 11 = some (some 31) := sk_gR h.1.1 (by decide) rfl (by decide) rfl
theorem rx_22_12 (h : RP o c m u) : gR u 22 2 12 = some (some 32) := sk_gR h.1.1 (by decide) rfl (by decide) rfl
theorem ax_23 (h : RP o c m u) {j : Int32} : aI u 23 4 j = if inb j 24000 = true then some (m.2.2.1 23 j.toNatClampNeg) else none := aI_s h (by decide) rfl
theorem sx_23 (h : RP o c m u) {j v : Int32} (hb : inb j 24000 = true) : ∃ w, sI u 23 4 j v = some w ∧ RP o c (upA m 23 (upd (m.2.2.1 23) j.toNatClampNeg v)) w ∧ w.1 = u.1 := sI_s h (by decide) (by decide) rfl hb
theorem nx_23 (h : RP o c m u) : nA u 23 4 = some 24000 := sk_nA h.1.1 (by decide) rfl
theorem ax_24 (h : RP o c m u) {j : Int32} : aI u 24 4 j = if inb j 666 = true then some (m.2.2.1 24 j.toNatClampNeg) else none := aI_s h (by decide) rfl
theorem sx_24 (h : RP o c m u) {j v : Int32} (hb : inb j 666 = true) : ∃ w, sI u 24 4 j v = some w ∧ RP o c (upA m 24 (upd (m.2.2.1 24) j.toNatClampNeg v)) w ∧ w.1 = u.1 := sI_s h (by decide) (by decide) rfl hb
theorem nx_24 (h : RP o c m u) : nA u 24 4 = some 666 := sk_nA h.1.1 (by decide) rfl
theorem ax_25 (h : RP o c m u) {j : Int32} : aI u 25 4 j = if inb j 666 = true then some (m.2.2.1 25 j.toNatClampNeg) else none := aI_s h (by decide) rfl
theorem sx_25 (h : RP o c m u) {j v : Int32} (hb : inb j 666 = true) : ∃ w, sI u 25 4 j v = some w ∧ RP o c (upA m 25 (upd (m.2.2.1 25) j.toNatClampNeg v)) w ∧ w.1 = u.1 := sI_s h (by decide) (by decide) rfl hb
theorem nx_25 (h : RP o c m u) : nA u 25 4 = some 666 := sk_nA h.1.1 (by decide) rfl
theorem ax_26 (h : RP o c m u) {j : Int32} : aI u 26 4 j = if inb j 666 = true then some (m.2.2.1 26 j.toNatClampNeg) else none := aI_s h (by decide) rfl
theorem sx_26 (h : RP o c m u) {j v : Int32} (hb : inb j 666 = true) : ∃ w, sI u 26 4 j v = some w ∧ RP o c (upA m 26 (upd (m.2.2.1 26) j.toNatClampNeg v)) w ∧ w.1 = u.1 := sI_s h (by decide) (by decide) rfl hb
theorem nx_26 (h : RP o c m u) : nA u 26 4 = some 666 := sk_nA h.1.1 (by decide) rfl
theorem ax_27 (h : RP o c m u) {j : Int32} : aI u 27 4 j = if inb j 666 = true then some (m.2.2.1 27 j.toNatClampNeg) else none := aI_s h (by decide) rfl
theorem sx_27 (h : RP o c m u) {j v : Int32} (hb : inb j 666 = true) : ∃ w, sI u 27 4 j v = some w ∧ RP o c (upA m 27 (upd (m.2.2.1 27) j.toNatClampNeg v)) w ∧ w.1 = u.1 := sI_s h (by decide) (by decide) rfl hb
theorem nx_27 (h : RP o c m u) : nA u 27 4 = some 666 := sk_nA h.1.1 (by decide) rfl
theorem ax_28 (h : RP o c m u) {j : Int32} : aI u 28 4 j = if inb j 666 = true then some (m.2.2.1 28 j.toNatClampNeg) else none := aI_s h (by decide) rfl
theorem sx_28 (h : RP o c m u) {j v : Int32} (hb : inb j 666 = true) : ∃ w, sI u 28 4 j v = some w ∧ RP o c (upA m 28 (upd (m.2.2.1 28) j.toNatClampNeg v)) w ∧ w.1 = u.1 := sI_s h (by decide) (by decide) rfl hb
theorem nx_28 (h : RP o c m u) : nA u 28 4 = some 666 := sk_nA h.1.1 (by decide) rfl
theorem ax_29 (h : RP o c m u) {j : Int32} : aI u 29 4 j = if inb j 666 = true then some (m.2.2.1 29 j.toNatClampNeg) else none := aI_s h (by decide) rfl
theorem sx_29 (h : RP o c m u) {j v : Int32} (hb : inb j 666 = true) : ∃ w, sI u 29 4 j v = some w ∧ RP o c (upA m 29 (upd (m.2.2.1 29) j.toNatClampNeg v)) w ∧ w.1 = u.1 := sI_s h (by decide) (by decide) rfl hb
theorem nx_29 (h : RP o c m u) : nA u 29 4 = some 666 := sk_nA h.1.1 (by decide) rfl
theorem ax_30 (h : RP o c m u) {j : Int32} : aI u 30 4 j = if inb j 400 = true then some (m.2.2.1 30 j.toNatClampNeg) else none := aI_s h (by decide) rfl
theorem sx_30 (h : RP o c m u) {j v : Int32} (hb : inb j 400 = true) : ∃ w, sI u 30 4 j v = some w ∧ RP o c (upA m 30 (upd (m.2.2.1 30) j.toNatClampNeg v)) w ∧ w.1 = u.1 := sI_s h (by decide) (by decide) rfl hb
theorem nx_30 (h : RP o c m u) : nA u 30 4 = some 400 := sk_nA h.1.1 (by decide) rfl
theorem ax_31 (h : RP o c m u) {j : Int32} : aI u 31 4 j = if inb j 400 = true then some (m.2.2.1 31 j.toNatClampNeg) else none := aI_s h (by decide) rfl
theorem sx_31 (h : RP o c m u) {j v : Int32} (hb : inb j 400 = true) : ∃ w, sI u 31 4 j v = some w ∧ RP o c (upA m 31 (upd (m.2.2.1 31) j.toNatClampNeg v)) w ∧ w.1 = u.1 := sI_s h (by decide) (by decide) rfl hb
theorem nx_31 (h : RP o c m u) : nA u 31 4 = some 400 := sk_nA h.1.1 (by decide) rfl
theorem ax_32 (h : RP o c m u) {j : Int32} : aI u 32 4 j = if inb j 400 = true then some (m.2.2.1 32 j.toNatClampNeg) else none := aI_s h (by decide) rfl
theorem sx_32 (h : RP o c m u) {j v : Int32} (hb : inb j 400 = true) : ∃ w, sI u 32 4 j v = some w ∧ RP o c (upA m 32 (upd (m.2.2.1 32) j.toNatClampNeg v)) w ∧ w.1 = u.1 := sI_s h (by decide) (by decide) rfl hb
theorem nx_32 (h : RP o c m u) : nA u 32 4 = some 400 := sk_nA h.1.1 (by decide) rfl
theorem ox_33 (h : RP o c m u) : isO u 33 6 = true := sk_isO h.1.1 (by decide) rfl
theorem rx_33_0 (h : RP o c m u) : gR u 33 6 0 = some (some 4) := sk_gR h.1.1 (by decide) rfl (by decide) rfl
theorem rx_33_1 (h : RP o c m u) : gR u 33 6 1 = some (some 15) := sk_gR h.1.1 (by decide) rfl (by decide) rfl
theorem rx_33_2 (h : RP o c m u) : gR u 33 6 2 = some (some 22) := sk_gR h.1.1 (by decide) rfl (by decide) rfl
theorem rx_33_3 (h : RP o c m u) : gR u 33 6 3 = some (some 34) := sk_gR h.1.1 (by decide) rfl (by decide) rfl
theorem gx_33_4 (h : RP o c m u) : gI u 33 6 4 = some (m.1 664) := gI_s h (by decide) rfl (by decide) rfl
theorem px_33_4 (h : RP o c m u) {v : Int32} : ∃ w, pF u 33 6 4 (.inl v) = some w ∧ RP o c (upI m 664 v) w ∧ w.1 = u.1 := pI_s h (by decide) rfl rfl (by decide) (by decide) (by decide)
theorem gx_33_5 (h : RP o c m u) : gI u 33 6 5 = some (m.1 665) := gI_s h (by decide) rfl (by decide) rfl
theorem px_33_5 (h : RP o c m u) {v : Int32} : ∃ w, pF u 33 6 5 (.inl v) = some w ∧ RP o c (upI m 665 v) w ∧ w.1 = u.1 := pI_s h (by decide) rfl rfl (by decide) (by decide) (by decide)
theorem gx_33_6 (h : RP o c m u) : gI u 33 6 6 = some (m.1 666) := gI_s h (by decide) rfl (by decide) rfl
theorem px_33_6 (h : RP o c m u) {v : Int32} : ∃ w, pF u 33 6 6 (.inl v) = some w ∧ RP o c (upI m 666 v) w ∧ w.1 = u.1 := pI_s h (by decide) rfl rfl (by decide) (by decide) (by decide)
theorem gx_33_7 (h : RP o c m u) : gI u 33 6 7 = some (m.1 667) := gI_s h (by decide) rfl (by decide) rfl
theorem px_33_7 (h : RP o c m u) {v : Int32} : ∃ w, pF u 33 6 7 (.inl v) = some w ∧ RP o c (upI m 667 v) w ∧ w.1 = u.1 := pI_s h (by decide) rfl rfl (by decide) (by decide) (by decide)
theorem ax_34 (h : RP o c m u) {j : Int32} : aI u 34 4 j = if inb j 4002 = true then some (m.2.2.1 34 j.toNatClampNeg) else none := aI_s h (by decide) rfl
theorem sx_34 (h : RP o c m u) {j v : Int32} (hb : inb j 4002 = true) : ∃ w, sI u 34 4 j v = some w ∧ RP o c (upA m 34 (upd (m.2.2.1 34) j.toNatClampNeg v)) w ∧ w.1 = u.1 := sI_s h (by decide) (by decide) rfl hb
theorem nx_34 (h : RP o c m u) : nA u 34 4 = some 4002 := sk_nA h.1.1 (by decide) rfl
theorem ox_35 (h : RP o c m u) : isO u 35 3 = true := sk_isO h.1.1 (by decide) rfl
theorem rx_35_0 (h : RP o c m u) : gR u 35 3 0 = some (some 4) := sk_gR h.1.1 (by decide) rfl (by decide) rfl
theorem rx_35_1 (h : RP o c m u) : gR u 35 3 1 = some (some 15) := sk_gR h.1.1 (by decide) rfl (by decide) rfl
theorem rx_35_2 (h : RP o c m u) : gR u 35 3 2 = some (some 22) := sk_gR h.1.1 (by decide) rfl (by decide) rfl
theorem rx_35_3 (h : RP o c m u) : gR u 35 3 3 = some (some 1) := sk_gR h.1.1 (by decide) rfl (by decide) rfl
theorem rx_35_4 (h : RP o c m u) : gR u 35 3 4 = some (some 36) := sk_gR h.1.1 (by decide) rfl (by decide) rfl
theorem rx_35_5 (h : RP o c m u) : gR u 35 3 5 = some (some 39) := sk_gR h.1.1 (by decide) rfl (by decide) rfl
theorem gx_35_6 (h : RP o c m u) : gI u 35 3 6 = some (m.1 706) := gI_s h (by decide) rfl (by decide) rfl
theorem px_35_6 (h : RP o c m u) {v : Int32} : ∃ w, pF u 35 3 6 (.inl v) = some w ∧ RP o c (upI m 706 v) w ∧ w.1 = u.1 := pI_s h (by decide) rfl rfl (by decide) (by decide) (by decide)
theorem rx_35_7 (h : RP o c m u) : gR u 35 3 7 = some (some 40) := sk_gR h.1.1 (by decide) rfl (by decide) rfl
theorem rx_35_8 (h : RP o c m u) : gR u 35 3 8 = some (some 41) := sk_gR h.1.1 (by decide) rfl (by decide) rfl
theorem gx_35_9 (h : RP o c m u) : gI u 35 3 9 = some (m.1 709) := gI_s h (by decide) rfl (by decide) rfl
theorem px_35_9 (h : RP o c m u) {v : Int32} : ∃ w, pF u 35 3 9 (.inl v) = some w ∧ RP o c (upI m 709 v) w ∧ w.1 = u.1 := pI_s h (by decide) rfl rfl (by decide) (by decide) (by decide)
theorem rx_35_10 (h : RP o c m u) : gR u 35 3 10 = some (some 42) := sk_gR h.1.1 (by decide) rfl (by decide) rfl
theorem gx_35_11 (h : RP o c m u) : gI u 35 3 11 = some (m.1 711) := gI_s h (by decide) rfl (by decide) rfl
theorem px_35_11 (h : RP o c m u) {v : Int32} : ∃ w, pF u 35 3 11 (.inl v) = some w ∧ RP o c (upI m 711 v) w ∧ w.1 = u.1 := pI_s h (by decide) rfl rfl (by decide) (by decide) (by decide)
theorem gx_35_12 (h : RP o c m u) : gI u 35 3 12 = some (m.1 712) := gI_s h (by decide) rfl (by decide) rfl
theorem px_35_12 (h : RP o c m u) {v : Int32} : ∃ w, pF u 35 3 12 (.inl v) = some w ∧ RP o c (upI m 712 v) w ∧ w.1 = u.1 := pI_s h (by decide) rfl rfl (by decide) (by decide) (by decide)
theorem gx_35_13 (h : RP o c m u) : gI u 35 3 13 = some (m.1 713) := gI_s h (by decide) rfl (by decide) rfl
theorem px_35_13 (h : RP o c m u) {v : Int32} : ∃ w, pF u 35 3 13 (.inl v) = some w ∧ RP o c (upI m 713 v) w ∧ w.1 = u.1 := pI_s h (by decide) rfl rfl (by decide) (by decide) (by decide)
theorem gx_35_14 (h : RP o c m u) : gI u 35 3 14 = some (m.1 714) := gI_s h (by decide) rfl (by decide) rfl
theorem px_35_14 (h : RP o c m u) {v : Int32} : ∃ w, pF u 35 3 14 (.inl v) = some w ∧ RP o c (upI m 714 v) w ∧ w.1 = u.1 := pI_s h (by decide) rfl rfl (by decide) (by decide) (by decide)
theorem ox_36 (h : RP o c m u) : isO u 36 11 = true := sk_isO h.1.1 (by decide) rfl
theorem rx_36_0 (h : RP o c m u) : gR u 36 11 0 = some (some 37) := sk_gR h.1.1 (by decide) rfl (by decide) rfl
theorem rx_36_1 (h : RP o c m u) : gR u 36 11 1 = some (some 38) := sk_gR h.1.1 (by decide) rfl (by decide) rfl
theorem gx_36_2 (h : RP o c m u) : gI u 36 11 2 = some (m.1 722) := gI_s h (by decide) rfl (by decide) rfl
theorem px_36_2 (h : RP o c m u) {v : Int32} : ∃ w, pF u 36 11 2 (.inl v) = some w ∧ RP o c (upI m 722 v) w ∧ w.1 = u.1 := pI_s h (by decide) rfl rfl (by decide) (by decide) (by decide)
theorem ax_37 (h : RP o c m u) {j : Int32} : aI u 37 3 j = if inb j 300 = true then some (m.2.2.1 37 j.toNatClampNeg) else none := aI_s h (by decide) rfl
theorem sx_37 (h : RP o c m u) {j v : Int32} (hb : inb j 300 = true) : ∃ w, sI u 37 3 j v = some w ∧ RP o c (upA m 37 (upd (m.2.2.1 37) j.toNatClampNeg v)) w ∧ w.1 = u.1 := sI_s h (by decide) (by decide) rfl hb
theorem nx_37 (h : RP o c m u) : nA u 37 3 = some 300 := sk_nA h.1.1 (by decide) rfl
theorem ax_38 (h : RP o c m u) {j : Int32} : aI u 38 4 j = if inb j 41 = true then some (m.2.2.1 38 j.toNatClampNeg) else none := aI_s h (by decide) rfl
theorem sx_38 (h : RP o c m u) {j v : Int32} (hb : inb j 41 = true) : ∃ w, sI u 38 4 j v = some w ∧ RP o c (upA m 38 (upd (m.2.2.1 38) j.toNatClampNeg v)) w ∧ w.1 = u.1 := sI_s h (by decide) (by decide) rfl hb
theorem nx_38 (h : RP o c m u) : nA u 38 4 = some 41 := sk_nA h.1.1 (by decide) rfl
theorem ax_39 (h : RP o c m u) {j : Int32} : aI u 39 4 j = if inb j 4000 = true then some (m.2.2.1 39 j.toNatClampNeg) else none := aI_s h (by decide) rfl
theorem sx_39 (h : RP o c m u) {j v : Int32} (hb : inb j 4000 = true) : ∃ w, sI u 39 4 j v = some w ∧ RP o c (upA m 39 (upd (m.2.2.1 39) j.toNatClampNeg v)) w ∧ w.1 = u.1 := sI_s h (by decide) (by decide) rfl hb
theorem nx_39 (h : RP o c m u) : nA u 39 4 = some 4000 := sk_nA h.1.1 (by decide) rfl
theorem ax_40 (h : RP o c m u) {j : Int32} : aI u 40 4 j = if inb j 32 = true then some (m.2.2.1 40 j.toNatClampNeg) else none := aI_s h (by decide) rfl
theorem sx_40 (h : RP o c m u) {j v : Int32} (hb : inb j 32 = true) : ∃ w, sI u 40 4 j v = some w ∧ RP o c (upA m 40 (upd (m.2.2.1 40) j.toNatClampNeg v)) w ∧ w.1 = u.1 := sI_s h (by decide) (by decide) rfl hb
theorem nx_40 (h : RP o c m u) : nA u 40 4 = some 32 := sk_nA h.1.1 (by decide) rfl
theorem ax_41 (h : RP o c m u) {j : Int32} : aI u 41 4 j = if inb j 32 = true then some (m.2.2.1 41 j.toNatClampNeg) else none := aI_s h (by decide) rfl
theorem sx_41 (h : RP o c m u) {j v : Int32} (hb : inb j 32 = true) : ∃ w, sI u 41 4 j v = some w ∧ RP o c (upA m 41 (upd (m.2.2.1 41) j.toNatClampNeg v)) w ∧ w.1 = u.1 := sI_s h (by decide) (by decide) rfl hb
theorem nx_41 (h : RP o c m u) : nA u 41 4 = some 32 := sk_nA h.1.1 (by decide) rfl
theorem ax_42 (h : RP o c m u) {j : Int32} : aI u 42 4 j = if inb j 4002 = true then some (m.2.2.1 42 j.toNatClampNeg) else none := aI_s h (by decide) rfl
theorem sx_42 (h : RP o c m u) {j v : Int32} (hb : inb j 4002 = true) : ∃ w, sI u 42 4 j v = some w ∧ RP o c (upA m 42 (upd (m.2.2.1 42) j.toNatClampNeg v)) w ∧ w.1 = u.1 := sI_s h (by decide) (by decide) rfl hb
theorem nx_42 (h : RP o c m u) : nA u 42 4 = some 4002 := sk_nA h.1.1 (by decide) rfl
theorem ox_43 (h : RP o c m u) : isO u 43 8 = true := sk_isO h.1.1 (by decide) rfl
theorem rx_43_0 (h : RP o c m u) : gR u 43 8 0 = some (some 44) := sk_gR h.1.1 (by decide) rfl (by decide) rfl
theorem rx_43_1 (h : RP o c m u) : gR u 43 8 1 = some (some 45) := sk_gR h.1.1 (by decide) rfl (by decide) rfl
theorem rx_43_2 (h : RP o c m u) : gR u 43 8 2 = some (some 46) := sk_gR h.1.1 (by decide) rfl (by decide) rfl
theorem rx_43_3 (h : RP o c m u) : gR u 43 8 3 = some (some 1) := sk_gR h.1.1 (by decide) rfl (by decide) rfl
theorem gx_43_5 (h : RP o c m u) : gI u 43 8 5 = some (m.1 865) := gI_s h (by decide) rfl (by decide) rfl
theorem px_43_5 (h : RP o c m u) {v : Int32} : ∃ w, pF u 43 8 5 (.inl v) = some w ∧ RP o c (upI m 865 v) w ∧ w.1 = u.1 := pI_s h (by decide) rfl rfl (by decide) (by decide) (by decide)
theorem gx_43_6 (h : RP o c m u) : gI u 43 8 6 = some (m.1 866) := gI_s h (by decide) rfl (by decide) rfl
theorem px_43_6 (h : RP o c m u) {v : Int32} : ∃ w, pF u 43 8 6 (.inl v) = some w ∧ RP o c (upI m 866 v) w ∧ w.1 = u.1 := pI_s h (by decide) rfl rfl (by decide) (by decide) (by decide)
theorem ax_44 (h : RP o c m u) {j : Int32} : aJ u 44 j = if inb j 2048 = true then some (m.2.2.2 44 j.toNatClampNeg) else none := aJ_s h (by decide) rfl
theorem sx_44 (h : RP o c m u) {j : Int32} {v : Int64} (hb : inb j 2048 = true) : ∃ w, sJ u 44 j v = some w ∧ RP o c (upJ m 44 (vp_updL (m.2.2.2 44) j.toNatClampNeg v)) w ∧ w.1 = u.1 := sJ_s h (by decide) (by decide) rfl hb
theorem ax_45 (h : RP o c m u) {j : Int32} : aJ u 45 j = if inb j 2048 = true then some (m.2.2.2 45 j.toNatClampNeg) else none := aJ_s h (by decide) rfl
theorem sx_45 (h : RP o c m u) {j : Int32} {v : Int64} (hb : inb j 2048 = true) : ∃ w, sJ u 45 j v = some w ∧ RP o c (upJ m 45 (vp_updL (m.2.2.2 45) j.toNatClampNeg v)) w ∧ w.1 = u.1 := sJ_s h (by decide) (by decide) rfl hb
theorem ax_46 (h : RP o c m u) {j : Int32} : aJ u 46 j = if inb j 2048 = true then some (m.2.2.2 46 j.toNatClampNeg) else none := aJ_s h (by decide) rfl
theorem sx_46 (h : RP o c m u) {j : Int32} {v : Int64} (hb : inb j 2048 = true) : ∃ w, sJ u 46 j v = some w ∧ RP o c (upJ m 46 (vp_updL (m.2.2.2 46) j.toNatClampNeg v)) w ∧ w.1 = u.1 := sJ_s h (by decide) (by decide) rfl hb
theorem ox_47 (h : RP o c m u) : isO u 47 12 = true := sk_isO h.1.1 (by decide) rfl
theorem rx_47_0 (h : RP o c m u) : gR u 47 12 0 = some (some 43) := sk_gR h.1.1 (by decide) rfl (by decide) rfl
theorem rx_47_1 (h : RP o c m u) : gR u 47 12 1 = some (some 48) := sk_gR h.1.1 (by decide) rfl (by decide) rfl
theorem gx_47_2 (h : RP o c m u) : gI u 47 12 2 = some (m.1 942) := gI_s h (by decide) rfl (by decide) rfl
theorem px_47_2 (h : RP o c m u) {v : Int32} : ∃ w, pF u 47 12 2 (.inl v) = some w ∧ RP o c (upI m 942 v) w ∧ w.1 = u.1 := pI_s h (by decide) rfl rfl (by decide) (by decide) (by decide)
theorem gx_47_3 (h : RP o c m u) : gI u 47 12 3 = some (m.1 943) := gI_s h (by decide) rfl (by decide) rfl
theorem px_47_3 (h : RP o c m u) {v : Int32} : ∃ w, pF u 47 12 3 (.inl v) = some w ∧ RP o c (upI m 943 v) w ∧ w.1 = u.1 := pI_s h (by decide) rfl rfl (by decide) (by decide) (by decide)
theorem gx_47_4 (h : RP o c m u) : gI u 47 12 4 = some (m.1 944) := gI_s h (by decide) rfl (by decide) rfl
theorem px_47_4 (h : RP o c m u) {v : Int32} : ∃ w, pF u 47 12 4 (.inl v) = some w ∧ RP o c (upI m 944 v) w ∧ w.1 = u.1 := pI_s h (by decide) rfl rfl (by decide) (by decide) (by decide)
theorem gx_47_5 (h : RP o c m u) : gI u 47 12 5 = some (m.1 945) := gI_s h (by decide) rfl (by decide) rfl
theorem px_47_5 (h : RP o c m u) {v : Int32} : ∃ w, pF u 47 12 5 (.inl v) = some w ∧ RP o c (upI m 945 v) w ∧ w.1 = u.1 := pI_s h (by decide) rfl rfl (by decide) (by decide) (by decide)
theorem gx_47_6 (h : RP o c m u) : gI u 47 12 6 = some (m.1 946) := gI_s h (by decide) rfl (by decide) rfl
theorem px_47_6 (h : RP o c m u) {v : Int32} : ∃ w, pF u 47 12 6 (.inl v) = some w ∧ RP o c (upI m 946 v) w ∧ w.1 = u.1 := pI_s h (by decide) rfl rfl (by decide) (by decide) (by decide)
theorem rx_47_7 (h : RP o c m u) : gR u 47 12 7 = some (some 49) := sk_gR h.1.1 (by decide) rfl (by decide) rfl
theorem rx_47_8 (h : RP o c m u) : gR u 47 12 8 = some (some 50) := sk_gR h.1.1 (by decide) rfl (by decide) rfl
theorem rx_47_9 (h : RP o c m u) : gR u 47 12 9 = some (some 51) := sk_gR h.1.1 (by decide) rfl (by decide) rfl
theorem gx_47_10 (h : RP o c m u) : gI u 47 12 10 = some (m.1 950) := gI_s h (by decide) rfl (by decide) rfl
theorem px_47_10 (h : RP o c m u) {v : Int32} : ∃ w, pF u 47 12 10 (.inl v) = some w ∧ RP o c (upI m 950 v) w ∧ w.1 = u.1 := pI_s h (by decide) rfl rfl (by decide) (by decide) (by decide)
theorem rx_47_11 (h : RP o c m u) : gR u 47 12 11 = some (some 52) := sk_gR h.1.1 (by decide) rfl (by decide) rfl
theorem rx_47_12 (h : RP o c m u) : gR u 47 12 12 = some (some 53) := sk_gR h.1.1 (by decide) rfl (by decide) rfl
theorem gx_47_13 (h : RP o c m u) : gI u 47 12 13 = some (m.1 953) := gI_s h (by decide) rfl (by decide) rfl
theorem px_47_13 (h : RP o c m u) {v : Int32} : ∃ w, pF u 47 12 13 (.inl v) = some w ∧ RP o c (upI m 953 v) w ∧ w.1 = u.1 := pI_s h (by decide) rfl rfl (by decide) (by decide) (by decide)
theorem rx_47_14 (h : RP o c m u) : gR u 47 12 14 = some (some 54) := sk_gR h.1.1 (by decide) rfl (by decide) rfl
theorem gx_47_15 (h : RP o c m u) : gI u 47 12 15 = some (m.1 955) := gI_s h (by decide) rfl (by decide) rfl
theorem px_47_15 (h : RP o c m u) {v : Int32} : ∃ w, pF u 47 12 15 (.inl v) = some w ∧ RP o c (upI m 955 v) w ∧ w.1 = u.1 := pI_s h (by decide) rfl rfl (by decide) (by decide) (by decide)
theorem gx_47_16 (h : RP o c m u) : gI u 47 12 16 = some (m.1 956) := gI_s h (by decide) rfl (by decide) rfl
theorem px_47_16 (h : RP o c m u) {v : Int32} : ∃ w, pF u 47 12 16 (.inl v) = some w ∧ RP o c (upI m 956 v) w ∧ w.1 = u.1 := pI_s h (by decide) rfl rfl (by decide) (by decide) (by decide)
theorem ax_49 (h : RP o c m u) {j : Int32} : aI u 49 4 j = if inb j 200 = true then some (m.2.2.1 49 j.toNatClampNeg) else none := aI_s h (by decide) rfl
theorem sx_49 (h : RP o c m u) {j v : Int32} (hb : inb j 200 = true) : ∃ w, sI u 49 4 j v = some w ∧ RP o c (upA m 49 (upd (m.2.2.1 49) j.toNatClampNeg v)) w ∧ w.1 = u.1 := sI_s h (by decide) (by decide) rfl hb
theorem nx_49 (h : RP o c m u) : nA u 49 4 = some 200 := sk_nA h.1.1 (by decide) rfl
theorem ax_50 (h : RP o c m u) {j : Int32} : aI u 50 4 j = if inb j 200 = true then some (m.2.2.1 50 j.toNatClampNeg) else none := aI_s h (by decide) rfl
theorem sx_50 (h : RP o c m u) {j v : Int32} (hb : inb j 200 = true) : ∃ w, sI u 50 4 j v = some w ∧ RP o c (upA m 50 (upd (m.2.2.1 50) j.toNatClampNeg v)) w ∧ w.1 = u.1 := sI_s h (by decide) (by decide) rfl hb
theorem nx_50 (h : RP o c m u) : nA u 50 4 = some 200 := sk_nA h.1.1 (by decide) rfl
theorem ax_51 (h : RP o c m u) {j : Int32} : aI u 51 4 j = if inb j 200 = true then some (m.2.2.1 51 j.toNatClampNeg) else none := aI_s h (by decide) rfl
theorem sx_51 (h : RP o c m u) {j v : Int32} (hb : inb j 200 = true) : ∃ w, sI u 51 4 j v = some w ∧ RP o c (upA m 51 (upd (m.2.2.1 51) j.toNatClampNeg v)) w ∧ w.1 = u.1 := sI_s h (by decide) (by decide) rfl hb
theorem nx_51 (h : RP o c m u) : nA u 51 4 = some 200 := sk_nA h.1.1 (by decide) rfl
theorem ax_52 (h : RP o c m u) {j : Int32} : aI u 52 3 j = if inb j 20000 = true then some (m.2.2.1 52 j.toNatClampNeg) else none := aI_s h (by decide) rfl
theorem sx_52 (h : RP o c m u) {j v : Int32} (hb : inb j 20000 = true) : ∃ w, sI u 52 3 j v = some w ∧ RP o c (upA m 52 (upd (m.2.2.1 52) j.toNatClampNeg v)) w ∧ w.1 = u.1 := sI_s h (by decide) (by decide) rfl hb
theorem nx_52 (h : RP o c m u) : nA u 52 3 = some 20000 := sk_nA h.1.1 (by decide) rfl
theorem ax_53 (h : RP o c m u) {j : Int32} : aI u 53 4 j = if inb j 200 = true then some (m.2.2.1 53 j.toNatClampNeg) else none := aI_s h (by decide) rfl
theorem sx_53 (h : RP o c m u) {j v : Int32} (hb : inb j 200 = true) : ∃ w, sI u 53 4 j v = some w ∧ RP o c (upA m 53 (upd (m.2.2.1 53) j.toNatClampNeg v)) w ∧ w.1 = u.1 := sI_s h (by decide) (by decide) rfl hb
theorem nx_53 (h : RP o c m u) : nA u 53 4 = some 200 := sk_nA h.1.1 (by decide) rfl
theorem ax_54 (h : RP o c m u) {j : Int32} : aI u 54 4 j = if inb j 24 = true then some (m.2.2.1 54 j.toNatClampNeg) else none := aI_s h (by decide) rfl
theorem sx_54 (h : RP o c m u) {j v : Int32} (hb : inb j 24 = true) : ∃ w, sI u 54 4 j v = some w ∧ RP o c (upA m 54 (upd (m.2.2.1 54) j.toNatClampNeg v)) w ∧ w.1 = u.1 := sI_s h (by decide) (by decide) rfl hb
theorem nx_54 (h : RP o c m u) : nA u 54 4 = some 24 := sk_nA h.1.1 (by decide) rfl
theorem ox_55 (h : RP o c m u) : isO u 55 5 = true := sk_isO h.1.1 (by decide) rfl
theorem rx_55_0 (h : RP o c m u) : gR u 55 5 0 = some (some 22) := sk_gR h.1.1 (by decide) rfl (by decide) rfl
theorem rx_55_1 (h : RP o c m u) : gR u 55 5 1 = some (some 47) := sk_gR h.1.1 (by decide) rfl (by decide) rfl
theorem rx_55_2 (h : RP o c m u) : gR u 55 5 2 = some (some 43) := sk_gR h.1.1 (by decide) rfl (by decide) rfl
theorem gx_55_5 (h : RP o c m u) : gI u 55 5 5 = some (m.1 1105) := gI_s h (by decide) rfl (by decide) rfl
theorem px_55_5 (h : RP o c m u) {v : Int32} : ∃ w, pF u 55 5 5 (.inl v) = some w ∧ RP o c (upI m 1105 v) w ∧ w.1 = u.1 := pI_s h (by decide) rfl rfl (by decide) (by decide) (by decide)
theorem gx_55_6 (h : RP o c m u) : gI u 55 5 6 = some (m.1 1106) := gI_s h (by decide) rfl (by decide) rfl
theorem px_55_6 (h : RP o c m u) {v : Int32} : ∃ w, pF u 55 5 6 (.inl v) = some w ∧ RP o c (upI m 1106 v) w ∧ w.1 = u.1 := pI_s h (by decide) rfl rfl (by decide) (by decide) (by decide)
theorem gx_55_7 (h : RP o c m u) : gI u 55 5 7 = some (m.1 1107) := gI_s h (by decide) rfl (by decide) rfl
theorem px_55_7 (h : RP o c m u) {v : Int32} : ∃ w, pF u 55 5 7 (.inl v) = some w ∧ RP o c (upI m 1107 v) w ∧ w.1 = u.1 := pI_s h (by decide) rfl rfl (by decide) (by decide) (by decide)
theorem gx_55_8 (h : RP o c m u) : gI u 55 5 8 = some (m.1 1108) := gI_s h (by decide) rfl (by decide) rfl
theorem px_55_8 (h : RP o c m u) {v : Int32} : ∃ w, pF u 55 5 8 (.inl v) = some w ∧ RP o c (upI m 1108 v) w ∧ w.1 = u.1 := pI_s h (by decide) rfl rfl (by decide) (by decide) (by decide)
theorem gx_55_9 (h : RP o c m u) : gI u 55 5 9 = some (m.1 1109) := gI_s h (by decide) rfl (by decide) rfl
theorem px_55_9 (h : RP o c m u) {v : Int32} : ∃ w, pF u 55 5 9 (.inl v) = some w ∧ RP o c (upI m 1109 v) w ∧ w.1 = u.1 := pI_s h (by decide) rfl rfl (by decide) (by decide) (by decide)
theorem gx_55_11 (h : RP o c m u) : gI u 55 5 11 = some (m.1 1111) := gI_s h (by decide) rfl (by decide) rfl
theorem px_55_11 (h : RP o c m u) {v : Int32} : ∃ w, pF u 55 5 11 (.inl v) = some w ∧ RP o c (upI m 1111 v) w ∧ w.1 = u.1 := pI_s h (by decide) rfl rfl (by decide) (by decide) (by decide)
theorem gx_55_12 (h : RP o c m u) : gI u 55 5 12 = some (m.1 1112) := gI_s h (by decide) rfl (by decide) rfl
theorem px_55_12 (h : RP o c m u) {v : Int32} : ∃ w, pF u 55 5 12 (.inl v) = some w ∧ RP o c (upI m 1112 v) w ∧ w.1 = u.1 := pI_s h (by decide) rfl rfl (by decide) (by decide) (by decide)
theorem gx_55_13 (h : RP o c m u) : gI u 55 5 13 = some (m.1 1113) := gI_s h (by decide) rfl (by decide) rfl
theorem px_55_13 (h : RP o c m u) {v : Int32} : ∃ w, pF u 55 5 13 (.inl v) = some w ∧ RP o c (upI m 1113 v) w ∧ w.1 = u.1 := pI_s h (by decide) rfl rfl (by decide) (by decide) (by decide)
theorem gx_55_14 (h : RP o c m u) : gI u 55 5 14 = some (m.1 1114) := gI_s h (by decide) rfl (by decide) rfl
theorem px_55_14 (h : RP o c m u) {v : Int32} : ∃ w, pF u 55 5 14 (.inl v) = some w ∧ RP o c (upI m 1114 v) w ∧ w.1 = u.1 := pI_s h (by decide) rfl rfl (by decide) (by decide) (by decide)
theorem ax_56 (h : RP o c m u) {j : Int32} : aI u 56 3 j = if inb j 100 = true then some (m.2.2.1 56 j.toNatClampNeg) else none := aI_s h (by decide) rfl
theorem sx_56 (h : RP o c m u) {j v : Int32} (hb : inb j 100 = true) : ∃ w, sI u 56 3 j v = some w ∧ RP o c (upA m 56 (upd (m.2.2.1 56) j.toNatClampNeg v)) w ∧ w.1 = u.1 := sI_s h (by decide) (by decide) rfl hb
theorem nx_56 (h : RP o c m u) : nA u 56 3 = some 100 := sk_nA h.1.1 (by decide) rfl
theorem aq_2 (h : RP o c m u) {q : Nat} (hq : MD c q) {j : Int32} : aJ u (c (pq q 2)) j = if inb j 512 = true then some (m.2.2.2 (pq q 2) j.toNatClampNeg) else none := aJ_R h hq (k := 2) (by unfold isJ; omega)
theorem sq_2 (h : RP o c m u) {q : Nat} (hq : MD c q) {j : Int32} {v : Int64} (hb : inb j 512 = true) : ∃ w, sJ u (c (pq q 2)) j v = some w ∧ RP o c (upJ m (pq q 2) (vp_updL (m.2.2.2 (pq q 2)) j.toNatClampNeg v)) w ∧ w.1 = u.1 := RP_sJ h hq (k := 2) (by unfold isJ; omega) hb
theorem aq_3 (h : RP o c m u) {q : Nat} (hq : MD c q) {j : Int32} : aJ u (c (pq q 3)) j = if inb j 512 = true then some (m.2.2.2 (pq q 3) j.toNatClampNeg) else none := aJ_R h hq (k := 3) (by unfold isJ; omega)
theorem sq_3 (h : RP o c m u) {q : Nat} (hq : MD c q) {j : Int32} {v : Int64} (hb : inb j 512 = true) : ∃ w, sJ u (c (pq q 3)) j v = some w ∧ RP o c (upJ m (pq q 3) (vp_updL (m.2.2.2 (pq q 3)) j.toNatClampNeg v)) w ∧ w.1 = u.1 := RP_sJ h hq (k := 3) (by unfold isJ; omega) hb
theorem aq_6 (h : RP o c m u) {q : Nat} (hq : MD c q) {j : Int32} : aJ u (c (pq q 6)) j = if inb j 30 = true then some (m.2.2.2 (pq q 6) j.toNatClampNeg) else none := aJ_R h hq (k := 6) (by unfold isJ; omega)
theorem sq_6 (h : RP o c m u) {q : Nat} (hq : MD c q) {j : Int32} {v : Int64} (hb : inb j 30 = true) : ∃ w, sJ u (c (pq q 6)) j v = some w ∧ RP o c (upJ m (pq q 6) (vp_updL (m.2.2.2 (pq q 6)) j.toNatClampNeg v)) w ∧ w.1 = u.1 := RP_sJ h hq (k := 6) (by unfold isJ; omega) hb
theorem aq_33 (h : RP o c m u) {q : Nat} (hq : MD c q) {j : Int32} : aJ u (c (pq q 33)) j = if inb j (lnQ m q 43) = true then some (m.2.2.2 (pq q 33) j.toNatClampNeg) else none := aJ_R h hq (k := 33) (by unfold isJ; omega)
theorem sq_33 (h : RP o c m u) {q : Nat} (hq : MD c q) {j : Int32} {v : Int64} (hb : inb j (lnQ m q 43) = true) : ∃ w, sJ u (c (pq q 33)) j v = some w ∧ RP o c (upJ m (pq q 33) (vp_updL (m.2.2.2 (pq q 33)) j.toNatClampNeg v)) w ∧ w.1 = u.1 := RP_sJ h hq (k := 33) (by unfold isJ; omega) hb
theorem aq_35 (h : RP o c m u) {q : Nat} (hq : MD c q) {j : Int32} : aJ u (c (pq q 35)) j = if inb j (lnQ m q 45) = true then some (m.2.2.2 (pq q 35) j.toNatClampNeg) else none := aJ_R h hq (k := 35) (by unfold isJ; omega)
theorem sq_35 (h : RP o c m u) {q : Nat} (hq : MD c q) {j : Int32} {v : Int64} (hb : inb j (lnQ m q 45) = true) : ∃ w, sJ u (c (pq q 35)) j v = some w ∧ RP o c (upJ m (pq q 35) (vp_updL (m.2.2.2 (pq q 35)) j.toNatClampNeg v)) w ∧ w.1 = u.1 := RP_sJ h hq (k := 35) (by unfold isJ; omega) hb
theorem aq_14 (h : RP o c m u) {q : Nat} (hq : MD c q) {j : Int32} : aI u (c (pq q 14)) 4 j = if inb j 24 = true then some (m.2.2.1 (pq q 14) j.toNatClampNeg) else none := aI_R h hq (k := 14) (by unfold isI; omega)
theorem sq_14 (h : RP o c m u) {q : Nat} (hq : MD c q) {j v : Int32} (hb : inb j 24 = true) : ∃ w, sI u (c (pq q 14)) 4 j v = some w ∧ RP o c (upA m (pq q 14) (upd (m.2.2.1 (pq q 14)) j.toNatClampNeg v)) w ∧ w.1 = u.1 := RP_sI h hq (k := 14) (by unfold isI; omega) hb
theorem aq_30 (h : RP o c m u) {q : Nat} (hq : MD c q) {j : Int32} : aI u (c (pq q 30)) 4 j = if inb j 300 = true then some (m.2.2.1 (pq q 30) j.toNatClampNeg) else none := aI_R h hq (k := 30) (by unfold isI; omega)
theorem sq_30 (h : RP o c m u) {q : Nat} (hq : MD c q) {j v : Int32} (hb : inb j 300 = true) : ∃ w, sI u (c (pq q 30)) 4 j v = some w ∧ RP o c (upA m (pq q 30) (upd (m.2.2.1 (pq q 30)) j.toNatClampNeg v)) w ∧ w.1 = u.1 := RP_sI h hq (k := 30) (by unfold isI; omega) hb
theorem aq_32 (h : RP o c m u) {q : Nat} (hq : MD c q) {j : Int32} : aI u (c (pq q 32)) 4 j = if inb j (lnQ m q 42) = true then some (m.2.2.1 (pq q 32) j.toNatClampNeg) else none := aI_R h hq (k := 32) (by unfold isI; omega)
theorem sq_32 (h : RP o c m u) {q : Nat} (hq : MD c q) {j v : Int32} (hb : inb j (lnQ m q 42) = true) : ∃ w, sI u (c (pq q 32)) 4 j v = some w ∧ RP o c (upA m (pq q 32) (upd (m.2.2.1 (pq q 32)) j.toNatClampNeg v)) w ∧ w.1 = u.1 := RP_sI h hq (k := 32) (by unfold isI; omega) hb
theorem aq_37 (h : RP o c m u) {q : Nat} (hq : MD c q) {j : Int32} : aI u (c (pq q 37)) 4 j = if inb j (lnQ m q 47) = true then some (m.2.2.1 (pq q 37) j.toNatClampNeg) else none := aI_R h hq (k := 37) (by unfold isI; omega)
theorem sq_37 (h : RP o c m u) {q : Nat} (hq : MD c q) {j v : Int32} (hb : inb j (lnQ m q 47) = true) : ∃ w, sI u (c (pq q 37)) 4 j v = some w ∧ RP o c (upA m (pq q 37) (upd (m.2.2.1 (pq q 37)) j.toNatClampNeg v)) w ∧ w.1 = u.1 := RP_sI h hq (k := 37) (by unfold isI; omega) hb
theorem nq_33 (h : RP o c m u) {q : Nat} (hq : MD c q) : nJ u (c (pq q 33)) = some (m.1 (pq q 43)) := nJ_R h hq (by omega)
theorem nq_35 (h : RP o c m u) {q : Nat} (hq : MD c q) : nJ u (c (pq q 35)) = some (m.1 (pq q 45)) := nJ_R h hq (by omega)
theorem nq_32 (h : RP o c m u) {q : Nat} (hq : MD c q) : nA u (c (pq q 32)) 4 = some (m.1 (pq q 42)) := nA_R h hq (by omega)
theorem nq_37 (h : RP o c m u) {q : Nat} (hq : MD c q) : nA u (c (pq q 37)) 4 = some (m.1 (pq q 47)) := nA_R h hq (by omega)
theorem gq_4 (h : RP o c m u) {j q : Nat} (hj : PVn c j q) : gI u j 7 4 = some (m.1 (pq q 4)) := gI_P h hj (by unfold KI; omega)
theorem wq_4 (h : RP o c m u) {j q : Nat} (hj : PVn c j q) {v : Int32} : ∃ w, pF u j 7 4 (.inl v) = some w ∧ RP o c (upI m (pq q 4) v) w ∧ w.1 = u.1 := RP_qI h hj (by unfold KI; omega)
theorem gq_5 (h : RP o c m u) {j q : Nat} (hj : PVn c j q) : gI u j 7 5 = some (m.1 (pq q 5)) := gI_P h hj (by unfold KI; omega)
theorem wq_5 (h : RP o c m u) {j q : Nat} (hj : PVn c j q) {v : Int32} : ∃ w, pF u j 7 5 (.inl v) = some w ∧ RP o c (upI m (pq q 5) v) w ∧ w.1 = u.1 := RP_qI h hj (by unfold KI; omega)
theorem gq_7 (h : RP o c m u) {j q : Nat} (hj : PVn c j q) : gI u j 7 7 = some (m.1 (pq q 7)) := gI_P h hj (by unfold KI; omega)
theorem wq_7 (h : RP o c m u) {j q : Nat} (hj : PVn c j q) {v : Int32} : ∃ w, pF u j 7 7 (.inl v) = some w ∧ RP o c (upI m (pq q 7) v) w ∧ w.1 = u.1 := RP_qI h hj (by unfold KI; omega)
theorem gq_8 (h : RP o c m u) {j q : Nat} (hj : PVn c j q) : gI u j 7 8 = some (m.1 (pq q 8)) := gI_P h hj (by unfold KI; omega)
theorem wq_8 (h : RP o c m u) {j q : Nat} (hj : PVn c j q) {v : Int32} : ∃ w, pF u j 7 8 (.inl v) = some w ∧ RP o c (upI m (pq q 8) v) w ∧ w.1 = u.1 := RP_qI h hj (by unfold KI; omega)
theorem gq_9 (h : RP o c m u) {j q : Nat} (hj : PVn c j q) : gI u j 7 9 = some (m.1 (pq q 9)) := gI_P h hj (by unfold KI; omega)
theorem wq_9 (h : RP o c m u) {j q : Nat} (hj : PVn c j q) {v : Int32} : ∃ w, pF u j 7 9 (.inl v) = some w ∧ RP o c (upI m (pq q 9) v) w ∧ w.1 = u.1 := RP_qI h hj (by unfold KI; omega)
theorem gq_11 (h : RP o c m u) {j q : Nat} (hj : PVn c j q) : gI u j 7 11 = some (m.1 (pq q 11)) := gI_P h hj (by unfold KI; omega)
theorem wq_11 (h : RP o c m u) {j q : Nat} (hj : PVn c j q) {v : Int32} : ∃ w, pF u j 7 11 (.inl v) = some w ∧ RP o c (upI m (pq q 11) v) w ∧ w.1 = u.1 := RP_qI h hj (by unfold KI; omega)
theorem gq_12 (h : RP o c m u) {j q : Nat} (hj : PVn c j q) : gI u j 7 12 = some (m.1 (pq q 12)) := gI_P h hj (by unfold KI; omega)
theorem wq_12 (h : RP o c m u) {j q : Nat} (hj : PVn c j q) {v : Int32} : ∃ w, pF u j 7 12 (.inl v) = some w ∧ RP o c (upI m (pq q 12) v) w ∧ w.1 = u.1 := RP_qI h hj (by unfold KI; omega)
theorem gq_13 (h : RP o c m u) {j q : Nat} (hj : PVn c j q) : gI u j 7 13 = some (m.1 (pq q 13)) := gI_P h hj (by unfold KI; omega)
theorem wq_13 (h : RP o c m u) {j q : Nat} (hj : PVn c j q) {v : Int32} : ∃ w, pF u j 7 13 (.inl v) = some w ∧ RP o c (upI m (pq q 13) v) w ∧ w.1 = u.1 := RP_qI h hj (by unfold KI; omega)
theorem gq_15 (h : RP o c m u) {j q : Nat} (hj : PVn c j q) : gI u j 7 15 = some (m.1 (pq q 15)) := gI_P h hj (by unfold KI; omega)
theorem wq_15 (h : RP o c m u) {j q : Nat} (hj : PVn c j q) {v : Int32} : ∃ w, pF u j 7 15 (.inl v) = some w ∧ RP o c (upI m (pq q 15) v) w ∧ w.1 = u.1 := RP_qI h hj (by unfold KI; omega)
theorem gf_1 (h : RP o c m u) {j q : Nat} (hj : FVn c j q) : gI u j 4 1 = some (m.1 (pq q 21)) := gI_F h hj (by unfold KG; omega)
theorem wf_1 (h : RP o c m u) {j q : Nat} (hj : FVn c j q) {v : Int32} : ∃ w, pF u j 4 1 (.inl v) = some w ∧ RP o c (upI m (pq q 21) v) w ∧ w.1 = u.1 := RP_fI h hj (by unfold KG; omega)
theorem gf_4 (h : RP o c m u) {j q : Nat} (hj : FVn c j q) : gI u j 4 4 = some (m.1 (pq q 24)) := gI_F h hj (by unfold KG; omega)
theorem wf_4 (h : RP o c m u) {j q : Nat} (hj : FVn c j q) {v : Int32} : ∃ w, pF u j 4 4 (.inl v) = some w ∧ RP o c (upI m (pq q 24) v) w ∧ w.1 = u.1 := RP_fI h hj (by unfold KG; omega)
theorem gf_6 (h : RP o c m u) {j q : Nat} (hj : FVn c j q) : gI u j 4 6 = some (m.1 (pq q 26)) := gI_F h hj (by unfold KG; omega)
theorem wf_6 (h : RP o c m u) {j q : Nat} (hj : FVn c j q) {v : Int32} : ∃ w, pF u j 4 6 (.inl v) = some w ∧ RP o c (upI m (pq q 26) v) w ∧ w.1 = u.1 := RP_fI h hj (by unfold KG; omega)
theorem gf_8 (h : RP o c m u) {j q : Nat} (hj : FVn c j q) : gI u j 4 8 = some (m.1 (pq q 28)) := gI_F h hj (by unfold KG; omega)
theorem wf_8 (h : RP o c m u) {j q : Nat} (hj : FVn c j q) {v : Int32} : ∃ w, pF u j 4 8 (.inl v) = some w ∧ RP o c (upI m (pq q 28) v) w ∧ w.1 = u.1 := RP_fI h hj (by unfold KG; omega)
theorem gf_9 (h : RP o c m u) {j q : Nat} (hj : FVn c j q) : gI u j 4 9 = some (m.1 (pq q 29)) := gI_F h hj (by unfold KG; omega)
theorem wf_9 (h : RP o c m u) {j q : Nat} (hj : FVn c j q) {v : Int32} : ∃ w, pF u j 4 9 (.inl v) = some w ∧ RP o c (upI m (pq q 29) v) w ∧ w.1 = u.1 := RP_fI h hj (by unfold KG; omega)
theorem lq_10 (h : RP o c m u) {j q : Nat} (hj : PVn c j q) {v : Int64} : ∃ w, pF u j 7 10 (.inr (.inl v)) = some w ∧ RP o c (upL m (pq q 10) v) w ∧ w.1 = u.1 := RP_qL h hj (by omega)
theorem lq_16 (h : RP o c m u) {j q : Nat} (hj : PVn c j q) {v : Int64} : ∃ w, pF u j 7 16 (.inr (.inl v)) = some w ∧ RP o c (upL m (pq q 16) v) w ∧ w.1 = u.1 := RP_qL h hj (by omega)
theorem aq_C (h : RP o c m u) {j b : Nat} (hj : CVn c j b) {i : Int32} : aJ u j i = if inb i 512 = true then some (m.2.2.2 b i.toNatClampNeg) else none := by
  obtain ⟨q, hq, rfl, rfl⟩ := hj
  exact aq_2 h hq
theorem cq_C (h : RP o c m u) {j b q : Nat} (hj : CVn c j b) (hq : MD c q) {x y n : Int32} (hz : cpOk x y n 512 512 = true) : ∃ w, cpJ u j x (c (pq q 2)) y n = some w ∧ RP o c (upJ m (pq q 2) (va_cpy (m.2.2.2 b) (m.2.2.2 (pq q 2)) x.toNatClampNeg y.toNatClampNeg n.toNatClampNeg)) w ∧ w.1 = u.1 := by
  obtain ⟨r, hr, rfl, rfl⟩ := hj
  exact RP_cJ h hr (k := 2) (by unfold isJ; omega) hq (k2 := 2) (by unfold isJ; omega) hz
theorem cq_23 (h : RP o c m u) {q : Nat} (hq : MD c q) {x y n : Int32} (hz : cpOk x y n 512 512 = true) : ∃ w, cpJ u (c (pq q 2)) x (c (pq q 3)) y n = some w ∧ RP o c (upJ m (pq q 3) (va_cpy (m.2.2.2 (pq q 2)) (m.2.2.2 (pq q 3)) x.toNatClampNeg y.toNatClampNeg n.toNatClampNeg)) w ∧ w.1 = u.1 := RP_cJ h hq (k := 2) (by unfold isJ; omega) hq (k2 := 3) (by unfold isJ; omega) hz
theorem cq_6 (h : RP o c m u) {q : Nat} (hq : MD c q) {x y n : Int32} (hz : cpOk x y n 30 30 = true) : ∃ w, cpJ u (c (pq q 6)) x (c (pq q 6)) y n = some w ∧ RP o c (upJ m (pq q 6) (va_cpy (m.2.2.2 (pq q 6)) (m.2.2.2 (pq q 6)) x.toNatClampNeg y.toNatClampNeg n.toNatClampNeg)) w ∧ w.1 = u.1 := RP_cJ h hq (k := 6) (by unfold isJ; omega) hq (k2 := 6) (by unfold isJ; omega) hz
theorem cq_35 (h : RP o c m u) {q : Nat} (hq : MD c q) {x y n : Int32} (hz : cpOk x y n (lnQ m q 45) (lnQ m q 45) = true) : ∃ w, cpJ u (c (pq q 35)) x (c (pq q 35)) y n = some w ∧ RP o c (upJ m (pq q 35) (va_cpy (m.2.2.2 (pq q 35)) (m.2.2.2 (pq q 35)) x.toNatClampNeg y.toNatClampNeg n.toNatClampNeg)) w ∧ w.1 = u.1 := RP_cJ h hq (k := 35) (by unfold isJ; omega) hq (k2 := 35) (by unfold isJ; omega) hz
theorem cq_14 (h : RP o c m u) {q : Nat} (hq : MD c q) {x y n : Int32} (hz : cpOk x y n 24 24 = true) : ∃ w, cpI u 4 (c (pq q 14)) x (c (pq q 14)) y n = some w ∧ RP o c (upA m (pq q 14) (va_cpy (m.2.2.1 (pq q 14)) (m.2.2.1 (pq q 14)) x.toNatClampNeg y.toNatClampNeg n.toNatClampNeg)) w ∧ w.1 = u.1 := RP_cI h hq (k := 14) (by unfold isI; omega) hz
def lnX (m : MS) (b : Nat) : Nat := lnJ m ((b - 2000) / 100) ((b - 2000) % 100)
theorem lnX_e {q k : Nat} (h : k < 100) : lnX m (pq q k) = lnJ m q k := by unfold lnX pq; rw [show (2000 + 100 * q + k - 2000) / 100 = q by omega, show (2000 + 100 * q + k - 2000) % 100 = k by omega]
theorem isJ_x {k : Nat} (h : k = 33 ∨ k = 35 ∨ k = 6 ∨ k = 3) : isJ k := by unfold isJ; omega
theorem aq_X (h : RP o c m u) {q j b : Nat} (hj : XVn c q j b) {i : Int32} : aJ u j i = if inb i (lnX m b) = true then some (m.2.2.2 b i.toNatClampNeg) else none := by
  obtain ⟨hq, k, hk, rfl, rfl⟩ := hj
  rw [lnX_e (by omega)]
  exact aJ_R h hq (isJ_x hk)
theorem sq_X (h : RP o c m u) {q j b : Nat} (hj : XVn c q j b) {i : Int32} {v : Int64} (hb : inb i (lnX m b) = true) : ∃ w, sJ u j i v = some w ∧ RP o c (upJ m b (vp_updL (m.2.2.2 b) i.toNatClampNeg v)) w ∧ w.1 = u.1 := by
  obtain ⟨hq, k, hk, rfl, rfl⟩ := hj
  rw [lnX_e (by omega)] at hb
  exact RP_sJ h hq (isJ_x hk) hb
end
end
section
set_option maxRecDepth 100000
def grw (x : Int32) : Bool := decide (32 ≤ x ∧ x ≤ 33554432)
theorem slT_one {c c2 : Nat → Nat} {m m2 : MS} {n q d : Nat} (hq : q < n) (h1 : slQ c2 m2 q = slQ c m q + d) (h : ∀ r, r ≠ q → slQ c2 m2 r = slQ c m r) : slT c2 m2 n = slT c m n + d := by
  induction n with
  | zero => omega
  | succ n ih =>
    show slT c2 m2 n + slQ c2 m2 n = slT c m n + slQ c m n + d
    by_cases e : q = n
    · subst e
      rw [h1, slT_eq (c := c) (m := m) (fun r hr => h r (by omega))]
      omega
    · rw [ih (by omega), h n (by omega)]
      omega
theorem okV_mono {n : Nat} {v : LV} (h : okV n v = true) : okV (n + 1) v = true := by
  unfold okV at h ⊢
  split at h
  · have := of_decide_eq_true h; exact decide_eq_true (by omega)
  · rfl
theorem okR_mono {n : Nat} {v : Option Nat} (h : okR n v = true) : okR (n + 1) v = true := by
  unfold okR at h ⊢
  split at h
  · have := of_decide_eq_true h; exact decide_eq_true (by omega)
  · rfl
theorem okC_mono {n : Nat} {x : LC} (h : okC n x = true) : okC (n + 1) x = true := by
  unfold okC at h ⊢
  split at h
  · exact List.all_eq_true.mpr (fun j hj => okV_mono (List.all_eq_true.mp h j hj))
  · exact List.all_eq_true.mpr (fun j hj => okR_mono (List.all_eq_true.mp h j hj))
  · rfl
theorem wf_cnew {u : CS} {sl : Nat} {x : LC} (h : wfB u = true) (hx : okC (u.1.1 + 1) x = true) : wfB (cnew u sl x) = true := by
  unfold wfB
  refine List.all_eq_true.mpr (fun j hj => ?_)
  have hj2 : j < u.1.1 + 1 := List.mem_range.mp hj
  show okC (u.1.1 + 1) (if j = u.1.1 then x else u.2 j) = true
  by_cases e : j = u.1.1
  · rw [if_pos e]; exact hx
  · rw [if_neg e]; exact okC_mono (wf_at h (by omega))
theorem cnew_ne {u : CS} {sl j : Nat} {x : LC} (h : j ≠ u.1.1) : (cnew u sl x).2 j = u.2 j := if_neg h
theorem cnew_eq {u : CS} {sl : Nat} {x : LC} : (cnew u sl x).2 u.1.1 = x := if_pos rfl
def GRK (k l f : Nat) : Prop := (k = 32 ∧ l = 42 ∧ f = 2) ∨ (k = 33 ∧ l = 43 ∧ f = 3) ∨ (k = 35 ∧ l = 45 ∧ f = 5) ∨ (k = 37 ∧ l = 47 ∧ f = 7)
theorem GRK_k {k l f : Nat} (h : GRK k l f) : k ≠ 0 ∧ k < 100 ∧ k ≠ 20 ∧ isR k ∧ k ≠ 30 ∧ k ≠ 2 ∧ k ≠ 3 ∧ k ≠ 6 ∧ k ≠ 14 ∧ f ≠ 0 := by unfold GRK at h; unfold isR; omega
theorem GRK_l {k l f : Nat} (h : GRK k l f) : 30 ≤ l ∧ l < 100 ∧ isL l ∧ (l = 42 → k = 32) ∧ (l = 43 → k = 33) ∧ (l = 45 → k = 35) ∧ (l = 47 → k = 37) := by unfold GRK at h; unfold isL; omega
theorem GRK_f {k l f : Nat} (h : GRK k l f) : (2 = f → k = 32) ∧ (3 = f → k = 33) ∧ (5 = f → k = 35) ∧ (7 = f → k = 37) ∧ (k = 32 → f = 2) ∧ (k = 33 → f = 3) ∧ (k = 35 → f = 5) ∧ (k = 37 → f = 7) := by unfold GRK at h; omega
theorem GRK_i {k l f i : Nat} (h : GRK k l f) (hi : KG i) : i ≠ f := by unfold GRK at h; unfold KG at hi; omega
theorem KI_lt {i : Nat} (h : KI i) : i < 20 := by unfold KI at h; omega
theorem KG_lt {i : Nat} (h : KG i) : i < 10 := by unfold KG at h; omega
theorem isL_lt {i : Nat} (h : isL i) : i < 100 := by unfold isL at h; omega
def cG (c : Nat → Nat) (q k n : Nat) : Nat → Nat := fun i => if i = pq q k then n else c i
section
variable {o : Option Nat} {c : Nat → Nat} {m : MS} {u : CS} {j q k l f : Nat}
theorem cG_ne {n r i : Nat} (hi : i < 100) (hk : k < 100) (h : ¬ (r = q ∧ i = k)) : cG c q k n (pq r i) = c (pq r i) := if_neg (by unfold pq; omega)
theorem cG_eq {n : Nat} : cG c q k n (pq q k) = n := if_pos rfl
theorem MD_cG {n r : Nat} (hk : k ≠ 0 ∧ k < 100) : MD (cG c q k n) r ↔ MD c r := by unfold MD; rw [cG_ne (by omega) hk.2 (by omega)]
theorem RP_grow (h : RP o c m u) (hq : MD c q) (hg : GRK k l f) {x : LC} {x2 : Int32} {fo : Nat → LV} {w : CS} (hx2 : x2.toNatClampNeg = 2 * lnQ m q l ∧ ¬ x2 < 0) (h32 : 32 ≤ lnQ m q l)
    (e1 : w.1 = (u.1.1 + 1, u.1.2 + 2 * lnQ m q l)) (e2 : w.2 u.1.1 = x) (e3 : u.2 (c (pq q 20)) = .inl (4, fo)) (e4 : w.2 (c (pq q 20)) = .inl (4, fun i => if i = f then rfv u.1.1 else fo i)) (e5 : ∀ i, i ≠ u.1.1 → i ≠ c (pq q 20) → w.2 i = u.2 i)
    (hw : wfB w = true) (hx : ROL (cG c q k u.1.1) (upI m (pq q l) x2) q k x) : RP o (cG c q k u.1.1) (upI m (pq q l) x2) w := by
  obtain ⟨⟨s1, s2, s3, s4, s5, s6, s7⟩, r2, r3, ⟨q1, q2⟩, ⟨d1, d2⟩, ⟨p1, p2⟩, t1, t2, t3⟩ := h
  have hk0 := GRK_k hg
  have hl0 := GRK_l hg
  have hf0 := GRK_f hg
  have hM : ∀ r, MD (cG c q k u.1.1) r ↔ MD c r := fun r => MD_cG ⟨hk0.1, hk0.2.1⟩
  have hb := d2 q 20 hq isR20
  have hn := sk_n s1
  have hi : ∀ i, i < 57 → w.2 i = u.2 i := fun i hi => e5 i (by omega) (by omega)
  have hc : ∀ r i, i < 100 → ¬ (r = q ∧ i = k) → cG c q k u.1.1 (pq r i) = c (pq r i) := fun r i a b => cG_ne a hk0.2.1 b
  have hm : ∀ i, i < 2000 → (upI m (pq q l) x2).1 i = m.1 i := pI_frame
  have hm2 : ∀ r i, ¬ (r = q ∧ i = l) → i < 100 → (upI m (pq q l) x2).1 (pq r i) = m.1 (pq r i) := fun r i a b => if_neg (by unfold pq; omega)
  refine ⟨⟨?_, fun i z a b => ?_, ?_, fun i a => ?_, fun i a => ?_, ?_, ?_⟩, hw, fun r hr => ?_, ⟨fun r hr => ?_, fun r hr => ?_⟩, ⟨fun r1 k1 r2 k2 a1 a2 b1 b2 ee => ?_, fun r z a b => ?_⟩, ⟨fun r z a b => ?_, fun r r2 a b => ?_⟩, ?_, ?_, fun r z a b => ?_⟩
  · unfold skB
    rw [Bool.and_eq_true]
    refine ⟨decide_eq_true (by rw [e1]; show 57 ≤ u.1.1 + 1; omega), List.all_eq_true.mpr (fun i a => ?_)⟩
    rw [hi i (List.mem_range.mp a)]
    exact sk_at s1 (List.mem_range.mp a)
  · rw [FI_at (hi i a), s2 i z a b, hm _ (by omega)]
  · rw [FJ_at (hi 55 (by omega)), s3]; rfl
  · rw [AI_at (hi i a), s4 i a]; rfl
  · rw [AJ_at (hi i a), s5 i a]; rfl
  · rw [FR_at (hi 43 (by omega)), s6, hm _ (by omega)]
  · rw [hm _ (by omega)]; exact s7
  · obtain ⟨a1, a2, a3⟩ := r3 r hr
    rw [FR_at (hi 55 (by omega)), FR_at (hi 55 (by omega)), hc r 0 (by omega) (by omega), hc r 20 (by omega) (by omega)]
    exact ⟨(hM r).mpr a1, a2, a3⟩
  · rw [AP_at (hi 48 (by omega)), hc r 0 (by omega) (by omega)]; exact q1 r hr
  · rw [hc r 0 (by omega) (by omega)]; exact q2 r hr
  · replace a1 := (hM r1).mp a1
    replace a2 := (hM r2).mp a2
    by_cases c1 : r1 = q ∧ k1 = k
    · by_cases c2 : r2 = q ∧ k2 = k
      · omega
      · exfalso
        rw [c1.1, c1.2, cG_eq, hc r2 k2 (isR_lt b2) c2] at ee
        have := (d2 r2 k2 a2 b2).2
        omega
    · by_cases c2 : r2 = q ∧ k2 = k
      · exfalso
        rw [c2.1, c2.2, cG_eq, hc r1 k1 (isR_lt b1) c1] at ee
        have := (d2 r1 k1 a1 b1).2
        omega
      · rw [hc r1 k1 (isR_lt b1) c1, hc r2 k2 (isR_lt b2) c2] at ee
        exact d1 r1 k1 r2 k2 a1 a2 b1 b2 ee
  · rw [e1]
    show 57 ≤ _ ∧ _ < u.1.1 + 1
    by_cases c1 : r = q ∧ z = k
    · obtain ⟨rfl, rfl⟩ := c1
      rw [cG_eq]; omega
    · rw [hc r z (isR_lt b) c1]
      have := d2 r z ((hM r).mp a) b
      omega
  · replace a := (hM r).mp a
    by_cases c1 : r = q ∧ z = k
    · obtain ⟨rfl, rfl⟩ := c1
      rw [cG_eq, e2]; exact hx
    · rw [hc r z (isR_lt b) c1]
      have hd := d2 r z a b
      have hP := p1 r z a b
      by_cases c2 : r = q ∧ z = 20
      · obtain ⟨rfl, rfl⟩ := c2
        rw [e4]
        obtain ⟨fo2, g0, g1, g2, g3, g4, g5, g6⟩ := hP.2.1 rfl
        rw [e3] at g0
        cases g0
        refine ⟨fun y => (by cases y), fun _ => ⟨_, rfl, ?_, ?_, ?_, ?_, ?_, fun i hi => ?_⟩, fun y => (by cases y), fun y => (by cases y), fun y => (by cases y), fun y => (by cases y), fun y => (by cases y), fun y => (by cases y), fun y => (by cases y), fun y => (by cases y), fun y => (by cases y)⟩
        · rw [if_neg (fun y => hk0.2.2.2.2.2.2.2.2.2 y.symm), hc r 30 (by decide) (fun y => hk0.2.2.2.2.1 y.2.symm)]; exact g1
        · by_cases c3 : k = 32
          · subst c3
            have : f = 2 := hf0.2.2.2.2.1 rfl
            subst this
            rw [if_pos rfl, cG_eq]
          · rw [if_neg (fun y => c3 (hf0.1 y)), hc r 32 (by decide) (fun y => c3 y.2.symm)]; exact g2
        · by_cases c3 : k = 33
          · subst c3
            have : f = 3 := hf0.2.2.2.2.2.1 rfl
            subst this
            rw [if_pos rfl, cG_eq]
          · rw [if_neg (fun y => c3 (hf0.2.1 y)), hc r 33 (by decide) (fun y => c3 y.2.symm)]; exact g3
        · by_cases c3 : k = 35
          · subst c3
            have : f = 5 := hf0.2.2.2.2.2.2.1 rfl
            subst this
            rw [if_pos rfl, cG_eq]
          · rw [if_neg (fun y => c3 (hf0.2.2.1 y)), hc r 35 (by decide) (fun y => c3 y.2.symm)]; exact g4
        · by_cases c3 : k = 37
          · subst c3
            have : f = 7 := hf0.2.2.2.2.2.2.2 rfl
            subst this
            rw [if_pos rfl, cG_eq]
          · rw [if_neg (fun y => c3 (hf0.2.2.2.1 y)), hc r 37 (by decide) (fun y => c3 y.2.symm)]; exact g5
        · have h9 := KG_lt hi
          rw [if_neg (GRK_i hg hi), g6 i hi, hm2 r (20 + i) (fun y => by have := hl0.1; omega) (by omega)]
      · rw [e5 _ (by omega) (fun y => c2 (d1 r z q 20 a hq b isR20 y))]
        have hS : SMR c m (upI m (pq q l) x2) r z → ROL c (upI m (pq q l) x2) r z (u.2 (c (pq r z))) := fun y => ROL_same hP y
        by_cases c3 : z = 0
        · subst c3
          obtain ⟨fp, g0, g1, g2, g3, g4, g5, g6, g7, g8, g9, g10⟩ := hP.1 rfl
          refine ⟨fun _ => ⟨fp, g0, g1, ?_, ?_, ?_, ?_, ?_, ?_, fun i hi => ?_, g9, g10⟩, fun y => (by cases y), fun y => (by cases y), fun y => (by cases y), fun y => (by cases y), fun y => (by cases y), fun y => (by cases y), fun y => (by cases y), fun y => (by cases y), fun y => (by cases y), fun y => (by cases y)⟩
          · rw [hc r 20 (by omega) (by omega)]; exact g2
          · rw [hc r 2 (by decide) (fun y => hk0.2.2.2.2.2.1 y.2.symm)]; exact g3
          · rw [hc r 3 (by decide) (fun y => hk0.2.2.2.2.2.2.1 y.2.symm)]; exact g4
          · rw [hc r 6 (by decide) (fun y => hk0.2.2.2.2.2.2.2.1 y.2.symm)]; exact g5
          · rw [hc r 14 (by decide) (fun y => hk0.2.2.2.2.2.2.2.2.1 y.2.symm)]; exact g6
          · rw [g7]
            unfold hmR
            rw [hm2 r 17 (by omega) (by omega)]
            have hcc : (fun r => cG c q k u.1.1 (pq r 0)) = fun r => c (pq r 0) := funext (fun r3 => hc r3 0 (by omega) (by omega))
            rw [hcc]
          · have h9 := KI_lt hi
            rw [g8 i hi, hm2 r i (fun y => by have := hl0.1; omega) (by omega)]
        · by_cases c4 : z = 20
          · subst c4
            obtain ⟨fo2, g0, g1, g2, g3, g4, g5, g6⟩ := hP.2.1 rfl
            have hrq : r ≠ q := fun y => c2 ⟨y, rfl⟩
            refine ⟨fun y => (by cases y), fun _ => ⟨fo2, g0, ?_, ?_, ?_, ?_, ?_, fun i hi => ?_⟩, fun y => (by cases y), fun y => (by cases y), fun y => (by cases y), fun y => (by cases y), fun y => (by cases y), fun y => (by cases y), fun y => (by cases y), fun y => (by cases y), fun y => (by cases y)⟩
            · rw [hc r 30 (by omega) (by omega)]; exact g1
            · rw [hc r 32 (by omega) (by omega)]; exact g2
            · rw [hc r 33 (by omega) (by omega)]; exact g3
            · rw [hc r 35 (by omega) (by omega)]; exact g4
            · rw [hc r 37 (by omega) (by omega)]; exact g5
            · have h9 := KG_lt hi
              rw [g6 i hi, hm2 r (20 + i) (fun y => hrq y.1) (by omega)]
          · obtain ⟨y0, y20, yr⟩ := hP
            refine ⟨fun y => absurd y c3, fun y => absurd y c4, yr.1, yr.2.1, yr.2.2.1, yr.2.2.2.1, yr.2.2.2.2.1, fun y => ?_, fun y => ?_, fun y => ?_, fun y => ?_⟩
            · unfold lnQ
              rw [hm2 r 42 (fun w => c1 ⟨w.1, y.trans (hl0.2.2.2.1 w.2.symm).symm⟩) (by decide)]
              exact yr.2.2.2.2.2.1 y
            · unfold lnQ
              rw [hm2 r 43 (fun w => c1 ⟨w.1, y.trans (hl0.2.2.2.2.1 w.2.symm).symm⟩) (by decide)]
              exact yr.2.2.2.2.2.2.1 y
            · unfold lnQ
              rw [hm2 r 45 (fun w => c1 ⟨w.1, y.trans (hl0.2.2.2.2.2.1 w.2.symm).symm⟩) (by decide)]
              exact yr.2.2.2.2.2.2.2.1 y
            · unfold lnQ
              rw [hm2 r 47 (fun w => c1 ⟨w.1, y.trans (hl0.2.2.2.2.2.2 w.2.symm).symm⟩) (by decide)]
              exact yr.2.2.2.2.2.2.2.2 y
  · rw [hm2 r 17 (by omega) (by omega)] at b
    exact (hM r2).mpr (p2 r r2 ((hM r).mp a) b)
  · rw [e1]
    show u.1.2 + 2 * lnQ m q l = _
    rw [t1, slT_one (c := c) (m := m) (c2 := cG c q k u.1.1) (m2 := upI m (pq q l) x2) hq.1 (d := 2 * lnQ m q l) ?_ (fun r hr => ?_)]
    · omega
    · unfold slQ
      rw [hc q 0 (by omega) (by omega), if_neg hq.2, if_neg hq.2]
      have hll : lnQ (upI m (pq q l) x2) q l = 2 * lnQ m q l := by
        rw [← hx2.1]
        show ((upI m (pq q l) x2).1 (pq q l)).toNatClampNeg = _
        rw [show (upI m (pq q l) x2).1 (pq q l) = x2 from if_pos rfl]
      have hlo : ∀ i, i < 100 → i ≠ l → lnQ (upI m (pq q l) x2) q i = lnQ m q i := fun i a b => by unfold lnQ; rw [hm2 q i (by omega) a]
      unfold GRK at hg
      rcases hg with ⟨_, rfl, _⟩ | ⟨_, rfl, _⟩ | ⟨_, rfl, _⟩ | ⟨_, rfl, _⟩
      · rw [hll, hlo 43 (by omega) (by omega), hlo 45 (by omega) (by omega), hlo 47 (by omega) (by omega)]; omega
      · rw [hll, hlo 42 (by omega) (by omega), hlo 45 (by omega) (by omega), hlo 47 (by omega) (by omega)]; omega
      · rw [hll, hlo 42 (by omega) (by omega), hlo 43 (by omega) (by omega), hlo 47 (by omega) (by omega)]; omega
      · rw [hll, hlo 42 (by omega) (by omega), hlo 43 (by omega) (by omega), hlo 45 (by omega) (by omega)]; omega
    · unfold slQ lnQ
      rw [hc r 0 (by omega) (by omega), hm2 r 42 (by omega) (by omega), hm2 r 43 (by omega) (by omega), hm2 r 45 (by omega) (by omega), hm2 r 47 (by omega) (by omega)]
  · rw [e1]
    show 64 * (u.1.1 + 1) ≤ u.1.2 + 2 * lnQ m q l
    omega
  · by_cases c1 : r = q ∧ z = l
    · obtain ⟨rfl, rfl⟩ := c1
      rw [show (upI m (pq r z) x2).1 (pq r z) = x2 from if_pos rfl]
      exact hx2.2
    · rw [hm2 r z c1 (isL_lt b)]
      exact t3 r z ((hM r).mp a) b
end
end
section
set_option maxRecDepth 100000
theorem grw_n {x : Int32} (h : grw x = true) : 32 ≤ x.toNatClampNeg ∧ x.toNatClampNeg ≤ 33554432 ∧ (x * 2).toNatClampNeg = 2 * x.toNatClampNeg ∧ ¬ x * 2 < 0 ∧ x * 2 ≠ x ∧ ¬ (x * 2 < x) ∧ ¬ x < 0 := by
  have h := of_decide_eq_true h
  rw [I_of x] at h ⊢
  have hr := ti_rng x
  generalize x.toInt = y at *
  obtain ⟨h1, h2⟩ := h
  rw [I_lit (n := 32), I_le (by decide) (by decide) hr.1 hr.2] at h1
  rw [I_lit (n := 33554432), I_le hr.1 hr.2 (by decide) (by decide)] at h2
  have z1 : (OfNat.ofNat 32 : Int) = 32 := rfl
  have z2 : (OfNat.ofNat 33554432 : Int) = 33554432 := rfl
  have z3 : (OfNat.ofNat 0 : Int) = 0 := rfl
  have z4 : (OfNat.ofNat 2 : Int) = 2 := rfl
  have e : I y * 2 = I (y * 2) := by rw [I_lit (n := 2), I_mul, z4]
  rw [e, I_tn hr.1 hr.2, I_tn (by omega) (by omega), I_lit (n := 0), I_lt (by omega) (by omega) (by decide) (by decide), I_lt (by omega) (by omega) hr.1 hr.2, I_lt hr.1 hr.2 (by decide) (by decide)]
  refine ⟨by omega, by omega, by omega, by omega, ?_, by omega, by omega⟩
  rw [Ne, I_eq (by omega) (by omega) hr.1 hr.2]
  omega
theorem inl_i {f f2 : Nat → LV} {a b : Nat} (h : (Sum.inl (a, f) : LC) = .inl (b, f2)) : a = b ∧ f = f2 := by injection h with h; injection h with h1 h2; exact ⟨h1, h2⟩
section
variable {α β : Type} {z : Nat} {o : Option Nat} {V : (Nat → Nat) → α → β → Prop} {c : Nat → Nat} {u : CS} {m : MS} {j q : Nat} {N : Nat}
theorem nwJ_e {x : Int32} (h : wfB u = true) (h0 : ¬ x < 0) (h1 : x.toNatClampNeg ≤ 67108864) : nwJ u x = some (cnew u x.toNatClampNeg (.inr (.inr (.inl (x.toNatClampNeg, fun _ => 0))))) := by
  unfold nwJ nwC
  exact if_pos ⟨h, h0, h1⟩
theorem nwI_e {x : Int32} (h : wfB u = true) (h0 : ¬ x < 0) (h1 : x.toNatClampNeg ≤ 67108864) : nwI u 4 x = some (cnew u x.toNatClampNeg (.inr (.inl (4, x.toNatClampNeg, fun _ => 0)))) := by
  unfold nwI nwC
  exact if_pos ⟨h, h0, h1⟩
theorem gw_e {w : CS} {a : α} (h1 : u.1.1 ≤ w.1.1) (h2 : u.1.2 ≤ w.1.2) : gw u (some (w, a)) = some (w, a) := if_pos ⟨h1, h2⟩
theorem oL_new {a n L : Nat} {x : LC} {g : Nat → Int64} (ha : a < u.1.1) (e : u.2 a = .inr (.inr (.inl (L, g)))) : oL (cnew u n x) a = some (L, g) := by
  unfold oL
  rw [if_pos (show a < (cnew u n x).1.1 from Nat.lt_succ_of_lt ha), cnew_ne (by omega), e]
theorem oL_new0 {n L : Nat} {g : Nat → Int64} : oL (cnew u n (.inr (.inr (.inl (L, g))))) u.1.1 = some (L, g) := by
  unfold oL
  rw [if_pos (show u.1.1 < (cnew u n _).1.1 from Nat.lt_succ_self _), cnew_eq]
theorem oA_new {a n L : Nat} {x : LC} {g : Nat → Int32} (ha : a < u.1.1) (e : u.2 a = .inr (.inl (4, L, g))) : oA (cnew u n x) a 4 = some (L, g) := by
  unfold oA
  rw [if_pos (show a < (cnew u n x).1.1 from Nat.lt_succ_of_lt ha), cnew_ne (by omega), e]
  exact if_pos rfl
theorem oA_new0 {n L : Nat} {g : Nat → Int32} : oA (cnew u n (.inr (.inl (4, L, g)))) u.1.1 4 = some (L, g) := by
  unfold oA
  rw [if_pos (show u.1.1 < (cnew u n _).1.1 from Nat.lt_succ_self _), cnew_eq]
  exact if_pos rfl
theorem copyJ_e {a L : Nat} {x : Int32} {g : Nat → Int64} (hg : grw x = true) (hL : x.toNatClampNeg = L) (h : wfB u = true) (ha : a < u.1.1) (e : u.2 a = .inr (.inr (.inl (L, g)))) : fm_JA_copyOf1 N u (some a) (x * 2) = some (cup (cnew u (2 * L) (.inr (.inr (.inl (2 * L, fun _ => 0))))) u.1.1 (.inr (.inr (.inl (2 * L, va_cpy g (fun _ => 0) 0 0 L)))), some u.1.1) := by
  obtain ⟨h1, h2, h3, h4, h5, h6, h7⟩ := grw_n hg
  rw [hL] at h1 h2 h3
  have eo : oL u a = some (L, g) := by unfold oL; rw [if_pos ha, e]
  have en : nJ u a = some x := by unfold nJ; rw [eo]; show some (Int32.ofNat L) = _; rw [← hL, ofNat_cl h7]
  unfold fm_JA_copyOf1 fb_JA_copyOf1_0
  show bo (nJ u a) _ = _
  rw [en]
  show br (decide (x * 2 = x)) _ _ = _
  rw [decide_eq_false h5]
  show ck (List.all [some a] (okR u.1.1)) _ = _
  rw [all1 (show okR u.1.1 (some a) = true from decide_eq_true ha)]
  show bo (nwJ u (x * 2)) _ = _
  rw [nwJ_e h h4 (by omega), h3]
  have eo2 : oL (cnew u (2 * L) (.inr (.inr (.inl (2 * L, fun _ => 0))))) a = some (L, g) := oL_new ha e
  have eo3 : oL (cnew u (2 * L) (.inr (.inr (.inl (2 * L, fun _ => 0))))) u.1.1 = some (2 * L, fun _ => 0) := oL_new0
  have en2 : nJ (cnew u (2 * L) (.inr (.inr (.inl (2 * L, fun _ => 0))))) a = some x := by unfold nJ; rw [eo2]; show some (Int32.ofNat L) = _; rw [← hL, ofNat_cl h7]
  generalize hw : cnew u (2 * L) (.inr (.inr (.inl (2 * L, fun _ => 0)))) = w at *
  have hc : cpJ w a 0 u.1.1 0 x = some (cup w u.1.1 (.inr (.inr (.inl (2 * L, va_cpy g (fun _ => 0) 0 0 L))))) := by
    unfold cpJ
    rw [eo2, eo3]
    show ck (cpOk 0 0 x L (2 * L)) _ = _
    have : cpOk 0 0 x L (2 * L) = true := by
      unfold cpOk
      refine decide_eq_true ⟨by decide, by decide, h7, ?_, ?_⟩
      · show 0 + x.toNatClampNeg ≤ L; omega
      · show 0 + x.toNatClampNeg ≤ 2 * L; omega
    unfold ck
    rw [if_pos this]
    show some (cup w u.1.1 (.inr (.inr (.inl (2 * L, va_cpy g (fun _ => 0) 0 0 x.toNatClampNeg))))) = _
    rw [hL]
  show gw w (bo (nJ w a) fun r5 => gw w (lt (if x * 2 < r5 then x * 2 else r5) fun y6 => bo (cpJ w a 0 u.1.1 0 y6) fun w7 => some (w7, some u.1.1))) = _
  rw [en2]
  show gw w (gw w (lt (if x * 2 < x then x * 2 else x) fun y6 => bo (cpJ w a 0 u.1.1 0 y6) fun w7 => some (w7, some u.1.1))) = _
  rw [if_neg h6]
  show gw w (gw w (bo (cpJ w a 0 u.1.1 0 x) fun w7 => some (w7, some u.1.1))) = _
  rw [hc]
  show gw w (gw w (some (_, some u.1.1))) = _
  rw [gw_e (u := w) (w := cup w _ _) (Nat.le_refl _) (Nat.le_refl _), gw_e (u := w) (w := cup w _ _) (Nat.le_refl _) (Nat.le_refl _)]
theorem copyI_e {a L : Nat} {x : Int32} {g : Nat → Int32} (hg : grw x = true) (hL : x.toNatClampNeg = L) (h : wfB u = true) (ha : a < u.1.1) (e : u.2 a = .inr (.inl (4, L, g))) : fm_JA_copyOf0 N u (some a) (x * 2) = some (cup (cnew u (2 * L) (.inr (.inl (4, 2 * L, fun _ => 0)))) u.1.1 (.inr (.inl (4, 2 * L, va_cpy g (fun _ => 0) 0 0 L))), some u.1.1) := by
  obtain ⟨h1, h2, h3, h4, h5, h6, h7⟩ := grw_n hg
  rw [hL] at h1 h2 h3
  have eo : oA u a 4 = some (L, g) := by unfold oA; rw [if_pos ha, e]; exact if_pos rfl
  have en : nA u a 4 = some x := by unfold nA; rw [eo]; show some (Int32.ofNat L) = _; rw [← hL, ofNat_cl h7]
  unfold fm_JA_copyOf0 fb_JA_copyOf0_0
  show bo (nA u a 4) _ = _
  rw [en]
  show br (decide (x * 2 = x)) _ _ = _
  rw [decide_eq_false h5]
  show ck (List.all [some a] (okR u.1.1)) _ = _
  rw [all1 (show okR u.1.1 (some a) = true from decide_eq_true ha)]
  show bo (nwI u 4 (x * 2)) _ = _
  rw [nwI_e h h4 (by omega), h3]
  have eo2 : oA (cnew u (2 * L) (.inr (.inl (4, 2 * L, fun _ => 0)))) a 4 = some (L, g) := oA_new ha e
  have eo3 : oA (cnew u (2 * L) (.inr (.inl (4, 2 * L, fun _ => 0)))) u.1.1 4 = some (2 * L, fun _ => 0) := oA_new0
  have en2 : nA (cnew u (2 * L) (.inr (.inl (4, 2 * L, fun _ => 0)))) a 4 = some x := by unfold nA; rw [eo2]; show some (Int32.ofNat L) = _; rw [← hL, ofNat_cl h7]
  generalize hw : cnew u (2 * L) (.inr (.inl (4, 2 * L, fun _ => 0))) = w at *
  have hc : cpI w 4 a 0 u.1.1 0 x = some (cup w u.1.1 (.inr (.inl (4, 2 * L, va_cpy g (fun _ => 0) 0 0 L)))) := by
    unfold cpI
    rw [eo2, eo3]
    show ck (cpOk 0 0 x L (2 * L)) (ck (ftB 4 g (0 : Int32).toNatClampNeg x.toNatClampNeg) _) = _
    have : cpOk 0 0 x L (2 * L) = true := by
      unfold cpOk
      refine decide_eq_true ⟨by decide, by decide, h7, ?_, ?_⟩
      · show 0 + x.toNatClampNeg ≤ L; omega
      · show 0 + x.toNatClampNeg ≤ 2 * L; omega
    unfold ck
    rw [if_pos this, if_pos (show ftB 4 g (0 : Int32).toNatClampNeg x.toNatClampNeg = true from rfl)]
    show some (cup w u.1.1 (.inr (.inl (4, 2 * L, va_cpy g (fun _ => 0) 0 0 x.toNatClampNeg)))) = _
    rw [hL]
  show gw w (bo (nA w a 4) fun r5 => gw w (lt (if x * 2 < r5 then x * 2 else r5) fun y6 => bo (cpI w 4 a 0 u.1.1 0 y6) fun w7 => some (w7, some u.1.1))) = _
  rw [en2]
  show gw w (gw w (lt (if x * 2 < x then x * 2 else x) fun y6 => bo (cpI w 4 a 0 u.1.1 0 y6) fun w7 => some (w7, some u.1.1))) = _
  rw [if_neg h6]
  show gw w (gw w (bo (cpI w 4 a 0 u.1.1 0 x) fun w7 => some (w7, some u.1.1))) = _
  rw [hc]
  show gw w (gw w (some (_, some u.1.1))) = _
  rw [gw_e (u := w) (w := cup w _ _) (Nat.le_refl _) (Nat.le_refl _), gw_e (u := w) (w := cup w _ _) (Nat.le_refl _) (Nat.le_refl _)]
theorem grow_rest {k l f : Nat} {x : LC} (h : RP o c m u) (hj : FVn c j q) (hg : GRK k l f) (hx : grw (m.1 (pq q l)) = true) (hy : okC (u.1.1 + 1) x = true) (x0 : LC) (hr : ROL (cG c q k u.1.1) (upI m (pq q l) (m.1 (pq q l) * 2)) q k x) (hzz : okC (u.1.1 + 1) x0 = true)
    {fk : CS → Option (CS × α)} {g : MS → Option (MS × β)} (hz : zle 1 z) (kk : ∀ c2 m2 w, RP o c2 m2 w → EX 1 c u c2 w → RF z o V c2 w (fk w) (g m2)) :
    RF z o V c u (bx (gw u (some (cup (cnew u (2 * lnQ m q l) x0) u.1.1 x, some u.1.1))) (fun u1 r1 => gw u1 (bo (pF u1 j 4 f (.inr (.inr r1))) fk))) (lt (upI m (pq q l) (m.1 (pq q l) * 2)) g) := by
  obtain ⟨h1, h2, h3, h4, h5, h6, h7⟩ := grw_n hx
  obtain ⟨fo, e, e1, hlt, fo2, e2, rr⟩ := oF_F h hj
  cases e2
  obtain ⟨hq, rfl⟩ := hj
  rw [gw_e (show u.1.1 ≤ u.1.1 + 1 by omega) (show u.1.2 ≤ u.1.2 + 2 * lnQ m q l by omega)]
  generalize hw : cup (cnew u (2 * lnQ m q l) x0) u.1.1 x = w
  have w1 : w.1 = (u.1.1 + 1, u.1.2 + 2 * lnQ m q l) := by rw [← hw]; rfl
  have w2 : w.2 u.1.1 = x := by rw [← hw, cup_eq]
  have w3 : ∀ i, i ≠ u.1.1 → w.2 i = u.2 i := fun i hi => by rw [← hw, cup_ne hi, cnew_ne hi]
  have ww : wfB w = true := by
    rw [← hw]
    exact wf_cup (wf_cnew h.2.1 hzz) (fun _ => hy)
  show RF z o V c u (gw w (bo (pF w (c (pq q 20)) 4 f (.inr (.inr (some u.1.1)))) fk)) _
  have ep : pF w (c (pq q 20)) 4 f (.inr (.inr (some u.1.1))) = some (cup w (c (pq q 20)) (.inl (4, fun i => if i = f then rfv u.1.1 else fo i))) := by
    unfold pF oF
    rw [if_pos (by rw [w1]; show c (pq q 20) < u.1.1 + 1; omega), w3 _ (by omega), e1]
    rfl
  rw [ep]
  have hR : RP o (cG c q k u.1.1) (upI m (pq q l) (m.1 (pq q l) * 2)) (cup w (c (pq q 20)) (.inl (4, fun i => if i = f then rfv u.1.1 else fo i))) := by
    refine RP_grow h hq hg ⟨h3, h4⟩ h1 w1 (x := x) ?_ e1 cup_eq (fun i a b => ?_) ?_ hr
    · rw [cup_ne (by omega)]; exact w2
    · rw [cup_ne b]; exact w3 i a
    · refine wf_cup ww (fun _ => ?_)
      rw [w1]
      exact okC_upd (okC_mono (okC_of h.2.1 hlt e1)) (show okV (u.1.1 + 1) (.inr (.inr (some u.1.1))) = true from decide_eq_true (by omega))
  have hk := GRK_k hg
  have hE : EX 1 c u (cG c q k u.1.1) (cup w (c (pq q 20)) (.inl (4, fun i => if i = f then rfv u.1.1 else fo i))) := by
    refine ⟨fun r hr2 => ⟨(MD_cG ⟨hk.1, hk.2.1⟩).mpr hr2, cG_ne (by omega) hk.2.1 (fun y => hk.1 y.2.symm), cG_ne (by omega) hk.2.1 (fun y => hk.2.2.1 y.2.symm)⟩, ?_, ?_, fun _ r hr2 => cG_ne (by omega) hk.2.1 (fun y => hk.2.2.2.2.2.1 y.2.symm), fun y => (by cases y), fun y => by omega⟩
    · rw [cup_1, w1]; show u.1.1 ≤ u.1.1 + 1; omega
    · rw [cup_1, w1]; show u.1.2 ≤ u.1.2 + 2 * lnQ m q l; omega
  intro m4 b hb
  obtain ⟨c2, u2, a, k1, k2, k3, k4⟩ := kk _ _ _ hR hE m4 b hb
  refine ⟨c2, u2, a, ?_, k2, (hE.mo hz).tr k3, k4⟩
  show gw w (fk _) = _
  rw [k1]
  have := k3.2.1
  have t2 := k3.2.2.1
  rw [cup_1] at this t2
  exact gw_e this t2
theorem RP_extJ {k : Nat} (h : RP o c m u) (hq : MD c q) (hk : isJ k) {g : Nat → Int64} (hg : ∀ i, i < lnJ m q k → m.2.2.2 (pq q k) i = g i) : RP o c (upJ m (pq q k) g) u := by
  obtain ⟨g3, e, e2, h2⟩ := oL_ar (h.lt hq (isJR hk)) ((ROL_J hk).mp (h.rol hq (isJR hk)))
  have := RP_rJ h hq hk (g := g) (g2 := g3) (fun i hi => (h2 i hi).trans (hg i hi))
  have e3 : cup u (c (pq q k)) (.inr (.inr (.inl (lnJ m q k, g3)))) = u := by
    unfold cup
    refine Prod.ext rfl (funext (fun i => ?_))
    show (if i = c (pq q k) then _ else u.2 i) = u.2 i
    by_cases e4 : i = c (pq q k)
    · rw [if_pos e4, e4, e2]
    · rw [if_neg e4]
  rw [e3] at this
  exact this
theorem RP_extI {k : Nat} (h : RP o c m u) (hq : MD c q) (hk : isI k) {g : Nat → Int32} (hg : ∀ i, i < lnI m q k → m.2.2.1 (pq q k) i = g i) : RP o c (upA m (pq q k) g) u := by
  obtain ⟨g3, e, e2, h2⟩ := oA_ar (h.lt hq (isIR hk)) ((ROL_I hk).mp (h.rol hq (isIR hk)))
  have := RP_rI h hq hk (g := g) (g2 := g3) (fun i hi => (h2 i hi).trans (hg i hi))
  have e3 : cup u (c (pq q k)) (.inr (.inl (4, lnI m q k, g3))) = u := by
    unfold cup
    refine Prod.ext rfl (funext (fun i => ?_))
    show (if i = c (pq q k) then _ else u.2 i) = u.2 i
    by_cases e4 : i = c (pq q k)
    · rw [if_pos e4, e4, e2]
    · rw [if_neg e4]
  rw [e3] at this
  exact this
def gJm (m : MS) (q k l : Nat) : MS := upI (upJ m (pq q k) (va_cpy (m.2.2.2 (pq q k)) (fun _ => 0) 0 0 (lnQ m q l))) (pq q l) (m.1 (pq q l) * 2)
def gIm (m : MS) (q k l : Nat) : MS := upI (upA m (pq q k) (va_cpy (m.2.2.1 (pq q k)) (fun _ => 0) 0 0 (lnQ m q l))) (pq q l) (m.1 (pq q l) * 2)
theorem GRK_J {k l f : Nat} (hg : GRK k l f) (hk : k = 33 ∨ k = 35) (m : MS) : lnJ m q k = lnQ m q l := by
  unfold GRK at hg; unfold lnJ
  rcases hg with ⟨rfl, rfl, _⟩ | ⟨rfl, rfl, _⟩ | ⟨rfl, rfl, _⟩ | ⟨rfl, rfl, _⟩ <;> first | rfl | omega
theorem GRK_I {k l f : Nat} (hg : GRK k l f) (hk : k = 32 ∨ k = 37) (m : MS) : lnI m q k = lnQ m q l := by
  unfold GRK at hg; unfold lnI
  rcases hg with ⟨rfl, rfl, _⟩ | ⟨rfl, rfl, _⟩ | ⟨rfl, rfl, _⟩ | ⟨rfl, rfl, _⟩ <;> first | rfl | omega
theorem cpy0 {γ : Type} {f g : Nat → γ} {n i : Nat} (h : i < n) : va_cpy f g 0 0 n i = f i := by
  unfold va_cpy
  rw [if_pos (by omega)]
  exact congrArg f (by omega)
theorem cpy1 {γ : Type} {f g : Nat → γ} {n i : Nat} (h : ¬ i < n) : va_cpy f g 0 0 n i = g i := by
  unfold va_cpy
  rw [if_neg (by omega)]
theorem rf_growJ {k l f : Nat} (h : RP o c m u) (hj : FVn c j q) (hg : GRK k l f) (hk : k = 33 ∨ k = 35) {fk : CS → Option (CS × α)} {g : MS → Option (MS × β)} (hz : zle 1 z) (kk : ∀ c2 m2 w, RP o c2 m2 w → EX 1 c u c2 w → RF z o V c2 w (fk w) (g m2)) :
    RF z o V c u (bx (gw u (fm_JA_copyOf1 N u (some (c (pq q k))) (m.1 (pq q l) * 2))) (fun u1 r1 => gw u1 (bo (pF u1 j 4 f (.inr (.inr r1))) fk))) (ck (grw (m.1 (pq q l))) (lt (gJm m q k l) g)) := by
  cases hx : grw (m.1 (pq q l)) with
  | false => intro m2 b2 h; cases h
  | true =>
    have hJ : isJ k := by unfold isJ; omega
    have hlk := GRK_J (q := q) hg hk m
    obtain ⟨gg, e, e2, h2⟩ := oL_ar (h.lt hj.1 (isJR hJ)) ((ROL_J hJ).mp (h.rol hj.1 (isJR hJ)))
    rw [hlk] at e2 h2
    rw [copyJ_e (u := u) hx rfl h.2.1 (h.lt hj.1 (isJR hJ)) e2]
    have h3 := RP_extJ h hj.1 hJ (g := va_cpy (m.2.2.2 (pq q k)) (fun _ => 0) 0 0 (lnQ m q l)) (fun i hi => by rw [hlk] at hi; exact (cpy0 hi).symm)
    refine grow_rest (m := upJ m (pq q k) (va_cpy (m.2.2.2 (pq q k)) (fun _ => 0) 0 0 (lnQ m q l))) h3 hj hg hx rfl _ ((ROL_J hJ).mpr ?_) rfl hz kk
    rw [GRK_J hg hk]
    have hl2 : lnQ (upI (upJ m (pq q k) (va_cpy (m.2.2.2 (pq q k)) (fun _ => 0) 0 0 (lnQ m q l))) (pq q l) ((upJ m (pq q k) (va_cpy (m.2.2.2 (pq q k)) (fun _ => 0) 0 0 (lnQ m q l))).1 (pq q l) * 2)) q l = 2 * lnQ m q l := by
      rw [show lnQ m q l = (m.1 (pq q l)).toNatClampNeg from rfl, ← (grw_n hx).2.2.1]
      exact congrArg _ (if_pos rfl)
    rw [hl2]
    refine ⟨_, rfl, fun i hi => ?_⟩
    rw [show (upI (upJ m (pq q k) (va_cpy (m.2.2.2 (pq q k)) (fun _ => 0) 0 0 (lnQ m q l))) (pq q l) ((upJ m (pq q k) (va_cpy (m.2.2.2 (pq q k)) (fun _ => 0) 0 0 (lnQ m q l))).1 (pq q l) * 2)).2.2.2 (pq q k) = va_cpy (m.2.2.2 (pq q k)) (fun _ => 0) 0 0 (lnQ m q l) from if_pos rfl]
    by_cases e5 : i < lnQ m q l
    · exact (cpy0 e5).trans ((h2 i e5).trans (cpy0 e5).symm)
    · exact (cpy1 (g := fun _ => 0) e5).trans (cpy1 (g := fun _ => 0) e5).symm
theorem rf_growI {k l f : Nat} (h : RP o c m u) (hj : FVn c j q) (hg : GRK k l f) (hk : k = 32 ∨ k = 37) {fk : CS → Option (CS × α)} {g : MS → Option (MS × β)} (hz : zle 1 z) (kk : ∀ c2 m2 w, RP o c2 m2 w → EX 1 c u c2 w → RF z o V c2 w (fk w) (g m2)) :
    RF z o V c u (bx (gw u (fm_JA_copyOf0 N u (some (c (pq q k))) (m.1 (pq q l) * 2))) (fun u1 r1 => gw u1 (bo (pF u1 j 4 f (.inr (.inr r1))) fk))) (ck (grw (m.1 (pq q l))) (lt (gIm m q k l) g)) := by
  cases hx : grw (m.1 (pq q l)) with
  | false => intro m2 b2 h; cases h
  | true =>
    have hJ : isI k := by unfold isI; omega
    have hlk := GRK_I (q := q) hg hk m
    obtain ⟨gg, e, e2, h2⟩ := oA_ar (h.lt hj.1 (isIR hJ)) ((ROL_I hJ).mp (h.rol hj.1 (isIR hJ)))
    rw [hlk] at e2 h2
    rw [copyI_e (u := u) hx rfl h.2.1 (h.lt hj.1 (isIR hJ)) e2]
    have h3 := RP_extI h hj.1 hJ (g := va_cpy (m.2.2.1 (pq q k)) (fun _ => 0) 0 0 (lnQ m q l)) (fun i hi => by rw [hlk] at hi; exact (cpy0 hi).symm)
    refine grow_rest (m := upA m (pq q k) (va_cpy (m.2.2.1 (pq q k)) (fun _ => 0) 0 0 (lnQ m q l))) h3 hj hg hx rfl _ ((ROL_I hJ).mpr ?_) rfl hz kk
    rw [GRK_I hg hk]
    have hl2 : lnQ (upI (upA m (pq q k) (va_cpy (m.2.2.1 (pq q k)) (fun _ => 0) 0 0 (lnQ m q l))) (pq q l) ((upA m (pq q k) (va_cpy (m.2.2.1 (pq q k)) (fun _ => 0) 0 0 (lnQ m q l))).1 (pq q l) * 2)) q l = 2 * lnQ m q l := by
      rw [show lnQ m q l = (m.1 (pq q l)).toNatClampNeg from rfl, ← (grw_n hx).2.2.1]
      exact congrArg _ (if_pos rfl)
    rw [hl2]
    refine ⟨_, rfl, fun i hi => ?_⟩
    rw [show (upI (upA m (pq q k) (va_cpy (m.2.2.1 (pq q k)) (fun _ => 0) 0 0 (lnQ m q l))) (pq q l) ((upA m (pq q k) (va_cpy (m.2.2.1 (pq q k)) (fun _ => 0) 0 0 (lnQ m q l))).1 (pq q l) * 2)).2.2.1 (pq q k) = va_cpy (m.2.2.1 (pq q k)) (fun _ => 0) 0 0 (lnQ m q l) from if_pos rfl]
    by_cases e5 : i < lnQ m q l
    · exact (cpy0 e5).trans ((h2 i e5).trans (cpy0 e5).symm)
    · exact (cpy1 (g := fun _ => 0) e5).trans (cpy1 (g := fun _ => 0) e5).symm
end
end
section
set_option maxRecDepth 100000
def cS (c : Nat → Nat) (q : Nat) : Nat → Nat := fun i => if i = pq q 2 then c (pq q 3) else if i = pq q 3 then c (pq q 2) else c i
def swp (m : MS) (q : Nat) : MS := upJ (upJ m (pq q 2) (m.2.2.2 (pq q 3))) (pq q 3) (m.2.2.2 (pq q 2))
section
variable {α β : Type} {z : Nat} {o : Option Nat} {V : (Nat → Nat) → α → β → Prop} {c : Nat → Nat} {u : CS} {m : MS} {j q : Nat} {N : Nat}
theorem cS_2 : cS c q (pq q 2) = c (pq q 3) := if_pos rfl
theorem cS_3 : cS c q (pq q 3) = c (pq q 2) := by unfold cS; rw [if_neg (by unfold pq; omega), if_pos rfl]
theorem cS_ne {r i : Nat} (hi : i < 100) (h : ¬ (r = q ∧ (i = 2 ∨ i = 3))) : cS c q (pq r i) = c (pq r i) := by unfold cS; rw [if_neg (by unfold pq; omega), if_neg (by unfold pq; omega)]
theorem MD_cS {r : Nat} : MD (cS c q) r ↔ MD c r := by unfold MD; rw [cS_ne (by omega) (by omega)]
theorem swp_2 : (swp m q).2.2.2 (pq q 2) = m.2.2.2 (pq q 3) := by unfold swp upJ; show (if _ then _ else if _ then _ else _) = _; rw [if_neg (by unfold pq; omega), if_pos rfl]
theorem swp_3 : (swp m q).2.2.2 (pq q 3) = m.2.2.2 (pq q 2) := by unfold swp upJ; exact if_pos rfl
theorem swp_ne {i : Nat} (h : i ≠ pq q 2 ∧ i ≠ pq q 3) : (swp m q).2.2.2 i = m.2.2.2 i := by unfold swp upJ; show (if _ then _ else if _ then _ else _) = _; rw [if_neg h.2, if_neg h.1]
theorem RP_swap (h : RP o c m u) (hq : MD c q) {f : Nat → LV} {w : CS} (e0 : u.2 (c (pq q 0)) = .inl (7, f)) (e1 : w.1 = u.1) (e2 : w.2 (c (pq q 0)) = .inl (7, fun i => if i = 3 then rfv (c (pq q 2)) else if i = 2 then rfv (c (pq q 3)) else f i)) (e3 : ∀ i, i ≠ c (pq q 0) → w.2 i = u.2 i) : RP o (cS c q) (swp m q) w := by
  obtain ⟨⟨s1, s2, s3, s4, s5, s6, s7⟩, r2, r3, ⟨q1, q2⟩, ⟨d1, d2⟩, ⟨p1, p2⟩, t1, t2, t3⟩ := h
  have hM : ∀ r, MD (cS c q) r ↔ MD c r := fun r => MD_cS
  have hb := d2 q 0 hq isR0
  have hi : ∀ i, i < 57 → w.2 i = u.2 i := fun i hi => e3 i (by omega)
  have is2 : isR 2 := by unfold isR; omega
  have is3 : isR 3 := by unfold isR; omega
  have hd : ∀ r i, MD c r → isR i → ∃ i2, isR i2 ∧ cS c q (pq r i) = c (pq r i2) ∧ ((r = q ∧ i = 2 ∧ i2 = 3) ∨ (r = q ∧ i = 3 ∧ i2 = 2) ∨ (¬ (r = q ∧ (i = 2 ∨ i = 3)) ∧ i2 = i)) := by
    intro r i a b
    by_cases c1 : r = q ∧ i = 2
    · obtain ⟨rfl, rfl⟩ := c1
      exact ⟨3, is3, cS_2, Or.inl ⟨rfl, rfl, rfl⟩⟩
    · by_cases c2 : r = q ∧ i = 3
      · obtain ⟨rfl, rfl⟩ := c2
        exact ⟨2, is2, cS_3, Or.inr (Or.inl ⟨rfl, rfl, rfl⟩)⟩
      · exact ⟨i, b, cS_ne (isR_lt b) (by omega), Or.inr (Or.inr ⟨by omega, rfl⟩)⟩
  refine ⟨⟨?_, fun i z a b => ?_, ?_, fun i a => ?_, fun i a => ?_, ?_, s7⟩, ?_, fun r hr => ?_, ⟨fun r hr => ?_, fun r hr => ?_⟩, ⟨fun r1 k1 r2 k2 a1 a2 b1 b2 ee => ?_, fun r z a b => ?_⟩, ⟨fun r z a b => ?_, fun r r2 a b => (hM r2).mpr (p2 r r2 ((hM r).mp a) b)⟩, ?_, ?_, fun r z a b => t3 r z ((hM r).mp a) b⟩
  · unfold skB
    rw [Bool.and_eq_true]
    refine ⟨decide_eq_true (by rw [e1]; exact sk_n s1), List.all_eq_true.mpr (fun i a => ?_)⟩
    rw [hi i (List.mem_range.mp a)]
    exact sk_at s1 (List.mem_range.mp a)
  · rw [FI_at (hi i a), s2 i z a b]; rfl
  · rw [FJ_at (hi 55 (by omega)), s3]; rfl
  · rw [AI_at (hi i a), s4 i a]; rfl
  · rw [AJ_at (hi i a), s5 i a, swp_ne (by unfold pq; omega)]
  · rw [FR_at (hi 43 (by omega)), s6]; rfl
  · unfold wfB
    refine List.all_eq_true.mpr (fun i a => ?_)
    have a2 := List.mem_range.mp a
    rw [e1] at a2 ⊢
    by_cases c1 : i = c (pq q 0)
    · rw [c1, e2]
      have hf := okC_of r2 hb.2 e0
      unfold okC at hf ⊢
      refine List.all_eq_true.mpr (fun k hk => ?_)
      have := List.all_eq_true.mp hf k hk
      show okV u.1.1 (if k = 3 then _ else if k = 2 then _ else f k) = true
      by_cases c2 : k = 3
      · rw [if_pos c2]; exact decide_eq_true (d2 q 2 hq is2).2
      · rw [if_neg c2]
        by_cases c3 : k = 2
        · rw [if_pos c3]; exact decide_eq_true (d2 q 3 hq is3).2
        · rw [if_neg c3]; exact this
    · rw [e3 i c1]; exact wf_at r2 a2
  · obtain ⟨a1, a2, a3⟩ := r3 r hr
    rw [FR_at (hi 55 (by omega)), FR_at (hi 55 (by omega)), cS_ne (by omega) (by omega), cS_ne (by omega) (by omega)]
    exact ⟨(hM r).mpr a1, a2, a3⟩
  · rw [AP_at (hi 48 (by omega)), cS_ne (by omega) (by omega)]; exact q1 r hr
  · rw [cS_ne (by omega) (by omega)]; exact q2 r hr
  · obtain ⟨i1, b3, b4, b5⟩ := hd r1 k1 ((hM r1).mp a1) b1
    obtain ⟨i2, b6, b7, b8⟩ := hd r2 k2 ((hM r2).mp a2) b2
    rw [b4, b7] at ee
    have := d1 r1 i1 r2 i2 ((hM r1).mp a1) ((hM r2).mp a2) b3 b6 ee
    omega
  · obtain ⟨i1, b3, b4, b5⟩ := hd r z ((hM r).mp a) b
    rw [b4, e1]
    exact d2 r i1 ((hM r).mp a) b3
  · replace a := (hM r).mp a
    by_cases c1 : r = q ∧ z = 2
    · obtain ⟨rfl, rfl⟩ := c1
      rw [cS_2, e3 _ (fun y => absurd (d1 r 3 r 0 hq hq is3 isR0 y).2 (by decide))]
      have := (p1 r 3 hq is3).2.2.2.1 rfl
      refine ⟨fun y => (by cases y), fun y => (by cases y), fun _ => ?_, fun y => (by cases y), fun y => (by cases y), fun y => (by cases y), fun y => (by cases y), fun y => (by cases y), fun y => (by cases y), fun y => (by cases y), fun y => (by cases y)⟩
      rw [swp_2]; exact this
    · by_cases c2 : r = q ∧ z = 3
      · obtain ⟨rfl, rfl⟩ := c2
        rw [cS_3, e3 _ (fun y => absurd (d1 r 2 r 0 hq hq is2 isR0 y).2 (by decide))]
        have := (p1 r 2 hq is2).2.2.1 rfl
        refine ⟨fun y => (by cases y), fun y => (by cases y), fun y => (by cases y), fun _ => ?_, fun y => (by cases y), fun y => (by cases y), fun y => (by cases y), fun y => (by cases y), fun y => (by cases y), fun y => (by cases y), fun y => (by cases y)⟩
        rw [swp_3]; exact this
      · rw [cS_ne (isR_lt b) (by omega)]
        have hP := p1 r z a b
        have hJ : ∀ y, z = y → (y < 100) → (swp m q).2.2.2 (pq r y) = m.2.2.2 (pq r y) := fun y e e9 => swp_ne (by unfold pq; omega)
        by_cases c3 : z = 0
        · subst c3
          obtain ⟨fp, g0, g1, g2, g3, g4, g5, g6, g7, g8, g9, g10⟩ := hP.1 rfl
          have hh : hmR (cS c q) (swp m q) r = hmR c m r := by
            unfold hmR
            have hcc : (fun r => cS c q (pq r 0)) = fun r => c (pq r 0) := funext (fun r3 => cS_ne (by omega) (by omega))
            rw [hcc]; rfl
          by_cases c4 : r = q
          · subst c4
            rw [e2]
            rw [e0] at g0
            cases g0
            refine ⟨fun _ => ⟨_, rfl, g1, ?_, ?_, ?_, ?_, ?_, ?_, fun i hi => ?_, g9, g10⟩, fun y => (by cases y), fun y => (by cases y), fun y => (by cases y), fun y => (by cases y), fun y => (by cases y), fun y => (by cases y), fun y => (by cases y), fun y => (by cases y), fun y => (by cases y), fun y => (by cases y)⟩
            · rw [cS_ne (by omega) (by omega)]; exact g2
            · rw [cS_2]; rfl
            · rw [cS_3]; rfl
            · rw [cS_ne (by omega) (by omega)]; exact g5
            · rw [cS_ne (by omega) (by omega)]; exact g6
            · rw [hh]; exact g7
            · rw [if_neg (by unfold KI at hi; omega), if_neg (by unfold KI at hi; omega)]; exact g8 i hi
          · rw [e3 _ (fun y => c4 (d1 r 0 q 0 a hq isR0 isR0 y).1)]
            refine ⟨fun _ => ⟨fp, g0, g1, ?_, ?_, ?_, ?_, ?_, ?_, g8, g9, g10⟩, fun y => (by cases y), fun y => (by cases y), fun y => (by cases y), fun y => (by cases y), fun y => (by cases y), fun y => (by cases y), fun y => (by cases y), fun y => (by cases y), fun y => (by cases y), fun y => (by cases y)⟩
            · rw [cS_ne (by omega) (by omega)]; exact g2
            · rw [cS_ne (by omega) (by omega)]; exact g3
            · rw [cS_ne (by omega) (by omega)]; exact g4
            · rw [cS_ne (by omega) (by omega)]; exact g5
            · rw [cS_ne (by omega) (by omega)]; exact g6
            · rw [hh]; exact g7
        · rw [e3 _ (fun y => c3 (d1 r z q 0 a hq b isR0 y).2)]
          obtain ⟨y0, y20, y2, y3, y6, yr⟩ := hP
          refine ⟨fun y => absurd y c3, fun y => ?_, fun y => ?_, fun y => ?_, fun y => ?_, yr.1, yr.2.1, yr.2.2.1, fun y => ?_, fun y => ?_, yr.2.2.2.2.2⟩
          · obtain ⟨fo2, g0, g1, g2, g3, g4, g5, g6⟩ := y20 y
            refine ⟨fo2, g0, ?_, ?_, ?_, ?_, ?_, g6⟩
            · rw [cS_ne (by omega) (by omega)]; exact g1
            · rw [cS_ne (by omega) (by omega)]; exact g2
            · rw [cS_ne (by omega) (by omega)]; exact g3
            · rw [cS_ne (by omega) (by omega)]; exact g4
            · rw [cS_ne (by omega) (by omega)]; exact g5
          · rw [hJ 2 y (by omega)]; exact y2 y
          · rw [hJ 3 y (by omega)]; exact y3 y
          · rw [hJ 6 y (by omega)]; exact y6 y
          · rw [hJ 33 y (by omega)]; exact yr.2.2.2.1 y
          · rw [hJ 35 y (by omega)]; exact yr.2.2.2.2.1 y
  · rw [e1, t1]
    refine congrArg _ (slT_eq (fun r hr => ?_)).symm
    unfold slQ
    rw [cS_ne (by omega) (by omega)]
    rfl
  · rw [e1]; exact t2
theorem rf_swap (h : RP o c m u) (hj : PVn c j q) (hz : zle 3 z) {fk : CS → Option (CS × α)} {g : MS → Option (MS × β)} (kk : ∀ c2 m2 w, RP o c2 m2 w → EX 3 c u c2 w → RF z o V c2 w (fk w) (g m2)) :
    RF z o V c u (bo (pF u j 7 2 (.inr (.inr (some (c (pq q 3)))))) (fun w1 => bo (pF w1 j 7 3 (.inr (.inr (some (c (pq q 2)))))) fk)) (lt (swp m q) g) := by
  obtain ⟨f, e, e1, hlt, f2, e2, rr⟩ := oF_P h hj
  cases e2
  have hj2 := hj
  obtain ⟨hq, rfl⟩ := hj
  have ep : pF u (c (pq q 0)) 7 2 (.inr (.inr (some (c (pq q 3))))) = some (cup u (c (pq q 0)) (.inl (7, fun i => if i = 2 then rfv (c (pq q 3)) else f i))) := by
    unfold pF
    rw [e]
    rfl
  rw [ep]
  have ep2 : pF (cup u (c (pq q 0)) (.inl (7, fun i => if i = 2 then rfv (c (pq q 3)) else f i))) (c (pq q 0)) 7 3 (.inr (.inr (some (c (pq q 2))))) = some (cup (cup u (c (pq q 0)) (.inl (7, fun i => if i = 2 then rfv (c (pq q 3)) else f i))) (c (pq q 0)) (.inl (7, fun i => if i = 3 then rfv (c (pq q 2)) else if i = 2 then rfv (c (pq q 3)) else f i))) := by
    unfold pF oF
    rw [cup_1, if_pos hlt, cup_eq]
    rfl
  show RF z o V c u (bo (pF (cup u (c (pq q 0)) (.inl (7, fun i => if i = 2 then rfv (c (pq q 3)) else f i))) (c (pq q 0)) 7 3 (.inr (.inr (some (c (pq q 2)))))) fk) _
  rw [ep2]
  have hR := RP_swap h hq (w := cup (cup u (c (pq q 0)) (.inl (7, fun i => if i = 2 then rfv (c (pq q 3)) else f i))) (c (pq q 0)) (.inl (7, fun i => if i = 3 then rfv (c (pq q 2)) else if i = 2 then rfv (c (pq q 3)) else f i))) e1 rfl cup_eq (fun i hi => by rw [cup_ne hi, cup_ne hi])
  have hE : EX 3 c u (cS c q) (cup (cup u (c (pq q 0)) (.inl (7, fun i => if i = 2 then rfv (c (pq q 3)) else f i))) (c (pq q 0)) (.inl (7, fun i => if i = 3 then rfv (c (pq q 2)) else if i = 2 then rfv (c (pq q 3)) else f i))) :=
    ⟨fun r hr => ⟨MD_cS.mpr hr, cS_ne (by omega) (by omega), cS_ne (by omega) (by omega)⟩, Nat.le_refl _, Nat.le_refl _, fun y => by omega, fun y => by omega, fun _ => rfl⟩
  intro m4 b hb
  obtain ⟨c2, u2, a, k1, k2, k3, k4⟩ := kk _ _ _ hR hE m4 b hb
  exact ⟨c2, u2, a, k1, k2, (hE.mo hz).tr k3, k4⟩
end
end
section
set_option maxRecDepth 100000
def nrw (k : Nat) : LC := if k = 2 then .inr (.inl (4, 300, fun _ => 0)) else if k = 3 then .inr (.inl (4, 64, fun _ => 0)) else if k = 4 then .inr (.inr (.inl (64, fun _ => 0))) else if k = 5 then .inr (.inr (.inl (64, fun _ => 0))) else if k = 6 then .inr (.inl (4, 32, fun _ => 0)) else if k = 7 then .inr (.inr (.inl (512, fun _ => 0))) else if k = 8 then .inr (.inr (.inl (512, fun _ => 0))) else if k = 9 then .inr (.inr (.inl (30, fun _ => 0))) else .inr (.inl (4, 24, fun _ => 0))
def NS (u : CS) (n i s : Nat) (f g : Nat → LV) (w : CS) : Prop := w.1.1 = n + i ∧ w.1.2 = u.1.2 + s ∧ wfB w = true ∧ (∀ j, j < n → w.2 j = u.2 j) ∧ w.2 n = .inl (7, f) ∧ (2 ≤ i → w.2 (n + 1) = .inl (4, g)) ∧ ∀ k, 2 ≤ k → k < i → w.2 (n + k) = nrw k
def RN (e : Option (CS × Unit)) (w : CS) (P : CS → Prop) : Prop := ∃ x, e = some (x, ()) ∧ w.1.1 ≤ x.1.1 ∧ w.1.2 ≤ x.1.2 ∧ P x
def fup (f : Nat → LV) (k : Nat) (v : LV) : Nat → LV := fun j => if j = k then v else f j
theorem RN_gw {e : Option (CS × Unit)} {w w2 : CS} {P : CS → Prop} (h : RN e w2 P) (h1 : w.1.1 ≤ w2.1.1) (h2 : w.1.2 ≤ w2.1.2) : RN (gw w e) w P := by
  obtain ⟨x, rfl, a, b, c⟩ := h
  exact ⟨x, if_pos ⟨Nat.le_trans h1 a, Nat.le_trans h2 b⟩, by omega, by omega, c⟩
theorem RN_mo {e : Option (CS × Unit)} {w w2 : CS} {P : CS → Prop} (h : RN e w2 P) (h1 : w.1.1 ≤ w2.1.1) (h2 : w.1.2 ≤ w2.1.2) : RN e w P := by
  obtain ⟨x, e, a, b, c⟩ := h
  exact ⟨x, e, by omega, by omega, c⟩
theorem RN_ck {b : Bool} {e : Option (CS × Unit)} {w : CS} {P : CS → Prop} (hb : b = true) (h : RN e w P) : RN (ck b e) w P := by subst hb; exact h
theorem pF_at {w : CS} {a ci k : Nat} {f : Nat → LV} {v : LV} (h : a < w.1.1) (e : w.2 a = .inl (ci, f)) : pF w a ci k v = some (cup w a (.inl (ci, fup f k v))) := by
  unfold pF oF
  rw [if_pos h, e]
  show (match (if ci = ci then some f else none) with | some f => _ | none => _) = _
  rw [if_pos rfl]
  rfl
theorem okC_nrw {n k : Nat} : okC n (nrw k) = true := by
  unfold nrw
  repeat' (first | rfl | split)
theorem al_F {u w : CS} {n i s k ln : Nat} {f g : Nat → LV} {nw : Option CS} {K : CS → Option (CS × Unit)} {P : CS → Prop} (h : NS u n i s f g w) (hi : 2 ≤ i ∧ i < 11) (e : nw = some (cnew w ln (nrw i))) (q : ∀ w2, NS u n (i + 1) (s + ln) f (fup g k (rfv (n + i))) w2 → RN (K w2) w2 P) :
    RN (ck (List.all [some (n + 1)] (okR w.1.1)) (bo nw (fun w1 => gw w1 (bo (pF w1 (n + 1) 4 k (.inr (.inr (some w.1.1)))) K)))) w P := by
  obtain ⟨a1, a2, a3, a4, a5, a6, a7⟩ := h
  refine RN_ck (all1 (decide_eq_true (by omega))) ?_
  subst e
  show RN (gw (cnew w ln (nrw i)) (bo (pF (cnew w ln (nrw i)) (n + 1) 4 k (.inr (.inr (some w.1.1)))) K)) w P
  have e1 : (cnew w ln (nrw i)).2 (n + 1) = .inl (4, g) := by rw [cnew_ne (by omega)]; exact a6 hi.1
  rw [pF_at (show n + 1 < (cnew w ln (nrw i)).1.1 by show n + 1 < w.1.1 + 1; omega) e1]
  have hN : NS u n (i + 1) (s + ln) f (fup g k (rfv (n + i))) (cup (cnew w ln (nrw i)) (n + 1) (.inl (4, fup g k (.inr (.inr (some w.1.1)))))) := by
    have hw : wfB (cnew w ln (nrw i)) = true := wf_cnew a3 okC_nrw
    refine ⟨by show w.1.1 + 1 = _; omega, by show w.1.2 + ln = _; omega, ?_, fun j hj => ?_, ?_, fun _ => ?_, fun z hz hz2 => ?_⟩
    · refine wf_cup hw (fun hlt => ?_)
      exact okC_upd (okC_of hw hlt e1) (show okV (w.1.1 + 1) (.inr (.inr (some w.1.1))) = true from decide_eq_true (by omega))
    · rw [cup_ne (by omega), cnew_ne (by omega)]; exact a4 j hj
    · rw [cup_ne (by omega), cnew_ne (by omega)]; exact a5
    · rw [cup_eq, a1]; rfl
    · rw [cup_ne (by omega)]
      by_cases e2 : z = i
      · subst e2
        rw [show n + z = w.1.1 by omega, cnew_eq]
      · rw [cnew_ne (by omega)]; exact a7 z hz (by omega)
  obtain ⟨x, ex, b1, b2, b3⟩ := q _ hN
  refine ⟨x, ?_, ?_, ?_, b3⟩
  · show gw (cnew w ln (nrw i)) (K _) = _
    rw [ex]
    exact if_pos ⟨b1, b2⟩
  · exact Nat.le_trans (Nat.le_succ _) b1
  · exact Nat.le_trans (Nat.le_add_right _ _) b2
theorem al_P {u w : CS} {n i s k ln : Nat} {f g : Nat → LV} {nw : Option CS} {K : CS → Option (CS × Unit)} {P : CS → Prop} (h : NS u n i s f g w) (hi : 2 ≤ i ∧ i < 11) (e : nw = some (cnew w ln (nrw i))) (q : ∀ w2, NS u n (i + 1) (s + ln) (fup f k (rfv (n + i))) g w2 → RN (K w2) w2 P) :
    RN (ck (List.all [some n] (okR w.1.1)) (bo nw (fun w1 => gw w1 (bo (pF w1 n 7 k (.inr (.inr (some w.1.1)))) K)))) w P := by
  obtain ⟨a1, a2, a3, a4, a5, a6, a7⟩ := h
  refine RN_ck (all1 (decide_eq_true (by omega))) ?_
  subst e
  show RN (gw (cnew w ln (nrw i)) (bo (pF (cnew w ln (nrw i)) n 7 k (.inr (.inr (some w.1.1)))) K)) w P
  have e1 : (cnew w ln (nrw i)).2 n = .inl (7, f) := by rw [cnew_ne (by omega)]; exact a5
  rw [pF_at (show n < (cnew w ln (nrw i)).1.1 by show n < w.1.1 + 1; omega) e1]
  have hN : NS u n (i + 1) (s + ln) (fup f k (rfv (n + i))) g (cup (cnew w ln (nrw i)) n (.inl (7, fup f k (.inr (.inr (some w.1.1)))))) := by
    have hw : wfB (cnew w ln (nrw i)) = true := wf_cnew a3 okC_nrw
    refine ⟨by show w.1.1 + 1 = _; omega, by show w.1.2 + ln = _; omega, ?_, fun j hj => ?_, ?_, fun _ => ?_, fun z hz hz2 => ?_⟩
    · refine wf_cup hw (fun hlt => ?_)
      exact okC_upd (okC_of hw hlt e1) (show okV (w.1.1 + 1) (.inr (.inr (some w.1.1))) = true from decide_eq_true (by omega))
    · rw [cup_ne (by omega), cnew_ne (by omega)]; exact a4 j hj
    · rw [cup_eq, a1]; rfl
    · rw [cup_ne (by omega), cnew_ne (by omega)]; exact a6 hi.1
    · rw [cup_ne (by omega)]
      by_cases e2 : z = i
      · subst e2
        rw [show n + z = w.1.1 by omega, cnew_eq]
      · rw [cnew_ne (by omega)]; exact a7 z hz (by omega)
  obtain ⟨x, ex, b1, b2, b3⟩ := q _ hN
  refine ⟨x, ?_, ?_, ?_, b3⟩
  · show gw (cnew w ln (nrw i)) (K _) = _
    rw [ex]
    exact if_pos ⟨b1, b2⟩
  · exact Nat.le_trans (Nat.le_succ _) b1
  · exact Nat.le_trans (Nat.le_add_right _ _) b2
theorem pS_P {u w : CS} {n i s k : Nat} {v : LV} {f g : Nat → LV} {K : CS → Option (CS × Unit)} {P : CS → Prop} (h : NS u n i s f g w) (hi : 2 ≤ i) (hv : okV w.1.1 v = true) (q : ∀ w2, w2.1 = w.1 → NS u n i s (fup f k v) g w2 → RN (K w2) w2 P) : RN (bo (pF w n 7 k v) K) w P := by
  obtain ⟨a1, a2, a3, a4, a5, a6, a7⟩ := h
  rw [pF_at (by omega) a5]
  refine q _ rfl ⟨a1, a2, wf_cup a3 (fun hlt => okC_upd (okC_of a3 hlt a5) hv), fun j hj => ?_, cup_eq, fun h2 => ?_, fun z hz hz2 => ?_⟩
  · rw [cup_ne (by omega)]; exact a4 j hj
  · rw [cup_ne (by omega)]; exact a6 h2
  · rw [cup_ne (by omega)]; exact a7 z hz hz2
theorem nw_I {w : CS} {k : Nat} {x : Int32} (h : wfB w = true) (h0 : ¬ x < 0) (h1 : x.toNatClampNeg ≤ 67108864) (e : nrw k = .inr (.inl (4, x.toNatClampNeg, fun _ => 0))) : nwI w 4 x = some (cnew w x.toNatClampNeg (nrw k)) := by rw [nwI_e h h0 h1, e]
theorem nw_J {w : CS} {k : Nat} {x : Int32} (h : wfB w = true) (h0 : ¬ x < 0) (h1 : x.toNatClampNeg ≤ 67108864) (e : nrw k = .inr (.inr (.inl (x.toNatClampNeg, fun _ => 0)))) : nwJ w x = some (cnew w x.toNatClampNeg (nrw k)) := by rw [nwJ_e h h0 h1, e]
theorem Fr_init_r {N : Nat} {u w : CS} {n s : Nat} {f g : Nat → LV} {P : CS → Prop} (h : NS u n 2 s f g w) (q : ∀ w2, NS u n 7 (s + 300 + 64 + 64 + 64 + 32) f (fup (fup (fup (fup (fup g 0 (rfv (n + 2))) 2 (rfv (n + 3))) 3 (rfv (n + 4))) 5 (rfv (n + 5))) 7 (rfv (n + 6))) w2 → P w2) : RN (fm_Fr_init N w (n + 1)) w P := by
  unfold fm_Fr_init fb_Fr_init_0
  refine al_F (ln := 300) h (by omega) (nw_I h.2.2.1 (by decide) (by decide) rfl) (fun w2 h2 => ?_)
  refine al_F (ln := 64) h2 (by omega) (nw_I h2.2.2.1 (by decide) (by decide) rfl) (fun w3 h3 => ?_)
  refine al_F (ln := 64) h3 (by omega) (nw_J h3.2.2.1 (by decide) (by decide) rfl) (fun w4 h4 => ?_)
  refine al_F (ln := 64) h4 (by omega) (nw_J h4.2.2.1 (by decide) (by decide) rfl) (fun w5 h5 => ?_)
  refine al_F (ln := 32) h5 (by omega) (nw_I h5.2.2.1 (by decide) (by decide) rfl) (fun w6 h6 => ?_)
  exact ⟨w6, rfl, Nat.le_refl _, Nat.le_refl _, q w6 h6⟩
def frmN (n : Nat) : Nat → LV := fup (fup (fup (fup (fup (fun j => dfV (t_Fr j)) 0 (rfv (n + 2))) 2 (rfv (n + 3))) 3 (rfv (n + 4))) 5 (rfv (n + 5))) 7 (rfv (n + 6))
def prcN (n : Nat) (x : Int32) : Nat → LV := fup (fup (fup (fup (fup (fup (fun j => dfV (t_Pr j)) 1 (rfv (n + 1))) 2 (rfv (n + 7))) 3 (rfv (n + 8))) 6 (rfv (n + 9))) 14 (rfv (n + 10))) 0 (.inl x)
theorem okC_df {n ci : Nat} {t : Nat → FieldType} : okC n (.inl (ci, fun j => dfV (t j))) = true := by
  unfold okC
  refine List.all_eq_true.mpr (fun j _ => ?_)
  show okV n (dfV (t j)) = true
  unfold dfV
  split <;> rfl
theorem bx_RN {e : Option (CS × Unit)} {K : CS → Unit → Option (CS × Unit)} {w : CS} {P P2 : CS → Prop} (h : RN e w P) (q : ∀ w2, P w2 → RN (K w2 ()) w2 P2) : RN (bx e K) w P2 := by
  obtain ⟨x, rfl, a, b, c⟩ := h
  obtain ⟨y, e, a2, b2, c2⟩ := q x c
  exact ⟨y, e, by omega, by omega, c2⟩
theorem Pr_init_r {N : Nat} {u w : CS} {n : Nat} {x : Int32} {g : Nat → LV} (h : NS u n 1 18 (fun j => dfV (t_Pr j)) g w) : RN (fm_Pr_init N w n x) w (fun w2 => NS u n 11 1630 (prcN n x) (frmN n) w2) := by
  obtain ⟨a1, a2, a3, a4, a5, a6, a7⟩ := h
  unfold fm_Pr_init fb_Pr_init_0
  refine RN_ck (all1 (decide_eq_true (by omega))) ?_
  have e0 : nO w 4 10 t_Fr = some (cnew w 10 (.inl (4, fun j => dfV (t_Fr j)))) := by unfold nO; exact if_pos a3
  rw [e0]
  generalize hw1 : cnew w 10 (.inl (4, fun j => dfV (t_Fr j))) = w1
  have h1 : NS u n 2 28 (fun j => dfV (t_Pr j)) (fun j => dfV (t_Fr j)) w1 := by
    rw [← hw1]
    refine ⟨by show w.1.1 + 1 = _; omega, by show w.1.2 + 10 = _; omega, wf_cnew a3 okC_df, fun j hj => ?_, ?_, fun _ => ?_, fun k _ _ => by omega⟩
    · rw [cnew_ne (by omega)]; exact a4 j hj
    · rw [cnew_ne (by omega)]; exact a5
    · rw [← a1, cnew_eq]
  have hl : w.1.1 ≤ w1.1.1 ∧ w.1.2 ≤ w1.1.2 := by rw [← hw1]; exact ⟨Nat.le_succ _, Nat.le_add_right _ _⟩
  show RN (gw w1 (ck (List.all [some n, some w.1.1] (okR w1.1.1)) (bx (gw w1 (fm_Fr_init N w1 w.1.1)) _))) w _
  rw [a1]
  refine RN_mo (w2 := w1) (RN_gw (w2 := w1) ?_ (Nat.le_refl _) (Nat.le_refl _)) hl.1 hl.2
  refine RN_ck (all2 (decide_eq_true (by have := h1.1; omega)) (decide_eq_true (by have := h1.1; omega))) ?_
  refine bx_RN (P := fun w2 => NS u n 7 (28 + 300 + 64 + 64 + 64 + 32) (fun j => dfV (t_Pr j)) (frmN n) w2) (RN_gw (Fr_init_r h1 (fun w2 h2 => h2)) (Nat.le_refl _) (Nat.le_refl _)) (fun w2 h2 => ?_)
  refine RN_gw (w2 := w2) ?_ (Nat.le_refl _) (Nat.le_refl _)
  refine pS_P h2 (by omega) (decide_eq_true (by have := h2.1; omega)) (fun w3 e3 h3 => ?_)
  refine al_P (ln := 512) h3 (by omega) (nw_J h3.2.2.1 (by decide) (by decide) rfl) (fun w4 h4 => ?_)
  refine al_P (ln := 512) h4 (by omega) (nw_J h4.2.2.1 (by decide) (by decide) rfl) (fun w5 h5 => ?_)
  refine al_P (ln := 30) h5 (by omega) (nw_J h5.2.2.1 (by decide) (by decide) rfl) (fun w6 h6 => ?_)
  refine al_P (ln := 24) h6 (by omega) (nw_I h6.2.2.1 (by decide) (by decide) rfl) (fun w7 h7 => ?_)
  refine pS_P h7 (by omega) rfl (fun w8 e8 h8 => ?_)
  exact ⟨w8, rfl, Nat.le_refl _, Nat.le_refl _, h8⟩
end
section
set_option maxRecDepth 100000
def rof (k : Nat) : Nat := if k = 0 then 0 else if k = 20 then 1 else if k = 30 then 2 else if k = 32 then 3 else if k = 33 then 4 else if k = 35 then 5 else if k = 37 then 6 else if k = 2 then 7 else if k = 3 then 8 else if k = 6 then 9 else 10
def cNw (c : Nat → Nat) (q n : Nat) : Nat → Nat := fun i => if pq q 0 ≤ i ∧ i < pq q 0 + 100 then n + rof (i - pq q 0) else c i
def nwi (l : Nat) : Int32 := if l = 42 ∨ l = 43 ∨ l = 45 then 64 else if l = 47 then 32 else if l = 17 then -1 else 0
def newP (m : MS) (q : Nat) : MS := (fun k => if pq q 0 ≤ k ∧ k < pq q 0 + 100 then nwi (k - pq q 0) else m.1 k, fun k => if pq q 0 ≤ k ∧ k < pq q 0 + 100 then 0 else m.2.1 k, fun k => if pq q 0 ≤ k ∧ k < pq q 0 + 100 then fun _ => 0 else if k = 1948 then upd (m.2.2.1 1948) q (Int32.ofNat q) else m.2.2.1 k, fun k => if pq q 0 ≤ k ∧ k < pq q 0 + 100 then fun _ => 0 else m.2.2.2 k)
section
variable {α β : Type} {z : Nat} {o : Option Nat} {V : (Nat → Nat) → α → β → Prop} {c : Nat → Nat} {u : CS} {m : MS} {q n : Nat} {N : Nat}
theorem cNw_q {k : Nat} (h : k < 100) : cNw c q n (pq q k) = n + rof k := by
  unfold cNw
  rw [if_pos (by unfold pq; omega)]
  congr 2
  unfold pq; omega
theorem cNw_r {r k : Nat} (h : k < 100) (hr : r ≠ q) : cNw c q n (pq r k) = c (pq r k) := if_neg (by unfold pq; omega)
theorem nP_1 {k : Nat} (h : k < 100) : (newP m q).1 (pq q k) = nwi k := by
  unfold newP
  show (if _ then _ else _) = _
  rw [if_pos (by unfold pq; omega)]
  congr 1
  unfold pq; omega
theorem nP_2 {k : Nat} (h : k < 100) : (newP m q).2.1 (pq q k) = 0 := if_pos (by unfold pq; omega)
theorem nP_3 {k : Nat} (h : k < 100) : (newP m q).2.2.1 (pq q k) = fun _ => 0 := if_pos (by unfold pq; omega)
theorem nP_4 {k : Nat} (h : k < 100) : (newP m q).2.2.2 (pq q k) = fun _ => 0 := if_pos (by unfold pq; omega)
theorem nP_o1 {i : Nat} (h : ¬ (pq q 0 ≤ i ∧ i < pq q 0 + 100)) : (newP m q).1 i = m.1 i := if_neg h
theorem nP_o2 {i : Nat} (h : ¬ (pq q 0 ≤ i ∧ i < pq q 0 + 100)) : (newP m q).2.1 i = m.2.1 i := if_neg h
theorem nP_o3 {i : Nat} (h : ¬ (pq q 0 ≤ i ∧ i < pq q 0 + 100)) (h2 : i ≠ 1948) : (newP m q).2.2.1 i = m.2.2.1 i := by
  unfold newP
  show (if _ then _ else if _ then _ else _) = _
  rw [if_neg h, if_neg h2]
theorem nP_1948 : (newP m q).2.2.1 1948 = upd (m.2.2.1 1948) q (Int32.ofNat q) := by
  unfold newP
  show (if _ then _ else if _ then _ else _) = _
  rw [if_neg (by unfold pq; omega), if_pos rfl]
theorem nP_o4 {i : Nat} (h : ¬ (pq q 0 ≤ i ∧ i < pq q 0 + 100)) : (newP m q).2.2.2 i = m.2.2.2 i := if_neg h
theorem rof_i {k l : Nat} (hk : isR k) (hl : isR l) (h : rof k = rof l) : k = l := by
  unfold isR at hk hl
  rcases hk with rfl | rfl | rfl | rfl | rfl | rfl | rfl | rfl | rfl | rfl | rfl <;> rcases hl with rfl | rfl | rfl | rfl | rfl | rfl | rfl | rfl | rfl | rfl | rfl <;> first | rfl | (exfalso; revert h; decide)
theorem rof_lt {k : Nat} : rof k < 11 := by
  unfold rof
  repeat' (first | omega | split)
theorem SMR_new {r k : Nat} (hr : r ≠ q) (hk : k < 100) : SMR c m (newP m q) r k := ⟨fun _ => ⟨fun l hl => nP_o1 (by unfold pq; omega), fun l hl => nP_o2 (by unfold pq; omega)⟩, fun _ l h1 h2 => nP_o1 (by unfold pq; omega), nP_o3 (by unfold pq; omega) (by unfold pq; omega), nP_o4 (by unfold pq; omega), fun l h1 h2 => nP_o1 (by unfold pq; omega)⟩
theorem ROL_c {c2 : Nat → Nat} {m : MS} {r k : Nat} {x : LC} (h : ROL c m r k x) (e : ∀ l, l < 100 → c2 (pq r l) = c (pq r l)) (eh : hmR c2 m r = hmR c m r) : ROL c2 m r k x := by
  obtain ⟨h0, h20, hr⟩ := h
  refine ⟨fun y => ?_, fun y => ?_, hr⟩
  · obtain ⟨fp, g0, g1, g2, g3, g4, g5, g6, g7, g8, g9, g10⟩ := h0 y
    exact ⟨fp, g0, g1, by rw [e 20 (by omega)]; exact g2, by rw [e 2 (by omega)]; exact g3, by rw [e 3 (by omega)]; exact g4, by rw [e 6 (by omega)]; exact g5, by rw [e 14 (by omega)]; exact g6, by rw [eh]; exact g7, g8, g9, g10⟩
  · obtain ⟨fo, g0, g1, g2, g3, g4, g5, g6⟩ := h20 y
    exact ⟨fo, g0, by rw [e 30 (by omega)]; exact g1, by rw [e 32 (by omega)]; exact g2, by rw [e 33 (by omega)]; exact g3, by rw [e 35 (by omega)]; exact g4, by rw [e 37 (by omega)]; exact g5, g6⟩
theorem AP_of {w : CS} {i n : Nat} {h : Nat → Option Nat} (e : w.2 i = .inr (.inr (.inr (n, h)))) : AP w i = h := by unfold AP; rw [e]
theorem lnQ_new {k : Nat} (h : k < 100) : lnQ (newP m q) q k = (nwi k).toNatClampNeg := by unfold lnQ; rw [nP_1 h]
set_option maxHeartbeats 2000000 in
theorem RP_new (h : RP o c m u) (hq : q < 24) (h0 : c (pq q 0) = 0) {x w : CS} (hx : NS u u.1.1 11 1630 (prcN u.1.1 (Int32.ofNat q)) (frmN u.1.1) x) (e1 : w.1 = x.1) (e2 : ∀ i, i ≠ 48 → w.2 i = x.2 i) (e3 : w.2 48 = .inr (.inr (.inr (24, va_up (AP u 48) q (some u.1.1))))) : RP o (cNw c q u.1.1) (newP m q) w := by
  obtain ⟨⟨s1, s2, s3, s4, s5, s6, s7⟩, r2, r3, ⟨q1, q2⟩, ⟨d1, d2⟩, ⟨p1, p2⟩, t1, t2, t3⟩ := h
  obtain ⟨x1, x2, x3, x4, x5, x6, x7⟩ := hx
  have hn := sk_n s1
  have hMq : ∀ r, MD c r → r ≠ q := fun r hr y => hr.2 (y ▸ h0)
  have hM : ∀ r, MD (cNw c q u.1.1) r ↔ MD c r ∨ r = q := by
    intro r
    unfold MD
    by_cases e : r = q
    · subst e
      rw [cNw_q (by omega)]
      constructor
      · intro _; exact Or.inr rfl
      · intro _; exact ⟨hq, by omega⟩
    · rw [cNw_r (by omega) e]
      constructor
      · intro y; exact Or.inl y
      · intro y; rcases y with y | y; exact y; exact absurd y e
  have hlo : ∀ i, i < 57 → i ≠ 48 → w.2 i = u.2 i := fun i hi h48 => by rw [e2 i h48]; exact x4 i (by omega)
  have hw48 : AP w 48 = va_up (AP u 48) q (some u.1.1) := AP_of e3
  refine ⟨⟨?_, fun i k a b => ?_, ?_, fun i a => ?_, fun i a => ?_, ?_, ?_⟩, ?_, fun r hr => ?_, ⟨fun r hr => ?_, fun r hr => ?_⟩, ⟨fun r1 k1 r2 k2 a1 a2 b1 b2 ee => ?_, fun r k a b => ?_⟩, ⟨fun r k a b => ?_, fun r r2 a b => ?_⟩, ?_, ?_, fun r k a b => ?_⟩
  · unfold skB
    rw [Bool.and_eq_true]
    refine ⟨decide_eq_true (by rw [e1, x1]; omega), List.all_eq_true.mpr (fun i a => ?_)⟩
    have ai := List.mem_range.mp a
    by_cases c1 : i = 48
    · subst c1; rw [e3]; rfl
    · rw [hlo i ai c1]; exact sk_at s1 ai
  · by_cases c1 : i = 48
    · subst c1
      have e48 : FI u 48 k = 0 := by
        have h1 := sk_at s1 (i := 48) (by decide)
        rw [show tbl.getD 48 (9, []) = (2, [24]) from rfl] at h1
        unfold FI
        cases hc : u.2 48 with
        | inl y => rw [hc] at h1; simp [okS] at h1
        | inr y => rfl
      rw [nP_o1 (by unfold pq; omega), ← s2 48 k (by omega) b, e48]
      unfold FI
      rw [e3]
    · rw [FI_at (hlo i a c1), s2 i k a b, nP_o1 (by unfold pq; omega)]
  · rw [FJ_at (hlo 55 (by omega) (by omega)), s3, nP_o2 (by unfold pq; omega)]
  · by_cases c1 : i = 48
    · subst c1
      have e48 : AI u 48 = fun _ => 0 := by
        have h1 := sk_at s1 (i := 48) (by decide)
        rw [show tbl.getD 48 (9, []) = (2, [24]) from rfl] at h1
        unfold AI
        cases hc : u.2 48 with
        | inl y => rfl
        | inr y =>
          rcases y with y | y | y
          · first | rfl | (rw [hc] at h1; simp [okS] at h1)
          · rfl
          · rfl
      rw [nP_o3 (by unfold pq; omega) (by omega), ← s4 48 (by omega), e48]
      unfold AI
      rw [e3]
    · rw [AI_at (hlo i a c1), s4 i a, nP_o3 (by unfold pq; omega) (by omega)]
  · by_cases c1 : i = 48
    · subst c1
      have e48 : AJ u 48 = fun _ => 0 := by
        have h1 := sk_at s1 (i := 48) (by decide)
        rw [show tbl.getD 48 (9, []) = (2, [24]) from rfl] at h1
        unfold AJ
        cases hc : u.2 48 with
        | inl y => rfl
        | inr y =>
          rcases y with y | y | y
          · rfl
          · first | rfl | (rw [hc] at h1; simp [okS] at h1)
          · rfl
      rw [nP_o4 (by unfold pq; omega), ← s5 48 (by omega), e48]
      unfold AJ
      rw [e3]
    · rw [AJ_at (hlo i a c1), s5 i a, nP_o4 (by unfold pq; omega)]
  · rw [FR_at (hlo 43 (by omega) (by omega)), s6, nP_o1 (by unfold pq; omega)]
  · rw [nP_o1 (by unfold pq; omega)]; exact s7
  · unfold wfB
    refine List.all_eq_true.mpr (fun i a => ?_)
    have ai := List.mem_range.mp a
    rw [e1] at ai ⊢
    by_cases c1 : i = 48
    · rw [c1, e3]
      unfold okC
      refine List.all_eq_true.mpr (fun k hk => ?_)
      have hk := List.mem_range.mp hk
      show okR x.1.1 (va_up (AP u 48) q (some u.1.1) k) = true
      unfold va_up
      by_cases c2 : k = q
      · rw [if_pos c2]; exact decide_eq_true (by rw [x1]; omega)
      · rw [if_neg c2, q1 k hk]
        by_cases c3 : c (pq k 0) = 0
        · rw [if_pos c3]; rfl
        · rw [if_neg c3]
          have := (d2 k 0 ⟨hk, c3⟩ isR0).2
          exact decide_eq_true (by rw [x1]; omega)
    · rw [e2 i c1]; exact wf_at x3 ai
  · obtain ⟨a1, a2, a3⟩ := r3 r hr
    have hrq := hMq r a1
    rw [FR_at (hlo 55 (by omega) (by omega)), FR_at (hlo 55 (by omega) (by omega)), cNw_r (by omega) hrq, cNw_r (by omega) hrq]
    exact ⟨(hM r).mpr (Or.inl a1), a2, a3⟩
  · rw [hw48]
    unfold va_up
    by_cases c1 : r = q
    · subst c1
      rw [if_pos rfl, cNw_q (by omega), if_neg (by omega)]; rfl
    · rw [if_neg c1, cNw_r (by omega) c1]; exact q1 r hr
  · rw [nP_1948]
    unfold upd
    by_cases c1 : r = q
    · subst c1
      rw [if_pos rfl, cNw_q (by omega), if_neg (by omega)]
    · rw [if_neg c1, cNw_r (by omega) c1]; exact q2 r hr
  · replace a1 := (hM r1).mp a1
    replace a2 := (hM r2).mp a2
    have hk1 := isR_lt b1
    have hk2 := isR_lt b2
    have n1 := rof_lt (k := k1)
    have n2 := rof_lt (k := k2)
    by_cases c1 : r1 = q
    · by_cases c2 : r2 = q
      · rw [c1, c2, cNw_q hk1, cNw_q hk2] at ee
        exact ⟨c1.trans c2.symm, rof_i b1 b2 (by omega)⟩
      · rw [c1, cNw_q hk1, cNw_r hk2 c2] at ee
        have := (d2 r2 k2 (a2.resolve_right c2) b2).2
        omega
    · by_cases c2 : r2 = q
      · rw [c2, cNw_q hk2, cNw_r hk1 c1] at ee
        have := (d2 r1 k1 (a1.resolve_right c1) b1).2
        omega
      · rw [cNw_r hk1 c1, cNw_r hk2 c2] at ee
        exact d1 r1 k1 r2 k2 (a1.resolve_right c1) (a2.resolve_right c2) b1 b2 ee
  · have hk1 := isR_lt b
    have n1 := rof_lt (k := k)
    rw [e1, x1]
    by_cases c1 : r = q
    · rw [c1, cNw_q hk1]; omega
    · rw [cNw_r hk1 c1]
      have := d2 r k (((hM r).mp a).resolve_right c1) b
      omega
  · have hk1 := isR_lt b
    have n1 := rof_lt (k := k)
    by_cases c1 : r = q
    · subst c1
      rw [cNw_q hk1, e2 _ (by omega)]
      have hrf : rf ((newP m r).1 (pq r 17)) = none := by rw [nP_1 (by omega)]; rfl
      have hh : hmR (cNw c r u.1.1) (newP m r) r = none := by unfold hmR; rw [hrf]; rfl
      unfold isR at b
      rcases b with rfl | rfl | rfl | rfl | rfl | rfl | rfl | rfl | rfl | rfl | rfl
      · refine ⟨fun _ => ?_, fun y => (by cases y), fun y => (by cases y), fun y => (by cases y), fun y => (by cases y), fun y => (by cases y), fun y => (by cases y), fun y => (by cases y), fun y => (by cases y), fun y => (by cases y), fun y => (by cases y)⟩
        refine ⟨prcN u.1.1 (Int32.ofNat r), x5, rfl, ?_, ?_, ?_, ?_, ?_, ?_, fun l hl => ?_, ?_, ?_⟩
        · rw [cNw_q (by omega)]; rfl
        · rw [cNw_q (by omega)]; rfl
        · rw [cNw_q (by omega)]; rfl
        · rw [cNw_q (by omega)]; rfl
        · rw [cNw_q (by omega)]; rfl
        · rw [hh]; rfl
        · rw [nP_1 (by have := KI_lt hl; omega)]
          unfold KI at hl
          rcases hl with rfl | rfl | rfl | rfl | rfl | rfl | rfl | rfl | rfl <;> rfl
        · rw [nP_2 (by omega)]; rfl
        · rw [nP_2 (by omega)]; rfl
      · refine ⟨fun y => (by cases y), fun _ => ?_, fun y => (by cases y), fun y => (by cases y), fun y => (by cases y), fun y => (by cases y), fun y => (by cases y), fun y => (by cases y), fun y => (by cases y), fun y => (by cases y), fun y => (by cases y)⟩
        refine ⟨frmN u.1.1, x6 (by omega), ?_, ?_, ?_, ?_, ?_, fun l hl => ?_⟩
        · rw [cNw_q (by omega)]; rfl
        · rw [cNw_q (by omega)]; rfl
        · rw [cNw_q (by omega)]; rfl
        · rw [cNw_q (by omega)]; rfl
        · rw [cNw_q (by omega)]; rfl
        · rw [nP_1 (by have := KG_lt hl; omega)]
          unfold KG at hl
          rcases hl with rfl | rfl | rfl | rfl | rfl <;> rfl
      · refine (ROL_J (by unfold isJ; omega)).mpr ⟨fun _ => 0, x7 7 (by omega) (by omega), fun i _ => by rw [nP_4 (by omega)]⟩
      · refine (ROL_J (by unfold isJ; omega)).mpr ⟨fun _ => 0, x7 8 (by omega) (by omega), fun i _ => by rw [nP_4 (by omega)]⟩
      · refine (ROL_J (by unfold isJ; omega)).mpr ⟨fun _ => 0, x7 9 (by omega) (by omega), fun i _ => by rw [nP_4 (by omega)]⟩
      · refine (ROL_I (by unfold isI; omega)).mpr ⟨fun _ => 0, x7 10 (by omega) (by omega), fun i _ => by rw [nP_3 (by omega)]⟩
      · refine (ROL_I (by unfold isI; omega)).mpr ⟨fun _ => 0, x7 2 (by omega) (by omega), fun i _ => by rw [nP_3 (by omega)]⟩
      · refine (ROL_I (by unfold isI; omega)).mpr ⟨fun _ => 0, ?_, fun i _ => by rw [nP_3 (by omega)]⟩
        rw [show lnI (newP m r) r 32 = 64 from lnQ_new (k := 42) (by omega)]
        exact x7 3 (by omega) (by omega)
      · refine (ROL_J (by unfold isJ; omega)).mpr ⟨fun _ => 0, ?_, fun i _ => by rw [nP_4 (by omega)]⟩
        rw [show lnJ (newP m r) r 33 = 64 from lnQ_new (k := 43) (by omega)]
        exact x7 4 (by omega) (by omega)
      · refine (ROL_J (by unfold isJ; omega)).mpr ⟨fun _ => 0, ?_, fun i _ => by rw [nP_4 (by omega)]⟩
        rw [show lnJ (newP m r) r 35 = 64 from lnQ_new (k := 45) (by omega)]
        exact x7 5 (by omega) (by omega)
      · refine (ROL_I (by unfold isI; omega)).mpr ⟨fun _ => 0, ?_, fun i _ => by rw [nP_3 (by omega)]⟩
        rw [show lnI (newP m r) r 37 = 32 from lnQ_new (k := 47) (by omega)]
        exact x7 6 (by omega) (by omega)
    · have hr := ((hM r).mp a).resolve_right c1
      have hd := d2 r k hr b
      rw [cNw_r hk1 c1, e2 _ (by omega), x4 _ hd.2]
      have hP := p1 r k hr b
      refine ROL_same (ROL_c hP (fun l hl => cNw_r hl c1) ?_) (SMR_new c1 hk1)
      unfold hmR
      cases e : rf (m.1 (pq r 17)) with
      | none => rfl
      | some r3 =>
        show some (cNw c q u.1.1 (pq r3 0)) = some (c (pq r3 0))
        rw [cNw_r (by omega) (hMq r3 (p2 r r3 hr e))]
  · by_cases c1 : r = q
    · subst c1
      rw [nP_1 (by omega)] at b
      cases b
    · rw [nP_o1 (by unfold pq; omega)] at b
      exact (hM r2).mpr (Or.inl (p2 r r2 (((hM r).mp a).resolve_right c1) b))
  · rw [e1, x2, t1]
    rw [slT_one (c := c) (m := m) (c2 := cNw c q u.1.1) (m2 := newP m q) hq (d := 1630) ?_ (fun r hr => ?_)]
    · omega
    · unfold slQ
      rw [if_pos h0, cNw_q (by omega), if_neg (by omega), lnQ_new (by omega), lnQ_new (by omega), lnQ_new (by omega), lnQ_new (by omega)]
      rfl
    · unfold slQ lnQ
      rw [cNw_r (by omega) hr, nP_o1 (by unfold pq; omega), nP_o1 (by unfold pq; omega), nP_o1 (by unfold pq; omega), nP_o1 (by unfold pq; omega)]
  · rw [e1, x1, x2]; omega
  · by_cases c1 : r = q
    · subst c1
      rw [nP_1 (isL_lt b)]
      unfold isL at b
      rcases b with rfl | rfl | rfl | rfl <;> decide
    · rw [nP_o1 (by have := isL_lt b; unfold pq; omega)]
      exact t3 r k (((hM r).mp a).resolve_right c1) b
end
end
section
set_option maxRecDepth 100000
theorem ck_tt {α : Type} {x : Option α} : ck true x = x := rfl
section
variable {α β : Type} {z : Nat} {o : Option Nat} {V : (Nat → Nat) → α → β → Prop} {c : Nat → Nat} {u : CS} {m : MS} {q : Nat} {N : Nat}
theorem EX_new (h : RP o c m u) (h0 : c (pq q 0) = 0) {w : CS} (e1 : w.1.1 = u.1.1 + 11) (e2 : w.1.2 = u.1.2 + 1630) (hn : 0 < u.1.1) : EX 1 c u (cNw c q u.1.1) w := by
  have hr : ∀ r, MD c r → r ≠ q := fun r hr y => hr.2 (y ▸ h0)
  refine ⟨fun r a => ⟨⟨a.1, by rw [cNw_r (by omega) (hr r a)]; exact a.2⟩, cNw_r (by omega) (hr r a), cNw_r (by omega) (hr r a)⟩, by omega, by omega, fun _ r a => cNw_r (by omega) (hr r a), fun y => (by cases y), fun y => by omega⟩
theorem rf_new (h : RP o c m u) {x : Int32} (hx : m.1 942 = x) (hb : inb x 24 = true) (h0 : rf (m.2.2.1 1948 x.toNatClampNeg) = none) (hz : zle 1 z) {fk : CS → Option (CS × α)} {y : MS → Option (MS × β)} (kk : ∀ c2 m2 w, RP o c2 m2 w → EX 1 c u c2 w → RF z o V c2 w (fk w) (y m2)) :
    RF z o V c u (bo (nO u 7 18 t_Pr) (fun w16 => gw w16 (bo (gI w16 47 12 2) (fun r17 => ck (List.all [some 47, some 48, some u.1.1] (okR w16.1.1)) (bx (gw w16 (fm_Pr_init N w16 u.1.1 r17)) (fun u18 r18 => gw u18 (bo (some 48) (fun j19 => bo (sP u18 j19 x u.1.1) fk)))))))) (lt (newP m x.toNatClampNeg) y) := by
  have hn := sk_n h.1.1
  have hlt := inb_lt hb
  have hx0 : Int32.ofNat x.toNatClampNeg = x := ofNat_cl (fun y => by
    unfold inb at hb
    exact of_decide_eq_true hb (Or.inl y))
  have hc0 : c (pq x.toNatClampNeg 0) = 0 := by
    have := h.2.2.2.1.2 _ hlt
    by_cases e : c (pq x.toNatClampNeg 0) = 0
    · exact e
    · rw [if_neg e] at this
      rw [this, rf_ofNat (by omega)] at h0
      cases h0
  have e0 : nO u 7 18 t_Pr = some (cnew u 18 (.inl (7, fun j => dfV (t_Pr j)))) := by unfold nO; exact if_pos h.2.1
  rw [e0]
  generalize hw : cnew u 18 (.inl (7, fun j => dfV (t_Pr j))) = w1
  have w1e : w1.1 = (u.1.1 + 1, u.1.2 + 18) := by rw [← hw]; rfl
  have h1 : NS u u.1.1 1 18 (fun j => dfV (t_Pr j)) (fun j => dfV (t_Pr j)) w1 := by
    rw [← hw]
    exact ⟨rfl, rfl, wf_cnew h.2.1 okC_df, fun j hj => cnew_ne (by omega), cnew_eq, fun y => by omega, fun k _ _ => by omega⟩
  have hi : ∀ i, i < 57 → w1.2 i = u.2 i := fun i hi => h1.2.2.2.1 i (by omega)
  have eg : gI w1 47 12 2 = some x := by
    have := gI_s h (i := 47) (k := 2) (by decide) rfl (by decide) rfl
    unfold gI oF at this ⊢
    rw [if_pos (by omega)] at this
    rw [if_pos (by rw [w1e]; show 47 < u.1.1 + 1; omega), hi 47 (by omega), this]
    exact congrArg some hx
  show RF z o V c u (gw w1 (bo (gI w1 47 12 2) _)) _
  rw [eg]
  show RF z o V c u (gw w1 (ck (List.all [some 47, some 48, some u.1.1] (okR w1.1.1)) _)) _
  rw [all3 (show okR w1.1.1 (some 47) = true from decide_eq_true (by rw [w1e]; show 47 < u.1.1 + 1; omega)) (show okR w1.1.1 (some 48) = true from decide_eq_true (by rw [w1e]; show 48 < u.1.1 + 1; omega)) (show okR w1.1.1 (some u.1.1) = true from decide_eq_true (by rw [w1e]; show u.1.1 < u.1.1 + 1; omega))]
  obtain ⟨x1, ex, a1, a2, hN⟩ := Pr_init_r (N := N) (x := x) h1
  rw [ck_tt, ex, gw_e a1 a2]
  show RF z o V c u (gw w1 (gw x1 (bo (sP x1 48 x u.1.1) fk))) _
  have hxi : ∀ i, i < 57 → x1.2 i = u.2 i := fun i hi => hN.2.2.2.1 i (by omega)
  obtain ⟨g48, e48, e49⟩ := oP_48 h
  have es : sP x1 48 x u.1.1 = some (cup x1 48 (.inr (.inr (.inr (24, va_up (AP u 48) x.toNatClampNeg (some u.1.1)))))) := by
    have eo : oP x1 48 = some (24, AP u 48) := by
      unfold oP at e48 ⊢
      rw [if_pos (by omega)] at e48
      rw [if_pos (by rw [hN.1]; omega), hxi 48 (by omega), e48, e49]
    have ei : isO x1 u.1.1 7 = true := by
      unfold isO oF
      rw [if_pos (by rw [hN.1]; omega), hN.2.2.2.2.1]
      rfl
    unfold sP
    rw [eo]
    exact if_pos ⟨hb, ei⟩
  rw [es]
  have hR := RP_new h hlt hc0 (x := x1) (w := cup x1 48 (.inr (.inr (.inr (24, va_up (AP u 48) x.toNatClampNeg (some u.1.1)))))) (by rw [hx0]; exact hN) rfl (fun i hi => cup_ne hi) cup_eq
  have hE := EX_new (q := x.toNatClampNeg) h hc0 (w := cup x1 48 (.inr (.inr (.inr (24, va_up (AP u 48) x.toNatClampNeg (some u.1.1)))))) hN.1 hN.2.1 (by omega)
  intro m4 b hb4
  obtain ⟨c2, u2, a, k1, k2, k3, k4⟩ := kk _ _ _ hR hE m4 b hb4
  refine ⟨c2, u2, a, ?_, k2, (hE.mo hz).tr k3, k4⟩
  have t1 := k3.2.1
  have t2 := k3.2.2.1
  rw [cup_1] at t1 t2
  show gw w1 (gw x1 (fk _)) = _
  rw [k1, gw_e t1 t2, gw_e (by omega) (by omega)]
theorem RP_none (h : RP o c m u) : RP none c m u := ⟨h.1, h.2.1, fun q e => (by cases e), h.2.2.2⟩
theorem RP_take (h : RP o c m u) (hq : MD c q) : RP (some q) c m (uF (uF u 55 3 (.inr (.inr (some (c (pq q 0)))))) 55 4 (.inr (.inr (some (c (pq q 20)))))) := by
  obtain ⟨⟨s1, s2, s3, s4, s5, s6, s7⟩, r2, r3, r4⟩ := h
  have hd := r4.2.1.2
  have k0 : okV u.1.1 (.inr (.inr (some (c (pq q 0))))) = true := decide_eq_true (hd q 0 hq isR0).2
  have k20 : okV u.1.1 (.inr (.inr (some (c (pq q 20))))) = true := decide_eq_true (hd q 20 hq isR20).2
  have s1a : skB (uF u 55 3 (.inr (.inr (some (c (pq q 0)))))) = true := sk_uF (x := 2) s1 (by decide) rfl rfl rfl
  have s1b : skB (uF (uF u 55 3 (.inr (.inr (some (c (pq q 0)))))) 55 4 (.inr (.inr (some (c (pq q 20)))))) = true := sk_uF (x := 2) s1a (by decide) rfl rfl rfl
  have hF : ∀ (w : CS) (k : Nat) (v : Option Nat) (i k2 : Nat), skB w = true → (k = 3 ∨ k = 4) → FI (uF w 55 k (.inr (.inr v))) i k2 = FI w i k2 := by
    intro w k v i k2 hw hk
    by_cases e : i = 55 ∧ k2 = k
    · obtain ⟨rfl, rfl⟩ := e
      obtain ⟨f, h1, h2, h3⟩ := sk_o hw (i := 55) (by decide) rfl
      unfold FI uF
      rw [h2]
      simp only [cup, if_true]
      rcases hk with rfl | rfl
      · have := h3 3 (by decide)
        cases hf : f 3 with
        | inl z => rw [hf] at this; cases this
        | inr z => rfl
      · have := h3 4 (by decide)
        cases hf : f 4 with
        | inl z => rw [hf] at this; cases this
        | inr z => rfl
    · exact FI_F (by omega)
  refine RP_low (o := some q) (o2 := o) (u := u) (m := m) ⟨⟨s1, s2, s3, s4, s5, s6, s7⟩, r2, r3, r4⟩ ⟨s1b, fun i2 k2 hi2 hk2 => ?_, ?_, fun i2 h2 => ?_, fun i2 h2 => ?_, ?_, s7⟩ ?_ (fun r hr => ?_) ?_ (fun j hj => ?_) (fun _ _ => rfl) (fun _ _ => rfl) (fun _ _ => rfl) (fun _ _ => rfl)
  · rw [hF _ 4 _ _ _ s1a (by omega), hF _ 3 _ _ _ s1 (by omega)]; exact s2 i2 k2 hi2 hk2
  · rw [FJ_F (by omega), FJ_F (by omega)]; exact s3
  · rw [AI_F, AI_F]; exact s4 i2 h2
  · rw [AJ_F, AJ_F]; exact s5 i2 h2
  · rw [FR_F (by omega), FR_F (by omega)]; exact s6
  · refine wf_uF (wf_uF r2 k0) ?_
    rw [uF_1]; exact k20
  · cases hr
    refine ⟨hq, ?_, FR_self s1a (by decide) rfl⟩
    rw [FR_F (by omega)]
    exact FR_self s1 (by decide) rfl
  · rw [uF_1, uF_1]
  · rw [uF_ne (by omega), uF_ne (by omega)]
theorem rf_take {j : Nat} {K : CS → Option (CS × α)} {y : Option (MS × β)} (h : RP none c m u) (hj : PVn c j q) (kk : ∀ w, RP (some q) c m w → RF z (some q) V c w (K w) y) : RF z none V c u (bo (pF u 55 5 3 (.inr (.inr (some j)))) (fun w32 => bo (some j) (fun j33 => bo (gR w32 j33 7 1) (fun r34 => bo (pF w32 55 5 4 (.inr (.inr r34))) K)))) y := by
  have s1 := h.1.1
  have hR := RP_take h hj.1
  have e1 : pF u 55 5 3 (.inr (.inr (some j))) = some (uF u 55 3 (.inr (.inr (some j)))) := sk_pF s1 (by decide) rfl
  have s1a : skB (uF u 55 3 (.inr (.inr (some j)))) = true := sk_uF (x := 2) s1 (by decide) rfl rfl rfl
  have e2 : gR (uF u 55 3 (.inr (.inr (some j)))) j 7 1 = some (some (c (pq q 20))) := by
    have := gR_P1 h hj
    have hd := h.2.2.2.2.1.2 q 0 hj.1 isR0
    unfold gR oF at this ⊢
    rw [uF_1, uF_ne (by rw [hj.2]; omega)]
    exact this
  have e3 : pF (uF u 55 3 (.inr (.inr (some j)))) 55 5 4 (.inr (.inr (some (c (pq q 20))))) = some (uF (uF u 55 3 (.inr (.inr (some j)))) 55 4 (.inr (.inr (some (c (pq q 20)))))) := sk_pF s1a (by decide) rfl
  rw [← hj.2] at hR
  rw [e1]
  show RF z none V c u (bo (gR (uF u 55 3 (.inr (.inr (some j)))) j 7 1) _) y
  rw [e2]
  show RF z none V c u (bo (pF (uF u 55 3 (.inr (.inr (some j)))) 55 5 4 (.inr (.inr (some (c (pq q 20)))))) K) y
  rw [e3]
  intro m4 b hb
  obtain ⟨c2, u2, a, k1, k2, k3, k4⟩ := kk _ hR m4 b hb
  refine ⟨c2, u2, a, k1, RP_none k2, (EX.rf ?_).tr k3, k4⟩
  rw [uF_1, uF_1]
theorem rf_boQ {a b : Option Nat} {f : Nat → Option (CS × α)} {g : Nat → Option (MS × β)} (h : PVo c a b) (q : ∀ j r, a = some j → b = some r → PVn c j r → RF z o V c u (bo a f) (g r)) : RF z o V c u (bo a f) (bo b g) := by
  rcases h with ⟨rfl, rfl⟩ | ⟨j, r, rfl, rfl, h3⟩
  · exact rf_none
  · exact q j r rfl rfl h3
theorem rf_opt {a b : Option Nat} {x : Option (CS × α)} {g : Nat → Option (MS × β)} (h : PVo c a b) (q : ∀ j r, a = some j → b = some r → PVn c j r → RF z o V c u x (g r)) : RF z o V c u x (bo b g) := by
  rcases h with ⟨rfl, rfl⟩ | ⟨j, r, rfl, rfl, h3⟩
  · exact rf_none
  · exact q j r rfl rfl h3
theorem rf_home {j : Nat} {f : Option Nat → Option (CS × α)} {y : Option (MS × β)} (h : RP o c m u) (hj : PVn c j q) (k : ∀ a, PVo c a (rf (m.1 (pq q 17))) → RF z o V c u (f a) y) : RF z o V c u (bo (gR u j 7 17) f) y := rf_bo (gR_P17 h hj) (k _ (PV_home h hj))
theorem sq_C (h : RP o c m u) {j b : Nat} (hj : CVn c j b) {i : Int32} {v : Int64} (hb : inb i 512 = true) : ∃ w, sJ u j i v = some w ∧ RP o c (upJ m b (vp_updL (m.2.2.2 b) i.toNatClampNeg v)) w ∧ w.1 = u.1 := by
  obtain ⟨q, hq, rfl, rfl⟩ := hj
  exact sq_2 h hq hb
theorem rf_aPh (h : RP o c m u) {i : Int32} {f : Option Nat → Option (CS × α)} {y : Option (MS × β)} (q : ∀ a, inb i 24 = true → PVo c a (rf (m.2.2.1 1948 i.toNatClampNeg)) → RF z o V c u (f a) y) : RF z o V c u (bo (aP u 48 i) f) (ck (inb i 24) y) := by
  obtain ⟨a, e, h2⟩ := aP_48 h (i := i)
  cases hb : inb i 24 with
  | false => intro m2 b2 h; cases h
  | true => rw [e, if_pos hb]; exact q a hb (h2 hb)
theorem rf_br2h {b b2 : Bool} {x1 x2 : Option (CS × α)} {y1 y2 : Option (MS × β)} (e : b = b2) (h1 : b2 = true → RF z o V c u x1 y1) (h2 : RF z o V c u x2 y2) : RF z o V c u (br b x1 x2) (br b2 y1 y2) := by subst e; cases b; exact h2; exact h1 rfl
end
end
section
set_option maxRecDepth 100000
def hb_To_append_46 (N : Nat) (G : (MS → Int32 → Int32 → Option (MS × Unit))) (u : MS) : Option (MS × Unit) := some (u, ())
def hb_To_append_3 (N : Nat) (G : (MS → Int32 → Int32 → Option (MS × Unit))) (u : MS) (v1 : Int32) (v2 : Int32) : Option (MS × Unit) := br (decide (v2 < 0)) (hb_To_append_46 N G u) (br (decide (4000 ≤ (u.1 81))) (hb_To_append_46 N G u) (ck (inb (u.1 81) 4000) (lt (upA u 5 (upd (u.2.2.1 5) (u.1 81).toNatClampNeg (vp_nar .byte ((v1 >>> (v2 &&& 31)).toInt8.toInt32)))) (fun w5 => lt (upI w5 81 ((w5.1 81) + 1)) (fun w7 => G w7 (v1) ((v2 + (-8))))))))
def hb_To_append_0 (N : Nat) (G : (MS → Int32 → Int32 → Option (MS × Unit))) (u : MS) (v1 : Int32) : Option (MS × Unit) := G u (v1) (24)
def hg_To_append (N : Nat) : Nat → ((MS → Int32 → Int32 → Option (MS × Unit)))
  | 0 => fun _ _ _ => none
  | n + 1 => hb_To_append_3 N (hg_To_append N n)
def hm_To_append (N : Nat) (u : MS) (v1 : Int32) : Option (MS × Unit) := hb_To_append_0 N (hg_To_append N N) u v1
def hb_H_feed_0 (N : Nat) (G : Unit) (u : MS) (v1 : Int32) (v2 : Int32) (v3 : Int32) (v4 : Int32) (v5 : Int32) : Option (MS × Int32) := br (decide (((u.1 81) + 20) ≤ 4000)) (bnd (hm_To_append N u v1) (fun u5 r5 => bnd (hm_To_append N u5 v2) (fun u8 r8 => bnd (hm_To_append N u8 v3) (fun u11 r11 => bnd (hm_To_append N u11 v4) (fun u14 r14 => bnd (hm_To_append N u14 v5) (fun u17 r17 => some (u17, (u17.1 81)))))))) (some (u, (-1)))
def hm_H_feed (N : Nat) (u : MS) (v1 : Int32) (v2 : Int32) (v3 : Int32) (v4 : Int32) (v5 : Int32) : Option (MS × Int32) := hb_H_feed_0 N () u v1 v2 v3 v4 v5
def hb_H_back_15 (N : Nat) (G : Unit) (u : MS) : Option (MS × Int32) := some (u, (-1))
def hb_H_back_0 (N : Nat) (G : Unit) (u : MS) (v1 : Int32) : Option (MS × Int32) := br (decide (v1 < 0)) (hb_H_back_15 N G u) (br (decide (v1 ≤ (u.1 81))) (lt (upI u 81 ((u.1 81) - v1)) (fun w7 => some (w7, (w7.1 81)))) (hb_H_back_15 N G u))
def hm_H_back (N : Nat) (u : MS) (v1 : Int32) : Option (MS × Int32) := hb_H_back_0 N () u v1
def hb_To_skip_84 (N : Nat) (G : (MS → Int32 → Option (MS × Unit))) (u : MS) (v1 : Int32) (t1 : Int32) (t2 : Int32) : Option (MS × Unit) := lt (upI u 90 (t1 + t2)) (fun w1 => lt (upI w1 89 ((w1.1 89) + 1)) (fun w3 => G w3 (v1)))
def hb_To_skip_68 (N : Nat) (G : (MS → Int32 → Option (MS × Unit))) (u : MS) (v1 : Int32) (v2 : Int32) : Option (MS × Unit) := br (decide (v2 = 10)) (hb_To_skip_84 N G u (v1) ((u.1 90)) (1)) (hb_To_skip_84 N G u (v1) ((u.1 90)) (0))
def hb_To_skip_44 (N : Nat) (G : (MS → Int32 → Option (MS × Unit))) (u : MS) (v2 : Int32) (t0 : Int32) : Option (MS × Unit) := br (decide (t0 = 0)) (br (decide (v2 = 9)) (hb_To_skip_68 N G u (t0) (v2)) (br (decide (v2 = 10)) (hb_To_skip_68 N G u (t0) (v2)) (br (decide (v2 = 32)) (hb_To_skip_68 N G u (t0) (v2)) (some (u, ()))))) (hb_To_skip_68 N G u (t0) (v2))
def hb_To_skip_43 (N : Nat) (G : (MS → Int32 → Option (MS × Unit))) (u : MS) (v2 : Int32) : Option (MS × Unit) := hb_To_skip_44 N G u (v2) (0)
def hb_To_skip_39 (N : Nat) (G : (MS → Int32 → Option (MS × Unit))) (u : MS) (v2 : Int32) : Option (MS × Unit) := hb_To_skip_44 N G u (v2) (1)
def hb_To_skip_2 (N : Nat) (G : (MS → Int32 → Option (MS × Unit))) (u : MS) (v1 : Int32) : Option (MS × Unit) := br (decide ((u.1 81) ≤ (u.1 89))) (some (u, ())) (ck (inb (u.1 89) 4000) (br (decide ((u.2.2.1 5 (u.1 89).toNatClampNeg) = 10)) (hb_To_skip_43 N G u ((u.2.2.1 5 (u.1 89).toNatClampNeg))) (br (decide (v1 = 0)) (br (decide ((u.2.2.1 5 (u.1 89).toNatClampNeg) = 37)) (hb_To_skip_39 N G u ((u.2.2.1 5 (u.1 89).toNatClampNeg))) (hb_To_skip_43 N G u ((u.2.2.1 5 (u.1 89).toNatClampNeg)))) (hb_To_skip_39 N G u ((u.2.2.1 5 (u.1 89).toNatClampNeg))))))
def hb_To_skip_0 (N : Nat) (G : (MS → Int32 → Option (MS × Unit))) (u : MS) : Option (MS × Unit) := G u (0)
def hg_To_skip (N : Nat) : Nat → ((MS → Int32 → Option (MS × Unit)))
  | 0 => fun _ _ => none
  | n + 1 => hb_To_skip_2 N (hg_To_skip N n)
def hm_To_skip (N : Nat) (u : MS) : Option (MS × Unit) := hb_To_skip_0 N (hg_To_skip N N) u
def hb_To_signAt_26 (N : Nat) (G : Unit) (u : MS) (t0 : Int32) : Option (MS × Int32) := some (u, t0)
def hb_To_signAt_12 (N : Nat) (G : Unit) (u : MS) : Option (MS × Int32) := hb_To_signAt_26 N G u ((-1))
def hb_To_signAt_0 (N : Nat) (G : Unit) (u : MS) (v1 : Int32) : Option (MS × Int32) := br (decide (v1 < 0)) (hb_To_signAt_12 N G u) (br (decide (v1 < (u.1 81))) (ck (inb v1 4000) (hb_To_signAt_26 N G u (((u.2.2.1 5 v1.toNatClampNeg) &&& 255)))) (hb_To_signAt_12 N G u))
def hm_To_signAt (N : Nat) (u : MS) (v1 : Int32) : Option (MS × Int32) := hb_To_signAt_0 N () u v1
def hb_To_isDigit_17 (N : Nat) (G : Unit) (u : MS) (t0 : Int32) : Option (MS × Int32) := ck (isb t0) (some (u, t0))
def hb_To_isDigit_16 (N : Nat) (G : Unit) (u : MS) : Option (MS × Int32) := hb_To_isDigit_17 N G u (0)
def hb_To_isDigit_0 (N : Nat) (G : Unit) (u : MS) (v0 : Int32) : Option (MS × Int32) := br (decide (v0 < 48)) (hb_To_isDigit_16 N G u) (br (decide (57 < v0)) (hb_To_isDigit_16 N G u) (hb_To_isDigit_17 N G u (1)))
def hm_To_isDigit (N : Nat) (u : MS) (v0 : Int32) : Option (MS × Int32) := hb_To_isDigit_0 N () u v0
def hb_To_isWordly_42 (N : Nat) (G : Unit) (u : MS) (t0 : Int32) : Option (MS × Int32) := ck (isb t0) (some (u, t0))
def hb_To_isWordly_37 (N : Nat) (G : Unit) (u : MS) : Option (MS × Int32) := hb_To_isWordly_42 N G u (1)
def hb_To_isWordly_31 (N : Nat) (G : Unit) (u : MS) (v0 : Int32) : Option (MS × Int32) := br (decide (v0 = 95)) (hb_To_isWordly_37 N G u) (hb_To_isWordly_42 N G u (0))
def hb_To_isWordly_19 (N : Nat) (G : Unit) (u : MS) (v0 : Int32) : Option (MS × Int32) := br (decide (v0 < 65)) (hb_To_isWordly_31 N G u (v0)) (br (decide (v0 ≤ 90)) (hb_To_isWordly_37 N G u) (hb_To_isWordly_31 N G u (v0)))
def hb_To_isWordly_0 (N : Nat) (G : Unit) (u : MS) (v0 : Int32) : Option (MS × Int32) := bnd (hm_To_isDigit N u v0) (fun u1 r1 => br (decide (r1 = 0)) (br (decide (v0 < 97)) (hb_To_isWordly_19 N G u1 (v0)) (br (decide (v0 ≤ 122)) (hb_To_isWordly_37 N G u1) (hb_To_isWordly_19 N G u1 (v0)))) (hb_To_isWordly_37 N G u1))
def hm_To_isWordly (N : Nat) (u : MS) (v0 : Int32) : Option (MS × Int32) := hb_To_isWordly_0 N () u v0
def hb_Wo_isSame_12 (N : Nat) (G : (MS → Nat → Int32 → Nat → Int32 → Int32 → Int32 → Option (MS × Int32))) (u : MS) (v0 : Nat) (v1 : Int32) (v2 : Nat) (v3 : Int32) (v4 : Int32) (v5 : Int32) : Option (MS × Int32) := ck (inb (v1 + 1) (il (v0 + 2))) (br (decide ((u.2.2.1 (v0 + 2) (v1 + 1).toNatClampNeg) ≤ v5)) (ck (isb 1) (some (u, 1))) (ck (inb v5 (bl (v0 + 1))) (ck (inb ((v3 + v5) - v4) (bl v2)) (br (decide ((u.2.2.1 (v0 + 1) v5.toNatClampNeg) = (u.2.2.1 v2 ((v3 + v5) - v4).toNatClampNeg))) (G u v0 (v1) v2 (v3) (v4) ((v5 + 1))) (ck (isb 0) (some (u, 0)))))))
def hb_Wo_isSame_0 (N : Nat) (G : (MS → Nat → Int32 → Nat → Int32 → Int32 → Int32 → Option (MS × Int32))) (u : MS) (v0 : Nat) (v1 : Int32) (v2 : Nat) (v3 : Int32) : Option (MS × Int32) := ck (inb v1 (il (v0 + 2))) (G u v0 (v1) v2 (v3) ((u.2.2.1 (v0 + 2) v1.toNatClampNeg)) ((u.2.2.1 (v0 + 2) v1.toNatClampNeg)))
def hg_Wo_isSame (N : Nat) : Nat → ((MS → Nat → Int32 → Nat → Int32 → Int32 → Int32 → Option (MS × Int32)))
  | 0 => fun _ _ _ _ _ _ _ => none
  | n + 1 => hb_Wo_isSame_12 N (hg_Wo_isSame N n)
def hm_Wo_isSame (N : Nat) (u : MS) (v0 : Nat) (v1 : Int32) (v2 : Nat) (v3 : Int32) : Option (MS × Int32) := hb_Wo_isSame_0 N (hg_Wo_isSame N N) u v0 v1 v2 v3
def hb_Wo_seek_47 (N : Nat) (G : (MS → Nat → Nat → Int32 → Int32 → Int32 → Option (MS × Int32))) (u : MS) (v0 : Nat) (v1 : Nat) (v2 : Int32) (v3 : Int32) (v4 : Int32) : Option (MS × Int32) := G u v0 v1 (v2) (v3) ((v4 + 1))
def hb_Wo_seek_3 (N : Nat) (G : (MS → Nat → Nat → Int32 → Int32 → Int32 → Option (MS × Int32))) (u : MS) (v0 : Nat) (v1 : Nat) (v2 : Int32) (v3 : Int32) (v4 : Int32) : Option (MS × Int32) := br (decide ((u.1 (20 * v0 + 2)) ≤ v4)) (some (u, (-1))) (ck (inb (v4 + 1) (il (v0 + 2))) (ck (inb v4 (il (v0 + 2))) (br (decide (((u.2.2.1 (v0 + 2) (v4 + 1).toNatClampNeg) - (u.2.2.1 (v0 + 2) v4.toNatClampNeg)) = v3)) (bnd (hm_Wo_isSame N u v0 v4 v1 v2) (fun u8 r8 => br (decide (r8 = 0)) (hb_Wo_seek_47 N G u8 v0 v1 (v2) (v3) (v4)) (some (u8, v4)))) (hb_Wo_seek_47 N G u v0 v1 (v2) (v3) (v4)))))
def hb_Wo_seek_0 (N : Nat) (G : (MS → Nat → Nat → Int32 → Int32 → Int32 → Option (MS × Int32))) (u : MS) (v0 : Nat) (v1 : Nat) (v2 : Int32) (v3 : Int32) : Option (MS × Int32) := G u v0 v1 (v2) (v3) (0)
def hg_Wo_seek (N : Nat) : Nat → ((MS → Nat → Nat → Int32 → Int32 → Int32 → Option (MS × Int32)))
  | 0 => fun _ _ _ _ _ _ => none
  | n + 1 => hb_Wo_seek_3 N (hg_Wo_seek N n)
def hm_Wo_seek (N : Nat) (u : MS) (v0 : Nat) (v1 : Nat) (v2 : Int32) (v3 : Int32) : Option (MS × Int32) := hb_Wo_seek_0 N (hg_Wo_seek N N) u v0 v1 v2 v3
def hb_To_string_70 (N : Nat) (G : (MS → Int32 → Option (MS × Int32))) (u : MS) : Option (MS × Int32) := some (u, 45)
def hb_To_string_25 (N : Nat) (G : (MS → Int32 → Option (MS × Int32))) (u : MS) (v1 : Int32) : Option (MS × Int32) := br (decide (40 < v1)) (some (u, 45)) (bnd (hm_To_signAt N u (u.1 89)) (fun u2 r2 => lt (upI u2 89 ((u2.1 89) + 1)) (fun w4 => br (decide (r2 = 34)) (some (w4, 4)) (br (decide (r2 < 32)) (hb_To_string_70 N G w4) (br (decide (r2 ≤ 126)) (G w4 ((v1 + 1))) (hb_To_string_70 N G w4))))))
def hb_To_string_0 (N : Nat) (G : (MS → Int32 → Option (MS × Int32))) (u : MS) : Option (MS × Int32) := lt (upI u 89 ((u.1 89) + 1)) (fun w6 => ck (inb (w6.1 85) 4002) (lt (upA w6 7 (upd (w6.2.2.1 7) (w6.1 85).toNatClampNeg (w6.1 89))) (fun w11 => G w11 (0))))
def hg_To_string (N : Nat) : Nat → ((MS → Int32 → Option (MS × Int32)))
  | 0 => fun _ _ => none
  | n + 1 => hb_To_string_25 N (hg_To_string N n)
def hm_To_string (N : Nat) (u : MS) : Option (MS × Int32) := hb_To_string_0 N (hg_To_string N N) u
def hb_Tr_clear_0 (N : Nat) (G : Unit) (u : MS) : Option (MS × Unit) := lt (upI u 306 0) (fun w1 => some (w1, ()))
def hm_Tr_clear (N : Nat) (u : MS) : Option (MS × Unit) := hb_Tr_clear_0 N () u
def hb_Co_clear_0 (N : Nat) (G : Unit) (u : MS) : Option (MS × Unit) := lt (upI u 441 1) (fun w1 => lt (upI w1 442 0) (fun w2 => lt (upI w2 449 0) (fun w3 => some (w3, ()))))
def hm_Co_clear (N : Nat) (u : MS) : Option (MS × Unit) := hb_Co_clear_0 N () u
def hb_Pa_beginsPattern_0 (N : Nat) (G : Unit) (u : MS) (v0 : Int32) : Option (MS × Int32) := br (decide (v0 = 1)) (ck (isb 1) (some (u, 1))) (br (decide (v0 = 2)) (ck (isb 1) (some (u, 1))) (br (decide (v0 = 3)) (ck (isb 1) (some (u, 1))) (br (decide (v0 = 4)) (ck (isb 1) (some (u, 1))) (br (decide (v0 = 20)) (ck (isb 1) (some (u, 1))) (br (decide (v0 = 22)) (ck (isb 1) (some (u, 1))) (br (decide (v0 = 24)) (ck (isb 1) (some (u, 1))) (br (decide (v0 = 34)) (ck (isb 1) (some (u, 1))) (ck (isb 0) (some (u, 0))))))))))
def hm_Pa_beginsPattern (N : Nat) (u : MS) (v0 : Int32) : Option (MS × Int32) := hb_Pa_beginsPattern_0 N () u v0
def hb_Tr_add_0 (N : Nat) (G : Unit) (u : MS) (v1 : Int32) (v2 : Int32) (v3 : Int32) (v4 : Int32) (v5 : Int32) : Option (MS × Int32) := br (decide (((u.1 306) + 1) < 8016)) (lt (upI u 306 ((u.1 306) + 1)) (fun w3 => ck (inb (w3.1 306) 8016) (lt (upA w3 16 (upd (w3.2.2.1 16) (w3.1 306).toNatClampNeg v1)) (fun w7 => ck (inb (w7.1 306) 8016) (lt (upA w7 17 (upd (w7.2.2.1 17) (w7.1 306).toNatClampNeg v2)) (fun w11 => ck (inb (w11.1 306) 8016) (lt (upA w11 18 (upd (w11.2.2.1 18) (w11.1 306).toNatClampNeg v3)) (fun w15 => ck (inb (w15.1 306) 8016) (lt (upA w15 19 (upd (w15.2.2.1 19) (w15.1 306).toNatClampNeg v4)) (fun w19 => ck (inb (w19.1 306) 8016) (lt (upA w19 20 (upd (w19.2.2.1 20) (w19.1 306).toNatClampNeg v5)) (fun w23 => ck (inb (w23.1 306) 8016) (lt (upA w23 21 (upd (w23.2.2.1 21) (w23.1 306).toNatClampNeg 0)) (fun w27 => some (w27, (w27.1 306)))))))))))))))) (some (u, 0))
def hm_Tr_add (N : Nat) (u : MS) (v1 : Int32) (v2 : Int32) (v3 : Int32) (v4 : Int32) (v5 : Int32) : Option (MS × Int32) := hb_Tr_add_0 N () u v1 v2 v3 v4 v5
def hb_Tr_length_4 (N : Nat) (G : (MS → Int32 → Int32 → Option (MS × Int32))) (u : MS) (v2 : Int32) (v3 : Int32) : Option (MS × Int32) := br (decide (v3 = 0)) (some (u, v2)) (ck (inb v3 8016) (G u ((v2 + 1)) ((u.2.2.1 21 v3.toNatClampNeg))))
def hb_Tr_length_0 (N : Nat) (G : (MS → Int32 → Int32 → Option (MS × Int32))) (u : MS) (v1 : Int32) : Option (MS × Int32) := G u (0) (v1)
def hg_Tr_length (N : Nat) : Nat → ((MS → Int32 → Int32 → Option (MS × Int32)))
  | 0 => fun _ _ _ => none
  | n + 1 => hb_Tr_length_4 N (hg_Tr_length N n)
def hm_Tr_length (N : Nat) (u : MS) (v1 : Int32) : Option (MS × Int32) := hb_Tr_length_0 N (hg_Tr_length N N) u v1
def hb_Pa_beginsUnit_0 (N : Nat) (G : Unit) (u : MS) (v0 : Int32) : Option (MS × Int32) := br (decide (v0 = 1)) (ck (isb 1) (some (u, 1))) (br (decide (v0 = 2)) (ck (isb 1) (some (u, 1))) (br (decide (v0 = 3)) (ck (isb 1) (some (u, 1))) (br (decide (v0 = 4)) (ck (isb 1) (some (u, 1))) (br (decide (v0 = 5)) (ck (isb 0) (some (u, 0))) (br (decide (v0 = 6)) (ck (isb 0) (some (u, 0))) (br (decide (v0 = 7)) (ck (isb 1) (some (u, 1))) (br (decide (v0 = 8)) (ck (isb 1) (some (u, 1))) (br (decide (v0 = 9)) (ck (isb 0) (some (u, 0))) (br (decide (v0 = 10)) (ck (isb 0) (some (u, 0))) (br (decide (v0 = 11)) (ck (isb 0) (some (u, 0))) (br (decide (v0 = 12)) (ck (isb 1) (some (u, 1))) (br (decide (v0 = 13)) (ck (isb 1) (some (u, 1))) (br (decide (v0 = 14)) (ck (isb 1) (some (u, 1))) (br (decide (v0 = 15)) (ck (isb 0) (some (u, 0))) (br (decide (v0 = 16)) (ck (isb 0) (some (u, 0))) (br (decide (v0 = 17)) (ck (isb 1) (some (u, 1))) (br (decide (v0 = 18)) (ck (isb 0) (some (u, 0))) (br (decide (v0 = 19)) (ck (isb 0) (some (u, 0))) (br (decide (v0 = 20)) (ck (isb 1) (some (u, 1))) (br (decide (v0 = 21)) (ck (isb 0) (some (u, 0))) (br (decide (v0 = 22)) (ck (isb 1) (some (u, 1))) (br (decide (v0 = 23)) (ck (isb 0) (some (u, 0))) (br (decide (v0 = 24)) (ck (isb 1) (some (u, 1))) (br (decide (v0 = 25)) (ck (isb 0) (some (u, 0))) (br (decide (v0 = 26)) (ck (isb 0) (some (u, 0))) (br (decide (v0 = 27)) (ck (isb 0) (some (u, 0))) (br (decide (v0 = 28)) (ck (isb 0) (some (u, 0))) (br (decide (v0 = 29)) (ck (isb 0) (some (u, 0))) (br (decide (v0 = 30)) (ck (isb 0) (some (u, 0))) (br (decide (v0 = 31)) (ck (isb 0) (some (u, 0))) (br (decide (v0 = 32)) (ck (isb 0) (some (u, 0))) (br (decide (v0 = 33)) (ck (isb 0) (some (u, 0))) (br (decide (v0 = 34)) (ck (isb 1) (some (u, 1))) (ck (isb 0) (some (u, 0))))))))))))))))))))))))))))))))))))
def hm_Pa_beginsUnit (N : Nat) (u : MS) (v0 : Int32) : Option (MS × Int32) := hb_Pa_beginsUnit_0 N () u v0
def hb_Pa_leaf_0 (N : Nat) (G : Unit) (u : MS) : Option (MS × Int32) := ck (inb (u.1 665) 4002) (ck (inb (u.1 665) 4002) (bnd (hm_Tr_add N u (u.2.2.1 6 (u.1 665).toNatClampNeg) (u.1 665) (u.2.2.1 7 (u.1 665).toNatClampNeg) 0 0) (fun u15 r15 => lt (upI u15 665 ((u15.1 665) + 1)) (fun w18 => some (w18, r15)))))
def hm_Pa_leaf (N : Nat) (u : MS) : Option (MS × Int32) := hb_Pa_leaf_0 N () u
def hb_Pa_chain_0 (N : Nat) (G : Unit) (u : MS) (v1 : Int32) (v2 : Int32) : Option (MS × Int32) := ck (inb v1 8016) (lt (upA u 21 (upd (u.2.2.1 21) v1.toNatClampNeg v2)) (fun w5 => some (w5, v2)))
def hm_Pa_chain (N : Nat) (u : MS) (v1 : Int32) (v2 : Int32) : Option (MS × Int32) := hb_Pa_chain_0 N () u v1 v2
def hb_Co_addPlace_0 (N : Nat) (G : Unit) (u : MS) : Option (MS × Int32) := br (decide ((u.1 449) < 400)) (lt (upI u 449 ((u.1 449) + 1)) (fun w3 => some (w3, ((w3.1 449) - 1)))) (some (u, 0))
def hm_Co_addPlace (N : Nat) (u : MS) : Option (MS × Int32) := hb_Co_addPlace_0 N () u
def hb_Pa_rank_0 (N : Nat) (G : Unit) (u : MS) (v0 : Int32) : Option (MS × Int32) := br (decide (v0 = 6)) (some (u, 2)) (br (decide (v0 = 7)) (some (u, 0)) (br (decide (v0 = 8)) (some (u, 0)) (br (decide (v0 = 9)) (some (u, 0)) (br (decide (v0 = 10)) (some (u, 6)) (br (decide (v0 = 11)) (some (u, 0)) (br (decide (v0 = 12)) (some (u, 0)) (br (decide (v0 = 13)) (some (u, 0)) (br (decide (v0 = 14)) (some (u, 0)) (br (decide (v0 = 15)) (some (u, 0)) (br (decide (v0 = 16)) (some (u, 1)) (br (decide (v0 = 17)) (some (u, 0)) (br (decide (v0 = 18)) (some (u, 6)) (br (decide (v0 = 19)) (some (u, 0)) (br (decide (v0 = 20)) (some (u, 0)) (br (decide (v0 = 21)) (some (u, 0)) (br (decide (v0 = 22)) (some (u, 0)) (br (decide (v0 = 23)) (some (u, 0)) (br (decide (v0 = 24)) (some (u, 0)) (br (decide (v0 = 25)) (some (u, 0)) (br (decide (v0 = 26)) (some (u, 0)) (br (decide (v0 = 27)) (some (u, 0)) (br (decide (v0 = 28)) (some (u, 0)) (br (decide (v0 = 29)) (some (u, 0)) (br (decide (v0 = 30)) (some (u, 0)) (br (decide (v0 = 31)) (some (u, 3)) (br (decide (v0 = 32)) (some (u, 3)) (br (decide (v0 = 33)) (some (u, 5)) (br (decide (v0 = 34)) (some (u, 5)) (br (decide (v0 = 35)) (some (u, 6)) (br (decide (v0 = 36)) (some (u, 0)) (br (decide (v0 = 37)) (some (u, 0)) (br (decide (v0 = 38)) (some (u, 0)) (br (decide (v0 = 39)) (some (u, 3)) (br (decide (v0 = 40)) (some (u, 3)) (br (decide (v0 = 41)) (some (u, 3)) (br (decide (v0 = 42)) (some (u, 3)) (br (decide (v0 = 43)) (some (u, 4)) (br (decide (v0 = 44)) (some (u, 4)) (some (u, 0))))))))))))))))))))))))))))))))))))))))
def hm_Pa_rank (N : Nat) (u : MS) (v0 : Int32) : Option (MS × Int32) := hb_Pa_rank_0 N () u v0
def hb_Co_addFunction_0 (N : Nat) (G : Unit) (u : MS) (v1 : Int32) (v2 : Int32) (v3 : Int32) (v4 : Int32) (v5 : Int32) : Option (MS × Unit) := br (decide ((u.1 442) < 666)) (ck (inb (u.1 442) 666) (lt (upA u 24 (upd (u.2.2.1 24) (u.1 442).toNatClampNeg v1)) (fun w5 => ck (inb (w5.1 442) 666) (lt (upA w5 25 (upd (w5.2.2.1 25) (w5.1 442).toNatClampNeg v2)) (fun w9 => ck (inb (w9.1 442) 666) (lt (upA w9 26 (upd (w9.2.2.1 26) (w9.1 442).toNatClampNeg v3)) (fun w13 => ck (inb (w13.1 442) 666) (lt (upA w13 27 (upd (w13.2.2.1 27) (w13.1 442).toNatClampNeg v4)) (fun w17 => ck (inb (w17.1 442) 666) (lt (upA w17 28 (upd (w17.2.2.1 28) (w17.1 442).toNatClampNeg v5)) (fun w21 => lt (upI w21 442 ((w21.1 442) + 1)) (fun w23 => some (w23, ()))))))))))))) (some (u, ()))
def hm_Co_addFunction (N : Nat) (u : MS) (v1 : Int32) (v2 : Int32) (v3 : Int32) (v4 : Int32) (v5 : Int32) : Option (MS × Unit) := hb_Co_addFunction_0 N () u v1 v2 v3 v4 v5
def hb_Co_seek_32 (N : Nat) (G : (MS → Int32 → Int32 → Int32 → Option (MS × Int32))) (u : MS) (v1 : Int32) (v2 : Int32) (v3 : Int32) : Option (MS × Int32) := G u (v1) (v2) ((v3 + 1))
def hb_Co_seek_2 (N : Nat) (G : (MS → Int32 → Int32 → Int32 → Option (MS × Int32))) (u : MS) (v1 : Int32) (v2 : Int32) (v3 : Int32) : Option (MS × Int32) := br (decide ((u.1 442) ≤ v3)) (some (u, (-1))) (ck (inb v3 666) (br (decide ((u.2.2.1 24 v3.toNatClampNeg) = v1)) (ck (inb v3 666) (br (decide ((u.2.2.1 25 v3.toNatClampNeg) = v2)) (some (u, v3)) (hb_Co_seek_32 N G u (v1) (v2) (v3)))) (hb_Co_seek_32 N G u (v1) (v2) (v3))))
def hb_Co_seek_0 (N : Nat) (G : (MS → Int32 → Int32 → Int32 → Option (MS × Int32))) (u : MS) (v1 : Int32) (v2 : Int32) : Option (MS × Int32) := G u (v1) (v2) (0)
def hg_Co_seek (N : Nat) : Nat → ((MS → Int32 → Int32 → Int32 → Option (MS × Int32)))
  | 0 => fun _ _ _ _ => none
  | n + 1 => hb_Co_seek_2 N (hg_Co_seek N n)
def hm_Co_seek (N : Nat) (u : MS) (v1 : Int32) (v2 : Int32) : Option (MS × Int32) := hb_Co_seek_0 N (hg_Co_seek N N) u v1 v2
def hb_Wo_seekIn_45 (N : Nat) (G : Unit) (u : MS) (t0 : Int32) : Option (MS × Int32) := some (u, t0)
def hb_Wo_seekIn_12 (N : Nat) (G : Unit) (u : MS) : Option (MS × Int32) := hb_Wo_seekIn_45 N G u ((-1))
def hb_Wo_seekIn_0 (N : Nat) (G : Unit) (u : MS) (v0 : Nat) (v1 : Nat) (v2 : Int32) : Option (MS × Int32) := br (decide (v2 < 0)) (hb_Wo_seekIn_12 N G u) (br (decide (v2 < (u.1 (20 * v0 + 2)))) (ck (inb v2 (il (v0 + 2))) (ck (inb (v2 + 1) (il (v0 + 2))) (ck (inb v2 (il (v0 + 2))) (bnd (hm_Wo_seek N u v1 (v0 + 1) (u.2.2.1 (v0 + 2) v2.toNatClampNeg) ((u.2.2.1 (v0 + 2) (v2 + 1).toNatClampNeg) - (u.2.2.1 (v0 + 2) v2.toNatClampNeg))) (fun u12 r12 => hb_Wo_seekIn_45 N G u12 (r12)))))) (hb_Wo_seekIn_12 N G u))
def hm_Wo_seekIn (N : Nat) (u : MS) (v0 : Nat) (v1 : Nat) (v2 : Int32) : Option (MS × Int32) := hb_Wo_seekIn_0 N () u v0 v1 v2
def hb_Co_put_30 (N : Nat) (G : Unit) (u : MS) : Option (MS × Unit) := some (u, ())
def hb_Co_put_0 (N : Nat) (G : Unit) (u : MS) (v1 : Int32) : Option (MS × Unit) := br (decide (24000 ≤ (u.1 441))) (hb_Co_put_30 N G u) (ck (inb (u.1 441) 24000) (lt (upA u 23 (upd (u.2.2.1 23) (u.1 441).toNatClampNeg v1)) (fun w5 => lt (upI w5 441 ((w5.1 441) + 1)) (fun w7 => hb_Co_put_30 N G w7))))
def hm_Co_put (N : Nat) (u : MS) (v1 : Int32) : Option (MS × Unit) := hb_Co_put_0 N () u v1
def hb_Co_hook_0 (N : Nat) (G : Unit) (u : MS) (v1 : Int32) : Option (MS × Int32) := bnd (hm_Co_put N u v1) (fun u1 r1 => some (u1, ((u1.1 441) - 1)))
def hm_Co_hook (N : Nat) (u : MS) (v1 : Int32) : Option (MS × Int32) := hb_Co_hook_0 N () u v1
def hb_Cm_term_0 (N : Nat) (G : Unit) (u : MS) (v1 : Int32) (v2 : Int32) : Option (MS × Unit) := bnd (hm_Co_put N u v1) (fun u2 r2 => bnd (hm_Co_put N u2 v2) (fun u5 r5 => some (u5, ())))
def hm_Cm_term (N : Nat) (u : MS) (v1 : Int32) (v2 : Int32) : Option (MS × Unit) := hb_Cm_term_0 N () u v1 v2
def hb_Cm_string_50 (N : Nat) (G : (MS → Int32 → Int32 → Option (MS × Unit)) × (MS → Int32 → Int32 → Int32 → Option (MS × Unit))) (u : MS) (v2 : Int32) (v3 : Int32) (v4 : Int32) : Option (MS × Unit) := br (decide (v3 ≤ v4)) (some (u, ())) (bnd (hm_To_signAt N u (v2 + v4)) (fun u3 r3 => bnd (hm_Co_put N u3 r3) (fun u5 r5 => G.2 u5 (v2) (v3) ((v4 + 1)))))
def hb_Cm_string_39 (N : Nat) (G : (MS → Int32 → Int32 → Option (MS × Unit)) × (MS → Int32 → Int32 → Int32 → Option (MS × Unit))) (u : MS) (v2 : Int32) (v3 : Int32) : Option (MS × Unit) := bnd (hm_Co_put N u v3) (fun u8 r8 => G.2 u8 (v2) (v3) (0))
def hb_Cm_string_12 (N : Nat) (G : (MS → Int32 → Int32 → Option (MS × Unit)) × (MS → Int32 → Int32 → Int32 → Option (MS × Unit))) (u : MS) (v2 : Int32) (v3 : Int32) : Option (MS × Unit) := br (decide (40 ≤ v3)) (hb_Cm_string_39 N G u (v2) (v3)) (bnd (hm_To_signAt N u (v2 + v3)) (fun u11 r11 => br (decide (r11 = 34)) (hb_Cm_string_39 N G u11 (v2) (v3)) (G.1 u11 (v2) ((v3 + 1)))))
def hb_Cm_string_0 (N : Nat) (G : (MS → Int32 → Int32 → Option (MS × Unit)) × (MS → Int32 → Int32 → Int32 → Option (MS × Unit))) (u : MS) (v1 : Int32) : Option (MS × Unit) := ck (inb v1 8016) (G.1 u ((u.2.2.1 18 v1.toNatClampNeg)) (0))
def hg_Cm_string (N : Nat) : Nat → ((MS → Int32 → Int32 → Option (MS × Unit)) × (MS → Int32 → Int32 → Int32 → Option (MS × Unit)))
  | 0 => (fun _ _ _ => none, fun _ _ _ _ => none)
  | n + 1 => (hb_Cm_string_12 N (hg_Cm_string N n), hb_Cm_string_50 N (hg_Cm_string N n))
def hm_Cm_string (N : Nat) (u : MS) (v1 : Int32) : Option (MS × Unit) := hb_Cm_string_0 N (hg_Cm_string N N) u v1
def hb_Cm_isBound_54 (N : Nat) (G : (MS → Int32 → Int32 → Int32 → Int32 → Option (MS × Int32)) × (MS → Int32 → Int32 → Int32 → Option (MS × Int32))) (u : MS) (v2 : Int32) (v5 : Int32) : Option (MS × Int32) := ck (inb v2 4002) (lt (upA u 42 (upd (u.2.2.1 42) v2.toNatClampNeg v5)) (fun w3 => ck (isb 1) (some (w3, 1))))
def hb_Cm_isBound_31 (N : Nat) (G : (MS → Int32 → Int32 → Int32 → Int32 → Option (MS × Int32)) × (MS → Int32 → Int32 → Int32 → Option (MS × Int32))) (u : MS) (v2 : Int32) (v4 : Int32) (v5 : Int32) : Option (MS × Int32) := br (decide (v5 ≤ 0)) (hb_Cm_isBound_54 N G u (v2) (v5)) (ck (inb v5 32) (br (decide ((u.2.2.1 40 v5.toNatClampNeg) ≤ v4)) (hb_Cm_isBound_54 N G u (v2) (v5)) (G.2 u (v2) (v4) ((v5 + (-1))))))
def hb_Cm_isBound_8 (N : Nat) (G : (MS → Int32 → Int32 → Int32 → Int32 → Option (MS × Int32)) × (MS → Int32 → Int32 → Int32 → Option (MS × Int32))) (u : MS) (v1 : Int32) (v2 : Int32) (v3 : Int32) (v4 : Int32) : Option (MS × Int32) := br (decide (v4 < v3)) (ck (isb 0) (some (u, 0))) (ck (inb v4 4000) (br (decide ((u.2.2.1 39 v4.toNatClampNeg) = v1)) (G.2 u (v2) (v4) ((u.1 709))) (G.1 u (v1) (v2) (v3) ((v4 + (-1))))))
def hb_Cm_isBound_0 (N : Nat) (G : (MS → Int32 → Int32 → Int32 → Int32 → Option (MS × Int32)) × (MS → Int32 → Int32 → Int32 → Option (MS × Int32))) (u : MS) (v1 : Int32) (v2 : Int32) (v3 : Int32) : Option (MS × Int32) := G.1 u (v1) (v2) (v3) (((u.1 706) - 1))
def hg_Cm_isBound (N : Nat) : Nat → ((MS → Int32 → Int32 → Int32 → Int32 → Option (MS × Int32)) × (MS → Int32 → Int32 → Int32 → Option (MS × Int32)))
  | 0 => (fun _ _ _ _ _ => none, fun _ _ _ _ => none)
  | n + 1 => (hb_Cm_isBound_8 N (hg_Cm_isBound N n), hb_Cm_isBound_31 N (hg_Cm_isBound N n))
def hm_Cm_isBound (N : Nat) (u : MS) (v1 : Int32) (v2 : Int32) (v3 : Int32) : Option (MS × Int32) := hb_Cm_isBound_0 N (hg_Cm_isBound N N) u v1 v2 v3
def hb_Cm_forget_30 (N : Nat) (G : Unit) (u : MS) (v1 : Int32) : Option (MS × Unit) := lt (upI u 706 v1) (fun w1 => some (w1, ()))
def hb_Cm_forget_0 (N : Nat) (G : Unit) (u : MS) (v1 : Int32) : Option (MS × Unit) := br (decide ((u.1 706) ≤ v1)) (hb_Cm_forget_30 N G u (v1)) (bnd (hm_Co_put N u 16) (fun u4 r4 => bnd (hm_Co_put N u4 ((u4.1 706) - v1)) (fun u8 r8 => hb_Cm_forget_30 N G u8 (v1))))
def hm_Cm_forget (N : Nat) (u : MS) (v1 : Int32) : Option (MS × Unit) := hb_Cm_forget_0 N () u v1
def hb_Co_at_21 (N : Nat) (G : Unit) (u : MS) (t0 : Int32) : Option (MS × Int32) := some (u, t0)
def hb_Co_at_11 (N : Nat) (G : Unit) (u : MS) : Option (MS × Int32) := hb_Co_at_21 N G u (0)
def hb_Co_at_0 (N : Nat) (G : Unit) (u : MS) (v1 : Int32) : Option (MS × Int32) := br (decide (v1 < 0)) (hb_Co_at_11 N G u) (br (decide (v1 < 24000)) (ck (inb v1 24000) (hb_Co_at_21 N G u ((u.2.2.1 23 v1.toNatClampNeg)))) (hb_Co_at_11 N G u))
def hm_Co_at (N : Nat) (u : MS) (v1 : Int32) : Option (MS × Int32) := hb_Co_at_0 N () u v1
def hb_Co_set_18 (N : Nat) (G : Unit) (u : MS) : Option (MS × Unit) := some (u, ())
def hb_Co_set_0 (N : Nat) (G : Unit) (u : MS) (v1 : Int32) (v2 : Int32) : Option (MS × Unit) := br (decide (v1 < 0)) (hb_Co_set_18 N G u) (br (decide (24000 ≤ v1)) (hb_Co_set_18 N G u) (ck (inb v1 24000) (lt (upA u 23 (upd (u.2.2.1 23) v1.toNatClampNeg v2)) (fun w3 => hb_Co_set_18 N G w3))))
def hm_Co_set (N : Nat) (u : MS) (v1 : Int32) (v2 : Int32) : Option (MS × Unit) := hb_Co_set_0 N () u v1 v2
def hb_Co_arrive_40 (N : Nat) (G : (MS → Int32 → Int32 → Option (MS × Unit))) (u : MS) : Option (MS × Unit) := some (u, ())
def hb_Co_arrive_4 (N : Nat) (G : (MS → Int32 → Int32 → Option (MS × Unit))) (u : MS) (v2 : Int32) (v3 : Int32) : Option (MS × Unit) := br (decide (24000 ≤ v3)) (hb_Co_arrive_40 N G u) (br (decide (v2 = 0)) (hb_Co_arrive_40 N G u) (bnd (hm_Co_at N u v2) (fun u1 r1 => bnd (hm_Co_set N u1 v2 (u1.1 441)) (fun u3 r3 => G u3 (r1) ((v3 + 1))))))
def hb_Co_arrive_0 (N : Nat) (G : (MS → Int32 → Int32 → Option (MS × Unit))) (u : MS) (v1 : Int32) : Option (MS × Unit) := G u (v1) (0)
def hg_Co_arrive (N : Nat) : Nat → ((MS → Int32 → Int32 → Option (MS × Unit)))
  | 0 => fun _ _ _ => none
  | n + 1 => hb_Co_arrive_4 N (hg_Co_arrive N n)
def hm_Co_arrive (N : Nat) (u : MS) (v1 : Int32) : Option (MS × Unit) := hb_Co_arrive_0 N (hg_Co_arrive N N) u v1
def hb_Cm_hold_113 (N : Nat) (G : (MS → Int32 → Int32 → Int32 → Option (MS × Int32)) × (MS → Int32 → Int32 → Int32 → Int32 → Int32 → Option (MS × Int32))) (u : MS) (v2 : Int32) (v3 : Int32) (v4 : Int32) : Option (MS × Int32) := G.1 u (v2) (v3) ((v4 + 1))
def hb_Cm_hold_92 (N : Nat) (G : (MS → Int32 → Int32 → Int32 → Option (MS × Int32)) × (MS → Int32 → Int32 → Int32 → Int32 → Int32 → Option (MS × Int32))) (u : MS) (v2 : Int32) (v3 : Int32) (v4 : Int32) (v5 : Int32) (v6 : Int32) : Option (MS × Int32) := br (decide (v6 = (u.1 441))) (bnd (hm_Co_put N u v5) (fun u5 r5 => hb_Cm_hold_113 N G u5 (v2) (v3) (v4))) (hb_Cm_hold_113 N G u (v2) (v3) (v4))
def hb_Cm_hold_60 (N : Nat) (G : (MS → Int32 → Int32 → Int32 → Option (MS × Int32)) × (MS → Int32 → Int32 → Int32 → Int32 → Int32 → Option (MS × Int32))) (u : MS) (v2 : Int32) (v3 : Int32) (v4 : Int32) (v5 : Int32) (v6 : Int32) : Option (MS × Int32) := br (decide ((u.1 441) ≤ v6)) (hb_Cm_hold_92 N G u (v2) (v3) (v4) (v5) (v6)) (bnd (hm_Co_at N u v6) (fun u11 r11 => br (decide (r11 = v5)) (hb_Cm_hold_92 N G u11 (v2) (v3) (v4) (v5) (v6)) (G.2 u11 (v2) (v3) (v4) (v5) ((v6 + 1)))))
def hb_Cm_hold_11 (N : Nat) (G : (MS → Int32 → Int32 → Int32 → Option (MS × Int32)) × (MS → Int32 → Int32 → Int32 → Int32 → Int32 → Option (MS × Int32))) (u : MS) (v2 : Int32) (v3 : Int32) (v4 : Int32) : Option (MS × Int32) := br (decide (v2 < v4)) (some (u, ((u.1 441) - v3))) (ck (inb v4 4002) (br (decide ((u.2.2.1 6 v4.toNatClampNeg) = 3)) (ck (inb v4 4002) (br (decide ((u.1 709) < (u.2.2.1 42 v4.toNatClampNeg))) (hb_Cm_hold_113 N G u (v2) (v3) (v4)) (ck (inb v4 4002) (G.2 u (v2) (v3) (v4) ((u.2.2.1 7 v4.toNatClampNeg)) (v3))))) (hb_Cm_hold_113 N G u (v2) (v3) (v4))))
def hb_Cm_hold_0 (N : Nat) (G : (MS → Int32 → Int32 → Int32 → Option (MS × Int32)) × (MS → Int32 → Int32 → Int32 → Int32 → Int32 → Option (MS × Int32))) (u : MS) (v1 : Int32) (v2 : Int32) : Option (MS × Int32) := G.1 u (v2) ((u.1 441)) (v1)
def hg_Cm_hold (N : Nat) : Nat → ((MS → Int32 → Int32 → Int32 → Option (MS × Int32)) × (MS → Int32 → Int32 → Int32 → Int32 → Int32 → Option (MS × Int32)))
  | 0 => (fun _ _ _ _ => none, fun _ _ _ _ _ _ => none)
  | n + 1 => (hb_Cm_hold_11 N (hg_Cm_hold N n), hb_Cm_hold_60 N (hg_Cm_hold N n))
def hm_Cm_hold (N : Nat) (u : MS) (v1 : Int32) (v2 : Int32) : Option (MS × Int32) := hb_Cm_hold_0 N (hg_Cm_hold N N) u v1 v2
def hb_Wl_clearAll_0 (N : Nat) (G : Unit) (u : MS) : Option (MS × Unit) := lt (upI u 942 0) (fun w1 => lt (upI w1 943 0) (fun w2 => lt (upI w2 944 0) (fun w3 => lt (upI w3 945 0) (fun w4 => lt (upI w4 946 0) (fun w5 => lt (upI w5 950 0) (fun w6 => lt (upI w6 953 0) (fun w7 => lt (upI w7 955 0) (fun w8 => lt (upI w8 956 0) (fun w9 => some (w9, ()))))))))))
def hm_Wl_clearAll (N : Nat) (u : MS) : Option (MS × Unit) := hb_Wl_clearAll_0 N () u
def hb_H_count_108 (N : Nat) (G : Unit) (u : MS) (t0 : Int32) : Option (MS × Int32) := some (u, t0)
def hb_H_count_89 (N : Nat) (G : Unit) (u : MS) (t0 : Int32) : Option (MS × Int32) := some (u, t0)
def hb_H_count_70 (N : Nat) (G : Unit) (u : MS) (t0 : Int32) : Option (MS × Int32) := some (u, t0)
def hb_H_count_0 (N : Nat) (G : Unit) (u : MS) (v1 : Int32) : Option (MS × Int32) := br (decide (v1 = 0)) (br (decide ((u.1 10) = 0)) (hb_H_count_70 N G u (0)) (hb_H_count_70 N G u ((u.1 85)))) (br (decide (v1 = 1)) (br (decide ((u.1 10) = 0)) (hb_H_count_89 N G u (0)) (hb_H_count_89 N G u ((u.1 442)))) (br (decide (v1 = 2)) (br (decide ((u.1 10) = 0)) (hb_H_count_108 N G u (0)) (hb_H_count_108 N G u ((u.1 22)))) (br (decide (v1 = 3)) (some (u, (u.1 81))) (br (decide (v1 = 4)) (some (u, (u.1 942))) (br (decide (v1 = 5)) (some (u, (u.1 953))) (br (decide (v1 = 6)) (some (u, (u.1 946))) (br (decide (v1 = 7)) (some (u, (u.1 944))) (br (decide (v1 = 8)) (some (u, (u.1 945))) (some (u, (-1)))))))))))
def hm_H_count (N : Nat) (u : MS) (v1 : Int32) : Option (MS × Int32) := hb_H_count_0 N () u v1
def hb_H_isFunction_27 (N : Nat) (G : Unit) (u : MS) (t0 : Int32) : Option (MS × Int32) := ck (isb t0) (some (u, t0))
def hb_H_isFunction_26 (N : Nat) (G : Unit) (u : MS) : Option (MS × Int32) := hb_H_isFunction_27 N G u (0)
def hb_H_isFunction_0 (N : Nat) (G : Unit) (u : MS) (v1 : Int32) : Option (MS × Int32) := br (decide ((u.1 10) = 0)) (hb_H_isFunction_26 N G u) (br (decide (v1 < 0)) (hb_H_isFunction_26 N G u) (br (decide ((u.1 442) ≤ v1)) (hb_H_isFunction_26 N G u) (hb_H_isFunction_27 N G u (1))))
def hm_H_isFunction (N : Nat) (u : MS) (v1 : Int32) : Option (MS × Int32) := hb_H_isFunction_0 N () u v1
def hb_H_function_0 (N : Nat) (G : Unit) (u : MS) (v1 : Int32) (v2 : Int32) : Option (MS × Int32) := bnd (hm_H_isFunction N u v1) (fun u1 r1 => br (decide (r1 = 0)) (some (u1, (-1))) (br (decide (v2 = 0)) (ck (inb v1 666) (some (u1, (u1.2.2.1 24 v1.toNatClampNeg)))) (br (decide (v2 = 1)) (ck (inb v1 666) (some (u1, (u1.2.2.1 25 v1.toNatClampNeg)))) (br (decide (v2 = 2)) (ck (inb v1 666) (some (u1, (u1.2.2.1 28 v1.toNatClampNeg)))) (br (decide (v2 = 3)) (ck (inb v1 666) (some (u1, (u1.2.2.1 26 v1.toNatClampNeg)))) (some (u1, (-1))))))))
def hm_H_function (N : Nat) (u : MS) (v1 : Int32) (v2 : Int32) : Option (MS × Int32) := hb_H_function_0 N () u v1 v2
def hb_Wo_sign_35 (N : Nat) (G : Unit) (u : MS) : Option (MS × Int32) := some (u, (-1))
def hb_Wo_sign_0 (N : Nat) (G : Unit) (u : MS) (v0 : Nat) (v1 : Int32) (v2 : Int32) : Option (MS × Int32) := br (decide (v1 < 0)) (hb_Wo_sign_35 N G u) (br (decide ((u.1 (20 * v0 + 2)) ≤ v1)) (hb_Wo_sign_35 N G u) (br (decide (v2 < 0)) (hb_Wo_sign_35 N G u) (ck (inb (v1 + 1) (il (v0 + 2))) (ck (inb v1 (il (v0 + 2))) (br (decide (v2 < ((u.2.2.1 (v0 + 2) (v1 + 1).toNatClampNeg) - (u.2.2.1 (v0 + 2) v1.toNatClampNeg)))) (ck (inb v1 (il (v0 + 2))) (ck (inb ((u.2.2.1 (v0 + 2) v1.toNatClampNeg) + v2) (bl (v0 + 1))) (some (u, (u.2.2.1 (v0 + 1) ((u.2.2.1 (v0 + 2) v1.toNatClampNeg) + v2).toNatClampNeg))))) (hb_Wo_sign_35 N G u))))))
def hm_Wo_sign (N : Nat) (u : MS) (v0 : Nat) (v1 : Int32) (v2 : Int32) : Option (MS × Int32) := hb_Wo_sign_0 N () u v0 v1 v2
def hb_H_letter_0 (N : Nat) (G : Unit) (u : MS) (v1 : Int32) (v2 : Int32) : Option (MS × Int32) := br (decide ((u.1 10) = 0)) (some (u, (-1))) (bnd (hm_Wo_sign N u 1 v1 v2) (fun u3 r3 => some (u3, r3)))
def hm_H_letter (N : Nat) (u : MS) (v1 : Int32) (v2 : Int32) : Option (MS × Int32) := hb_H_letter_0 N () u v1 v2
def hb_Fr_clear_0 (N : Nat) (G : Unit) (u : MS) (v0 : Nat) : Option (MS × Unit) := lt (upI u (pq v0 21) 0) (fun w1 => lt (upI w1 (pq v0 24) 0) (fun w2 => lt (upI w2 (pq v0 26) 0) (fun w3 => lt (upI w3 (pq v0 28) 0) (fun w4 => lt (upI w4 (pq v0 29) 0) (fun w5 => some (w5, ()))))))
def hm_Fr_clear (N : Nat) (u : MS) (v0 : Nat) : Option (MS × Unit) := hb_Fr_clear_0 N () u v0
def hb_Pr_clear_0 (N : Nat) (G : Unit) (u : MS) (v0 : Nat) : Option (MS × Unit) := bnd (hm_Fr_clear N u v0) (fun u2 r2 => lt (upI u2 (pq v0 4) 0) (fun w4 => lt (upI w4 (pq v0 5) 0) (fun w5 => lt (upI w5 (pq v0 7) 0) (fun w6 => lt (upI w6 (pq v0 8) 0) (fun w7 => lt (upI w7 (pq v0 9) 0) (fun w8 => lt (upL w8 (pq v0 10) (-1)) (fun w9 => lt (upI w9 (pq v0 11) 0) (fun w10 => lt (upI w10 (pq v0 12) (-1)) (fun w11 => lt (upI w11 (pq v0 13) 0) (fun w12 => lt (upI w12 (pq v0 15) 0) (fun w13 => lt (upL w13 (pq v0 16) 0) (fun w14 => lt (upI w14 (pq v0 17) (fr (some v0))) (fun w15 => some (w15, ()))))))))))))))
def hm_Pr_clear (N : Nat) (u : MS) (v0 : Nat) : Option (MS × Unit) := hb_Pr_clear_0 N () u v0
def hb_Fr_set_23 (N : Nat) (G : Unit) (u : MS) : Option (MS × Unit) := some (u, ())
def hb_Fr_set_0 (N : Nat) (G : Unit) (u : MS) (v0 : Nat) (v1 : Int32) (v2 : Int32) : Option (MS × Unit) := br (decide ((u.1 (pq v0 21)) ≤ 0)) (hb_Fr_set_23 N G u) (ck (inb ((((u.1 (pq v0 21)) - 1) * 5) + v1) 300) (lt (upA u (pq v0 30) (upd (u.2.2.1 (pq v0 30)) ((((u.1 (pq v0 21)) - 1) * 5) + v1).toNatClampNeg v2)) (fun w5 => hb_Fr_set_23 N G w5)))
def hm_Fr_set (N : Nat) (u : MS) (v0 : Nat) (v1 : Int32) (v2 : Int32) : Option (MS × Unit) := hb_Fr_set_0 N () u v0 v1 v2
def hb_Fr_open_0 (N : Nat) (G : Unit) (u : MS) (v0 : Nat) (v1 : Int32) (v2 : Int32) (v3 : Int32) : Option (MS × Unit) := br (decide ((u.1 (pq v0 21)) < 60)) (lt (upI u (pq v0 21) ((u.1 (pq v0 21)) + 1)) (fun w3 => bnd (hm_Fr_set N w3 v0 2 (w3.1 (pq v0 24))) (fun u5 r5 => bnd (hm_Fr_set N u5 v0 3 ((u5.1 (pq v0 26)) - v3)) (fun u7 r7 => bnd (hm_Fr_set N u7 v0 0 v1) (fun u8 r8 => bnd (hm_Fr_set N u8 v0 1 0) (fun u9 r9 => bnd (hm_Fr_set N u9 v0 4 v2) (fun u10 r10 => some (u10, ())))))))) (some (u, ()))
def hm_Fr_open (N : Nat) (u : MS) (v0 : Nat) (v1 : Int32) (v2 : Int32) (v3 : Int32) : Option (MS × Unit) := hb_Fr_open_0 N () u v0 v1 v2 v3
def hb_Wl_isReady_40 (N : Nat) (G : Unit) (u : MS) (t0 : Int32) : Option (MS × Int32) := ck (isb t0) (some (u, t0))
def hb_Wl_isReady_39 (N : Nat) (G : Unit) (u : MS) : Option (MS × Int32) := hb_Wl_isReady_40 N G u (0)
def hb_Wl_isReady_35 (N : Nat) (G : Unit) (u : MS) : Option (MS × Int32) := hb_Wl_isReady_40 N G u (1)
def hb_Wl_isReady_0 (N : Nat) (G : Unit) (u : MS) (v1 : Nat) : Option (MS × Int32) := br (decide ((u.1 (pq v1 8)) < (u.1 (pq v1 7)))) (hb_Wl_isReady_35 N G u) (br (decide ((lg_cmp (u.2.1 (pq v1 10)) (-1)) = 0)) (hb_Wl_isReady_39 N G u) (br (decide (0 < (lg_cmp (u.2.1 (pq v1 10)) ((u.1 944).toInt64)))) (hb_Wl_isReady_39 N G u) (hb_Wl_isReady_35 N G u)))
def hm_Wl_isReady (N : Nat) (u : MS) (v1 : Nat) : Option (MS × Int32) := hb_Wl_isReady_0 N () u v1
def hb_Fr_of_26 (N : Nat) (G : Unit) (u : MS) (t0 : Int32) : Option (MS × Int32) := some (u, t0)
def hb_Fr_of_12 (N : Nat) (G : Unit) (u : MS) : Option (MS × Int32) := hb_Fr_of_26 N G u (0)
def hb_Fr_of_0 (N : Nat) (G : Unit) (u : MS) (v0 : Nat) (v1 : Int32) (v2 : Int32) : Option (MS × Int32) := br (decide (v1 < 0)) (hb_Fr_of_12 N G u) (br (decide (v1 < (u.1 (pq v0 21)))) (ck (inb ((v1 * 5) + v2) 300) (hb_Fr_of_26 N G u ((u.2.2.1 (pq v0 30) ((v1 * 5) + v2).toNatClampNeg)))) (hb_Fr_of_12 N G u))
def hm_Fr_of (N : Nat) (u : MS) (v0 : Nat) (v1 : Int32) (v2 : Int32) : Option (MS × Int32) := hb_Fr_of_0 N () u v0 v1 v2
def hb_Fr_place_0 (N : Nat) (G : Unit) (u : MS) (v0 : Nat) : Option (MS × Int32) := bnd (hm_Fr_of N u v0 ((u.1 (pq v0 21)) - 1) 4) (fun u2 r2 => some (u2, r2))
def hm_Fr_place (N : Nat) (u : MS) (v0 : Nat) : Option (MS × Int32) := hb_Fr_place_0 N () u v0
def hb_Fr_below_23 (N : Nat) (G : Unit) (u : MS) (t0 : Int64) : Option (MS × Int64) := some (u, t0)
def hb_Fr_below_0 (N : Nat) (G : Unit) (u : MS) (v0 : Nat) (v1 : Int32) : Option (MS × Int64) := br (decide (0 ≤ (((u.1 (pq v0 26)) - 1) - v1))) (ck (inb (((u.1 (pq v0 26)) - 1) - v1) (lnQ u v0 45)) (hb_Fr_below_23 N G u ((u.2.2.2 (pq v0 35) (((u.1 (pq v0 26)) - 1) - v1).toNatClampNeg)))) (hb_Fr_below_23 N G u (0))
def hm_Fr_below (N : Nat) (u : MS) (v0 : Nat) (v1 : Int32) : Option (MS × Int64) := hb_Fr_below_0 N () u v0 v1
def hb_Te_tag_0 (N : Nat) (G : Unit) (u : MS) (v0 : Int64) : Option (MS × Int32) := some (u, (v0 >>> ((32 : Int32).toInt64 &&& 63)).toInt32)
def hm_Te_tag (N : Nat) (u : MS) (v0 : Int64) : Option (MS × Int32) := hb_Te_tag_0 N () u v0
def hb_Co_takes_50 (N : Nat) (G : Unit) (u : MS) (t0 : Int32) : Option (MS × Int32) := some (u, t0)
def hb_Co_takes_49 (N : Nat) (G : Unit) (u : MS) : Option (MS × Int32) := hb_Co_takes_50 N G u (0)
def hb_Co_takes_27 (N : Nat) (G : Unit) (u : MS) (t0 : Int32) : Option (MS × Int32) := some (u, t0)
def hb_Co_takes_0 (N : Nat) (G : Unit) (u : MS) (v1 : Int32) : Option (MS × Int32) := br (decide ((v1 - 1000000) < 0)) (br (decide (v1 < 0)) (hb_Co_takes_49 N G u) (br (decide ((u.1 449) ≤ v1)) (hb_Co_takes_49 N G u) (ck (inb v1 400) (hb_Co_takes_50 N G u ((u.2.2.1 30 v1.toNatClampNeg)))))) (br (decide ((u.1 442) ≤ (v1 - 1000000))) (hb_Co_takes_27 N G u (0)) (ck (inb (v1 - 1000000) 666) (hb_Co_takes_27 N G u ((u.2.2.1 25 (v1 - 1000000).toNatClampNeg)))))
def hm_Co_takes (N : Nat) (u : MS) (v1 : Int32) : Option (MS × Int32) := hb_Co_takes_0 N () u v1
def hb_Te_make_0 (N : Nat) (G : Unit) (u : MS) (v0 : Int32) (v1 : Int32) : Option (MS × Int64) := some (u, (((v0.toInt64) <<< ((32 : Int32).toInt64 &&& 63)) ||| (v1.toInt64 &&& 4294967295)))
def hm_Te_make (N : Nat) (u : MS) (v0 : Int32) (v1 : Int32) : Option (MS × Int64) := hb_Te_make_0 N () u v0 v1
def hb_Ma_atom_0 (N : Nat) (G : Unit) (u : MS) (v0 : Int32) : Option (MS × Int64) := bnd (hm_Te_make N u 1 v0) (fun u1 r1 => some (u1, r1))
def hm_Ma_atom (N : Nat) (u : MS) (v0 : Int32) : Option (MS × Int64) := hb_Ma_atom_0 N () u v0
def hb_Ma_tell_0 (N : Nat) (G : Unit) (u : MS) (p : Nat) (v1 : Int32) (v2 : Int32) (v3 : Int64) : Option (MS × Unit) := lt (upI u 1109 v1) (fun w1 => lt (upI w1 1111 v2) (fun w2 => lt (upL w2 1110 v3) (fun w3 => some (w3, ()))))
def hm_Ma_tell (N : Nat) (u : MS) (p : Nat) (v1 : Int32) (v2 : Int32) (v3 : Int64) : Option (MS × Unit) := hb_Ma_tell_0 N () u p v1 v2 v3
def hb_Ma_wrong_0 (N : Nat) (G : Unit) (u : MS) (p : Nat) (v1 : Int32) : Option (MS × Unit) := bnd (hm_Ma_atom N u v1) (fun u1 r1 => bnd (hm_Ma_tell N u1 p 1 (-1) r1) (fun u2 r2 => some (u2, ())))
def hm_Ma_wrong (N : Nat) (u : MS) (p : Nat) (v1 : Int32) : Option (MS × Unit) := hb_Ma_wrong_0 N () u p v1
def hb_Ma_functionOf_14 (N : Nat) (G : Unit) (u : MS) (t0 : Int32) : Option (MS × Int32) := some (u, t0)
def hb_Ma_functionOf_0 (N : Nat) (G : Unit) (u : MS) (v0 : Int32) : Option (MS × Int32) := br (decide (v0 < 1000000)) (hb_Ma_functionOf_14 N G u ((-1))) (hb_Ma_functionOf_14 N G u ((v0 - 1000000)))
def hm_Ma_functionOf (N : Nat) (u : MS) (v0 : Int32) : Option (MS × Int32) := hb_Ma_functionOf_0 N () u v0
def hb_Ma_entryOf_62 (N : Nat) (G : Unit) (u : MS) (p : Nat) (t0 : Int32) : Option (MS × Int32) := some (u, t0)
def hb_Ma_entryOf_61 (N : Nat) (G : Unit) (u : MS) (p : Nat) : Option (MS × Int32) := hb_Ma_entryOf_62 N G u p (0)
def hb_Ma_entryOf_33 (N : Nat) (G : Unit) (u : MS) (p : Nat) (t0 : Int32) : Option (MS × Int32) := some (u, t0)
def hb_Ma_entryOf_0 (N : Nat) (G : Unit) (u : MS) (p : Nat) (v1 : Int32) : Option (MS × Int32) := bnd (hm_Ma_functionOf N u v1) (fun u1 r1 => br (decide (r1 < 0)) (br (decide (v1 < 0)) (hb_Ma_entryOf_61 N G u1 p) (br (decide ((u1.1 449) ≤ v1)) (hb_Ma_entryOf_61 N G u1 p) (ck (inb v1 400) (hb_Ma_entryOf_62 N G u1 p ((u1.2.2.1 31 v1.toNatClampNeg)))))) (br (decide ((u1.1 442) ≤ r1)) (hb_Ma_entryOf_33 N G u1 p (0)) (ck (inb r1 666) (hb_Ma_entryOf_33 N G u1 p ((u1.2.2.1 29 r1.toNatClampNeg))))))
def hm_Ma_entryOf (N : Nat) (u : MS) (p : Nat) (v1 : Int32) : Option (MS × Int32) := hb_Ma_entryOf_0 N () u p v1
def hb_Te_cellsAt_49 (N : Nat) (G : Unit) (u : MS) (t0 : Int32) : Option (MS × Int32) := some (u, t0)
def hb_Te_cellsAt_0 (N : Nat) (G : Unit) (u : MS) (v0 : Nat) (v1 : Int64) : Option (MS × Int32) := lt ((v1 >>> ((32 : Int32).toInt64 &&& 63)).toInt32) (fun y1 => br (decide (y1 = 7)) (some (u, 2)) (br (decide (y1 = 5)) (ck (inb (v1.toInt32) 512) (some (u, ((u.2.2.2 v0 (v1.toInt32).toNatClampNeg).toInt32 + 1)))) (br (decide (y1 = 3)) (ck (inb (v1.toInt32 + 1) 512) (hb_Te_cellsAt_49 N G u (((u.2.2.2 v0 (v1.toInt32 + 1).toNatClampNeg).toInt32 + 2)))) (hb_Te_cellsAt_49 N G u (0)))))
def hm_Te_cellsAt (N : Nat) (u : MS) (v0 : Nat) (v1 : Int64) : Option (MS × Int32) := hb_Te_cellsAt_0 N () u v0 v1
def hb_Te_size_140 (N : Nat) (G : (MS → Nat → Int32 → Int32 → Int32 → Option (MS × Int32)) × (MS → Nat → Int32 → Int32 → Int32 → Int32 → Int32 → Int32 → Option (MS × Int32))) (u : MS) (v4 : Int32) : Option (MS × Int32) := some (u, v4)
def hb_Te_size_134 (N : Nat) (G : (MS → Nat → Int32 → Int32 → Int32 → Option (MS × Int32)) × (MS → Nat → Int32 → Int32 → Int32 → Int32 → Int32 → Int32 → Option (MS × Int32))) (u : MS) (v1 : Nat) (v4 : Int32) (v5 : Int32) (v6 : Int32) : Option (MS × Int32) := G.1 u v1 (v4) (v5) ((v6 + 1))
def hb_Te_size_128 (N : Nat) (G : (MS → Nat → Int32 → Int32 → Int32 → Option (MS × Int32)) × (MS → Nat → Int32 → Int32 → Int32 → Int32 → Int32 → Int32 → Option (MS × Int32))) (u : MS) (v1 : Nat) (v4 : Int32) (v5 : Int32) (v6 : Int32) (v7 : Int32) (v8 : Int32) (v9 : Int32) : Option (MS × Int32) := G.2 u v1 (v4) (v5) (v6) (v7) (v8) ((v9 + 1))
def hb_Te_size_111 (N : Nat) (G : (MS → Nat → Int32 → Int32 → Int32 → Option (MS × Int32)) × (MS → Nat → Int32 → Int32 → Int32 → Int32 → Int32 → Int32 → Option (MS × Int32))) (u : MS) (v1 : Nat) (v4 : Int32) (v5 : Int32) (v6 : Int32) (v7 : Int32) (v8 : Int32) (v9 : Int32) : Option (MS × Int32) := ck (inb (v7 + v9) 512) (ck (inb v5 2048) (lt (upJ u 45 (vp_updL (u.2.2.2 45) v5.toNatClampNeg (u.2.2.2 v1 (v7 + v9).toNatClampNeg))) (fun w5 => hb_Te_size_128 N G w5 v1 (v4) ((v5 + 1)) (v6) (v7) (v8) (v9))))
def hb_Te_size_64 (N : Nat) (G : (MS → Nat → Int32 → Int32 → Int32 → Option (MS × Int32)) × (MS → Nat → Int32 → Int32 → Int32 → Int32 → Int32 → Int32 → Option (MS × Int32))) (u : MS) (v1 : Nat) (v4 : Int32) (v5 : Int32) (v6 : Int32) (v7 : Int32) (v8 : Int32) (v9 : Int32) : Option (MS × Int32) := br (decide (v8 ≤ v9)) (hb_Te_size_134 N G u v1 (v4) (v5) (v6)) (br (decide (2048 ≤ v5)) (hb_Te_size_134 N G u v1 (v4) (v5) (v6)) (ck (inb (v7 + v9) 512) (lt (((u.2.2.2 v1 (v7 + v9).toNatClampNeg) >>> ((32 : Int32).toInt64 &&& 63)).toInt32) (fun y8 => br (decide (y8 = 7)) (hb_Te_size_111 N G u v1 (v4) (v5) (v6) (v7) (v8) (v9)) (br (decide (y8 = 5)) (hb_Te_size_111 N G u v1 (v4) (v5) (v6) (v7) (v8) (v9)) (br (decide (y8 = 3)) (hb_Te_size_111 N G u v1 (v4) (v5) (v6) (v7) (v8) (v9)) (hb_Te_size_128 N G u v1 (v4) (v5) (v6) (v7) (v8) (v9))))))))
def hb_Te_size_16 (N : Nat) (G : (MS → Nat → Int32 → Int32 → Int32 → Option (MS × Int32)) × (MS → Nat → Int32 → Int32 → Int32 → Int32 → Int32 → Int32 → Option (MS × Int32))) (u : MS) (v1 : Nat) (v4 : Int32) (v5 : Int32) (v6 : Int32) : Option (MS × Int32) := br (decide (1000000000 ≤ v6)) (hb_Te_size_140 N G u (v4)) (br (decide (v5 ≤ 0)) (hb_Te_size_140 N G u (v4)) (ck (inb (v5 + (-1)) 2048) (ck (inb (v5 + (-1)) 2048) (bnd (hm_Te_cellsAt N u v1 (u.2.2.2 45 (v5 + (-1)).toNatClampNeg)) (fun u15 r15 => G.2 u15 v1 ((v4 + r15)) ((v5 + (-1))) (v6) ((u.2.2.2 45 (v5 + (-1)).toNatClampNeg).toInt32) (r15) (0))))))
def hb_Te_size_0 (N : Nat) (G : (MS → Nat → Int32 → Int32 → Int32 → Option (MS × Int32)) × (MS → Nat → Int32 → Int32 → Int32 → Int32 → Int32 → Int32 → Option (MS × Int32))) (u : MS) (v1 : Nat) (v2 : Int64) : Option (MS × Int32) := ck (inb (0 : Int32) 2048) (lt (upJ u 45 (vp_updL (u.2.2.2 45) (0 : Int32).toNatClampNeg v2)) (fun w18 => G.1 w18 v1 (0) (1) (0)))
def hg_Te_size (N : Nat) : Nat → ((MS → Nat → Int32 → Int32 → Int32 → Option (MS × Int32)) × (MS → Nat → Int32 → Int32 → Int32 → Int32 → Int32 → Int32 → Option (MS × Int32)))
  | 0 => (fun _ _ _ _ _ => none, fun _ _ _ _ _ _ _ _ => none)
  | n + 1 => (hb_Te_size_16 N (hg_Te_size N n), hb_Te_size_64 N (hg_Te_size N n))
def hm_Te_size (N : Nat) (u : MS) (v1 : Nat) (v2 : Int64) : Option (MS × Int32) := hb_Te_size_0 N (hg_Te_size N N) u v1 v2
def hb_Wl_endsWith_17 (N : Nat) (G : Unit) (u : MS) : Option (MS × Unit) := some (u, ())
def hb_Wl_endsWith_0 (N : Nat) (G : Unit) (u : MS) (v1 : Nat) (v2 : Int64) (v4 : Nat) : Option (MS × Unit) := br (decide ((u.1 (pq v1 9)) = 3)) (hb_Wl_endsWith_17 N G u) (br (decide ((u.1 955) < 24)) (lt (upI u (pq v1 9) 3) (fun w5 => lt (upL w5 (pq v1 16) v2) (fun w7 => lt (upI w7 (pq v1 17) (fr (some v4))) (fun w9 => ck (inb (w9.1 955) 24) (lt (upA w9 54 (upd (w9.2.2.1 54) (w9.1 955).toNatClampNeg (Int32.ofNat v1))) (fun w15 => lt (upI w15 955 ((w15.1 955) + 1)) (fun w17 => some (w17, ())))))))) (hb_Wl_endsWith_17 N G u))
def hm_Wl_endsWith (N : Nat) (u : MS) (v1 : Nat) (v2 : Int64) (v4 : Nat) : Option (MS × Unit) := hb_Wl_endsWith_0 N () u v1 v2 v4
def hb_Wl_endsBy_0 (N : Nat) (G : Unit) (u : MS) (v1 : Nat) (v2 : Int32) : Option (MS × Unit) := bnd (hm_Te_make N u 1 v2) (fun u1 r1 => bnd (hm_Wl_endsWith N u1 v1 r1 v1) (fun u2 r2 => some (u2, ())))
def hm_Wl_endsBy (N : Nat) (u : MS) (v1 : Nat) (v2 : Int32) : Option (MS × Unit) := hb_Wl_endsBy_0 N () u v1 v2
def hb_Te_push_0 (N : Nat) (G : Unit) (u : MS) (v1 : Int32) (v2 : Int64) : Option (MS × Int32) := br (decide (v1 < 2048)) (ck (inb v1 2048) (lt (upJ u 45 (vp_updL (u.2.2.2 45) v1.toNatClampNeg v2)) (fun w3 => some (w3, (v1 + 1))))) (some (u, v1))
def hm_Te_push (N : Nat) (u : MS) (v1 : Int32) (v2 : Int64) : Option (MS × Int32) := hb_Te_push_0 N () u v1 v2
def hb_Te_toWriteTuple_60 (N : Nat) (G : (MS → Nat → Int32 → Int32 → Int32 → Option (MS × Int32))) (u : MS) (v1 : Nat) (v2 : Int32) (v4 : Int32) (v5 : Int32) : Option (MS × Int32) := G u v1 (v2) (v4) ((v5 + (-1)))
def hb_Te_toWriteTuple_20 (N : Nat) (G : (MS → Nat → Int32 → Int32 → Int32 → Option (MS × Int32))) (u : MS) (v1 : Nat) (v2 : Int32) (v4 : Int32) (v5 : Int32) : Option (MS × Int32) := br (decide (v5 ≤ 0)) (some (u, v4)) (ck (inb (v2 + v5) 512) (bnd (hm_Te_push N u v4 (u.2.2.2 v1 (v2 + v5).toNatClampNeg)) (fun u3 r3 => br (decide (v5 ≤ 1)) (hb_Te_toWriteTuple_60 N G u3 v1 (v2) (r3) (v5)) (bnd (hm_Te_make N u3 10 44) (fun u4 r4 => bnd (hm_Te_push N u4 r3 r4) (fun u5 r5 => hb_Te_toWriteTuple_60 N G u5 v1 (v2) (r5) (v5)))))))
def hb_Te_toWriteTuple_0 (N : Nat) (G : (MS → Nat → Int32 → Int32 → Int32 → Option (MS × Int32))) (u : MS) (v1 : Nat) (v2 : Int32) (v3 : Int32) : Option (MS × Int32) := bnd (hm_Te_make N u 10 125) (fun u6 r6 => bnd (hm_Te_push N u6 v3 r6) (fun u7 r7 => ck (inb v2 512) (G u7 v1 (v2) (r7) ((u7.2.2.2 v1 v2.toNatClampNeg).toInt32))))
def hg_Te_toWriteTuple (N : Nat) : Nat → ((MS → Nat → Int32 → Int32 → Int32 → Option (MS × Int32)))
  | 0 => fun _ _ _ _ _ => none
  | n + 1 => hb_Te_toWriteTuple_20 N (hg_Te_toWriteTuple N n)
def hm_Te_toWriteTuple (N : Nat) (u : MS) (v1 : Nat) (v2 : Int32) (v3 : Int32) : Option (MS × Int32) := hb_Te_toWriteTuple_0 N (hg_Te_toWriteTuple N N) u v1 v2 v3
def hb_Te_toWritePair_0 (N : Nat) (G : Unit) (u : MS) (v1 : Nat) (v2 : Int32) (v3 : Int32) : Option (MS × Int32) := ck (inb (v2 + 1) 512) (bnd (hm_Te_push N u v3 (u.2.2.2 v1 (v2 + 1).toNatClampNeg)) (fun u3 r3 => bnd (hm_Te_make N u3 11 0) (fun u4 r4 => bnd (hm_Te_push N u4 r3 r4) (fun u5 r5 => ck (inb v2 512) (bnd (hm_Te_push N u5 r5 (u5.2.2.2 v1 v2.toNatClampNeg)) (fun u8 r8 => some (u8, r8)))))))
def hm_Te_toWritePair (N : Nat) (u : MS) (v1 : Nat) (v2 : Int32) (v3 : Int32) : Option (MS × Int32) := hb_Te_toWritePair_0 N () u v1 v2 v3
def hb_Wo_length_31 (N : Nat) (G : Unit) (u : MS) (t0 : Int32) : Option (MS × Int32) := some (u, t0)
def hb_Wo_length_12 (N : Nat) (G : Unit) (u : MS) : Option (MS × Int32) := hb_Wo_length_31 N G u (0)
def hb_Wo_length_0 (N : Nat) (G : Unit) (u : MS) (v0 : Nat) (v1 : Int32) : Option (MS × Int32) := br (decide (v1 < 0)) (hb_Wo_length_12 N G u) (br (decide (v1 < (u.1 (20 * v0 + 2)))) (ck (inb (v1 + 1) (il (v0 + 2))) (ck (inb v1 (il (v0 + 2))) (hb_Wo_length_31 N G u (((u.2.2.1 (v0 + 2) (v1 + 1).toNatClampNeg) - (u.2.2.1 (v0 + 2) v1.toNatClampNeg)))))) (hb_Wo_length_12 N G u))
def hm_Wo_length (N : Nat) (u : MS) (v0 : Nat) (v1 : Int32) : Option (MS × Int32) := hb_Wo_length_0 N () u v0 v1
def hb_Ma_truth_9 (N : Nat) (G : Unit) (u : MS) (t0 : Int32) : Option (MS × Int64) := bnd (hm_Ma_atom N u t0) (fun u1 r1 => some (u1, r1))
def hb_Ma_truth_0 (N : Nat) (G : Unit) (u : MS) (v0 : Int32) : Option (MS × Int64) := br (decide (v0 = 0)) (hb_Ma_truth_9 N G u (1)) (hb_Ma_truth_9 N G u (0))
def hm_Ma_truth (N : Nat) (u : MS) (v0 : Int32) : Option (MS × Int64) := hb_Ma_truth_0 N () u v0
def hb_Te_listLength_54 (N : Nat) (G : (MS → Nat → Int64 → Int32 → Option (MS × Int32))) (u : MS) (t0 : Int32) : Option (MS × Int32) := some (u, t0)
def hb_Te_listLength_38 (N : Nat) (G : (MS → Nat → Int64 → Int32 → Option (MS × Int32))) (u : MS) (v4 : Int64) (v6 : Int32) : Option (MS × Int32) := bnd (hm_Te_tag N u v4) (fun u1 r1 => br (decide (r1 = 6)) (hb_Te_listLength_54 N G u1 (v6)) (hb_Te_listLength_54 N G u1 ((-1))))
def hb_Te_listLength_6 (N : Nat) (G : (MS → Nat → Int64 → Int32 → Option (MS × Int32))) (u : MS) (v1 : Nat) (v4 : Int64) (v6 : Int32) : Option (MS × Int32) := br (decide (1000000000 ≤ v6)) (hb_Te_listLength_38 N G u (v4) (v6)) (bnd (hm_Te_tag N u v4) (fun u2 r2 => br (decide (r2 = 7)) (ck (inb (v4.toInt32 + 1) 512) (G u2 v1 ((u2.2.2.2 v1 (v4.toInt32 + 1).toNatClampNeg)) ((v6 + 1)))) (hb_Te_listLength_38 N G u2 (v4) (v6))))
def hb_Te_listLength_0 (N : Nat) (G : (MS → Nat → Int64 → Int32 → Option (MS × Int32))) (u : MS) (v1 : Nat) (v2 : Int64) : Option (MS × Int32) := G u v1 (v2) (0)
def hg_Te_listLength (N : Nat) : Nat → ((MS → Nat → Int64 → Int32 → Option (MS × Int32)))
  | 0 => fun _ _ _ _ => none
  | n + 1 => hb_Te_listLength_6 N (hg_Te_listLength N n)
def hm_Te_listLength (N : Nat) (u : MS) (v1 : Nat) (v2 : Int64) : Option (MS × Int32) := hb_Te_listLength_0 N (hg_Te_listLength N N) u v1 v2
def hb_Wl_keepWatch_0 (N : Nat) (G : Unit) (u : MS) (v1 : Int32) (v2 : Int32) : Option (MS × Unit) := ck (inb v1 200) (ck (inb v2 200) (lt (upA u 49 (upd (u.2.2.1 49) v2.toNatClampNeg (u.2.2.1 49 v1.toNatClampNeg))) (fun w6 => ck (inb v1 200) (ck (inb v2 200) (lt (upA w6 50 (upd (w6.2.2.1 50) v2.toNatClampNeg (w6.2.2.1 50 v1.toNatClampNeg))) (fun w12 => ck (inb v1 200) (ck (inb v2 200) (lt (upA w12 51 (upd (w12.2.2.1 51) v2.toNatClampNeg (w12.2.2.1 51 v1.toNatClampNeg))) (fun w18 => some (w18, ()))))))))))
def hm_Wl_keepWatch (N : Nat) (u : MS) (v1 : Int32) (v2 : Int32) : Option (MS × Unit) := hb_Wl_keepWatch_0 N () u v1 v2
def hb_Wl_removeWatch_46 (N : Nat) (G : (MS → Int32 → Int32 → Int32 → Int32 → Option (MS × Unit))) (u : MS) (v1 : Int32) (v2 : Int32) (v3 : Int32) (v4 : Int32) : Option (MS × Unit) := G u (v1) (v2) (v3) ((v4 + 1))
def hb_Wl_removeWatch_36 (N : Nat) (G : (MS → Int32 → Int32 → Int32 → Int32 → Option (MS × Unit))) (u : MS) (v1 : Int32) (v2 : Int32) (v3 : Int32) (v4 : Int32) : Option (MS × Unit) := bnd (hm_Wl_keepWatch N u v4 v3) (fun u1 r1 => hb_Wl_removeWatch_46 N G u1 (v1) (v2) ((v3 + 1)) (v4))
def hb_Wl_removeWatch_5 (N : Nat) (G : (MS → Int32 → Int32 → Int32 → Int32 → Option (MS × Unit))) (u : MS) (v1 : Int32) (v2 : Int32) (v3 : Int32) (v4 : Int32) : Option (MS × Unit) := br (decide ((u.1 950) ≤ v4)) (lt (upI u 950 v3) (fun w3 => some (w3, ()))) (ck (inb v4 200) (br (decide ((u.2.2.1 49 v4.toNatClampNeg) = v1)) (ck (inb v4 200) (br (decide ((u.2.2.1 51 v4.toNatClampNeg) = v2)) (hb_Wl_removeWatch_46 N G u (v1) (v2) (v3) (v4)) (hb_Wl_removeWatch_36 N G u (v1) (v2) (v3) (v4)))) (hb_Wl_removeWatch_36 N G u (v1) (v2) (v3) (v4))))
def hb_Wl_removeWatch_0 (N : Nat) (G : (MS → Int32 → Int32 → Int32 → Int32 → Option (MS × Unit))) (u : MS) (v1 : Int32) (v2 : Int32) : Option (MS × Unit) := G u (v1) (v2) (0) (0)
def hg_Wl_removeWatch (N : Nat) : Nat → ((MS → Int32 → Int32 → Int32 → Int32 → Option (MS × Unit)))
  | 0 => fun _ _ _ _ _ => none
  | n + 1 => hb_Wl_removeWatch_5 N (hg_Wl_removeWatch N n)
def hm_Wl_removeWatch (N : Nat) (u : MS) (v1 : Int32) (v2 : Int32) : Option (MS × Unit) := hb_Wl_removeWatch_0 N (hg_Wl_removeWatch N N) u v1 v2
def hb_Pr_comes_29 (N : Nat) (G : Unit) (u : MS) : Option (MS × Unit) := some (u, ())
def hb_Pr_comes_0 (N : Nat) (G : Unit) (u : MS) (v0 : Nat) (v1 : Int64) : Option (MS × Unit) := br (decide (30 ≤ (u.1 (pq v0 7)))) (hb_Pr_comes_29 N G u) (ck (inb (u.1 (pq v0 7)) 30) (lt (upJ u (pq v0 6) (vp_updL (u.2.2.2 (pq v0 6)) (u.1 (pq v0 7)).toNatClampNeg v1)) (fun w5 => lt (upI w5 (pq v0 7) ((w5.1 (pq v0 7)) + 1)) (fun w7 => hb_Pr_comes_29 N G w7))))
def hm_Pr_comes (N : Nat) (u : MS) (v0 : Nat) (v1 : Int64) : Option (MS × Unit) := hb_Pr_comes_0 N () u v0 v1
def hb_Pr_seekLink_2 (N : Nat) (G : (MS → Nat → Int32 → Int32 → Option (MS × Int32))) (u : MS) (v0 : Nat) (v1 : Int32) (v2 : Int32) : Option (MS × Int32) := br (decide ((u.1 (pq v0 15)) ≤ v2)) (some (u, (-1))) (ck (inb v2 24) (br (decide ((u.2.2.1 (pq v0 14) v2.toNatClampNeg) = v1)) (some (u, v2)) (G u v0 (v1) ((v2 + 1)))))
def hb_Pr_seekLink_0 (N : Nat) (G : (MS → Nat → Int32 → Int32 → Option (MS × Int32))) (u : MS) (v0 : Nat) (v1 : Int32) : Option (MS × Int32) := G u v0 (v1) (0)
def hg_Pr_seekLink (N : Nat) : Nat → ((MS → Nat → Int32 → Int32 → Option (MS × Int32)))
  | 0 => fun _ _ _ _ => none
  | n + 1 => hb_Pr_seekLink_2 N (hg_Pr_seekLink N n)
def hm_Pr_seekLink (N : Nat) (u : MS) (v0 : Nat) (v1 : Int32) : Option (MS × Int32) := hb_Pr_seekLink_0 N (hg_Pr_seekLink N N) u v0 v1
def hb_Pr_addLink_29 (N : Nat) (G : Unit) (u : MS) : Option (MS × Unit) := some (u, ())
def hb_Pr_addLink_0 (N : Nat) (G : Unit) (u : MS) (v0 : Nat) (v1 : Int32) : Option (MS × Unit) := br (decide (24 ≤ (u.1 (pq v0 15)))) (hb_Pr_addLink_29 N G u) (ck (inb (u.1 (pq v0 15)) 24) (lt (upA u (pq v0 14) (upd (u.2.2.1 (pq v0 14)) (u.1 (pq v0 15)).toNatClampNeg v1)) (fun w5 => lt (upI w5 (pq v0 15) ((w5.1 (pq v0 15)) + 1)) (fun w7 => hb_Pr_addLink_29 N G w7))))
def hm_Pr_addLink (N : Nat) (u : MS) (v0 : Nat) (v1 : Int32) : Option (MS × Unit) := hb_Pr_addLink_0 N () u v0 v1
def hb_Wl_addWatch_50 (N : Nat) (G : Unit) (u : MS) : Option (MS × Unit) := some (u, ())
def hb_Wl_addWatch_0 (N : Nat) (G : Unit) (u : MS) (v1 : Int32) (v2 : Int32) (v3 : Int32) : Option (MS × Unit) := br (decide (200 ≤ (u.1 950))) (hb_Wl_addWatch_50 N G u) (ck (inb (u.1 950) 200) (lt (upA u 49 (upd (u.2.2.1 49) (u.1 950).toNatClampNeg v1)) (fun w5 => ck (inb (w5.1 950) 200) (lt (upA w5 50 (upd (w5.2.2.1 50) (w5.1 950).toNatClampNeg v2)) (fun w9 => ck (inb (w9.1 950) 200) (lt (upA w9 51 (upd (w9.2.2.1 51) (w9.1 950).toNatClampNeg v3)) (fun w13 => lt (upI w13 950 ((w13.1 950) + 1)) (fun w15 => hb_Wl_addWatch_50 N G w15))))))))
def hm_Wl_addWatch (N : Nat) (u : MS) (v1 : Int32) (v2 : Int32) (v3 : Int32) : Option (MS × Unit) := hb_Wl_addWatch_0 N () u v1 v2 v3
def hb_Ma_endList_20 (N : Nat) (G : Unit) (u : MS) (p : Nat) (v1 : Int32) (v2 : Int32) : Option (MS × Unit) := lt (upI u (pq p 4) (v1 + (2 * v2))) (fun w3 => some (w3, ()))
def hb_Ma_endList_0 (N : Nat) (G : Unit) (u : MS) (p : Nat) (v1 : Int32) (v2 : Int32) (v3 : Int64) : Option (MS × Unit) := br (decide (v2 ≤ 0)) (hb_Ma_endList_20 N G u p (v1) (v2)) (ck (inb ((v1 + (2 * v2)) - 1) 512) (lt (upJ u (pq p 2) (vp_updL (u.2.2.2 (pq p 2)) ((v1 + (2 * v2)) - 1).toNatClampNeg v3)) (fun w8 => hb_Ma_endList_20 N G w8 p (v1) (v2))))
def hm_Ma_endList (N : Nat) (u : MS) (p : Nat) (v1 : Int32) (v2 : Int32) (v3 : Int64) : Option (MS × Unit) := hb_Ma_endList_0 N () u p v1 v2 v3
def hb_Fr_termOf_7 (N : Nat) (G : (MS → Nat → Int32 → Int32 → Option (MS × Int64))) (u : MS) (v0 : Nat) (v1 : Int32) (v2 : Int32) : Option (MS × Int64) := br (decide (v2 < 0)) (some (u, 0)) (ck (inb v2 (lnQ u v0 42)) (br (decide ((u.2.2.1 (pq v0 32) v2.toNatClampNeg) = v1)) (ck (inb v2 (lnQ u v0 43)) (some (u, (u.2.2.2 (pq v0 33) v2.toNatClampNeg)))) (G u v0 (v1) ((v2 + (-1))))))
def hb_Fr_termOf_0 (N : Nat) (G : (MS → Nat → Int32 → Int32 → Option (MS × Int64))) (u : MS) (v0 : Nat) (v1 : Int32) : Option (MS × Int64) := G u v0 (v1) (((u.1 (pq v0 24)) - 1))
def hg_Fr_termOf (N : Nat) : Nat → ((MS → Nat → Int32 → Int32 → Option (MS × Int64)))
  | 0 => fun _ _ _ _ => none
  | n + 1 => hb_Fr_termOf_7 N (hg_Fr_termOf N n)
def hm_Fr_termOf (N : Nat) (u : MS) (v0 : Nat) (v1 : Int32) : Option (MS × Int64) := hb_Fr_termOf_0 N (hg_Fr_termOf N N) u v0 v1
def hb_Ma_sizes_5 (N : Nat) (G : (MS → Nat → Int32 → Int32 → Int32 → Option (MS × Int32))) (u : MS) (p : Nat) (v1 : Int32) (v3 : Int32) (v4 : Int32) : Option (MS × Int32) := br (decide (v1 ≤ v4)) (some (u, v3)) (bnd (hm_Fr_below N u p v4) (fun u6 r6 => bnd (hm_Te_size N u6 (pq p 2) r6) (fun u8 r8 => G u8 p (v1) ((v3 + r8)) ((v4 + 1)))))
def hb_Ma_sizes_0 (N : Nat) (G : (MS → Nat → Int32 → Int32 → Int32 → Option (MS × Int32))) (u : MS) (p : Nat) (v1 : Int32) (v2 : Int32) : Option (MS × Int32) := G u p (v1) (v2) (0)
def hg_Ma_sizes (N : Nat) : Nat → ((MS → Nat → Int32 → Int32 → Int32 → Option (MS × Int32)))
  | 0 => fun _ _ _ _ _ => none
  | n + 1 => hb_Ma_sizes_5 N (hg_Ma_sizes N n)
def hm_Ma_sizes (N : Nat) (u : MS) (p : Nat) (v1 : Int32) (v2 : Int32) : Option (MS × Int32) := hb_Ma_sizes_0 N (hg_Ma_sizes N N) u p v1 v2
def hb_Wo_order_94 (N : Nat) (G : (MS → Nat → Int32 → Int32 → Int32 → Int32 → Int32 → Option (MS × Int32))) (u : MS) (v3 : Int32) (v4 : Int32) : Option (MS × Int32) := some (u, (v3 - v4))
def hb_Wo_order_36 (N : Nat) (G : (MS → Nat → Int32 → Int32 → Int32 → Int32 → Int32 → Option (MS × Int32))) (u : MS) (v0 : Nat) (v1 : Int32) (v2 : Int32) (v3 : Int32) (v4 : Int32) (v5 : Int32) : Option (MS × Int32) := br (decide (v3 ≤ v5)) (hb_Wo_order_94 N G u (v3) (v4)) (br (decide (v4 ≤ v5)) (hb_Wo_order_94 N G u (v3) (v4)) (ck (inb v1 (il (v0 + 2))) (ck (inb ((u.2.2.1 (v0 + 2) v1.toNatClampNeg) + v5) (bl (v0 + 1))) (ck (inb v2 (il (v0 + 2))) (ck (inb ((u.2.2.1 (v0 + 2) v2.toNatClampNeg) + v5) (bl (v0 + 1))) (br (decide (((u.2.2.1 (v0 + 1) ((u.2.2.1 (v0 + 2) v1.toNatClampNeg) + v5).toNatClampNeg) - (u.2.2.1 (v0 + 1) ((u.2.2.1 (v0 + 2) v2.toNatClampNeg) + v5).toNatClampNeg)) = 0)) (G u v0 (v1) (v2) (v3) (v4) ((v5 + 1))) (some (u, ((u.2.2.1 (v0 + 1) ((u.2.2.1 (v0 + 2) v1.toNatClampNeg) + v5).toNatClampNeg) - (u.2.2.1 (v0 + 1) ((u.2.2.1 (v0 + 2) v2.toNatClampNeg) + v5).toNatClampNeg))))))))))
def hb_Wo_order_0 (N : Nat) (G : (MS → Nat → Int32 → Int32 → Int32 → Int32 → Int32 → Option (MS × Int32))) (u : MS) (v0 : Nat) (v1 : Int32) (v2 : Int32) : Option (MS × Int32) := ck (inb (v1 + 1) (il (v0 + 2))) (ck (inb v1 (il (v0 + 2))) (ck (inb (v2 + 1) (il (v0 + 2))) (ck (inb v2 (il (v0 + 2))) (G u v0 (v1) (v2) (((u.2.2.1 (v0 + 2) (v1 + 1).toNatClampNeg) - (u.2.2.1 (v0 + 2) v1.toNatClampNeg))) (((u.2.2.1 (v0 + 2) (v2 + 1).toNatClampNeg) - (u.2.2.1 (v0 + 2) v2.toNatClampNeg))) (0)))))
def hg_Wo_order (N : Nat) : Nat → ((MS → Nat → Int32 → Int32 → Int32 → Int32 → Int32 → Option (MS × Int32)))
  | 0 => fun _ _ _ _ _ _ _ => none
  | n + 1 => hb_Wo_order_36 N (hg_Wo_order N n)
def hm_Wo_order (N : Nat) (u : MS) (v0 : Nat) (v1 : Int32) (v2 : Int32) : Option (MS × Int32) := hb_Wo_order_0 N (hg_Wo_order N N) u v0 v1 v2
def hb_Te_partsOf_28 (N : Nat) (G : Unit) (u : MS) (t0 : Int32) : Option (MS × Int32) := some (u, t0)
def hb_Te_partsOf_0 (N : Nat) (G : Unit) (u : MS) (v0 : Int64) (v2 : Int32) : Option (MS × Int32) := bnd (hm_Te_tag N u v0) (fun u1 r1 => br (decide (r1 = 5)) (hb_Te_partsOf_28 N G u1 ((v2 - 1))) (br (decide (r1 = 3)) (hb_Te_partsOf_28 N G u1 ((v2 - 2))) (hb_Te_partsOf_28 N G u1 (v2))))
def hm_Te_partsOf (N : Nat) (u : MS) (v0 : Int64) (v2 : Int32) : Option (MS × Int32) := hb_Te_partsOf_0 N () u v0 v2
def hb_Ma_holds_119 (N : Nat) (G : Unit) (u : MS) (t0 : Int32) : Option (MS × Int32) := ck (isb t0) (some (u, t0))
def hb_Ma_holds_109 (N : Nat) (G : Unit) (u : MS) (t0 : Int32) : Option (MS × Int32) := ck (isb t0) (some (u, t0))
def hb_Ma_holds_99 (N : Nat) (G : Unit) (u : MS) (t0 : Int32) : Option (MS × Int32) := ck (isb t0) (some (u, t0))
def hb_Ma_holds_89 (N : Nat) (G : Unit) (u : MS) (t0 : Int32) : Option (MS × Int32) := ck (isb t0) (some (u, t0))
def hb_Ma_holds_79 (N : Nat) (G : Unit) (u : MS) (t0 : Int32) : Option (MS × Int32) := ck (isb t0) (some (u, t0))
def hb_Ma_holds_69 (N : Nat) (G : Unit) (u : MS) (t0 : Int32) : Option (MS × Int32) := ck (isb t0) (some (u, t0))
def hb_Ma_holds_0 (N : Nat) (G : Unit) (u : MS) (v0 : Int32) (v1 : Int32) : Option (MS × Int32) := br (decide (v0 = 31)) (br (decide (0 ≤ v1)) (hb_Ma_holds_89 N G u (0)) (hb_Ma_holds_89 N G u (1))) (br (decide (v0 = 32)) (br (decide (v1 ≤ 0)) (hb_Ma_holds_109 N G u (0)) (hb_Ma_holds_109 N G u (1))) (br (decide (v0 = 33)) (br (decide (v1 < 0)) (hb_Ma_holds_119 N G u (0)) (hb_Ma_holds_119 N G u (1))) (br (decide (v0 = 34)) (br (decide (v1 < 0)) (hb_Ma_holds_119 N G u (0)) (hb_Ma_holds_119 N G u (1))) (br (decide (v0 = 35)) (br (decide (v1 < 0)) (hb_Ma_holds_119 N G u (0)) (hb_Ma_holds_119 N G u (1))) (br (decide (v0 = 36)) (br (decide (v1 < 0)) (hb_Ma_holds_119 N G u (0)) (hb_Ma_holds_119 N G u (1))) (br (decide (v0 = 37)) (br (decide (v1 < 0)) (hb_Ma_holds_119 N G u (0)) (hb_Ma_holds_119 N G u (1))) (br (decide (v0 = 38)) (br (decide (v1 < 0)) (hb_Ma_holds_119 N G u (0)) (hb_Ma_holds_119 N G u (1))) (br (decide (v0 = 39)) (br (decide (v1 = 0)) (hb_Ma_holds_69 N G u (1)) (hb_Ma_holds_69 N G u (0))) (br (decide (v0 = 40)) (br (decide (v1 = 0)) (hb_Ma_holds_79 N G u (0)) (hb_Ma_holds_79 N G u (1))) (br (decide (v0 = 41)) (br (decide (0 < v1)) (hb_Ma_holds_99 N G u (0)) (hb_Ma_holds_99 N G u (1))) (br (decide (v1 < 0)) (hb_Ma_holds_119 N G u (0)) (hb_Ma_holds_119 N G u (1)))))))))))))
def hm_Ma_holds (N : Nat) (u : MS) (v0 : Int32) (v1 : Int32) : Option (MS × Int32) := hb_Ma_holds_0 N () u v0 v1
def hb_Ma_fitsString_107 (N : Nat) (G : (MS → Nat → Int32 → Int64 → Int32 → Int32 → Option (MS × Int32))) (u : MS) (p : Nat) (t0 : Int32) : Option (MS × Int32) := ck (isb t0) (some (u, t0))
def hb_Ma_fitsString_18 (N : Nat) (G : (MS → Nat → Int32 → Int64 → Int32 → Int32 → Option (MS × Int32))) (u : MS) (p : Nat) (v1 : Int32) (v4 : Int64) (v6 : Int32) (v7 : Int32) : Option (MS × Int32) := br (decide (v6 ≤ v7)) (bnd (hm_Te_tag N u v4) (fun u1 r1 => br (decide (r1 = 6)) (hb_Ma_fitsString_107 N G u1 p (1)) (hb_Ma_fitsString_107 N G u1 p (0)))) (bnd (hm_Te_tag N u v4) (fun u2 r2 => br (decide (r2 = 7)) (ck (inb (v4.toInt32) 512) (bnd (hm_Co_at N u2 ((v1 + 2) + v7)) (fun u9 r9 => bnd (hm_Te_make N u9 0 r9) (fun u11 r11 => br (decide ((lg_cmp (u2.2.2.2 (pq p 2) (v4.toInt32).toNatClampNeg) r11) = 0)) (ck (inb (v4.toInt32 + 1) 512) (G u11 p (v1) ((u11.2.2.2 (pq p 2) (v4.toInt32 + 1).toNatClampNeg)) (v6) ((v7 + 1)))) (ck (isb 0) (some (u11, 0))))))) (ck (isb 0) (some (u2, 0)))))
def hb_Ma_fitsString_0 (N : Nat) (G : (MS → Nat → Int32 → Int64 → Int32 → Int32 → Option (MS × Int32))) (u : MS) (p : Nat) (v1 : Int32) (v2 : Int64) : Option (MS × Int32) := bnd (hm_Co_at N u (v1 + 1)) (fun u18 r18 => G u18 p (v1) (v2) (r18) (0))
def hg_Ma_fitsString (N : Nat) : Nat → ((MS → Nat → Int32 → Int64 → Int32 → Int32 → Option (MS × Int32)))
  | 0 => fun _ _ _ _ _ _ => none
  | n + 1 => hb_Ma_fitsString_18 N (hg_Ma_fitsString N n)
def hm_Ma_fitsString (N : Nat) (u : MS) (p : Nat) (v1 : Int32) (v2 : Int64) : Option (MS × Int32) := hb_Ma_fitsString_0 N (hg_Ma_fitsString N N) u p v1 v2
def hb_Fr_setLine_0 (N : Nat) (G : Unit) (u : MS) (v0 : Nat) (v1 : Int32) : Option (MS × Unit) := bnd (hm_Fr_set N u v0 1 v1) (fun u1 r1 => some (u1, ()))
def hm_Fr_setLine (N : Nat) (u : MS) (v0 : Nat) (v1 : Int32) : Option (MS × Unit) := hb_Fr_setLine_0 N () u v0 v1
def hb_Ma_begins_57 (N : Nat) (G : Unit) (u : MS) (p : Nat) : Option (MS × Int32) := lt (upI u 1106 ((u.1 1106) + 1)) (fun w2 => lt (upI w2 (pq p 13) ((w2.1 (pq p 13)) + 1)) (fun w6 => lt (upI w6 946 ((w6.1 946) + 1)) (fun w10 => ck (isb 1) (some (w10, 1)))))
def hb_Ma_begins_0 (N : Nat) (G : Unit) (u : MS) (p : Nat) (v1 : Int32) (v2 : Int32) : Option (MS × Int32) := br (decide ((u.1 1106) < (u.1 1107))) (br (decide (v1 = 0)) (br (decide ((u.1 (pq p 21)) < 60)) (hb_Ma_begins_57 N G u p) (bnd (hm_Wl_endsBy N u p 21) (fun u18 r18 => ck (isb 0) (some (u18, 0))))) (hb_Ma_begins_57 N G u p)) (lt (upI u 1108 1) (fun w20 => lt (upI w20 (pq p 29) v2) (fun w23 => ck (isb 0) (some (w23, 0)))))
def hm_Ma_begins (N : Nat) (u : MS) (p : Nat) (v1 : Int32) (v2 : Int32) : Option (MS × Int32) := hb_Ma_begins_0 N () u p v1 v2
def hb_Fr_setPlace_0 (N : Nat) (G : Unit) (u : MS) (v0 : Nat) (v1 : Int32) : Option (MS × Unit) := bnd (hm_Fr_set N u v0 4 v1) (fun u1 r1 => some (u1, ()))
def hm_Fr_setPlace (N : Nat) (u : MS) (v0 : Nat) (v1 : Int32) : Option (MS × Unit) := hb_Fr_setPlace_0 N () u v0 v1
def hb_Ma_nextMessage_78 (N : Nat) (G : Unit) (u : MS) (p : Nat) : Option (MS × Unit) := some (u, ())
def hb_Ma_nextMessage_0 (N : Nat) (G : Unit) (u : MS) (p : Nat) (v1 : Int32) : Option (MS × Unit) := br (decide ((u.1 (pq p 7)) ≤ (u.1 (pq p 8)))) (bnd (hm_Wl_isReady N u p) (fun u9 r9 => br (decide (r9 = 0)) (lt (upI u9 (pq p 9) 1) (fun w13 => hb_Ma_nextMessage_78 N G w13 p)) (lt (upI u9 (pq p 8) 0) (fun w16 => lt (upL w16 (pq p 10) (-1)) (fun w19 => lt (upI w19 1105 v1) (fun w20 => hb_Ma_nextMessage_78 N G w20 p)))))) (lt (upI u 1105 ((u.1 1105) + 2)) (fun w22 => hb_Ma_nextMessage_78 N G w22 p))
def hm_Ma_nextMessage (N : Nat) (u : MS) (p : Nat) (v1 : Int32) : Option (MS × Unit) := hb_Ma_nextMessage_0 N () u p v1
def hb_Fr_leave_0 (N : Nat) (G : Unit) (u : MS) (v0 : Nat) : Option (MS × Unit) := bnd (hm_Fr_of N u v0 ((u.1 (pq v0 21)) - 1) 3) (fun u2 r2 => lt (upI u2 (pq v0 26) r2) (fun w3 => bnd (hm_Fr_of N w3 v0 ((w3.1 (pq v0 21)) - 1) 2) (fun u5 r5 => lt (upI u5 (pq v0 24) r5) (fun w6 => lt (upI w6 (pq v0 21) ((w6.1 (pq v0 21)) - 1)) (fun w8 => some (w8, ()))))))
def hm_Fr_leave (N : Nat) (u : MS) (v0 : Nat) : Option (MS × Unit) := hb_Fr_leave_0 N () u v0
def hb_Pr_pair_0 (N : Nat) (G : Unit) (u : MS) (v0 : Nat) (v1 : Int32) (v2 : Int64) : Option (MS × Int64) := br (decide (((u.1 (pq v0 4)) + 3) ≤ 512)) (bnd (hm_Te_make N u 8 2) (fun u4 r4 => ck (inb (u.1 (pq v0 4)) 512) (lt (upJ u4 (pq v0 2) (vp_updL (u4.2.2.2 (pq v0 2)) (u.1 (pq v0 4)).toNatClampNeg r4)) (fun w6 => bnd (hm_Te_make N w6 1 v1) (fun u8 r8 => ck (inb ((u.1 (pq v0 4)) + 1) 512) (lt (upJ u8 (pq v0 2) (vp_updL (u8.2.2.2 (pq v0 2)) ((u.1 (pq v0 4)) + 1).toNatClampNeg r8)) (fun w10 => ck (inb ((u.1 (pq v0 4)) + 2) 512) (lt (upJ w10 (pq v0 2) (vp_updL (w10.2.2.2 (pq v0 2)) ((u.1 (pq v0 4)) + 2).toNatClampNeg v2)) (fun w13 => lt (upI w13 (pq v0 4) ((w13.1 (pq v0 4)) + 3)) (fun w15 => bnd (hm_Te_make N w15 5 (u.1 (pq v0 4))) (fun u16 r16 => some (u16, r16)))))))))))) (some (u, v2))
def hm_Pr_pair (N : Nat) (u : MS) (v0 : Nat) (v1 : Int32) (v2 : Int64) : Option (MS × Int64) := hb_Pr_pair_0 N () u v0 v1 v2
def hb_Fr_unwind_0 (N : Nat) (G : Unit) (u : MS) (v0 : Nat) : Option (MS × Int32) := br (decide ((u.1 (pq v0 28)) = 0)) (some (u, 0)) (lt (upI u (pq v0 28) ((u.1 (pq v0 28)) - 1)) (fun w3 => ck (inb ((w3.1 (pq v0 28)) * 4) (lnQ w3 v0 47)) (lt (upI w3 (pq v0 21) (w3.2.2.1 (pq v0 37) ((w3.1 (pq v0 28)) * 4).toNatClampNeg)) (fun w8 => ck (inb (((w3.1 (pq v0 28)) * 4) + 1) (lnQ w8 v0 47)) (lt (upI w8 (pq v0 24) (w8.2.2.1 (pq v0 37) (((w3.1 (pq v0 28)) * 4) + 1).toNatClampNeg)) (fun w12 => ck (inb (((w3.1 (pq v0 28)) * 4) + 2) (lnQ w12 v0 47)) (lt (upI w12 (pq v0 26) (w12.2.2.1 (pq v0 37) (((w3.1 (pq v0 28)) * 4) + 2).toNatClampNeg)) (fun w16 => ck (inb (((w3.1 (pq v0 28)) * 4) + 3) (lnQ w16 v0 47)) (some (w16, (w16.2.2.1 (pq v0 37) (((w3.1 (pq v0 28)) * 4) + 3).toNatClampNeg)))))))))))
def hm_Fr_unwind (N : Nat) (u : MS) (v0 : Nat) : Option (MS × Int32) := hb_Fr_unwind_0 N () u v0
def hb_Wl_watchesOf_28 (N : Nat) (G : (MS → Int32 → Int32 → Int32 → Option (MS × Int32))) (u : MS) (v1 : Int32) (v3 : Int32) (t0 : Int32) (t1 : Int32) : Option (MS × Int32) := G u (v1) ((t0 + t1)) ((v3 + 1))
def hb_Wl_watchesOf_4 (N : Nat) (G : (MS → Int32 → Int32 → Int32 → Option (MS × Int32))) (u : MS) (v1 : Int32) (v2 : Int32) (v3 : Int32) : Option (MS × Int32) := br (decide ((u.1 950) ≤ v3)) (some (u, v2)) (ck (inb v3 200) (br (decide ((u.2.2.1 49 v3.toNatClampNeg) = v1)) (hb_Wl_watchesOf_28 N G u (v1) (v3) (v2) (1)) (hb_Wl_watchesOf_28 N G u (v1) (v3) (v2) (0))))
def hb_Wl_watchesOf_0 (N : Nat) (G : (MS → Int32 → Int32 → Int32 → Option (MS × Int32))) (u : MS) (v1 : Int32) : Option (MS × Int32) := G u (v1) (0) (0)
def hg_Wl_watchesOf (N : Nat) : Nat → ((MS → Int32 → Int32 → Int32 → Option (MS × Int32)))
  | 0 => fun _ _ _ _ => none
  | n + 1 => hb_Wl_watchesOf_4 N (hg_Wl_watchesOf N n)
def hm_Wl_watchesOf (N : Nat) (u : MS) (v1 : Int32) : Option (MS × Int32) := hb_Wl_watchesOf_0 N (hg_Wl_watchesOf N N) u v1
def hb_Fr_namesIn_25 (N : Nat) (G : Unit) (u : MS) (v0 : Nat) (v1 : Int32) (t0 : Int32) : Option (MS × Int32) := bnd (hm_Fr_of N u v0 v1 2) (fun u1 r1 => some (u1, (t0 - r1)))
def hb_Fr_namesIn_0 (N : Nat) (G : Unit) (u : MS) (v0 : Nat) (v1 : Int32) : Option (MS × Int32) := br (decide ((u.1 (pq v0 21)) ≤ (v1 + 1))) (hb_Fr_namesIn_25 N G u v0 (v1) ((u.1 (pq v0 24)))) (bnd (hm_Fr_of N u v0 (v1 + 1) 2) (fun u4 r4 => hb_Fr_namesIn_25 N G u4 v0 (v1) (r4)))
def hm_Fr_namesIn (N : Nat) (u : MS) (v0 : Nat) (v1 : Int32) : Option (MS × Int32) := hb_Fr_namesIn_0 N () u v0 v1
def hb_Fr_waitsIn_25 (N : Nat) (G : Unit) (u : MS) (v0 : Nat) (v1 : Int32) (t0 : Int32) : Option (MS × Int32) := bnd (hm_Fr_of N u v0 v1 3) (fun u1 r1 => some (u1, (t0 - r1)))
def hb_Fr_waitsIn_0 (N : Nat) (G : Unit) (u : MS) (v0 : Nat) (v1 : Int32) : Option (MS × Int32) := br (decide ((u.1 (pq v0 21)) ≤ (v1 + 1))) (hb_Fr_waitsIn_25 N G u v0 (v1) ((u.1 (pq v0 26)))) (bnd (hm_Fr_of N u v0 (v1 + 1) 3) (fun u4 r4 => hb_Fr_waitsIn_25 N G u4 v0 (v1) (r4)))
def hm_Fr_waitsIn (N : Nat) (u : MS) (v0 : Nat) (v1 : Int32) : Option (MS × Int32) := hb_Fr_waitsIn_0 N () u v0 v1
def hb_H_shown_12 (N : Nat) (G : Unit) (u : MS) : Option (MS × Int32) := some (u, (-1))
def hb_H_shown_0 (N : Nat) (G : Unit) (u : MS) (v1 : Int32) : Option (MS × Int32) := br (decide (v1 < 0)) (hb_H_shown_12 N G u) (br (decide (v1 < (u.1 9))) (ck (inb v1 100) (some (u, (u.2.2.1 56 v1.toNatClampNeg)))) (hb_H_shown_12 N G u))
def hm_H_shown (N : Nat) (u : MS) (v1 : Int32) : Option (MS × Int32) := hb_H_shown_0 N () u v1
def hb_H_printed_32 (N : Nat) (G : Unit) (u : MS) : Option (MS × Int32) := some (u, (-1))
def hb_H_printed_0 (N : Nat) (G : Unit) (u : MS) (v1 : Int32) (v2 : Int32) : Option (MS × Int32) := br (decide (v1 < 0)) (hb_H_printed_32 N G u) (br (decide ((u.1 953) ≤ v1)) (hb_H_printed_32 N G u) (br (decide (v2 < 0)) (hb_H_printed_32 N G u) (ck (inb v1 200) (br (decide (v2 < (u.2.2.1 53 v1.toNatClampNeg))) (ck (inb ((v1 * 100) + v2) 20000) (some (u, (u.2.2.1 52 ((v1 * 100) + v2).toNatClampNeg)))) (hb_H_printed_32 N G u)))))
def hm_H_printed (N : Nat) (u : MS) (v1 : Int32) (v2 : Int32) : Option (MS × Int32) := hb_H_printed_0 N () u v1 v2
def hb_JS_coder_14 (N : Nat) (G : Unit) (u : MS) (t0 : Int32) : Option (MS × Int32) := ck (decide (narrow .byte (.int t0) = .int t0)) (some (u, t0))
def hb_JS_coder_0 (N : Nat) (G : Unit) (u : MS) (v0 : Nat) : Option (MS × Int32) := br (decide ((1 : Int32) = 0)) (hb_JS_coder_14 N G u (1)) (ck (decide (v0 < nSt)) (hb_JS_coder_14 N G u (0)))
def hm_JS_coder (N : Nat) (u : MS) (v0 : Nat) : Option (MS × Int32) := hb_JS_coder_0 N () u v0
def hb_JS_length_0 (N : Nat) (G : Unit) (u : MS) (v0 : Nat) : Option (MS × Int32) := ck (decide (v0 < nSt)) (ck (decide (v0 < nSt)) (ck (decide (v0 < nSt)) (bnd (hm_JS_coder N u v0) (fun u1 r1 => some (u1, ((Int32.ofNat (lenSt.getD v0 0)) >>> (r1 &&& 31)))))))
def hm_JS_length (N : Nat) (u : MS) (v0 : Nat) : Option (MS × Int32) := hb_JS_length_0 N () u v0
def hb_JS_isLatin1_18 (N : Nat) (G : Unit) (u : MS) (t0 : Int32) : Option (MS × Int32) := ck (isb t0) (some (u, t0))
def hb_JS_isLatin1_17 (N : Nat) (G : Unit) (u : MS) : Option (MS × Int32) := hb_JS_isLatin1_18 N G u (0)
def hb_JS_isLatin1_0 (N : Nat) (G : Unit) (u : MS) (v0 : Nat) : Option (MS × Int32) := br (decide ((1 : Int32) = 0)) (hb_JS_isLatin1_17 N G u) (ck (decide (v0 < nSt)) (br (decide ((0 : Int32) = 0)) (hb_JS_isLatin1_18 N G u (1)) (hb_JS_isLatin1_17 N G u)))
def hm_JS_isLatin1 (N : Nat) (u : MS) (v0 : Nat) : Option (MS × Int32) := hb_JS_isLatin1_0 N () u v0
def hb_JP_checkIndex_9 (N : Nat) (G : Unit) (u : MS) (v0 : Int32) (v1 : Int32) (v2 : Nat) : Option (MS × Int32) := none
def hb_JP_checkIndex_0 (N : Nat) (G : Unit) (u : MS) (v0 : Int32) (v1 : Int32) (v2 : Nat) : Option (MS × Int32) := br (decide (v0 < 0)) (hb_JP_checkIndex_9 N G u (v0) (v1) (v2)) (br (decide (v0 < v1)) (some (u, v0)) (hb_JP_checkIndex_9 N G u (v0) (v1) (v2)))
def hm_JP_checkIndex (N : Nat) (u : MS) (v0 : Int32) (v1 : Int32) (v2 : Nat) : Option (MS × Int32) := hb_JP_checkIndex_0 N () u v0 v1 v2
def hb_JS_checkIndex_0 (N : Nat) (G : Unit) (u : MS) (v0 : Int32) (v1 : Int32) : Option (MS × Unit) := bnd (hm_JP_checkIndex N u v0 v1 0) (fun u1 r1 => some (u1, ()))
def hm_JS_checkIndex (N : Nat) (u : MS) (v0 : Int32) (v1 : Int32) : Option (MS × Unit) := hb_JS_checkIndex_0 N () u v0 v1
def hb_JL_charAt_0 (N : Nat) (G : Unit) (u : MS) (v0 : Nat) (v1 : Int32) : Option (MS × Int32) := ck (decide (v0 < nSt)) (bnd (hm_JS_checkIndex N u v1 (Int32.ofNat (lenSt.getD v0 0))) (fun u1 r1 => ck (decide (v0 < nSt)) (ck (inb v1 (lenSt.getD v0 0)) (ck (decide (narrow .char (.int (((((bytSt.getD v0 []).getD v1.toNatClampNeg 0) &&& 255).toUInt32 % 65536).toInt32)) = .int (((((bytSt.getD v0 []).getD v1.toNatClampNeg 0) &&& 255).toUInt32 % 65536).toInt32))) (some (u1, ((((bytSt.getD v0 []).getD v1.toNatClampNeg 0) &&& 255).toUInt32 % 65536).toInt32))))))
def hm_JL_charAt (N : Nat) (u : MS) (v0 : Nat) (v1 : Int32) : Option (MS × Int32) := hb_JL_charAt_0 N () u v0 v1
def hb_JS_charAt_0 (N : Nat) (G : Unit) (u : MS) (v0 : Nat) (v1 : Int32) : Option (MS × Int32) := ck (decide (v0 < nSt)) (bnd (hm_JS_isLatin1 N u v0) (fun u1 r1 => br (decide (r1 = 0)) (ck (decide (v0 < nSt)) (none)) (ck (decide (v0 < nSt)) (bnd (hm_JL_charAt N u1 v0 v1) (fun u2 r2 => ck (decide (narrow .char (.int r2) = .int r2)) (some (u2, r2)))))))
def hm_JS_charAt (N : Nat) (u : MS) (v0 : Nat) (v1 : Int32) : Option (MS × Int32) := hb_JS_charAt_0 N () u v0 v1
def hb_JI_compare_19 (N : Nat) (G : Unit) (u : MS) (t0 : Int32) : Option (MS × Int32) := some (u, t0)
def hb_JI_compare_0 (N : Nat) (G : Unit) (u : MS) (v0 : Int32) (v1 : Int32) : Option (MS × Int32) := br (decide (v1 ≤ v0)) (br (decide (v0 = v1)) (hb_JI_compare_19 N G u (0)) (hb_JI_compare_19 N G u (1))) (hb_JI_compare_19 N G u ((-1)))
def hm_JI_compare (N : Nat) (u : MS) (v0 : Int32) (v1 : Int32) : Option (MS × Int32) := hb_JI_compare_0 N () u v0 v1
def hb_To_number_107 (N : Nat) (G : (MS → Int64 → Option (MS × Int32))) (u : MS) (t0 : Int32) : Option (MS × Int32) := some (u, t0)
def hb_To_number_101 (N : Nat) (G : (MS → Int64 → Option (MS × Int32))) (u : MS) : Option (MS × Int32) := hb_To_number_107 N G u (45)
def hb_To_number_68 (N : Nat) (G : (MS → Int64 → Option (MS × Int32))) (u : MS) (v1 : Int64) : Option (MS × Int32) := ck (inb (u.1 85) 4002) (lt (upA u 7 (upd (u.2.2.1 7) (u.1 85).toNatClampNeg (v1.toInt32))) (fun w4 => br (decide (0 < (lg_cmp v1 2147483647))) (hb_To_number_101 N G w4) (bnd (hm_To_signAt N w4 (w4.1 89)) (fun u6 r6 => bnd (hm_To_isWordly N u6 r6) (fun u7 r7 => br (decide (r7 = 0)) (hb_To_number_107 N G u7 (1)) (hb_To_number_101 N G u7))))))
def hb_To_number_2 (N : Nat) (G : (MS → Int64 → Option (MS × Int32))) (u : MS) (v1 : Int64) : Option (MS × Int32) := br (decide ((u.1 81) ≤ (u.1 89))) (hb_To_number_68 N G u (v1)) (ck (inb (u.1 89) 4000) (bnd (hm_To_isDigit N u (u.2.2.1 5 (u.1 89).toNatClampNeg)) (fun u14 r14 => br (decide (r14 = 0)) (hb_To_number_68 N G u14 (v1)) (ck (inb (u14.1 89) 4000) (lt (if 2147483648 < (((v1 * 10) + (u14.2.2.1 5 (u14.1 89).toNatClampNeg).toInt64) - 48) then 2147483648 else (((v1 * 10) + (u14.2.2.1 5 (u14.1 89).toNatClampNeg).toInt64) - 48)) (fun y19 => lt (upI u14 89 ((u14.1 89) + 1)) (fun w21 => G w21 (y19))))))))
def hb_To_number_0 (N : Nat) (G : (MS → Int64 → Option (MS × Int32))) (u : MS) : Option (MS × Int32) := G u (0)
def hg_To_number (N : Nat) : Nat → ((MS → Int64 → Option (MS × Int32)))
  | 0 => fun _ _ => none
  | n + 1 => hb_To_number_2 N (hg_To_number N n)
def hm_To_number (N : Nat) (u : MS) : Option (MS × Int32) := hb_To_number_0 N (hg_To_number N N) u
def hb_Wo_find_51 (N : Nat) (G : Unit) (u : MS) : Option (MS × Int32) := some (u, 0)
def hb_Wo_find_0 (N : Nat) (G : Unit) (u : MS) (v0 : Nat) (v1 : Nat) (v2 : Int32) (v3 : Int32) : Option (MS × Int32) := bnd (hm_Wo_seek N u v0 v1 v2 v3) (fun u1 r1 => br (decide (r1 = (-1))) (br (decide ((Int32.ofNat (il (v0 + 2))) ≤ ((u1.1 (20 * v0 + 2)) + 1))) (hb_Wo_find_51 N G u1) (ck (inb (u1.1 (20 * v0 + 2)) (il (v0 + 2))) (br (decide (((u1.2.2.1 (v0 + 2) (u1.1 (20 * v0 + 2)).toNatClampNeg) + v3) ≤ (Int32.ofNat (bl (v0 + 1))))) (ck (inb (u1.1 (20 * v0 + 2)) (il (v0 + 2))) (ck (cpOk v2 (u1.2.2.1 (v0 + 2) (u1.1 (20 * v0 + 2)).toNatClampNeg) v3 (bl v1) (bl (v0 + 1)) && ftB 3 (u1.2.2.1 v1) v2.toNatClampNeg v3.toNatClampNeg) (lt (upA u1 (v0 + 1) (va_cpy (u1.2.2.1 v1) (u1.2.2.1 (v0 + 1)) v2.toNatClampNeg (u1.2.2.1 (v0 + 2) (u1.1 (20 * v0 + 2)).toNatClampNeg).toNatClampNeg v3.toNatClampNeg)) (fun w20 => ck (inb (w20.1 (20 * v0 + 2)) (il (v0 + 2))) (ck (inb ((w20.1 (20 * v0 + 2)) + 1) (il (v0 + 2))) (lt (upA w20 (v0 + 2) (upd (w20.2.2.1 (v0 + 2)) ((w20.1 (20 * v0 + 2)) + 1).toNatClampNeg ((w20.2.2.1 (v0 + 2) (w20.1 (20 * v0 + 2)).toNatClampNeg) + v3))) (fun w28 => lt (upI w28 (20 * v0 + 2) ((w28.1 (20 * v0 + 2)) + 1)) (fun w30 => some (w30, ((w30.1 (20 * v0 + 2)) - 1)))))))))) (hb_Wo_find_51 N G u1)))) (some (u1, r1)))
def hm_Wo_find (N : Nat) (u : MS) (v0 : Nat) (v1 : Nat) (v2 : Int32) (v3 : Int32) : Option (MS × Int32) := hb_Wo_find_0 N () u v0 v1 v2 v3
def hb_To_word_44 (N : Nat) (G : (MS → Int32 → Int32 → Option (MS × Int32))) (u : MS) (v1 : Int32) (v2 : Int32) : Option (MS × Int32) := br (decide (((u.1 89) - v2) ≤ 16)) (br (decide (97 ≤ v1)) (bnd (hm_Wo_seek N u 9 5 v2 ((u.1 89) - v2)) (fun u4 r4 => br (decide (r4 = (-1))) (bnd (hm_Wo_find N u4 1 5 v2 ((u.1 89) - v2)) (fun u10 r10 => ck (inb (u4.1 85) 4002) (lt (upA u10 7 (upd (u10.2.2.1 7) (u4.1 85).toNatClampNeg r10)) (fun w13 => some (w13, 2))))) (some (u4, (5 + r4))))) (bnd (hm_Wo_find N u 12 5 v2 ((u.1 89) - v2)) (fun u18 r18 => ck (inb (u.1 85) 4002) (lt (upA u18 7 (upd (u18.2.2.1 7) (u.1 85).toNatClampNeg r18)) (fun w21 => some (w21, 3)))))) (some (u, 45))
def hb_To_word_5 (N : Nat) (G : (MS → Int32 → Int32 → Option (MS × Int32))) (u : MS) (v1 : Int32) (v2 : Int32) : Option (MS × Int32) := br (decide ((u.1 81) ≤ (u.1 89))) (hb_To_word_44 N G u (v1) (v2)) (ck (inb (u.1 89) 4000) (bnd (hm_To_isWordly N u (u.2.2.1 5 (u.1 89).toNatClampNeg)) (fun u28 r28 => br (decide (r28 = 0)) (hb_To_word_44 N G u28 (v1) (v2)) (lt (upI u28 89 ((u28.1 89) + 1)) (fun w30 => G w30 (v1) (v2))))))
def hb_To_word_0 (N : Nat) (G : (MS → Int32 → Int32 → Option (MS × Int32))) (u : MS) (v1 : Int32) : Option (MS × Int32) := G u (v1) ((u.1 89))
def hg_To_word (N : Nat) : Nat → ((MS → Int32 → Int32 → Option (MS × Int32)))
  | 0 => fun _ _ _ => none
  | n + 1 => hb_To_word_5 N (hg_To_word N n)
def hm_To_word (N : Nat) (u : MS) (v1 : Int32) : Option (MS × Int32) := hb_To_word_0 N (hg_To_word N N) u v1
def hb_To_signs_81 (N : Nat) (G : (MS → Int32 → Int32 → Int32 → Option (MS × Int32)) × (MS → Int32 → Int32 → Option (MS × Int32))) (u : MS) (v1 : Int32) (v3 : Int32) : Option (MS × Int32) := ck (decide (5 < nSt)) (bnd (hm_JS_length N u 5) (fun u1 r1 => br (decide (r1 ≤ v3)) (some (u1, 45)) (ck (decide (5 < nSt)) (bnd (hm_JS_charAt N u1 5 v3) (fun u2 r2 => br (decide (r2 = v1)) (some (u2, (20 + v3))) (G.2 u2 (v1) ((v3 + 1))))))))
def hb_To_signs_63 (N : Nat) (G : (MS → Int32 → Int32 → Int32 → Option (MS × Int32)) × (MS → Int32 → Int32 → Option (MS × Int32))) (u : MS) (v1 : Int32) (v2 : Int32) (v3 : Int32) : Option (MS × Int32) := G.1 u (v1) (v2) ((v3 + 2))
def hb_To_signs_13 (N : Nat) (G : (MS → Int32 → Int32 → Int32 → Option (MS × Int32)) × (MS → Int32 → Int32 → Option (MS × Int32))) (u : MS) (v1 : Int32) (v2 : Int32) (v3 : Int32) : Option (MS × Int32) := ck (decide (4 < nSt)) (bnd (hm_JS_length N u 4) (fun u3 r3 => br (decide (r3 ≤ (v3 + 1))) (lt (upI u3 89 ((u3.1 89) + 1)) (fun w5 => G.2 w5 (v1) (0))) (ck (decide (4 < nSt)) (bnd (hm_JS_charAt N u3 4 v3) (fun u6 r6 => br (decide (r6 = v1)) (ck (decide (4 < nSt)) (bnd (hm_JS_charAt N u6 4 (v3 + 1)) (fun u7 r7 => br (decide (r7 = v2)) (lt (upI u7 89 ((u7.1 89) + 2)) (fun w9 => some (w9, (38 + (v3 / 2))))) (hb_To_signs_63 N G u7 (v1) (v2) (v3))))) (hb_To_signs_63 N G u6 (v1) (v2) (v3)))))))
def hb_To_signs_0 (N : Nat) (G : (MS → Int32 → Int32 → Int32 → Option (MS × Int32)) × (MS → Int32 → Int32 → Option (MS × Int32))) (u : MS) (v1 : Int32) : Option (MS × Int32) := bnd (hm_To_signAt N u ((u.1 89) + 1)) (fun u11 r11 => G.1 u11 (v1) (r11) (0))
def hg_To_signs (N : Nat) : Nat → ((MS → Int32 → Int32 → Int32 → Option (MS × Int32)) × (MS → Int32 → Int32 → Option (MS × Int32)))
  | 0 => (fun _ _ _ _ => none, fun _ _ _ => none)
  | n + 1 => (hb_To_signs_13 N (hg_To_signs N n), hb_To_signs_81 N (hg_To_signs N n))
def hm_To_signs (N : Nat) (u : MS) (v1 : Int32) : Option (MS × Int32) := hb_To_signs_0 N (hg_To_signs N N) u v1
def hb_To_scan_61 (N : Nat) (G : Unit) (u : MS) (t0 : Int32) : Option (MS × Int32) := some (u, t0)
def hb_To_scan_42 (N : Nat) (G : Unit) (u : MS) (t0 : Int32) : Option (MS × Int32) := some (u, t0)
def hb_To_scan_0 (N : Nat) (G : Unit) (u : MS) : Option (MS × Int32) := bnd (hm_To_signAt N u (u.1 89)) (fun u2 r2 => br (decide (r2 = (-1))) (some (u2, 0)) (bnd (hm_To_isWordly N u2 r2) (fun u3 r3 => br (decide (r3 = 0)) (br (decide (r2 = 34)) (bnd (hm_To_string N u3) (fun u5 r5 => hb_To_scan_61 N G u5 (r5))) (bnd (hm_To_signs N u3 r2) (fun u4 r4 => hb_To_scan_61 N G u4 (r4)))) (bnd (hm_To_isDigit N u3 r2) (fun u6 r6 => br (decide (r6 = 0)) (bnd (hm_To_word N u6 r2) (fun u7 r7 => hb_To_scan_42 N G u7 (r7))) (bnd (hm_To_number N u6) (fun u8 r8 => hb_To_scan_42 N G u8 (r8))))))))
def hm_To_scan (N : Nat) (u : MS) : Option (MS × Int32) := hb_To_scan_0 N () u
def hb_To_scanAll_107 (N : Nat) (G : (MS → Int32 → Option (MS × Unit))) (u : MS) : Option (MS × Unit) := some (u, ())
def hb_To_scanAll_34 (N : Nat) (G : (MS → Int32 → Option (MS × Unit))) (u : MS) (v1 : Int32) : Option (MS × Unit) := br (decide (4000 < v1)) (some (u, ())) (bnd (hm_To_skip N u) (fun u1 r1 => ck (inb (u1.1 85) 4002) (lt (upA u1 8 (upd (u1.2.2.1 8) (u1.1 85).toNatClampNeg (u1.1 90))) (fun w6 => ck (inb (w6.1 85) 4002) (lt (upA w6 7 (upd (w6.2.2.1 7) (w6.1 85).toNatClampNeg 0)) (fun w10 => bnd (hm_To_scan N w10) (fun u13 r13 => ck (inb (w10.1 85) 4002) (lt (upA u13 6 (upd (u13.2.2.1 6) (w10.1 85).toNatClampNeg r13)) (fun w15 => ck (inb (w15.1 85) 4002) (br (decide ((w15.2.2.1 6 (w15.1 85).toNatClampNeg) = 0)) (hb_To_scanAll_107 N G w15) (ck (inb (w15.1 85) 4002) (br (decide ((w15.2.2.1 6 (w15.1 85).toNatClampNeg) = 45)) (hb_To_scanAll_107 N G w15) (lt (upI w15 85 ((w15.1 85) + 1)) (fun w25 => G w25 ((v1 + 1))))))))))))))))
def hb_To_scanAll_0 (N : Nat) (G : (MS → Int32 → Option (MS × Unit))) (u : MS) : Option (MS × Unit) := lt (upI u 22 22) (fun w28 => lt (upI w28 242 1) (fun w31 => lt (upI w31 89 0) (fun w32 => lt (upI w32 90 1) (fun w33 => lt (upI w33 85 0) (fun w34 => G w34 (0))))))
def hg_To_scanAll (N : Nat) : Nat → ((MS → Int32 → Option (MS × Unit)))
  | 0 => fun _ _ => none
  | n + 1 => hb_To_scanAll_34 N (hg_To_scanAll N n)
def hm_To_scanAll (N : Nat) (u : MS) : Option (MS × Unit) := hb_To_scanAll_0 N (hg_To_scanAll N N) u
def hb_Pa_refuse_0 (N : Nat) (G : Unit) (u : MS) (v1 : Int32) : Option (MS × (Unit ⊕ Nat)) := ck (inb (u.1 665) 4002) (lt (upI u 667 (v1 + (16 * (u.2.2.1 8 (u.1 665).toNatClampNeg)))) (fun w7 => some (w7, .inr 3)))
def hm_Pa_refuse (N : Nat) (u : MS) (v1 : Int32) : Option (MS × (Unit ⊕ Nat)) := hb_Pa_refuse_0 N () u v1
def hb_Pa_look_22 (N : Nat) (G : Unit) (u : MS) : Option (MS × (Int32 ⊕ Nat)) := ck (inb (u.1 665) 4002) (some (u, .inl (u.2.2.1 6 (u.1 665).toNatClampNeg)))
def hb_Pa_look_0 (N : Nat) (G : Unit) (u : MS) : Option (MS × (Int32 ⊕ Nat)) := ck (inb (u.1 665) 4002) (br (decide ((u.2.2.1 6 (u.1 665).toNatClampNeg) = 45)) (bTm (hm_Pa_refuse N u 1) (fun u13 r13 => hb_Pa_look_22 N G u13)) (hb_Pa_look_22 N G u))
def hm_Pa_look (N : Nat) (u : MS) : Option (MS × (Int32 ⊕ Nat)) := hb_Pa_look_0 N () u
def hb_Pa_need_13 (N : Nat) (G : Unit) (u : MS) : Option (MS × (Int32 ⊕ Nat)) := lt (upI u 665 ((u.1 665) + 1)) (fun w2 => some (w2, .inl ((w2.1 665) - 1)))
def hb_Pa_need_0 (N : Nat) (G : Unit) (u : MS) (v1 : Int32) : Option (MS × (Int32 ⊕ Nat)) := bTm (hm_Pa_look N u) (fun u4 r4 => br (decide (r4 = v1)) (hb_Pa_need_13 N G u4) (bTm (hm_Pa_refuse N u4 2) (fun u5 r5 => hb_Pa_need_13 N G u5)))
def hm_Pa_need (N : Nat) (u : MS) (v1 : Int32) : Option (MS × (Int32 ⊕ Nat)) := hb_Pa_need_0 N () u v1
def hb_Pa_opens_23 (N : Nat) (G : Unit) (u : MS) : Option (MS × (Unit ⊕ Nat)) := lt (upI u 666 ((u.1 666) + 1)) (fun w2 => some (w2, .inl ()))
def hb_Pa_opens_9 (N : Nat) (G : Unit) (u : MS) : Option (MS × (Unit ⊕ Nat)) := br (decide ((u.1 666) < 25)) (hb_Pa_opens_23 N G u) (bTm (hm_Pa_refuse N u 3) (fun u4 r4 => hb_Pa_opens_23 N G u4))
def hb_Pa_opens_0 (N : Nat) (G : Unit) (u : MS) (v1 : Int32) : Option (MS × (Unit ⊕ Nat)) := br (decide (v1 = 0)) (bTm (hm_Pa_refuse N u 2) (fun u5 r5 => hb_Pa_opens_9 N G u5)) (hb_Pa_opens_9 N G u)
def hm_Pa_opens (N : Nat) (u : MS) (v1 : Int32) : Option (MS × (Unit ⊕ Nat)) := hb_Pa_opens_0 N () u v1
def hb_Pa_closeSigns_79 (N : Nat) (G : (MS → Int32 → Int32 → Int32 → Option (MS × (Int32 ⊕ Nat)))) (u : MS) (v1 : Int32) (v2 : Int32) (v4 : Int32) (v5 : Int32) (v6 : Int32) : Option (MS × (Int32 ⊕ Nat)) := bnd (hm_Tr_add N u 23 v5 v6 0 0) (fun u2 r2 => bnd (hm_Pa_chain N u2 v4 r2) (fun u4 r4 => lt (upI u4 664 ((u4.1 664) - 1)) (fun w6 => G w6 (v1) (v2) (r4))))
def hb_Pa_closeSigns_63 (N : Nat) (G : (MS → Int32 → Int32 → Int32 → Option (MS × (Int32 ⊕ Nat)))) (u : MS) (v1 : Int32) (v2 : Int32) (v4 : Int32) (v5 : Int32) (v6 : Int32) (v7 : Int32) : Option (MS × (Int32 ⊕ Nat)) := br (decide (v7 = v2)) (br (decide (v2 = 3)) (bTm (hm_Pa_refuse N u 2) (fun u7 r7 => hb_Pa_closeSigns_79 N G u7 (v1) (v2) (v4) (v5) (v6))) (hb_Pa_closeSigns_79 N G u (v1) (v2) (v4) (v5) (v6))) (hb_Pa_closeSigns_79 N G u (v1) (v2) (v4) (v5) (v6))
def hb_Pa_closeSigns_60 (N : Nat) (G : (MS → Int32 → Int32 → Int32 → Option (MS × (Int32 ⊕ Nat)))) (u : MS) (v4 : Int32) : Option (MS × (Int32 ⊕ Nat)) := some (u, .inl v4)
def hb_Pa_closeSigns_3 (N : Nat) (G : (MS → Int32 → Int32 → Int32 → Option (MS × (Int32 ⊕ Nat)))) (u : MS) (v1 : Int32) (v2 : Int32) (v4 : Int32) : Option (MS × (Int32 ⊕ Nat)) := br (decide ((u.1 664) ≤ v1)) (some (u, .inl v4)) (ck (inb ((u.1 664) - 1) 4002) (ck (inb (u.2.2.1 34 ((u.1 664) - 1).toNatClampNeg) 4002) (bnd (hm_Pa_rank N u (u.2.2.1 6 (u.2.2.1 34 ((u.1 664) - 1).toNatClampNeg).toNatClampNeg)) (fun u18 r18 => br (decide (r18 < v2)) (hb_Pa_closeSigns_60 N G u18 (v4)) (br (decide (r18 = v2)) (br (decide (v2 = 4)) (hb_Pa_closeSigns_60 N G u18 (v4)) (hb_Pa_closeSigns_63 N G u18 (v1) (v2) (v4) ((u.2.2.1 34 ((u.1 664) - 1).toNatClampNeg)) ((u.2.2.1 6 (u.2.2.1 34 ((u.1 664) - 1).toNatClampNeg).toNatClampNeg)) (r18))) (hb_Pa_closeSigns_63 N G u18 (v1) (v2) (v4) ((u.2.2.1 34 ((u.1 664) - 1).toNatClampNeg)) ((u.2.2.1 6 (u.2.2.1 34 ((u.1 664) - 1).toNatClampNeg).toNatClampNeg)) (r18)))))))
def hb_Pa_closeSigns_0 (N : Nat) (G : (MS → Int32 → Int32 → Int32 → Option (MS × (Int32 ⊕ Nat)))) (u : MS) (v1 : Int32) (v2 : Int32) (v3 : Int32) : Option (MS × (Int32 ⊕ Nat)) := G u (v1) (v2) (v3)
def hg_Pa_closeSigns (N : Nat) : Nat → ((MS → Int32 → Int32 → Int32 → Option (MS × (Int32 ⊕ Nat))))
  | 0 => fun _ _ _ _ => none
  | n + 1 => hb_Pa_closeSigns_3 N (hg_Pa_closeSigns N n)
def hm_Pa_closeSigns (N : Nat) (u : MS) (v1 : Int32) (v2 : Int32) (v3 : Int32) : Option (MS × (Int32 ⊕ Nat)) := hb_Pa_closeSigns_0 N (hg_Pa_closeSigns N N) u v1 v2 v3
abbrev SF_Tr_isPattern : Type := (MS → Int32 → Option (MS × Int32))
def hb_Tr_isPattern_191 (N : Nat) (S : SF_Tr_isPattern) (G : (MS → Int32 → Int32 → Option (MS × Int32))) (u : MS) (t0 : Int32) : Option (MS × Int32) := ck (isb t0) (some (u, t0))
def hb_Tr_isPattern_186 (N : Nat) (S : SF_Tr_isPattern) (G : (MS → Int32 → Int32 → Option (MS × Int32))) (u : MS) : Option (MS × Int32) := hb_Tr_isPattern_191 N S G u (1)
def hb_Tr_isPattern_129 (N : Nat) (S : SF_Tr_isPattern) (G : (MS → Int32 → Int32 → Option (MS × Int32))) (u : MS) (v1 : Int32) (v2 : Int32) : Option (MS × Int32) := br (decide (v2 = 0)) (ck (inb v1 8016) (br (decide ((u.2.2.1 16 v1.toNatClampNeg) = 6)) (hb_Tr_isPattern_186 N S G u) (ck (inb v1 8016) (br (decide ((u.2.2.1 20 v1.toNatClampNeg) = 0)) (hb_Tr_isPattern_186 N S G u) (ck (inb v1 8016) (bnd (S u (u.2.2.1 20 v1.toNatClampNeg)) (fun u10 r10 => br (decide (r10 = 0)) (hb_Tr_isPattern_191 N S G u10 (0)) (hb_Tr_isPattern_186 N S G u10)))))))) (bnd (S u v2) (fun u11 r11 => br (decide (r11 = 0)) (ck (isb 0) (some (u11, 0))) (ck (inb v2 8016) (G u11 (v1) ((u11.2.2.1 21 v2.toNatClampNeg))))))
def hb_Tr_isPattern_110 (N : Nat) (S : SF_Tr_isPattern) (G : (MS → Int32 → Int32 → Option (MS × Int32))) (u : MS) (t0 : Int32) : Option (MS × Int32) := ck (isb t0) (some (u, t0))
def hb_Tr_isPattern_0 (N : Nat) (S : SF_Tr_isPattern) (G : (MS → Int32 → Int32 → Option (MS × Int32))) (u : MS) (v1 : Int32) : Option (MS × Int32) := ck (inb v1 8016) (br (decide ((u.2.2.1 16 v1.toNatClampNeg) = 1)) (ck (isb 1) (some (u, 1))) (br (decide ((u.2.2.1 16 v1.toNatClampNeg) = 2)) (ck (isb 1) (some (u, 1))) (br (decide ((u.2.2.1 16 v1.toNatClampNeg) = 3)) (ck (isb 1) (some (u, 1))) (br (decide ((u.2.2.1 16 v1.toNatClampNeg) = 4)) (ck (isb 1) (some (u, 1))) (br (decide ((u.2.2.1 16 v1.toNatClampNeg) = 5)) (ck (inb v1 8016) (bnd (S u (u.2.2.1 18 v1.toNatClampNeg)) (fun u21 r21 => ck (isb r21) (some (u21, r21))))) (br (decide ((u.2.2.1 16 v1.toNatClampNeg) = 6)) (ck (inb v1 8016) (G u (v1) ((u.2.2.1 18 v1.toNatClampNeg)))) (br (decide ((u.2.2.1 16 v1.toNatClampNeg) = 7)) (ck (inb v1 8016) (G u (v1) ((u.2.2.1 18 v1.toNatClampNeg)))) (br (decide ((u.2.2.1 16 v1.toNatClampNeg) = 8)) (ck (isb 0) (some (u, 0))) (br (decide ((u.2.2.1 16 v1.toNatClampNeg) = 9)) (ck (isb 0) (some (u, 0))) (br (decide ((u.2.2.1 16 v1.toNatClampNeg) = 10)) (ck (isb 0) (some (u, 0))) (br (decide ((u.2.2.1 16 v1.toNatClampNeg) = 11)) (ck (isb 0) (some (u, 0))) (br (decide ((u.2.2.1 16 v1.toNatClampNeg) = 12)) (ck (isb 0) (some (u, 0))) (br (decide ((u.2.2.1 16 v1.toNatClampNeg) = 13)) (ck (isb 0) (some (u, 0))) (br (decide ((u.2.2.1 16 v1.toNatClampNeg) = 14)) (ck (isb 0) (some (u, 0))) (br (decide ((u.2.2.1 16 v1.toNatClampNeg) = 15)) (ck (isb 0) (some (u, 0))) (br (decide ((u.2.2.1 16 v1.toNatClampNeg) = 16)) (ck (isb 0) (some (u, 0))) (br (decide ((u.2.2.1 16 v1.toNatClampNeg) = 17)) (ck (inb v1 8016) (ck (inb (u.2.2.1 18 v1.toNatClampNeg) 8016) (br (decide ((u.2.2.1 16 (u.2.2.1 18 v1.toNatClampNeg).toNatClampNeg) = 1)) (hb_Tr_isPattern_110 N S G u (1)) (hb_Tr_isPattern_110 N S G u (0))))) (ck (isb 0) (some (u, 0))))))))))))))))))))
def hg_Tr_isPattern (N : Nat) (S : SF_Tr_isPattern) : Nat → ((MS → Int32 → Int32 → Option (MS × Int32)))
  | 0 => fun _ _ _ => none
  | n + 1 => hb_Tr_isPattern_129 N S (hg_Tr_isPattern N S n)
def hm_Tr_isPattern (N : Nat) (S : SF_Tr_isPattern) (u : MS) (v1 : Int32) : Option (MS × Int32) := hb_Tr_isPattern_0 N S (hg_Tr_isPattern N S N) u v1
def hrc_Tr_isPattern (N : Nat) : Nat → (SF_Tr_isPattern)
  | 0 => fun _ _ => none
  | d + 1 => hm_Tr_isPattern N (hrc_Tr_isPattern N d)
def hr_Tr_isPattern (N : Nat) (u : MS) (v1 : Int32) : Option (MS × Int32) := (hrc_Tr_isPattern N 300) u v1
abbrev SF_Pa_matched : Type := (MS → Int32 → Option (MS × (Int32 ⊕ Nat))) × (MS → Int32 → Option (MS × (Int32 ⊕ Nat))) × (MS → Option (MS × (Int32 ⊕ Nat))) × (MS → Option (MS × (Int32 ⊕ Nat))) × (MS → Option (MS × (Int32 ⊕ Nat))) × (MS → Int32 → Int32 → Option (MS × (Int32 ⊕ Nat))) × (MS → Option (MS × (Int32 ⊕ Nat))) × (MS → Int32 → Option (MS × (Int32 ⊕ Nat))) × (MS → Option (MS × (Int32 ⊕ Nat))) × (MS → Option (MS × (Int32 ⊕ Nat))) × (MS → Option (MS × (Int32 ⊕ Nat))) × (MS → Option (MS × (Int32 ⊕ Nat))) × (MS → Option (MS × (Int32 ⊕ Nat))) × (MS → Option (MS × (Int32 ⊕ Nat))) × (MS → Int32 → Option (MS × (Int32 ⊕ Nat))) × (MS → Int32 → Option (MS × (Int32 ⊕ Nat))) × (MS → Int32 → Option (MS × (Int32 ⊕ Nat))) × (MS → Option (MS × (Int32 ⊕ Nat))) × (MS → Int32 → Int32 → Option (MS × (Int32 ⊕ Nat))) × (MS → Int32 → Int32 → Int32 → Option (MS × (Int32 ⊕ Nat)))
def hb_Pa_matched_69 (N : Nat) (S : SF_Pa_matched) (G : Unit) (u : MS) (v1 : Int32) (v3 : Int32) (t0 : Int32) : Option (MS × (Int32 ⊕ Nat)) := bTm (S.2.2.2.2.2.2.2.2.2.2.2.2.2.2.1 u 0) (fun u2 r2 => bnd (hm_Tr_add N u2 t0 v3 v1 r2 0) (fun u3 r3 => some (u3, .inl r3)))
def hb_Pa_matched_41 (N : Nat) (S : SF_Pa_matched) (G : Unit) (u : MS) (v1 : Int32) (v2 : Int32) : Option (MS × (Int32 ⊕ Nat)) := lt (upI u 665 ((u.1 665) + 1)) (fun w7 => br (decide (v2 = 30)) (hb_Pa_matched_69 N S G w7 (v1) ((u.1 665)) (20)) (hb_Pa_matched_69 N S G w7 (v1) ((u.1 665)) (21)))
def hb_Pa_matched_19 (N : Nat) (S : SF_Pa_matched) (G : Unit) (u : MS) (v1 : Int32) (v2 : Int32) : Option (MS × (Int32 ⊕ Nat)) := br (decide (v2 = 30)) (bnd (hr_Tr_isPattern N u v1) (fun u9 r9 => br (decide (r9 = 0)) (bTm (hm_Pa_refuse N u9 2) (fun u11 r11 => hb_Pa_matched_41 N S G u11 (v1) (v2))) (hb_Pa_matched_41 N S G u9 (v1) (v2)))) (hb_Pa_matched_41 N S G u (v1) (v2))
def hb_Pa_matched_0 (N : Nat) (S : SF_Pa_matched) (G : Unit) (u : MS) (v1 : Int32) : Option (MS × (Int32 ⊕ Nat)) := bTm (hm_Pa_look N u) (fun u12 r12 => br (decide (r12 = 30)) (hb_Pa_matched_19 N S G u12 (v1) (r12)) (br (decide (r12 = 36)) (hb_Pa_matched_19 N S G u12 (v1) (r12)) (some (u12, .inl v1))))
def hm_Pa_matched (N : Nat) (S : SF_Pa_matched) (u : MS) (v1 : Int32) : Option (MS × (Int32 ⊕ Nat)) := hb_Pa_matched_0 N S () u v1
def hb_Pa_applied_145 (N : Nat) (S : SF_Pa_matched) (G : (MS → Int32 → Int32 → Int32 → Option (MS × (Int32 ⊕ Nat)))) (u : MS) (v2 : Int32) : Option (MS × (Int32 ⊕ Nat)) := some (u, .inl v2)
def hb_Pa_applied_136 (N : Nat) (S : SF_Pa_matched) (G : (MS → Int32 → Int32 → Int32 → Option (MS × (Int32 ⊕ Nat)))) (u : MS) (v2 : Int32) (v4 : Int32) (v7 : Int32) : Option (MS × (Int32 ⊕ Nat)) := G u (v2) (v7) ((v4 + 1))
def hb_Pa_applied_38 (N : Nat) (S : SF_Pa_matched) (G : (MS → Int32 → Int32 → Int32 → Option (MS × (Int32 ⊕ Nat)))) (u : MS) (v2 : Int32) (v3 : Int32) (v4 : Int32) : Option (MS × (Int32 ⊕ Nat)) := br (decide (4000 ≤ v4)) (hb_Pa_applied_145 N S G u (v2)) (bTm (hm_Pa_look N u) (fun u1 r1 => br (decide (r1 = 20)) (lt (upI u1 665 ((u1.1 665) + 1)) (fun w4 => bTm (S.2.2.2.2.2.2.2.2.2.2.2.2.2.2.2.2.2.2.2 w4 0 6 21) (fun u5 r5 => bnd (hm_Tr_length N u5 r5) (fun u8 r8 => bnd (hm_Tr_add N u8 16 (u1.1 665) r5 r8 0) (fun u10 r10 => br (decide (v3 = 0)) (ck (inb v2 8016) (lt (upA u10 19 (upd (u10.2.2.1 19) v2.toNatClampNeg r10)) (fun w21 => hb_Pa_applied_136 N S G w21 (v2) (v4) (r10)))) (ck (inb v3 8016) (lt (upA u10 21 (upd (u10.2.2.1 21) v3.toNatClampNeg r10)) (fun w16 => hb_Pa_applied_136 N S G w16 (v2) (v4) (r10))))))))) (hb_Pa_applied_145 N S G u1 (v2))))
def hb_Pa_applied_0 (N : Nat) (S : SF_Pa_matched) (G : (MS → Int32 → Int32 → Int32 → Option (MS × (Int32 ⊕ Nat)))) (u : MS) (v1 : Int32) : Option (MS × (Int32 ⊕ Nat)) := bTm (hm_Pa_look N u) (fun u22 r22 => br (decide (r22 = 20)) (ck (inb v1 8016) (bnd (hm_Tr_add N u22 15 (u22.2.2.1 17 v1.toNatClampNeg) v1 0 0) (fun u29 r29 => G u29 (r29) (0) (0)))) (some (u22, .inl v1)))
def hg_Pa_applied (N : Nat) (S : SF_Pa_matched) : Nat → ((MS → Int32 → Int32 → Int32 → Option (MS × (Int32 ⊕ Nat))))
  | 0 => fun _ _ _ _ => none
  | n + 1 => hb_Pa_applied_38 N S (hg_Pa_applied N S n)
def hm_Pa_applied (N : Nat) (S : SF_Pa_matched) (u : MS) (v1 : Int32) : Option (MS × (Int32 ⊕ Nat)) := hb_Pa_applied_0 N S (hg_Pa_applied N S N) u v1
def hb_Pa_fun_0 (N : Nat) (S : SF_Pa_matched) (G : Unit) (u : MS) : Option (MS × (Int32 ⊕ Nat)) := lt (upI u 665 ((u.1 665) + 1)) (fun w3 => bTm (hm_Pa_look N w3) (fun u4 r4 => br (decide (r4 = 2)) (lt (upI u4 665 ((u4.1 665) + 1)) (fun w17 => bTm (hm_Pa_need N w17 37) (fun u18 r18 => bTm (hm_Pa_need N u18 1) (fun u19 r19 => ck (inb (u4.1 665) 4002) (ck (inb r19 4002) (bnd (hm_Tr_add N u19 13 (u.1 665) (u19.2.2.1 7 (u4.1 665).toNatClampNeg) (u19.2.2.1 7 r19.toNatClampNeg) 0) (fun u31 r31 => some (u31, .inl r31)))))))) (bTm (hm_Pa_need N u4 20) (fun u5 r5 => bnd (hm_Co_addPlace N u5) (fun u7 r7 => bTm (S.2.2.2.2.2.2.2.2.2.2.2.2.2.2.2.2.2.2.2 u7 1 6 21) (fun u9 r9 => bTm (S.2.2.2.2.2.1 u9 (u.1 665) r9) (fun u10 r10 => bTm (hm_Pa_need N u10 11) (fun u11 r11 => bnd (hm_Tr_add N u11 12 (u.1 665) r7 r10 r11) (fun u13 r13 => some (u13, .inl r13))))))))))
def hm_Pa_fun (N : Nat) (S : SF_Pa_matched) (u : MS) : Option (MS × (Int32 ⊕ Nat)) := hb_Pa_fun_0 N S () u
def hb_Pa_receive_75 (N : Nat) (S : SF_Pa_matched) (G : Unit) (u : MS) (v1 : Int32) (v2 : Int32) (v3 : Int32) (v4 : Int32) : Option (MS × (Int32 ⊕ Nat)) := bTm (hm_Pa_need N u 11) (fun u1 r1 => bnd (hm_Tr_add N u1 11 v1 v3 v2 v4) (fun u3 r3 => some (u3, .inl r3)))
def hb_Pa_receive_32 (N : Nat) (S : SF_Pa_matched) (G : Unit) (u : MS) (v1 : Int32) (t0 : Int32) : Option (MS × (Int32 ⊕ Nat)) := bTm (hm_Pa_look N u) (fun u5 r5 => br (decide (r5 = 5)) (lt (upI u5 665 ((u5.1 665) + 1)) (fun w7 => bTm (S.2.2.2.2.2.2.2.2.2.2.2.2.2.2.1 w7 1) (fun u8 r8 => bTm (hm_Pa_need N u8 38) (fun u9 r9 => bTm (S.2.2.2.2.2.2.2.2.2.1 u9) (fun u10 r10 => hb_Pa_receive_75 N S G u10 (v1) (t0) (r8) (r10)))))) (hb_Pa_receive_75 N S G u5 (v1) (t0) (0) (0)))
def hb_Pa_receive_0 (N : Nat) (S : SF_Pa_matched) (G : Unit) (u : MS) : Option (MS × (Int32 ⊕ Nat)) := lt (upI u 665 ((u.1 665) + 1)) (fun w13 => bTm (hm_Pa_look N w13) (fun u14 r14 => br (decide (r14 = 5)) (hb_Pa_receive_32 N S G u14 ((u.1 665)) (0)) (bTm (S.2.2.2.2.2.2.2.1 u14 1) (fun u15 r15 => hb_Pa_receive_32 N S G u15 ((u.1 665)) (r15)))))
def hm_Pa_receive (N : Nat) (S : SF_Pa_matched) (u : MS) : Option (MS × (Int32 ⊕ Nat)) := hb_Pa_receive_0 N S () u
def hb_Pa_choice_0 (N : Nat) (S : SF_Pa_matched) (G : Unit) (u : MS) : Option (MS × (Int32 ⊕ Nat)) := bTm (S.2.2.2.2.2.2.2.2.2.2.2.2.2.2.2.2.2.2.1 u 0 4000) (fun u2 r2 => bTm (hm_Pa_need N u2 38) (fun u3 r3 => bTm (S.2.2.2.2.2.2.2.2.2.1 u3) (fun u5 r5 => bnd (hm_Tr_add N u5 25 (u.1 665) 0 r2 r5) (fun u6 r6 => some (u6, .inl r6)))))
def hm_Pa_choice (N : Nat) (S : SF_Pa_matched) (u : MS) : Option (MS × (Int32 ⊕ Nat)) := hb_Pa_choice_0 N S () u
def hb_Pa_part_30 (N : Nat) (S : SF_Pa_matched) (G : Unit) (u : MS) (v1 : Int32) (v2 : Int32) (v3 : Int32) : Option (MS × (Int32 ⊕ Nat)) := bTm (hm_Pa_need N u 38) (fun u1 r1 => bTm (S.2.2.2.2.2.2.2.2.2.1 u1) (fun u3 r3 => bnd (hm_Tr_add N u3 25 v1 v2 v3 r3) (fun u4 r4 => some (u4, .inl r4))))
def hb_Pa_part_0 (N : Nat) (S : SF_Pa_matched) (G : Unit) (u : MS) (v1 : Int32) (v2 : Int32) : Option (MS × (Int32 ⊕ Nat)) := bTm (hm_Pa_look N u) (fun u6 r6 => br (decide (r6 = 19)) (lt (upI u6 665 ((u6.1 665) + 1)) (fun w8 => bTm (S.2.2.2.2.2.2.2.2.2.2.2.2.2.2.2.2.2.2.1 w8 0 4000) (fun u9 r9 => hb_Pa_part_30 N S G u9 (v1) (v2) (r9)))) (hb_Pa_part_30 N S G u6 (v1) (v2) (0)))
def hm_Pa_part (N : Nat) (S : SF_Pa_matched) (u : MS) (v1 : Int32) (v2 : Int32) : Option (MS × (Int32 ⊕ Nat)) := hb_Pa_part_0 N S () u v1 v2
def hb_Pa_oneCase_0 (N : Nat) (S : SF_Pa_matched) (G : Unit) (u : MS) : Option (MS × (Int32 ⊕ Nat)) := bTm (S.2.2.2.2.2.2.2.2.2.2.2.2.2.2.2.2.2.1 u) (fun u2 r2 => bTm (S.2.2.2.2.2.1 u2 (u.1 665) r2) (fun u3 r3 => some (u3, .inl r3)))
def hm_Pa_oneCase (N : Nat) (S : SF_Pa_matched) (u : MS) : Option (MS × (Int32 ⊕ Nat)) := hb_Pa_oneCase_0 N S () u
def hb_Pa_parts_75 (N : Nat) (S : SF_Pa_matched) (G : (MS → Int32 → Int32 → Int32 → Int32 → Option (MS × (Int32 ⊕ Nat)))) (u : MS) (v2 : Int32) : Option (MS × (Int32 ⊕ Nat)) := some (u, .inl v2)
def hb_Pa_parts_65 (N : Nat) (S : SF_Pa_matched) (G : (MS → Int32 → Int32 → Int32 → Int32 → Option (MS × (Int32 ⊕ Nat)))) (u : MS) (v1 : Int32) (v2 : Int32) (v4 : Int32) (t1 : Int32) (t2 : Int32) : Option (MS × (Int32 ⊕ Nat)) := bnd (hm_Pa_chain N u t1 t2) (fun u1 r1 => G u1 (v1) (v2) (r1) ((v4 + 1)))
def hb_Pa_parts_21 (N : Nat) (S : SF_Pa_matched) (G : (MS → Int32 → Int32 → Int32 → Int32 → Option (MS × (Int32 ⊕ Nat)))) (u : MS) (v1 : Int32) (v2 : Int32) (v3 : Int32) (v4 : Int32) : Option (MS × (Int32 ⊕ Nat)) := br (decide (4000 ≤ v4)) (hb_Pa_parts_75 N S G u (v2)) (bTm (hm_Pa_look N u) (fun u2 r2 => br (decide (r2 = 27)) (lt (upI u2 665 ((u2.1 665) + 1)) (fun w4 => br (decide (v1 = 0)) (bTm (S.2.2.2.2.1 w4) (fun u5 r5 => hb_Pa_parts_65 N S G u5 (v1) (v2) (v4) (v3) (r5))) (bTm (S.2.2.2.2.2.2.1 w4) (fun u6 r6 => hb_Pa_parts_65 N S G u6 (v1) (v2) (v4) (v3) (r6))))) (hb_Pa_parts_75 N S G u2 (v2))))
def hb_Pa_parts_15 (N : Nat) (S : SF_Pa_matched) (G : (MS → Int32 → Int32 → Int32 → Int32 → Option (MS × (Int32 ⊕ Nat)))) (u : MS) (v1 : Int32) (t0 : Int32) : Option (MS × (Int32 ⊕ Nat)) := G u (v1) (t0) (t0) (0)
def hb_Pa_parts_0 (N : Nat) (S : SF_Pa_matched) (G : (MS → Int32 → Int32 → Int32 → Int32 → Option (MS × (Int32 ⊕ Nat)))) (u : MS) (v1 : Int32) : Option (MS × (Int32 ⊕ Nat)) := br (decide (v1 = 0)) (bTm (S.2.2.2.2.1 u) (fun u7 r7 => hb_Pa_parts_15 N S G u7 (v1) (r7))) (bTm (S.2.2.2.2.2.2.1 u) (fun u8 r8 => hb_Pa_parts_15 N S G u8 (v1) (r8)))
def hg_Pa_parts (N : Nat) (S : SF_Pa_matched) : Nat → ((MS → Int32 → Int32 → Int32 → Int32 → Option (MS × (Int32 ⊕ Nat))))
  | 0 => fun _ _ _ _ _ => none
  | n + 1 => hb_Pa_parts_21 N S (hg_Pa_parts N S n)
def hm_Pa_parts (N : Nat) (S : SF_Pa_matched) (u : MS) (v1 : Int32) : Option (MS × (Int32 ⊕ Nat)) := hb_Pa_parts_0 N S (hg_Pa_parts N S N) u v1
def hb_Pa_caseOf_0 (N : Nat) (S : SF_Pa_matched) (G : Unit) (u : MS) : Option (MS × (Int32 ⊕ Nat)) := lt (upI u 665 ((u.1 665) + 1)) (fun w3 => bTm (S.2.2.2.2.2.2.2.2.2.2.2.2.2.2.1 w3 1) (fun u4 r4 => bTm (hm_Pa_need N u4 15) (fun u5 r5 => bTm (S.2.2.2.2.2.2.2.1 u5 1) (fun u6 r6 => bTm (hm_Pa_need N u6 11) (fun u7 r7 => bnd (hm_Tr_add N u7 9 (u.1 665) r4 r6 0) (fun u9 r9 => some (u9, .inl r9)))))))
def hm_Pa_caseOf (N : Nat) (S : SF_Pa_matched) (u : MS) : Option (MS × (Int32 ⊕ Nat)) := hb_Pa_caseOf_0 N S () u
def hb_Pa_body_25 (N : Nat) (S : SF_Pa_matched) (G : Unit) (u : MS) (t1 : Int32) : Option (MS × (Int32 ⊕ Nat)) := bTm (hm_Pa_opens N u t1) (fun u1 r1 => bTm (S.2.2.2.2.2.2.2.2.2.2.2.2.2.2.2.2.2.2.1 u1 0 4000) (fun u2 r2 => lt (upI u2 666 ((u2.1 666) - 1)) (fun w4 => some (w4, .inl r2))))
def hb_Pa_body_20 (N : Nat) (S : SF_Pa_matched) (G : Unit) (u : MS) : Option (MS × (Int32 ⊕ Nat)) := hb_Pa_body_25 N S G u (1)
def hb_Pa_body_0 (N : Nat) (S : SF_Pa_matched) (G : Unit) (u : MS) : Option (MS × (Int32 ⊕ Nat)) := bTm (hm_Pa_look N u) (fun u5 r5 => bnd (hm_Pa_beginsUnit N u5 r5) (fun u6 r6 => br (decide (r6 = 0)) (bTm (hm_Pa_look N u6) (fun u7 r7 => br (decide (r7 = 9)) (hb_Pa_body_20 N S G u7) (hb_Pa_body_25 N S G u7 (0)))) (hb_Pa_body_20 N S G u6)))
def hm_Pa_body (N : Nat) (S : SF_Pa_matched) (u : MS) : Option (MS × (Int32 ⊕ Nat)) := hb_Pa_body_0 N S () u
def hb_Pa_atomOrCall_0 (N : Nat) (S : SF_Pa_matched) (G : Unit) (u : MS) : Option (MS × (Int32 ⊕ Nat)) := bnd (hm_Pa_leaf N u) (fun u2 r2 => bTm (hm_Pa_look N u2) (fun u3 r3 => br (decide (r3 = 20)) (lt (upI u3 665 ((u3.1 665) + 1)) (fun w5 => bTm (S.2.2.2.2.2.2.2.2.2.2.2.2.2.2.2.2.2.2.2 w5 0 6 21) (fun u6 r6 => ck (inb (u.1 665) 4002) (bnd (hm_Tr_length N u6 r6) (fun u14 r14 => bnd (hm_Tr_add N u14 14 (u.1 665) (u6.2.2.1 7 (u.1 665).toNatClampNeg) r6 r14) (fun u16 r16 => some (u16, .inl r16))))))) (some (u3, .inl r2))))
def hm_Pa_atomOrCall (N : Nat) (S : SF_Pa_matched) (u : MS) : Option (MS × (Int32 ⊕ Nat)) := hb_Pa_atomOrCall_0 N S () u
def hb_Pa_primary_0 (N : Nat) (S : SF_Pa_matched) (G : Unit) (u : MS) : Option (MS × (Int32 ⊕ Nat)) := bTm (hm_Pa_look N u) (fun u2 r2 => br (decide (r2 = 1)) (bnd (hm_Pa_leaf N u2) (fun u3 r3 => some (u3, .inl r3))) (br (decide (r2 = 2)) (bTm (S.2.2.2.2.2.2.2.2.2.2.1 u2) (fun u4 r4 => some (u4, .inl r4))) (br (decide (r2 = 3)) (bnd (hm_Pa_leaf N u2) (fun u5 r5 => some (u5, .inl r5))) (br (decide (r2 = 4)) (bnd (hm_Pa_leaf N u2) (fun u6 r6 => some (u6, .inl r6))) (br (decide (r2 = 5)) (bTm (hm_Pa_refuse N u2 2) (fun u7 r7 => some (u7, .inl 0))) (br (decide (r2 = 6)) (bTm (hm_Pa_refuse N u2 2) (fun u8 r8 => some (u8, .inl 0))) (br (decide (r2 = 7)) (lt (upI u2 665 ((u2.1 665) + 1)) (fun w10 => bTm (S.2.2.2.2.2.2.2.2.2.1 w10) (fun u11 r11 => bTm (hm_Pa_need N u11 11) (fun u12 r12 => bnd (hm_Tr_add N u12 8 (u.1 665) r11 0 0) (fun u14 r14 => some (u14, .inl r14)))))) (br (decide (r2 = 8)) (bTm (S.2.2.2.2.2.2.2.2.1 u2) (fun u16 r16 => some (u16, .inl r16))) (br (decide (r2 = 9)) (bTm (hm_Pa_refuse N u2 2) (fun u17 r17 => some (u17, .inl 0))) (br (decide (r2 = 10)) (bTm (hm_Pa_refuse N u2 2) (fun u18 r18 => some (u18, .inl 0))) (br (decide (r2 = 11)) (bTm (hm_Pa_refuse N u2 2) (fun u19 r19 => some (u19, .inl 0))) (br (decide (r2 = 12)) (bTm (S.2.2.1 u2) (fun u20 r20 => some (u20, .inl r20))) (br (decide (r2 = 13)) (lt (upI u2 665 ((u2.1 665) + 1)) (fun w22 => bTm (S.2.2.2.2.2.2.2.1 w22 0) (fun u23 r23 => bTm (hm_Pa_need N u23 11) (fun u24 r24 => bnd (hm_Tr_add N u24 10 (u.1 665) 0 r23 0) (fun u26 r26 => some (u26, .inl r26)))))) (br (decide (r2 = 14)) (bTm (hm_Pa_refuse N u2 2) (fun u28 r28 => some (u28, .inl 0))) (br (decide (r2 = 15)) (bTm (hm_Pa_refuse N u2 2) (fun u29 r29 => some (u29, .inl 0))) (br (decide (r2 = 16)) (bTm (hm_Pa_refuse N u2 2) (fun u30 r30 => some (u30, .inl 0))) (br (decide (r2 = 17)) (bTm (S.2.2.2.1 u2) (fun u31 r31 => some (u31, .inl r31))) (br (decide (r2 = 18)) (bTm (hm_Pa_refuse N u2 2) (fun u32 r32 => some (u32, .inl 0))) (br (decide (r2 = 19)) (bTm (hm_Pa_refuse N u2 2) (fun u33 r33 => some (u33, .inl 0))) (br (decide (r2 = 20)) (lt (upI u2 665 ((u2.1 665) + 1)) (fun w35 => bTm (S.2.2.2.2.2.2.2.2.2.2.2.2.2.2.1 w35 1) (fun u36 r36 => bTm (hm_Pa_need N u36 21) (fun u37 r37 => bnd (hm_Tr_add N u37 5 (u.1 665) r36 0 0) (fun u39 r39 => some (u39, .inl r39)))))) (br (decide (r2 = 21)) (bTm (hm_Pa_refuse N u2 2) (fun u41 r41 => some (u41, .inl 0))) (br (decide (r2 = 22)) (bTm (S.2.2.2.2.2.2.2.2.2.2.2.2.2.2.2.2.1 u2 0) (fun u42 r42 => some (u42, .inl r42))) (br (decide (r2 = 23)) (bTm (hm_Pa_refuse N u2 2) (fun u43 r43 => some (u43, .inl 0))) (br (decide (r2 = 24)) (bTm (S.2.2.2.2.2.2.2.2.2.2.2.2.2.2.2.1 u2 0) (fun u44 r44 => some (u44, .inl r44))) (bTm (hm_Pa_refuse N u2 2) (fun u45 r45 => some (u45, .inl 0)))))))))))))))))))))))))))
def hm_Pa_primary (N : Nat) (S : SF_Pa_matched) (u : MS) : Option (MS × (Int32 ⊕ Nat)) := hb_Pa_primary_0 N S () u
def hb_Pa_unit_69 (N : Nat) (S : SF_Pa_matched) (G : Unit) (u : MS) (v2 : Int32) (t1 : Int32) : Option (MS × (Int32 ⊕ Nat)) := bTm (S.2.2.2.2.2.2.2.2.2.2.2.2.1 u) (fun u1 r1 => bnd (hm_Tr_add N u1 t1 v2 r1 0 0) (fun u2 r2 => lt (upI u2 666 ((u2.1 666) - 1)) (fun w5 => some (w5, .inl r2))))
def hb_Pa_unit_26 (N : Nat) (S : SF_Pa_matched) (G : Unit) (u : MS) (v1 : Int32) : Option (MS × (Int32 ⊕ Nat)) := lt (upI u 665 ((u.1 665) + 1)) (fun w8 => bTm (hm_Pa_look N w8) (fun u9 r9 => bnd (hm_Pa_beginsUnit N u9 r9) (fun u10 r10 => bTm (hm_Pa_opens N u10 r10) (fun u11 r11 => br (decide (v1 = 34)) (hb_Pa_unit_69 N S G u11 ((u.1 665)) (17)) (hb_Pa_unit_69 N S G u11 ((u.1 665)) (18))))))
def hb_Pa_unit_0 (N : Nat) (S : SF_Pa_matched) (G : Unit) (u : MS) : Option (MS × (Int32 ⊕ Nat)) := bTm (hm_Pa_look N u) (fun u13 r13 => br (decide (r13 = 34)) (hb_Pa_unit_26 N S G u13 (r13)) (br (decide (r13 = 14)) (hb_Pa_unit_26 N S G u13 (r13)) (bTm (S.2.2.2.2.2.2.2.2.2.2.2.1 u13) (fun u14 r14 => bTm (S.2.1 u14 r14) (fun u15 r15 => some (u15, .inl r15))))))
def hm_Pa_unit (N : Nat) (S : SF_Pa_matched) (u : MS) : Option (MS × (Int32 ⊕ Nat)) := hb_Pa_unit_0 N S () u
def hb_Pa_signed_155 (N : Nat) (S : SF_Pa_matched) (G : (MS → Int32 → Int32 → Int32 → Int32 → Int32 → Int32 → Option (MS × (Int32 ⊕ Nat)))) (u : MS) (v1 : Int32) (v2 : Int32) (v3 : Int32) (v4 : Int32) (v5 : Int32) : Option (MS × (Int32 ⊕ Nat)) := br (decide (v5 = 0)) (bTm (hm_Pa_closeSigns N u v2 0 v4) (fun u1 r1 => bnd (hm_Tr_add N u1 22 v1 v3 0 0) (fun u3 r3 => some (u3, .inl r3)))) (some (u, .inl v3))
def hb_Pa_signed_127 (N : Nat) (S : SF_Pa_matched) (G : (MS → Int32 → Int32 → Int32 → Int32 → Int32 → Int32 → Option (MS × (Int32 ⊕ Nat)))) (u : MS) (v1 : Int32) (v2 : Int32) (v3 : Int32) (v4 : Int32) (v5 : Int32) (v6 : Int32) : Option (MS × (Int32 ⊕ Nat)) := lt (upI u 665 ((u.1 665) + 1)) (fun w6 => bTm (S.2.2.2.2.2.2.2.2.2.2.2.2.1 w6) (fun u7 r7 => bnd (hm_Pa_chain N u7 v4 r7) (fun u8 r8 => G u8 (v1) (v2) (v3) (r8) (v5) ((v6 + 1)))))
def hb_Pa_signed_102 (N : Nat) (S : SF_Pa_matched) (G : (MS → Int32 → Int32 → Int32 → Int32 → Int32 → Int32 → Option (MS × (Int32 ⊕ Nat)))) (u : MS) (v1 : Int32) (v2 : Int32) (v3 : Int32) (v4 : Int32) (v5 : Int32) (v6 : Int32) (v7 : Int32) : Option (MS × (Int32 ⊕ Nat)) := bnd (hm_Tr_add N u 24 (u.1 665) v7 0 0) (fun u11 r11 => bnd (hm_Pa_chain N u11 v4 r11) (fun u13 r13 => hb_Pa_signed_127 N S G u13 (v1) (v2) (v3) (r13) (v5) (v6)))
def hb_Pa_signed_24 (N : Nat) (S : SF_Pa_matched) (G : (MS → Int32 → Int32 → Int32 → Int32 → Int32 → Int32 → Option (MS × (Int32 ⊕ Nat)))) (u : MS) (v1 : Int32) (v2 : Int32) (v3 : Int32) (v4 : Int32) (v5 : Int32) (v6 : Int32) : Option (MS × (Int32 ⊕ Nat)) := br (decide (4000 ≤ v6)) (hb_Pa_signed_155 N S G u (v1) (v2) (v3) (v4) (v5)) (bTm (hm_Pa_look N u) (fun u14 r14 => bnd (hm_Pa_rank N u14 r14) (fun u15 r15 => br (decide (r15 ≤ 0)) (hb_Pa_signed_155 N S G u15 (v1) (v2) (v3) (v4) (v5)) (bTm (hm_Pa_look N u15) (fun u16 r16 => bnd (hm_Pa_rank N u16 r16) (fun u17 r17 => bTm (hm_Pa_closeSigns N u17 v2 r17 v4) (fun u18 r18 => ck (inb (u18.1 664) 4002) (lt (upA u18 34 (upd (u18.2.2.1 34) (u18.1 664).toNatClampNeg (u18.1 665))) (fun w23 => lt (upI w23 664 ((w23.1 664) + 1)) (fun w25 => br (decide (r16 = 6)) (hb_Pa_signed_102 N S G w25 (v1) (v2) (v3) (r18) (0) (v6) (r16)) (br (decide (r16 = 16)) (hb_Pa_signed_102 N S G w25 (v1) (v2) (v3) (r18) (0) (v6) (r16)) (hb_Pa_signed_127 N S G w25 (v1) (v2) (v3) (r18) (0) (v6)))))))))))))
def hb_Pa_signed_0 (N : Nat) (S : SF_Pa_matched) (G : (MS → Int32 → Int32 → Int32 → Int32 → Int32 → Int32 → Option (MS × (Int32 ⊕ Nat)))) (u : MS) : Option (MS × (Int32 ⊕ Nat)) := bTm (S.2.2.2.2.2.2.2.2.2.2.2.2.1 u) (fun u28 r28 => G u28 ((u.1 665)) ((u.1 664)) (r28) (r28) (1) (0))
def hg_Pa_signed (N : Nat) (S : SF_Pa_matched) : Nat → ((MS → Int32 → Int32 → Int32 → Int32 → Int32 → Int32 → Option (MS × (Int32 ⊕ Nat))))
  | 0 => fun _ _ _ _ _ _ _ => none
  | n + 1 => hb_Pa_signed_24 N S (hg_Pa_signed N S n)
def hm_Pa_signed (N : Nat) (S : SF_Pa_matched) (u : MS) : Option (MS × (Int32 ⊕ Nat)) := hb_Pa_signed_0 N S (hg_Pa_signed N S N) u
def hb_Pa_expression_84 (N : Nat) (S : SF_Pa_matched) (G : Unit) (u : MS) (v4 : Int32) : Option (MS × (Int32 ⊕ Nat)) := lt (upI u 666 ((u.1 666) - 1)) (fun w2 => some (w2, .inl v4))
def hb_Pa_expression_28 (N : Nat) (S : SF_Pa_matched) (G : Unit) (u : MS) (v2 : Int32) (t1 : Int32) : Option (MS × (Int32 ⊕ Nat)) := bTm (hm_Pa_opens N u t1) (fun u3 r3 => br (decide (v2 = 9)) (lt (upI u3 665 ((u3.1 665) + 1)) (fun w8 => bTm (S.2.2.2.2.2.2.2.2.2.2.2.2.2.2.1 w8 1) (fun u10 r10 => bnd (hm_Tr_add N u10 19 (u3.1 665) r10 0 0) (fun u11 r11 => hb_Pa_expression_84 N S G u11 (r11))))) (bTm (S.2.2.2.2.2.2.2.2.2.2.2.2.2.1 u3) (fun u5 r5 => bTm (S.1 u5 r5) (fun u6 r6 => hb_Pa_expression_84 N S G u6 (r6)))))
def hb_Pa_expression_27 (N : Nat) (S : SF_Pa_matched) (G : Unit) (u : MS) (v2 : Int32) : Option (MS × (Int32 ⊕ Nat)) := hb_Pa_expression_28 N S G u (v2) (0)
def hb_Pa_expression_23 (N : Nat) (S : SF_Pa_matched) (G : Unit) (u : MS) (v2 : Int32) : Option (MS × (Int32 ⊕ Nat)) := hb_Pa_expression_28 N S G u (v2) (1)
def hb_Pa_expression_0 (N : Nat) (S : SF_Pa_matched) (G : Unit) (u : MS) (v1 : Int32) : Option (MS × (Int32 ⊕ Nat)) := bTm (hm_Pa_look N u) (fun u13 r13 => bnd (hm_Pa_beginsUnit N u13 r13) (fun u14 r14 => br (decide (r14 = 0)) (br (decide (v1 = 0)) (hb_Pa_expression_27 N S G u14 (r13)) (br (decide (r13 = 9)) (hb_Pa_expression_23 N S G u14 (r13)) (hb_Pa_expression_27 N S G u14 (r13)))) (hb_Pa_expression_23 N S G u14 (r13))))
def hm_Pa_expression (N : Nat) (S : SF_Pa_matched) (u : MS) (v1 : Int32) : Option (MS × (Int32 ⊕ Nat)) := hb_Pa_expression_0 N S () u v1
def hb_Pa_list_80 (N : Nat) (S : SF_Pa_matched) (G : Unit) (u : MS) (v2 : Int32) (v3 : Int32) (v4 : Int32) : Option (MS × (Int32 ⊕ Nat)) := bTm (hm_Pa_need N u 25) (fun u1 r1 => bnd (hm_Tr_length N u1 v3) (fun u4 r4 => bnd (hm_Tr_add N u4 7 v2 v3 r4 v4) (fun u6 r6 => some (u6, .inl r6))))
def hb_Pa_list_78 (N : Nat) (S : SF_Pa_matched) (G : Unit) (u : MS) (v2 : Int32) (v3 : Int32) (t0 : Int32) : Option (MS × (Int32 ⊕ Nat)) := hb_Pa_list_80 N S G u (v2) (v3) (t0)
def hb_Pa_list_35 (N : Nat) (S : SF_Pa_matched) (G : Unit) (u : MS) (v1 : Int32) (v2 : Int32) (t0 : Int32) : Option (MS × (Int32 ⊕ Nat)) := br (decide (t0 = 0)) (hb_Pa_list_80 N S G u (v2) (t0) (0)) (bTm (hm_Pa_look N u) (fun u8 r8 => br (decide (r8 = 29)) (lt (upI u8 665 ((u8.1 665) + 1)) (fun w10 => br (decide (v1 = 0)) (bTm (S.2.2.2.2.2.2.2.2.2.2.2.2.2.2.1 w10 1) (fun u11 r11 => hb_Pa_list_78 N S G u11 (v2) (t0) (r11))) (bTm (S.2.2.2.2.2.2.2.2.2.2.2.2.2.2.2.2.2.1 w10) (fun u12 r12 => hb_Pa_list_78 N S G u12 (v2) (t0) (r12))))) (hb_Pa_list_80 N S G u8 (v2) (t0) (0))))
def hb_Pa_list_0 (N : Nat) (S : SF_Pa_matched) (G : Unit) (u : MS) (v1 : Int32) : Option (MS × (Int32 ⊕ Nat)) := lt (upI u 665 ((u.1 665) + 1)) (fun w15 => bTm (hm_Pa_look N w15) (fun u16 r16 => br (decide (r16 = 25)) (hb_Pa_list_35 N S G u16 (v1) ((u.1 665)) (0)) (bTm (S.2.2.2.2.2.2.2.2.2.2.2.2.2.2.2.2.2.2.1 u16 v1 8) (fun u17 r17 => hb_Pa_list_35 N S G u17 (v1) ((u.1 665)) (r17)))))
def hm_Pa_list (N : Nat) (S : SF_Pa_matched) (u : MS) (v1 : Int32) : Option (MS × (Int32 ⊕ Nat)) := hb_Pa_list_0 N S () u v1
def hb_Pa_tuple_0 (N : Nat) (S : SF_Pa_matched) (G : Unit) (u : MS) (v1 : Int32) : Option (MS × (Int32 ⊕ Nat)) := lt (upI u 665 ((u.1 665) + 1)) (fun w3 => bTm (S.2.2.2.2.2.2.2.2.2.2.2.2.2.2.2.2.2.2.2 w3 v1 8 23) (fun u4 r4 => bnd (hm_Tr_length N u4 r4) (fun u7 r7 => bnd (hm_Tr_add N u7 6 (u.1 665) r4 r7 0) (fun u9 r9 => some (u9, .inl r9)))))
def hm_Pa_tuple (N : Nat) (S : SF_Pa_matched) (u : MS) (v1 : Int32) : Option (MS × (Int32 ⊕ Nat)) := hb_Pa_tuple_0 N S () u v1
def hb_Pa_pattern_162 (N : Nat) (S : SF_Pa_matched) (G : Unit) (u : MS) (v3 : Int32) : Option (MS × (Int32 ⊕ Nat)) := lt (upI u 666 ((u.1 666) - 1)) (fun w2 => some (w2, .inl v3))
def hb_Pa_pattern_137 (N : Nat) (S : SF_Pa_matched) (G : Unit) (u : MS) (v1 : Int32) : Option (MS × (Int32 ⊕ Nat)) := bnd (hm_Pa_leaf N u) (fun u4 r4 => bnd (hm_Tr_add N u4 17 v1 r4 0 0) (fun u5 r5 => hb_Pa_pattern_162 N S G u5 (r5)))
def hb_Pa_pattern_0 (N : Nat) (S : SF_Pa_matched) (G : Unit) (u : MS) : Option (MS × (Int32 ⊕ Nat)) := bTm (hm_Pa_look N u) (fun u8 r8 => bnd (hm_Pa_beginsPattern N u8 r8) (fun u9 r9 => bTm (hm_Pa_opens N u9 r9) (fun u10 r10 => br (decide (r8 = 20)) (lt (upI u10 665 ((u10.1 665) + 1)) (fun w12 => bTm (S.2.2.2.2.2.2.2.2.2.2.2.2.2.2.2.2.2.1 w12) (fun u14 r14 => bnd (hm_Tr_add N u14 5 (u.1 665) r14 0 0) (fun u15 r15 => bTm (hm_Pa_need N u15 21) (fun u17 r17 => hb_Pa_pattern_162 N S G u17 (r15)))))) (br (decide (r8 = 22)) (bTm (S.2.2.2.2.2.2.2.2.2.2.2.2.2.2.2.2.1 u10 1) (fun u18 r18 => hb_Pa_pattern_162 N S G u18 (r18))) (br (decide (r8 = 24)) (bTm (S.2.2.2.2.2.2.2.2.2.2.2.2.2.2.2.1 u10 1) (fun u19 r19 => hb_Pa_pattern_162 N S G u19 (r19))) (br (decide (r8 = 34)) (lt (upI u10 665 ((u10.1 665) + 1)) (fun w21 => bTm (hm_Pa_look N w21) (fun u22 r22 => br (decide (r22 = 1)) (hb_Pa_pattern_137 N S G u22 ((u.1 665))) (bTm (hm_Pa_refuse N u22 2) (fun u23 r23 => hb_Pa_pattern_137 N S G u23 ((u.1 665))))))) (bnd (hm_Pa_leaf N u10) (fun u24 r24 => hb_Pa_pattern_162 N S G u24 (r24)))))))))
def hm_Pa_pattern (N : Nat) (S : SF_Pa_matched) (u : MS) : Option (MS × (Int32 ⊕ Nat)) := hb_Pa_pattern_0 N S () u
def hb_Pa_row_78 (N : Nat) (S : SF_Pa_matched) (G : (MS → Int32 → Int32 → Int32 → Int32 → Int32 → Option (MS × (Int32 ⊕ Nat)))) (u : MS) (v3 : Int32) : Option (MS × (Int32 ⊕ Nat)) := some (u, .inl v3)
def hb_Pa_row_67 (N : Nat) (S : SF_Pa_matched) (G : (MS → Int32 → Int32 → Int32 → Int32 → Int32 → Option (MS × (Int32 ⊕ Nat)))) (u : MS) (v1 : Int32) (v2 : Int32) (v3 : Int32) (v5 : Int32) (t1 : Int32) (t2 : Int32) : Option (MS × (Int32 ⊕ Nat)) := bnd (hm_Pa_chain N u t1 t2) (fun u1 r1 => G u1 (v1) (v2) (v3) (r1) ((v5 + 1)))
def hb_Pa_row_23 (N : Nat) (S : SF_Pa_matched) (G : (MS → Int32 → Int32 → Int32 → Int32 → Int32 → Option (MS × (Int32 ⊕ Nat)))) (u : MS) (v1 : Int32) (v2 : Int32) (v3 : Int32) (v4 : Int32) (v5 : Int32) : Option (MS × (Int32 ⊕ Nat)) := br (decide (v2 ≤ v5)) (hb_Pa_row_78 N S G u (v3)) (bTm (hm_Pa_look N u) (fun u2 r2 => br (decide (r2 = 26)) (lt (upI u2 665 ((u2.1 665) + 1)) (fun w4 => br (decide (v1 = 0)) (bTm (S.2.2.2.2.2.2.2.2.2.2.2.2.2.2.1 w4 1) (fun u5 r5 => hb_Pa_row_67 N S G u5 (v1) (v2) (v3) (v5) (v4) (r5))) (bTm (S.2.2.2.2.2.2.2.2.2.2.2.2.2.2.2.2.2.1 w4) (fun u6 r6 => hb_Pa_row_67 N S G u6 (v1) (v2) (v3) (v5) (v4) (r6))))) (hb_Pa_row_78 N S G u2 (v3))))
def hb_Pa_row_16 (N : Nat) (S : SF_Pa_matched) (G : (MS → Int32 → Int32 → Int32 → Int32 → Int32 → Option (MS × (Int32 ⊕ Nat)))) (u : MS) (v1 : Int32) (v2 : Int32) (t0 : Int32) : Option (MS × (Int32 ⊕ Nat)) := G u (v1) (v2) (t0) (t0) (1)
def hb_Pa_row_0 (N : Nat) (S : SF_Pa_matched) (G : (MS → Int32 → Int32 → Int32 → Int32 → Int32 → Option (MS × (Int32 ⊕ Nat)))) (u : MS) (v1 : Int32) (v2 : Int32) : Option (MS × (Int32 ⊕ Nat)) := br (decide (v1 = 0)) (bTm (S.2.2.2.2.2.2.2.2.2.2.2.2.2.2.1 u 1) (fun u7 r7 => hb_Pa_row_16 N S G u7 (v1) (v2) (r7))) (bTm (S.2.2.2.2.2.2.2.2.2.2.2.2.2.2.2.2.2.1 u) (fun u8 r8 => hb_Pa_row_16 N S G u8 (v1) (v2) (r8)))
def hg_Pa_row (N : Nat) (S : SF_Pa_matched) : Nat → ((MS → Int32 → Int32 → Int32 → Int32 → Int32 → Option (MS × (Int32 ⊕ Nat))))
  | 0 => fun _ _ _ _ _ _ => none
  | n + 1 => hb_Pa_row_23 N S (hg_Pa_row N S n)
def hm_Pa_row (N : Nat) (S : SF_Pa_matched) (u : MS) (v1 : Int32) (v2 : Int32) : Option (MS × (Int32 ⊕ Nat)) := hb_Pa_row_0 N S (hg_Pa_row N S N) u v1 v2
def hb_Pa_rowUpTo_18 (N : Nat) (S : SF_Pa_matched) (G : Unit) (u : MS) (v3 : Int32) (t0 : Int32) : Option (MS × (Int32 ⊕ Nat)) := bTm (hm_Pa_need N u v3) (fun u1 r1 => some (u1, .inl t0))
def hb_Pa_rowUpTo_0 (N : Nat) (S : SF_Pa_matched) (G : Unit) (u : MS) (v1 : Int32) (v2 : Int32) (v3 : Int32) : Option (MS × (Int32 ⊕ Nat)) := bTm (hm_Pa_look N u) (fun u2 r2 => br (decide (r2 = v3)) (hb_Pa_rowUpTo_18 N S G u2 (v3) (0)) (bTm (S.2.2.2.2.2.2.2.2.2.2.2.2.2.2.2.2.2.2.1 u2 v1 v2) (fun u3 r3 => hb_Pa_rowUpTo_18 N S G u3 (v3) (r3))))
def hm_Pa_rowUpTo (N : Nat) (S : SF_Pa_matched) (u : MS) (v1 : Int32) (v2 : Int32) (v3 : Int32) : Option (MS × (Int32 ⊕ Nat)) := hb_Pa_rowUpTo_0 N S () u v1 v2 v3
def hrc_Pa_matched (N : Nat) : Nat → (SF_Pa_matched)
  | 0 => (fun _ _ => none, fun _ _ => none, fun _ => none, fun _ => none, fun _ => none, fun _ _ _ => none, fun _ => none, fun _ _ => none, fun _ => none, fun _ => none, fun _ => none, fun _ => none, fun _ => none, fun _ => none, fun _ _ => none, fun _ _ => none, fun _ _ => none, fun _ => none, fun _ _ _ => none, fun _ _ _ _ => none)
  | d + 1 => (hm_Pa_matched N (hrc_Pa_matched N d), hm_Pa_applied N (hrc_Pa_matched N d), hm_Pa_fun N (hrc_Pa_matched N d), hm_Pa_receive N (hrc_Pa_matched N d), hm_Pa_choice N (hrc_Pa_matched N d), hm_Pa_part N (hrc_Pa_matched N d), hm_Pa_oneCase N (hrc_Pa_matched N d), hm_Pa_parts N (hrc_Pa_matched N d), hm_Pa_caseOf N (hrc_Pa_matched N d), hm_Pa_body N (hrc_Pa_matched N d), hm_Pa_atomOrCall N (hrc_Pa_matched N d), hm_Pa_primary N (hrc_Pa_matched N d), hm_Pa_unit N (hrc_Pa_matched N d), hm_Pa_signed N (hrc_Pa_matched N d), hm_Pa_expression N (hrc_Pa_matched N d), hm_Pa_list N (hrc_Pa_matched N d), hm_Pa_tuple N (hrc_Pa_matched N d), hm_Pa_pattern N (hrc_Pa_matched N d), hm_Pa_row N (hrc_Pa_matched N d), hm_Pa_rowUpTo N (hrc_Pa_matched N d))
def hr_Pa_part (N : Nat) (u : MS) (v1 : Int32) (v2 : Int32) : Option (MS × (Int32 ⊕ Nat)) := (hrc_Pa_matched N 300).2.2.2.2.2.1 u v1 v2
def hr_Pa_rowUpTo (N : Nat) (u : MS) (v1 : Int32) (v2 : Int32) (v3 : Int32) : Option (MS × (Int32 ⊕ Nat)) := (hrc_Pa_matched N 300).2.2.2.2.2.2.2.2.2.2.2.2.2.2.2.2.2.2.2 u v1 v2 v3
def hb_Pa_clause_0 (N : Nat) (G : Unit) (u : MS) : Option (MS × (Int32 ⊕ Nat)) := bTm (hm_Pa_need N u 2) (fun u1 r1 => bTm (hm_Pa_need N u1 20) (fun u2 r2 => bTm (hr_Pa_rowUpTo N u2 1 6 21) (fun u3 r3 => bTm (hr_Pa_part N u3 r1 r3) (fun u4 r4 => some (u4, .inl r4)))))
def hm_Pa_clause (N : Nat) (u : MS) : Option (MS × (Int32 ⊕ Nat)) := hb_Pa_clause_0 N () u
def hb_Pa_oneFunction_58 (N : Nat) (G : (MS → Int32 → Int32 → Int32 → Int32 → Option (MS × (Unit ⊕ Nat)))) (u : MS) (v1 : Int32) (v2 : Int32) : Option (MS × (Unit ⊕ Nat)) := bTm (hm_Pa_need N u 28) (fun u1 r1 => ck (inb v1 4002) (ck (inb v2 8016) (bnd (hm_Tr_length N u1 (u1.2.2.1 18 v2.toNatClampNeg)) (fun u14 r14 => ck (inb v1 4002) (bnd (hm_Tr_length N u14 v2) (fun u22 r22 => bnd (hm_Co_addFunction N u22 (u1.2.2.1 7 v1.toNatClampNeg) r14 (u14.2.2.1 8 v1.toNatClampNeg) v2 r22) (fun u24 r24 => some (u24, .inl ()))))))))
def hb_Pa_oneFunction_15 (N : Nat) (G : (MS → Int32 → Int32 → Int32 → Int32 → Option (MS × (Unit ⊕ Nat)))) (u : MS) (v1 : Int32) (v2 : Int32) (v3 : Int32) (v4 : Int32) : Option (MS × (Unit ⊕ Nat)) := br (decide (4000 ≤ v4)) (hb_Pa_oneFunction_58 N G u (v1) (v2)) (bTm (hm_Pa_look N u) (fun u26 r26 => br (decide (r26 = 27)) (lt (upI u26 665 ((u26.1 665) + 1)) (fun w28 => bTm (hm_Pa_clause N w28) (fun u29 r29 => bnd (hm_Pa_chain N u29 v3 r29) (fun u30 r30 => G u30 (v1) (v2) (r30) ((v4 + 1)))))) (hb_Pa_oneFunction_58 N G u26 (v1) (v2))))
def hb_Pa_oneFunction_0 (N : Nat) (G : (MS → Int32 → Int32 → Int32 → Int32 → Option (MS × (Unit ⊕ Nat)))) (u : MS) : Option (MS × (Unit ⊕ Nat)) := bTm (hm_Pa_clause N u) (fun u32 r32 => G u32 ((u.1 665)) (r32) (r32) (0))
def hg_Pa_oneFunction (N : Nat) : Nat → ((MS → Int32 → Int32 → Int32 → Int32 → Option (MS × (Unit ⊕ Nat))))
  | 0 => fun _ _ _ _ _ => none
  | n + 1 => hb_Pa_oneFunction_15 N (hg_Pa_oneFunction N n)
def hm_Pa_oneFunction (N : Nat) (u : MS) : Option (MS × (Unit ⊕ Nat)) := hb_Pa_oneFunction_0 N (hg_Pa_oneFunction N N) u
def hb_Pa_parse_68 (N : Nat) (G : (MS → Int32 → Option (MS × Int32))) (u : MS) : Option (MS × Int32) := some (u, (u.1 667))
def hb_Pa_parse_64 (N : Nat) (G : (MS → Int32 → Option (MS × Int32))) (u : MS) : Option (MS × Int32) := some (u, 0)
def hb_Pa_parse_54 (N : Nat) (G : (MS → Int32 → Option (MS × Int32))) (u : MS) (v1 : Int32) : Option (MS × Int32) := bHm (hm_Pa_oneFunction N u) (fun u2 r2 => G u2 ((v1 + 1))) (fun u2 => hb_Pa_parse_68 N G u2)
def hb_Pa_parse_36 (N : Nat) (G : (MS → Int32 → Option (MS × Int32))) (u : MS) (v1 : Int32) : Option (MS × Int32) := br (decide (4000 < v1)) (hb_Pa_parse_64 N G u) (br (decide (v1 = 0)) (hb_Pa_parse_54 N G u (v1)) (bHm (hm_Pa_look N u) (fun u3 r3 => br (decide (r3 = 0)) (hb_Pa_parse_64 N G u3) (hb_Pa_parse_54 N G u3 (v1))) (fun u3 => hb_Pa_parse_68 N G u3)))
def hb_Pa_parse_0 (N : Nat) (G : (MS → Int32 → Option (MS × Int32))) (u : MS) : Option (MS × Int32) := bnd (hm_Tr_clear N u) (fun u5 r5 => bnd (hm_Co_clear N u5) (fun u8 r8 => lt (upI u8 664 0) (fun w10 => lt (upI w10 665 0) (fun w11 => lt (upI w11 666 0) (fun w12 => lt (upI w12 667 0) (fun w13 => G w13 (0)))))))
def hg_Pa_parse (N : Nat) : Nat → ((MS → Int32 → Option (MS × Int32)))
  | 0 => fun _ _ => none
  | n + 1 => hb_Pa_parse_36 N (hg_Pa_parse N n)
def hm_Pa_parse (N : Nat) (u : MS) : Option (MS × Int32) := hb_Pa_parse_0 N (hg_Pa_parse N N) u
def hb_Cm_predefinedOf_54 (N : Nat) (G : Unit) (u : MS) (t0 : Int32) : Option (MS × Int32) := some (u, t0)
def hb_Cm_predefinedOf_53 (N : Nat) (G : Unit) (u : MS) : Option (MS × Int32) := hb_Cm_predefinedOf_54 N G u ((-1))
def hb_Cm_predefinedOf_27 (N : Nat) (G : Unit) (u : MS) (v2 : Int32) (v3 : Int32) : Option (MS × Int32) := br (decide (v3 = (-1))) (hb_Cm_predefinedOf_53 N G u) (br (decide (29 ≤ v3)) (hb_Cm_predefinedOf_53 N G u) (ck (inb v3 29) (br (decide ((takL.getD v3.toNatClampNeg 0) = v2)) (hb_Cm_predefinedOf_54 N G u (v3)) (hb_Cm_predefinedOf_53 N G u))))
def hb_Cm_predefinedOf_0 (N : Nat) (G : Unit) (u : MS) (v1 : Int32) (v2 : Int32) : Option (MS × Int32) := bnd (hm_Wo_seekIn N u 1 36 v1) (fun u3 r3 => br (decide (r3 = 7)) (br (decide (v2 = 2)) (some (u3, 29)) (hb_Cm_predefinedOf_27 N G u3 (v2) (r3))) (hb_Cm_predefinedOf_27 N G u3 (v2) (r3)))
def hm_Cm_predefinedOf (N : Nat) (u : MS) (v1 : Int32) (v2 : Int32) : Option (MS × Int32) := hb_Cm_predefinedOf_0 N () u v1 v2
def hb_Cm_fault_0 (N : Nat) (G : Unit) (u : MS) (v1 : Int32) (v2 : Int32) : Option (MS × Unit) := lt (if ((v1 * 16) + v2) < (u.1 714) then ((v1 * 16) + v2) else (u.1 714)) (fun y2 => lt (upI u 714 y2) (fun w3 => some (w3, ())))
def hm_Cm_fault (N : Nat) (u : MS) (v1 : Int32) (v2 : Int32) : Option (MS × Unit) := hb_Cm_fault_0 N () u v1 v2
def hb_Cm_bind_32 (N : Nat) (G : Unit) (u : MS) : Option (MS × Unit) := ck (inb (u.1 709) 32) (ck (inb (u.1 709) 32) (lt (if (u.2.2.1 41 (u.1 709).toNatClampNeg) < ((u.1 706) - (u.2.2.1 40 (u.1 709).toNatClampNeg)) then ((u.1 706) - (u.2.2.1 40 (u.1 709).toNatClampNeg)) else (u.2.2.1 41 (u.1 709).toNatClampNeg)) (fun y12 => ck (inb (u.1 709) 32) (lt (upA u 41 (upd (u.2.2.1 41) (u.1 709).toNatClampNeg y12)) (fun w14 => some (w14, ()))))))
def hb_Cm_bind_0 (N : Nat) (G : Unit) (u : MS) (v1 : Int32) : Option (MS × Unit) := br (decide (4000 ≤ (u.1 706))) (hb_Cm_bind_32 N G u) (ck (inb (u.1 706) 4000) (lt (upA u 39 (upd (u.2.2.1 39) (u.1 706).toNatClampNeg v1)) (fun w22 => lt (upI w22 706 ((w22.1 706) + 1)) (fun w24 => hb_Cm_bind_32 N G w24))))
def hm_Cm_bind (N : Nat) (u : MS) (v1 : Int32) : Option (MS × Unit) := hb_Cm_bind_0 N () u v1
def hb_Cm_nameInPattern_92 (N : Nat) (G : Unit) (u : MS) : Option (MS × Unit) := some (u, ())
def hb_Cm_nameInPattern_46 (N : Nat) (G : Unit) (u : MS) (v1 : Int32) (t1 : Int32) (t2 : Int32) (t3 : Int32) : Option (MS × Unit) := bnd (hm_Cm_isBound N u t1 t2 t3) (fun u1 r1 => br (decide (r1 = 0)) (bnd (hm_Co_put N u1 4) (fun u3 r3 => bnd (hm_Co_put N u3 v1) (fun u6 r6 => bnd (hm_Cm_bind N u6 v1) (fun u8 r8 => hb_Cm_nameInPattern_92 N G u8)))) (bnd (hm_Co_put N u1 3) (fun u10 r10 => bnd (hm_Co_put N u10 v1) (fun u13 r13 => hb_Cm_nameInPattern_92 N G u13))))
def hb_Cm_nameInPattern_0 (N : Nat) (G : Unit) (u : MS) (v1 : Int32) (v2 : Int32) : Option (MS × Unit) := ck (inb v2 4002) (lt (upA u 42 (upd (u.2.2.1 42) v2.toNatClampNeg 32)) (fun w17 => br (decide (v1 = 0)) (bnd (hm_Co_put N w17 5) (fun u24 r24 => hb_Cm_nameInPattern_92 N G u24)) (br (decide ((w17.1 713) = 0)) (hb_Cm_nameInPattern_46 N G w17 (v1) (v1) (v2) (0)) (ck (inb (w17.1 709) 32) (hb_Cm_nameInPattern_46 N G w17 (v1) (v1) (v2) ((w17.2.2.1 40 (w17.1 709).toNatClampNeg)))))))
def hm_Cm_nameInPattern (N : Nat) (u : MS) (v1 : Int32) (v2 : Int32) : Option (MS × Unit) := hb_Cm_nameInPattern_0 N () u v1 v2
abbrev SF_Cm_listPattern : Type := (MS → Int32 → Option (MS × Unit)) × (MS → Int32 → Option (MS × Unit))
def hb_Cm_listPattern_84 (N : Nat) (S : SF_Cm_listPattern) (G : (MS → Int32 → Int32 → Option (MS × Unit))) (u : MS) : Option (MS × Unit) := some (u, ())
def hb_Cm_listPattern_10 (N : Nat) (S : SF_Cm_listPattern) (G : (MS → Int32 → Int32 → Option (MS × Unit))) (u : MS) (v1 : Int32) (v2 : Int32) : Option (MS × Unit) := br (decide (v2 = 0)) (ck (inb v1 8016) (br (decide ((u.2.2.1 20 v1.toNatClampNeg) = 0)) (bnd (hm_Co_put N u 1) (fun u7 r7 => bnd (hm_Cm_term N u7 6 0) (fun u9 r9 => hb_Cm_listPattern_84 N S G u9))) (ck (inb v1 8016) (bnd (S.2 u (u.2.2.1 20 v1.toNatClampNeg)) (fun u15 r15 => hb_Cm_listPattern_84 N S G u15))))) (bnd (hm_Co_put N u 7) (fun u17 r17 => bnd (S.2 u17 v2) (fun u19 r19 => ck (inb v2 8016) (G u19 (v1) ((u19.2.2.1 21 v2.toNatClampNeg))))))
def hb_Cm_listPattern_0 (N : Nat) (S : SF_Cm_listPattern) (G : (MS → Int32 → Int32 → Option (MS × Unit))) (u : MS) (v1 : Int32) : Option (MS × Unit) := ck (inb v1 8016) (G u (v1) ((u.2.2.1 18 v1.toNatClampNeg)))
def hg_Cm_listPattern (N : Nat) (S : SF_Cm_listPattern) : Nat → ((MS → Int32 → Int32 → Option (MS × Unit)))
  | 0 => fun _ _ _ => none
  | n + 1 => hb_Cm_listPattern_10 N S (hg_Cm_listPattern N S n)
def hm_Cm_listPattern (N : Nat) (S : SF_Cm_listPattern) (u : MS) (v1 : Int32) : Option (MS × Unit) := hb_Cm_listPattern_0 N S (hg_Cm_listPattern N S N) u v1
def hb_Cm_pattern_298 (N : Nat) (S : SF_Cm_listPattern) (G : (MS → Int32 → Option (MS × Unit))) (u : MS) : Option (MS × Unit) := some (u, ())
def hb_Cm_pattern_268 (N : Nat) (S : SF_Cm_listPattern) (G : (MS → Int32 → Option (MS × Unit))) (u : MS) (v2 : Int32) : Option (MS × Unit) := br (decide (v2 = 0)) (hb_Cm_pattern_298 N S G u) (bnd (S.2 u v2) (fun u1 r1 => ck (inb v2 8016) (G u1 ((u1.2.2.1 21 v2.toNatClampNeg)))))
def hb_Cm_pattern_0 (N : Nat) (S : SF_Cm_listPattern) (G : (MS → Int32 → Option (MS × Unit))) (u : MS) (v1 : Int32) : Option (MS × Unit) := ck (inb v1 8016) (br (decide ((u.2.2.1 16 v1.toNatClampNeg) = 1)) (bnd (hm_Co_put N u 1) (fun u13 r13 => ck (inb v1 8016) (bnd (hm_Cm_term N u13 0 (u13.2.2.1 18 v1.toNatClampNeg)) (fun u20 r20 => hb_Cm_pattern_298 N S G u20)))) (br (decide ((u.2.2.1 16 v1.toNatClampNeg) = 2)) (bnd (hm_Co_put N u 1) (fun u22 r22 => ck (inb v1 8016) (bnd (hm_Cm_term N u22 1 (u22.2.2.1 18 v1.toNatClampNeg)) (fun u29 r29 => hb_Cm_pattern_298 N S G u29)))) (br (decide ((u.2.2.1 16 v1.toNatClampNeg) = 3)) (ck (inb v1 8016) (ck (inb v1 8016) (bnd (hm_Cm_nameInPattern N u (u.2.2.1 18 v1.toNatClampNeg) (u.2.2.1 17 v1.toNatClampNeg)) (fun u40 r40 => hb_Cm_pattern_298 N S G u40)))) (br (decide ((u.2.2.1 16 v1.toNatClampNeg) = 4)) (bnd (hm_Co_put N u 2) (fun u42 r42 => bnd (hm_Cm_string N u42 v1) (fun u44 r44 => hb_Cm_pattern_298 N S G u44))) (br (decide ((u.2.2.1 16 v1.toNatClampNeg) = 5)) (ck (inb v1 8016) (bnd (S.2 u (u.2.2.1 18 v1.toNatClampNeg)) (fun u50 r50 => hb_Cm_pattern_298 N S G u50))) (br (decide ((u.2.2.1 16 v1.toNatClampNeg) = 6)) (bnd (hm_Co_put N u 6) (fun u52 r52 => ck (inb v1 8016) (bnd (hm_Co_put N u52 (u52.2.2.1 19 v1.toNatClampNeg)) (fun u60 r60 => ck (inb v1 8016) (G u60 ((u60.2.2.1 18 v1.toNatClampNeg))))))) (br (decide ((u.2.2.1 16 v1.toNatClampNeg) = 7)) (bnd (S.1 u v1) (fun u67 r67 => hb_Cm_pattern_298 N S G u67)) (br (decide ((u.2.2.1 16 v1.toNatClampNeg) = 8)) (bnd (S.1 u v1) (fun u68 r68 => hb_Cm_pattern_298 N S G u68)) (br (decide ((u.2.2.1 16 v1.toNatClampNeg) = 9)) (bnd (S.1 u v1) (fun u69 r69 => hb_Cm_pattern_298 N S G u69)) (br (decide ((u.2.2.1 16 v1.toNatClampNeg) = 10)) (bnd (S.1 u v1) (fun u70 r70 => hb_Cm_pattern_298 N S G u70)) (br (decide ((u.2.2.1 16 v1.toNatClampNeg) = 11)) (bnd (S.1 u v1) (fun u71 r71 => hb_Cm_pattern_298 N S G u71)) (br (decide ((u.2.2.1 16 v1.toNatClampNeg) = 12)) (bnd (S.1 u v1) (fun u72 r72 => hb_Cm_pattern_298 N S G u72)) (br (decide ((u.2.2.1 16 v1.toNatClampNeg) = 13)) (bnd (S.1 u v1) (fun u73 r73 => hb_Cm_pattern_298 N S G u73)) (br (decide ((u.2.2.1 16 v1.toNatClampNeg) = 14)) (bnd (S.1 u v1) (fun u74 r74 => hb_Cm_pattern_298 N S G u74)) (br (decide ((u.2.2.1 16 v1.toNatClampNeg) = 15)) (bnd (S.1 u v1) (fun u75 r75 => hb_Cm_pattern_298 N S G u75)) (br (decide ((u.2.2.1 16 v1.toNatClampNeg) = 16)) (bnd (S.1 u v1) (fun u76 r76 => hb_Cm_pattern_298 N S G u76)) (br (decide ((u.2.2.1 16 v1.toNatClampNeg) = 17)) (bnd (hm_Co_put N u 1) (fun u78 r78 => ck (inb v1 8016) (ck (inb (u78.2.2.1 18 v1.toNatClampNeg) 8016) (bnd (hm_Cm_term N u78 0 (-(u78.2.2.1 18 (u78.2.2.1 18 v1.toNatClampNeg).toNatClampNeg))) (fun u90 r90 => hb_Cm_pattern_298 N S G u90))))) (bnd (S.1 u v1) (fun u91 r91 => hb_Cm_pattern_298 N S G u91)))))))))))))))))))
def hg_Cm_pattern (N : Nat) (S : SF_Cm_listPattern) : Nat → ((MS → Int32 → Option (MS × Unit)))
  | 0 => fun _ _ => none
  | n + 1 => hb_Cm_pattern_268 N S (hg_Cm_pattern N S n)
def hm_Cm_pattern (N : Nat) (S : SF_Cm_listPattern) (u : MS) (v1 : Int32) : Option (MS × Unit) := hb_Cm_pattern_0 N S (hg_Cm_pattern N S N) u v1
def hrc_Cm_listPattern (N : Nat) : Nat → (SF_Cm_listPattern)
  | 0 => (fun _ _ => none, fun _ _ => none)
  | d + 1 => (hm_Cm_listPattern N (hrc_Cm_listPattern N d), hm_Cm_pattern N (hrc_Cm_listPattern N d))
def hr_Cm_pattern (N : Nat) (u : MS) (v1 : Int32) : Option (MS × Unit) := (hrc_Cm_listPattern N 300).2 u v1
def hb_Cm_notInGuard_14 (N : Nat) (G : Unit) (u : MS) : Option (MS × Unit) := some (u, ())
def hb_Cm_notInGuard_0 (N : Nat) (G : Unit) (u : MS) (v1 : Int32) : Option (MS × Unit) := br (decide ((u.1 712) = 0)) (hb_Cm_notInGuard_14 N G u) (bnd (hm_Cm_fault N u v1 7) (fun u2 r2 => hb_Cm_notInGuard_14 N G u2))
def hm_Cm_notInGuard (N : Nat) (u : MS) (v1 : Int32) : Option (MS × Unit) := hb_Cm_notInGuard_0 N () u v1
def hb_Cm_joining_106 (N : Nat) (G : Unit) (u : MS) (v1 : Int32) : Option (MS × Unit) := bnd (hm_Co_put N u v1) (fun u2 r2 => some (u2, ()))
def hb_Cm_joining_0 (N : Nat) (G : Unit) (u : MS) (v1 : Int32) (v2 : Int32) : Option (MS × Unit) := br (decide (v1 = 10)) (bnd (hm_Co_put N u 9) (fun u5 r5 => hb_Cm_joining_106 N G u5 (v1))) (br (decide (v1 = 18)) (bnd (hm_Co_put N u 9) (fun u8 r8 => hb_Cm_joining_106 N G u8 (v1))) (br (decide (v1 = 33)) (bnd (hm_Co_put N u 9) (fun u11 r11 => hb_Cm_joining_106 N G u11 (v1))) (br (decide (v1 = 34)) (bnd (hm_Co_put N u 9) (fun u14 r14 => hb_Cm_joining_106 N G u14 (v1))) (br (decide (v1 = 35)) (bnd (hm_Co_put N u 9) (fun u17 r17 => hb_Cm_joining_106 N G u17 (v1))) (br (decide (v1 = 43)) (bnd (hm_Cm_notInGuard N u v2) (fun u19 r19 => bnd (hm_Co_put N u19 10) (fun u21 r21 => hb_Cm_joining_106 N G u21 (v1)))) (br (decide (v1 = 44)) (bnd (hm_Cm_notInGuard N u v2) (fun u23 r23 => bnd (hm_Co_put N u23 10) (fun u25 r25 => hb_Cm_joining_106 N G u25 (v1)))) (bnd (hm_Co_put N u 8) (fun u28 r28 => hb_Cm_joining_106 N G u28 (v1)))))))))
def hm_Cm_joining (N : Nat) (u : MS) (v1 : Int32) (v2 : Int32) : Option (MS × Unit) := hb_Cm_joining_0 N () u v1 v2
def hb_Cm_funOf_48 (N : Nat) (G : Unit) (u : MS) (v2 : Int32) : Option (MS × Unit) := bnd (hm_Co_put N u 7) (fun u2 r2 => bnd (hm_Co_put N u2 v2) (fun u5 r5 => some (u5, ())))
def hb_Cm_funOf_0 (N : Nat) (G : Unit) (u : MS) (v1 : Int32) : Option (MS × Unit) := ck (inb v1 8016) (ck (inb v1 8016) (bnd (hm_Co_seek N u (u.2.2.1 18 v1.toNatClampNeg) (u.2.2.1 19 v1.toNatClampNeg)) (fun u18 r18 => br (decide (r18 = (-1))) (ck (inb v1 8016) (bnd (hm_Cm_fault N u18 ((u18.2.2.1 17 v1.toNatClampNeg) + 1) 6) (fun u25 r25 => hb_Cm_funOf_48 N G u25 (r18)))) (hb_Cm_funOf_48 N G u18 (r18)))))
def hm_Cm_funOf (N : Nat) (u : MS) (v1 : Int32) : Option (MS × Unit) := hb_Cm_funOf_0 N () u v1
abbrev SF_Cm_fun : Type := (MS → Int32 → Option (MS × Unit)) × (MS → Int32 → Int32 → Option (MS × Unit)) × (MS → Int32 → Int32 → Int32 → Int32 → Option (MS × Int32)) × (MS → Int32 → Int32 → Option (MS × Unit)) × (MS → Int32 → Int32 → Option (MS × Unit)) × (MS → Int32 → Int32 → Option (MS × Unit)) × (MS → Int32 → Int32 → Option (MS × Unit)) × (MS → Int32 → Option (MS × Unit)) × (MS → Int32 → Option (MS × Unit)) × (MS → Int32 → Option (MS × Unit)) × (MS → Int32 → Int32 → Option (MS × Unit)) × (MS → Int32 → Int32 → Option (MS × Int32)) × (MS → Int32 → Int32 → Int32 → Option (MS × Unit))
def hb_Cm_fun_308 (N : Nat) (S : SF_Cm_fun) (G : Unit) (u : MS) (t1 : Int32) : Option (MS × Unit) := ck (isb t1) (lt (upI u 711 t1) (fun w1 => some (w1, ())))
def hb_Cm_fun_303 (N : Nat) (S : SF_Cm_fun) (G : Unit) (u : MS) : Option (MS × Unit) := hb_Cm_fun_308 N S G u (1)
def hb_Cm_fun_0 (N : Nat) (S : SF_Cm_fun) (G : Unit) (u : MS) (v1 : Int32) : Option (MS × Unit) := ck (inb v1 8016) (ck (inb v1 8016) (ck (inb (u.2.2.1 19 v1.toNatClampNeg) 8016) (bnd (hm_Tr_length N u (u.2.2.1 18 (u.2.2.1 19 v1.toNatClampNeg).toNatClampNeg)) (fun u18 r18 => lt (upI u18 712 0) (fun w21 => bnd (hm_Co_put N w21 18) (fun u23 r23 => bnd (hm_Co_hook N u23 0) (fun u26 r26 => ck (inb (u.2.2.1 18 v1.toNatClampNeg) 400) (lt (upA u26 30 (upd (u26.2.2.1 30) (u.2.2.1 18 v1.toNatClampNeg).toNatClampNeg r18)) (fun w32 => ck (inb (u.2.2.1 18 v1.toNatClampNeg) 400) (lt (upA w32 31 (upd (w32.2.2.1 31) (u.2.2.1 18 v1.toNatClampNeg).toNatClampNeg (w32.1 441))) (fun w40 => lt (if 31 < ((w40.1 709) + 1) then 31 else ((w40.1 709) + 1)) (fun y42 => lt (upI w40 709 y42) (fun w43 => ck (inb (w43.1 709) 32) (lt (upA w43 40 (upd (w43.2.2.1 40) (w43.1 709).toNatClampNeg (w43.1 706))) (fun w48 => ck (inb (w48.1 709) 32) (lt (upA w48 41 (upd (w48.2.2.1 41) (w48.1 709).toNatClampNeg 0)) (fun w52 => ck (inb v1 8016) (ck (inb (w52.2.2.1 17 v1.toNatClampNeg) 4002) (bnd (S.2.2.2.2.2.2.2.2.2.2.2.2 w52 (u.2.2.1 19 v1.toNatClampNeg) r18 (w52.2.2.1 8 (w52.2.2.1 17 v1.toNatClampNeg).toNatClampNeg)) (fun u63 r63 => bnd (hm_Co_put N u63 36) (fun u65 r65 => ck (inb (u65.1 709) 32) (lt (upI u65 709 ((u65.1 709) - 1)) (fun w72 => ck (isb (u18.1 712)) (lt (upI w72 712 (u18.1 712)) (fun w73 => bnd (hm_Co_arrive N w73 r26) (fun u75 r75 => bnd (hm_Co_put N u75 6) (fun u78 r78 => bnd (hm_Co_put N u78 (u.2.2.1 18 v1.toNatClampNeg)) (fun u81 r81 => ck (inb (u.2.2.1 18 v1.toNatClampNeg) 400) (lt (upA u81 32 (upd (u81.2.2.1 32) (u.2.2.1 18 v1.toNatClampNeg).toNatClampNeg (u81.1 441))) (fun w90 => bnd (hm_Co_put N w90 0) (fun u92 r92 => ck (inb v1 8016) (ck (inb v1 8016) (bnd (hm_Cm_hold N u92 (u92.2.2.1 17 v1.toNatClampNeg) (u92.2.2.1 20 v1.toNatClampNeg)) (fun u104 r104 => ck (inb (u.2.2.1 18 v1.toNatClampNeg) 400) (bnd (hm_Co_set N u104 (u104.2.2.1 32 (u.2.2.1 18 v1.toNatClampNeg).toNatClampNeg) r104) (fun u111 r111 => br (decide ((u111.1 711) = 0)) (br (decide (((u65.2.2.1 41 (u65.1 709).toNatClampNeg) + r104) ≤ 40)) (hb_Cm_fun_308 N S G u111 (0)) (hb_Cm_fun_303 N S G u111)) (hb_Cm_fun_303 N S G u111)))))))))))))))))))))))))))))))))))))
def hm_Cm_fun (N : Nat) (S : SF_Cm_fun) (u : MS) (v1 : Int32) : Option (MS × Unit) := hb_Cm_fun_0 N S () u v1
def hb_Cm_receive_173 (N : Nat) (S : SF_Cm_fun) (G : Unit) (u : MS) (v7 : Int32) : Option (MS × Unit) := bnd (hm_Co_arrive N u v7) (fun u2 r2 => some (u2, ()))
def hb_Cm_receive_71 (N : Nat) (S : SF_Cm_fun) (G : Unit) (u : MS) (v1 : Int32) (v2 : Int32) (v3 : Int32) (v4 : Int32) (t1 : Int32) : Option (MS × Unit) := bnd (hm_Co_put N u t1) (fun u4 r4 => bnd (hm_Co_put N u4 32) (fun u10 r10 => bnd (hm_Co_hook N u10 0) (fun u13 r13 => ck (inb v1 8016) (bnd (S.2.2.1 u13 (u13.2.2.1 19 v1.toNatClampNeg) (-2) 33 v2) (fun u20 r20 => bnd (hm_Co_put N u20 34) (fun u22 r22 => bnd (hm_Co_put N u22 (u4.1 441)) (fun u25 r25 => bnd (hm_Co_arrive N u25 r13) (fun u28 r28 => br (decide (v4 = 0)) (hb_Cm_receive_173 N S G u28 (r20)) (ck (inb v1 8016) (bnd (S.2.2.2.1 u28 (u28.2.2.1 20 v1.toNatClampNeg) v2) (fun u35 r35 => bnd (hm_Cm_forget N u35 v3) (fun u36 r36 => hb_Cm_receive_173 N S G u36 (r20)))))))))))))
def hb_Cm_receive_48 (N : Nat) (S : SF_Cm_fun) (G : Unit) (u : MS) (v1 : Int32) (v2 : Int32) (v3 : Int32) (v4 : Int32) : Option (MS × Unit) := bnd (hm_Co_put N u 31) (fun u38 r38 => br (decide (v4 = 0)) (hb_Cm_receive_71 N S G u38 (v1) (v2) (v3) (v4) (0)) (hb_Cm_receive_71 N S G u38 (v1) (v2) (v3) (v4) (1)))
def hb_Cm_receive_22 (N : Nat) (S : SF_Cm_fun) (G : Unit) (u : MS) (v1 : Int32) (v2 : Int32) (v3 : Int32) (t0 : Int32) : Option (MS × Unit) := br (decide (t0 = 0)) (hb_Cm_receive_48 N S G u (v1) (v2) (v3) (t0)) (ck (inb v1 8016) (bnd (S.2.2.2.2.2.2.2.2.2.2.1 u (u.2.2.1 18 v1.toNatClampNeg) 0) (fun u46 r46 => bnd (hm_Cm_forget N u46 v3) (fun u47 r47 => hb_Cm_receive_48 N S G u47 (v1) (v2) (v3) (t0)))))
def hb_Cm_receive_0 (N : Nat) (S : SF_Cm_fun) (G : Unit) (u : MS) (v1 : Int32) (v2 : Int32) : Option (MS × Unit) := ck (inb v1 8016) (br (decide ((u.2.2.1 18 v1.toNatClampNeg) = 0)) (hb_Cm_receive_22 N S G u (v1) (v2) ((u.1 706)) (0)) (hb_Cm_receive_22 N S G u (v1) (v2) ((u.1 706)) (1)))
def hm_Cm_receive (N : Nat) (S : SF_Cm_fun) (u : MS) (v1 : Int32) (v2 : Int32) : Option (MS × Unit) := hb_Cm_receive_0 N S () u v1 v2
def hb_Cm_parts_38 (N : Nat) (S : SF_Cm_fun) (G : (MS → Int32 → Int32 → Int32 → Int32 → Int32 → Option (MS × Int32))) (u : MS) (v2 : Int32) (v3 : Int32) (v4 : Int32) (v5 : Int32) (v6 : Int32) (v7 : Int32) (v8 : Int32) : Option (MS × Int32) := ck (inb v6 8016) (bnd (S.2.2.2.1 u (u.2.2.1 20 v6.toNatClampNeg) v4) (fun u6 r6 => bnd (hm_Cm_forget N u6 v7) (fun u7 r7 => bnd (hm_Co_put N u7 18) (fun u9 r9 => bnd (hm_Co_hook N u9 v5) (fun u12 r12 => bnd (hm_Co_arrive N u12 v8) (fun u15 r15 => ck (inb v6 8016) (G u15 (v2) (v3) (v4) (r12) ((u15.2.2.1 21 v6.toNatClampNeg)))))))))
def hb_Cm_parts_6 (N : Nat) (S : SF_Cm_fun) (G : (MS → Int32 → Int32 → Int32 → Int32 → Int32 → Option (MS × Int32))) (u : MS) (v2 : Int32) (v3 : Int32) (v4 : Int32) (v5 : Int32) (v6 : Int32) : Option (MS × Int32) := br (decide (v6 = 0)) (some (u, v5)) (bnd (S.2.2.2.2.2.2.2.2.2.2.2.1 u v2 v6) (fun u23 r23 => br (decide (v3 = 0)) (hb_Cm_parts_38 N S G u23 (v2) (v3) (v4) (v5) (v6) ((u.1 706)) (r23)) (bnd (hm_Co_put N u23 v3) (fun u25 r25 => hb_Cm_parts_38 N S G u25 (v2) (v3) (v4) (v5) (v6) ((u.1 706)) (r23)))))
def hb_Cm_parts_0 (N : Nat) (S : SF_Cm_fun) (G : (MS → Int32 → Int32 → Int32 → Int32 → Int32 → Option (MS × Int32))) (u : MS) (v1 : Int32) (v2 : Int32) (v3 : Int32) (v4 : Int32) : Option (MS × Int32) := G u (v2) (v3) (v4) (0) (v1)
def hg_Cm_parts (N : Nat) (S : SF_Cm_fun) : Nat → ((MS → Int32 → Int32 → Int32 → Int32 → Int32 → Option (MS × Int32)))
  | 0 => fun _ _ _ _ _ _ => none
  | n + 1 => hb_Cm_parts_6 N S (hg_Cm_parts N S n)
def hm_Cm_parts (N : Nat) (S : SF_Cm_fun) (u : MS) (v1 : Int32) (v2 : Int32) (v3 : Int32) (v4 : Int32) : Option (MS × Int32) := hb_Cm_parts_0 N S (hg_Cm_parts N S N) u v1 v2 v3 v4
def hb_Cm_body_58 (N : Nat) (S : SF_Cm_fun) (G : (MS → Int32 → Int32 → Option (MS × Unit))) (u : MS) (v2 : Int32) (v3 : Int32) : Option (MS × Unit) := ck (inb v3 8016) (G u (v2) ((u.2.2.1 21 v3.toNatClampNeg)))
def hb_Cm_body_41 (N : Nat) (S : SF_Cm_fun) (G : (MS → Int32 → Int32 → Option (MS × Unit))) (u : MS) (v2 : Int32) (v3 : Int32) (v4 : Int32) (t1 : Int32) (t2 : Int32) : Option (MS × Unit) := bnd (S.2.2.2.2.2.2.2.2.2.2.1 u t1 t2) (fun u6 r6 => br (decide (v4 = 0)) (hb_Cm_body_58 N S G u6 (v2) (v3)) (bnd (hm_Co_put N u6 15) (fun u8 r8 => hb_Cm_body_58 N S G u8 (v2) (v3))))
def hb_Cm_body_40 (N : Nat) (S : SF_Cm_fun) (G : (MS → Int32 → Int32 → Option (MS × Unit))) (u : MS) (v2 : Int32) (v3 : Int32) (v4 : Int32) (t1 : Int32) : Option (MS × Unit) := hb_Cm_body_41 N S G u (v2) (v3) (v4) (t1) (0)
def hb_Cm_body_23 (N : Nat) (S : SF_Cm_fun) (G : (MS → Int32 → Int32 → Option (MS × Unit))) (u : MS) (v2 : Int32) (v3 : Int32) (t0 : Int32) : Option (MS × Unit) := br (decide (v2 = 0)) (hb_Cm_body_40 N S G u (v2) (v3) (t0) (v3)) (br (decide (t0 = 0)) (hb_Cm_body_41 N S G u (v2) (v3) (t0) (v3) (1)) (hb_Cm_body_40 N S G u (v2) (v3) (t0) (v3)))
def hb_Cm_body_2 (N : Nat) (S : SF_Cm_fun) (G : (MS → Int32 → Int32 → Option (MS × Unit))) (u : MS) (v2 : Int32) (v3 : Int32) : Option (MS × Unit) := br (decide (v3 = 0)) (some (u, ())) (ck (inb v3 8016) (br (decide ((u.2.2.1 21 v3.toNatClampNeg) = 0)) (hb_Cm_body_23 N S G u (v2) (v3) (0)) (hb_Cm_body_23 N S G u (v2) (v3) (1))))
def hb_Cm_body_0 (N : Nat) (S : SF_Cm_fun) (G : (MS → Int32 → Int32 → Option (MS × Unit))) (u : MS) (v1 : Int32) (v2 : Int32) : Option (MS × Unit) := G u (v2) (v1)
def hg_Cm_body (N : Nat) (S : SF_Cm_fun) : Nat → ((MS → Int32 → Int32 → Option (MS × Unit)))
  | 0 => fun _ _ _ => none
  | n + 1 => hb_Cm_body_2 N S (hg_Cm_body N S n)
def hm_Cm_body (N : Nat) (S : SF_Cm_fun) (u : MS) (v1 : Int32) (v2 : Int32) : Option (MS × Unit) := hb_Cm_body_0 N S (hg_Cm_body N S N) u v1 v2
def hb_Cm_compound_455 (N : Nat) (S : SF_Cm_fun) (G : Unit) (u : MS) : Option (MS × Unit) := some (u, ())
def hb_Cm_compound_72 (N : Nat) (S : SF_Cm_fun) (G : Unit) (u : MS) (t1 : Int32) : Option (MS × Unit) := bnd (hm_Co_put N u t1) (fun u1 r1 => some (u1, ()))
def hb_Cm_compound_33 (N : Nat) (S : SF_Cm_fun) (G : Unit) (u : MS) (v1 : Int32) : Option (MS × Unit) := ck (inb v1 8016) (bnd (S.2.2.2.2.2.2.2.2.2.2.1 u (u.2.2.1 18 v1.toNatClampNeg) 0) (fun u8 r8 => ck (inb v1 8016) (br (decide ((u8.2.2.1 16 v1.toNatClampNeg) = 18)) (hb_Cm_compound_72 N S G u8 (12)) (hb_Cm_compound_72 N S G u8 (11)))))
def hb_Cm_compound_0 (N : Nat) (S : SF_Cm_fun) (G : Unit) (u : MS) (v1 : Int32) (v2 : Int32) : Option (MS × Unit) := ck (inb v1 8016) (br (decide ((u.2.2.1 16 v1.toNatClampNeg) = 17)) (hb_Cm_compound_33 N S G u (v1)) (ck (inb v1 8016) (br (decide ((u.2.2.1 16 v1.toNatClampNeg) = 18)) (hb_Cm_compound_33 N S G u (v1)) (ck (inb v1 8016) (bnd (hm_Cm_notInGuard N u (u.2.2.1 17 v1.toNatClampNeg)) (fun u31 r31 => ck (inb v1 8016) (br (decide ((u31.2.2.1 16 v1.toNatClampNeg) = 8)) (ck (inb v1 8016) (bnd (S.2.2.2.1 u31 (u31.2.2.1 18 v1.toNatClampNeg) v2) (fun u42 r42 => bnd (hm_Cm_forget N u42 (u.1 706)) (fun u43 r43 => hb_Cm_compound_455 N S G u43)))) (br (decide ((u31.2.2.1 16 v1.toNatClampNeg) = 9)) (ck (inb v1 8016) (bnd (S.2.2.2.2.2.2.2.2.2.2.1 u31 (u31.2.2.1 18 v1.toNatClampNeg) 0) (fun u49 r49 => ck (inb v1 8016) (bnd (S.2.2.1 u49 (u49.2.2.1 19 v1.toNatClampNeg) (-1) 15 v2) (fun u55 r55 => bnd (hm_Co_put N u55 37) (fun u57 r57 => bnd (hm_Co_arrive N u57 r55) (fun u60 r60 => hb_Cm_compound_455 N S G u60))))))) (br (decide ((u31.2.2.1 16 v1.toNatClampNeg) = 10)) (ck (inb v1 8016) (bnd (S.2.2.1 u31 (u31.2.2.1 19 v1.toNatClampNeg) (-1) 0 v2) (fun u67 r67 => bnd (hm_Co_put N u67 38) (fun u69 r69 => bnd (hm_Co_arrive N u69 r67) (fun u72 r72 => hb_Cm_compound_455 N S G u72))))) (br (decide ((u31.2.2.1 16 v1.toNatClampNeg) = 11)) (bnd (S.2.1 u31 v1 v2) (fun u74 r74 => hb_Cm_compound_455 N S G u74)) (br (decide ((u31.2.2.1 16 v1.toNatClampNeg) = 12)) (bnd (S.1 u31 v1) (fun u75 r75 => hb_Cm_compound_455 N S G u75)) (br (decide ((u31.2.2.1 16 v1.toNatClampNeg) = 13)) (bnd (hm_Cm_funOf N u31 v1) (fun u76 r76 => hb_Cm_compound_455 N S G u76)) (br (decide ((u31.2.2.1 16 v1.toNatClampNeg) = 14)) (hb_Cm_compound_455 N S G u31) (br (decide ((u31.2.2.1 16 v1.toNatClampNeg) = 15)) (hb_Cm_compound_455 N S G u31) (br (decide ((u31.2.2.1 16 v1.toNatClampNeg) = 16)) (hb_Cm_compound_455 N S G u31) (br (decide ((u31.2.2.1 16 v1.toNatClampNeg) = 17)) (hb_Cm_compound_455 N S G u31) (br (decide ((u31.2.2.1 16 v1.toNatClampNeg) = 18)) (hb_Cm_compound_455 N S G u31) (br (decide ((u31.2.2.1 16 v1.toNatClampNeg) = 19)) (bnd (hm_Co_put N u31 29) (fun u78 r78 => bnd (hm_Co_hook N u78 0) (fun u81 r81 => ck (inb v1 8016) (bnd (S.2.2.2.2.2.2.2.2.2.2.1 u81 (u81.2.2.1 18 v1.toNatClampNeg) 0) (fun u88 r88 => bnd (hm_Co_put N u88 30) (fun u90 r90 => bnd (hm_Cm_forget N u90 (u.1 706)) (fun u92 r92 => bnd (hm_Co_arrive N u92 r81) (fun u94 r94 => hb_Cm_compound_455 N S G u94)))))))) (br (decide ((u31.2.2.1 16 v1.toNatClampNeg) = 20)) (ck (inb v1 8016) (bnd (S.2.2.2.2.2.2.2.2.2.2.1 u31 (u31.2.2.1 19 v1.toNatClampNeg) 0) (fun u101 r101 => bnd (hm_Co_put N u101 20) (fun u103 r103 => ck (inb v1 8016) (bnd (hr_Cm_pattern N u103 (u103.2.2.1 18 v1.toNatClampNeg)) (fun u110 r110 => bnd (hm_Co_put N u110 8) (fun u112 r112 => hb_Cm_compound_455 N S G u112))))))) (br (decide ((u31.2.2.1 16 v1.toNatClampNeg) = 21)) (ck (inb v1 8016) (bnd (S.2.2.2.2.2.2.2.2.2.2.1 u31 (u31.2.2.1 18 v1.toNatClampNeg) 0) (fun u119 r119 => ck (inb v1 8016) (bnd (S.2.2.2.2.2.2.2.2.2.2.1 u119 (u119.2.2.1 19 v1.toNatClampNeg) 0) (fun u125 r125 => bnd (hm_Co_put N u125 17) (fun u127 r127 => hb_Cm_compound_455 N S G u127)))))) (hb_Cm_compound_455 N S G u31)))))))))))))))))))))
def hm_Cm_compound (N : Nat) (S : SF_Cm_fun) (u : MS) (v1 : Int32) (v2 : Int32) : Option (MS × Unit) := hb_Cm_compound_0 N S () u v1 v2
def hb_Cm_apply_87 (N : Nat) (S : SF_Cm_fun) (G : (MS → Int32 → Int32 → Int32 → Option (MS × Unit))) (u : MS) (v2 : Int32) (v3 : Int32) (v4 : Int32) (t1 : Int32) : Option (MS × Unit) := bnd (hm_Co_put N u t1) (fun u1 r1 => ck (inb v4 8016) (bnd (hm_Co_put N u1 (u1.2.2.1 19 v4.toNatClampNeg)) (fun u9 r9 => ck (inb v3 4002) (bnd (hm_Co_put N u9 (u9.2.2.1 8 v3.toNatClampNeg)) (fun u17 r17 => ck (inb v4 8016) (G u17 (v2) (v3) ((u17.2.2.1 21 v4.toNatClampNeg))))))))
def hb_Cm_apply_85 (N : Nat) (S : SF_Cm_fun) (G : (MS → Int32 → Int32 → Int32 → Option (MS × Unit))) (u : MS) (v2 : Int32) (v3 : Int32) (v4 : Int32) : Option (MS × Unit) := hb_Cm_apply_87 N S G u (v2) (v3) (v4) (27)
def hb_Cm_apply_40 (N : Nat) (S : SF_Cm_fun) (G : (MS → Int32 → Int32 → Int32 → Option (MS × Unit))) (u : MS) (v2 : Int32) (v3 : Int32) (v4 : Int32) : Option (MS × Unit) := br (decide (v4 = 0)) (some (u, ())) (ck (inb v4 8016) (bnd (S.2.2.2.2.2.2.2.2.2.1 u (u.2.2.1 18 v4.toNatClampNeg)) (fun u29 r29 => br (decide (v2 = 0)) (hb_Cm_apply_85 N S G u29 (v2) (v3) (v4)) (ck (inb v4 8016) (br (decide ((u29.2.2.1 21 v4.toNatClampNeg) = 0)) (hb_Cm_apply_87 N S G u29 (v2) (v3) (v4) (28)) (hb_Cm_apply_85 N S G u29 (v2) (v3) (v4)))))))
def hb_Cm_apply_0 (N : Nat) (S : SF_Cm_fun) (G : (MS → Int32 → Int32 → Int32 → Option (MS × Unit))) (u : MS) (v1 : Int32) (v2 : Int32) : Option (MS × Unit) := ck (inb v1 8016) (bnd (hm_Cm_notInGuard N u (u.2.2.1 17 v1.toNatClampNeg)) (fun u41 r41 => ck (inb v1 8016) (bnd (S.2.2.2.2.2.2.2.2.2.2.1 u41 (u41.2.2.1 18 v1.toNatClampNeg) 0) (fun u47 r47 => ck (inb v1 8016) (G u47 (v2) ((u.2.2.1 17 v1.toNatClampNeg)) ((u47.2.2.1 19 v1.toNatClampNeg)))))))
def hg_Cm_apply (N : Nat) (S : SF_Cm_fun) : Nat → ((MS → Int32 → Int32 → Int32 → Option (MS × Unit)))
  | 0 => fun _ _ _ _ => none
  | n + 1 => hb_Cm_apply_40 N S (hg_Cm_apply N S n)
def hm_Cm_apply (N : Nat) (S : SF_Cm_fun) (u : MS) (v1 : Int32) (v2 : Int32) : Option (MS × Unit) := hb_Cm_apply_0 N S (hg_Cm_apply N S N) u v1 v2
def hb_Cm_call_198 (N : Nat) (S : SF_Cm_fun) (G : Unit) (u : MS) (v3 : Int32) (v4 : Int32) (v6 : Int32) (t1 : Int32) : Option (MS × Unit) := bnd (hm_Co_put N u t1) (fun u1 r1 => bnd (hm_Co_put N u1 v6) (fun u4 r4 => bnd (hm_Co_put N u4 v4) (fun u7 r7 => ck (inb v3 4002) (bnd (hm_Co_put N u7 (u7.2.2.1 8 v3.toNatClampNeg)) (fun u15 r15 => some (u15, ()))))))
def hb_Cm_call_170 (N : Nat) (S : SF_Cm_fun) (G : Unit) (u : MS) (v5 : Int32) (t1 : Int32) : Option (MS × Unit) := bnd (hm_Co_put N u t1) (fun u17 r17 => bnd (hm_Co_put N u17 v5) (fun u20 r20 => some (u20, ())))
def hb_Cm_call_152 (N : Nat) (S : SF_Cm_fun) (G : Unit) (u : MS) (v5 : Int32) (t0 : Int32) : Option (MS × Unit) := br (decide (t0 = 0)) (hb_Cm_call_170 N S G u (v5) (39)) (hb_Cm_call_170 N S G u (v5) (40))
def hb_Cm_call_147 (N : Nat) (S : SF_Cm_fun) (G : Unit) (u : MS) (v5 : Int32) : Option (MS × Unit) := hb_Cm_call_152 N S G u (v5) (1)
def hb_Cm_call_96 (N : Nat) (S : SF_Cm_fun) (G : Unit) (u : MS) (v1 : Int32) (v2 : Int32) (v3 : Int32) (v4 : Int32) (v5 : Int32) (v6 : Int32) : Option (MS × Unit) := ck (inb v1 8016) (bnd (S.2.2.2.2.2.2.2.2.2.1 u (u.2.2.1 19 v1.toNatClampNeg)) (fun u28 r28 => br (decide (v5 = (-1))) (br (decide (v2 = 0)) (hb_Cm_call_198 N S G u28 (v3) (v4) (v6) (25)) (hb_Cm_call_198 N S G u28 (v3) (v4) (v6) (26))) (br (decide (v5 = 2)) (hb_Cm_call_147 N S G u28 (v5)) (br (decide (v5 = 3)) (hb_Cm_call_147 N S G u28 (v5)) (br (decide (v5 = 4)) (hb_Cm_call_147 N S G u28 (v5)) (br (decide (v5 = 29)) (hb_Cm_call_147 N S G u28 (v5)) (br (decide (v5 = 15)) (hb_Cm_call_147 N S G u28 (v5)) (hb_Cm_call_152 N S G u28 (v5) (0)))))))))
def hb_Cm_call_91 (N : Nat) (S : SF_Cm_fun) (G : Unit) (u : MS) (v1 : Int32) (v2 : Int32) (v3 : Int32) (v4 : Int32) (v5 : Int32) (v6 : Int32) : Option (MS × Unit) := bnd (hm_Cm_notInGuard N u v3) (fun u30 r30 => hb_Cm_call_96 N S G u30 (v1) (v2) (v3) (v4) (v5) (v6))
def hb_Cm_call_77 (N : Nat) (S : SF_Cm_fun) (G : Unit) (u : MS) (v1 : Int32) (v2 : Int32) (v3 : Int32) (v4 : Int32) (v5 : Int32) (v6 : Int32) : Option (MS × Unit) := br (decide (v5 < 17)) (hb_Cm_call_91 N S G u (v1) (v2) (v3) (v4) (v5) (v6)) (br (decide (v5 ≤ 28)) (hb_Cm_call_96 N S G u (v1) (v2) (v3) (v4) (v5) (v6)) (hb_Cm_call_91 N S G u (v1) (v2) (v3) (v4) (v5) (v6)))
def hb_Cm_call_0 (N : Nat) (S : SF_Cm_fun) (G : Unit) (u : MS) (v1 : Int32) (v2 : Int32) : Option (MS × Unit) := ck (inb v1 8016) (ck (inb v1 8016) (ck (inb v1 8016) (bnd (hm_Cm_predefinedOf N u (u.2.2.1 18 v1.toNatClampNeg) (u.2.2.1 20 v1.toNatClampNeg)) (fun u46 r46 => ck (inb v1 8016) (bnd (hm_Co_seek N u46 (u46.2.2.1 18 v1.toNatClampNeg) (u.2.2.1 20 v1.toNatClampNeg)) (fun u53 r53 => br (decide (r46 = (-1))) (br (decide (r53 = (-1))) (bnd (hm_Cm_fault N u53 (u.2.2.1 17 v1.toNatClampNeg) 6) (fun u55 r55 => hb_Cm_call_77 N S G u55 (v1) (v2) ((u.2.2.1 17 v1.toNatClampNeg)) ((u.2.2.1 20 v1.toNatClampNeg)) (r46) (r53))) (hb_Cm_call_77 N S G u53 (v1) (v2) ((u.2.2.1 17 v1.toNatClampNeg)) ((u.2.2.1 20 v1.toNatClampNeg)) (r46) (r53))) (hb_Cm_call_77 N S G u53 (v1) (v2) ((u.2.2.1 17 v1.toNatClampNeg)) ((u.2.2.1 20 v1.toNatClampNeg)) (r46) (r53))))))))
def hm_Cm_call (N : Nat) (S : SF_Cm_fun) (u : MS) (v1 : Int32) (v2 : Int32) : Option (MS × Unit) := hb_Cm_call_0 N S () u v1 v2
def hb_Cm_signs_198 (N : Nat) (S : SF_Cm_fun) (G : (MS → Int32 → Int32 → Int32 → Int32 → Int32 → Option (MS × Unit))) (u : MS) (v2 : Int32) (v3 : Int32) (v4 : Int32) (v5 : Int32) (v6 : Int32) : Option (MS × Unit) := ck (inb v6 8016) (G u (v2) (v3) (v4) (v5) ((u.2.2.1 21 v6.toNatClampNeg)))
def hb_Cm_signs_82 (N : Nat) (S : SF_Cm_fun) (G : (MS → Int32 → Int32 → Int32 → Int32 → Int32 → Option (MS × Unit))) (u : MS) (v2 : Int32) (v3 : Int32) (v4 : Int32) (v5 : Int32) (v6 : Int32) (v7 : Int32) (v8 : Int32) : Option (MS × Unit) := br (decide (v7 = 24)) (bnd (hm_Co_put N u 14) (fun u22 r22 => bnd (hm_Co_hook N u22 0) (fun u25 r25 => hb_Cm_signs_198 N S G u25 (v2) (v3) (r25) ((u25.1 706)) (v6)))) (br (decide (v7 = 23)) (br (decide (v8 = 6)) (bnd (hm_Cm_forget N u v3) (fun u16 r16 => bnd (hm_Co_arrive N u16 v2) (fun u18 r18 => hb_Cm_signs_198 N S G u18 (v2) (v3) (v4) (v5) (v6)))) (br (decide (v8 = 16)) (bnd (hm_Cm_forget N u v5) (fun u12 r12 => bnd (hm_Co_arrive N u12 v4) (fun u14 r14 => hb_Cm_signs_198 N S G u14 (v2) (v3) (v4) (v5) (v6)))) (ck (inb v6 8016) (bnd (hm_Cm_joining N u v8 (u.2.2.1 17 v6.toNatClampNeg)) (fun u11 r11 => hb_Cm_signs_198 N S G u11 (v2) (v3) (v4) (v5) (v6)))))) (bnd (S.2.2.2.2.2.2.2.2.2.2.1 u v6 0) (fun u20 r20 => hb_Cm_signs_198 N S G u20 (v2) (v3) (v4) (v5) (v6))))
def hb_Cm_signs_13 (N : Nat) (S : SF_Cm_fun) (G : (MS → Int32 → Int32 → Int32 → Int32 → Int32 → Option (MS × Unit))) (u : MS) (v2 : Int32) (v3 : Int32) (v4 : Int32) (v5 : Int32) (v6 : Int32) : Option (MS × Unit) := br (decide (v6 = 0)) (some (u, ())) (ck (inb v6 8016) (ck (inb v6 8016) (br (decide ((u.2.2.1 16 v6.toNatClampNeg) = 24)) (br (decide ((u.2.2.1 18 v6.toNatClampNeg) = 6)) (bnd (hm_Co_put N u 13) (fun u39 r39 => bnd (hm_Co_hook N u39 0) (fun u42 r42 => hb_Cm_signs_198 N S G u42 (r42) ((u42.1 706)) (v4) (v5) (v6)))) (hb_Cm_signs_82 N S G u (v2) (v3) (v4) (v5) (v6) ((u.2.2.1 16 v6.toNatClampNeg)) ((u.2.2.1 18 v6.toNatClampNeg)))) (hb_Cm_signs_82 N S G u (v2) (v3) (v4) (v5) (v6) ((u.2.2.1 16 v6.toNatClampNeg)) ((u.2.2.1 18 v6.toNatClampNeg))))))
def hb_Cm_signs_0 (N : Nat) (S : SF_Cm_fun) (G : (MS → Int32 → Int32 → Int32 → Int32 → Int32 → Option (MS × Unit))) (u : MS) (v1 : Int32) : Option (MS × Unit) := G u (0) (0) (0) (0) (v1)
def hg_Cm_signs (N : Nat) (S : SF_Cm_fun) : Nat → ((MS → Int32 → Int32 → Int32 → Int32 → Int32 → Option (MS × Unit)))
  | 0 => fun _ _ _ _ _ _ => none
  | n + 1 => hb_Cm_signs_13 N S (hg_Cm_signs N S n)
def hm_Cm_signs (N : Nat) (S : SF_Cm_fun) (u : MS) (v1 : Int32) : Option (MS × Unit) := hb_Cm_signs_0 N S (hg_Cm_signs N S N) u v1
def hb_Cm_list_93 (N : Nat) (S : SF_Cm_fun) (G : Unit) (u : MS) : Option (MS × Unit) := some (u, ())
def hb_Cm_list_57 (N : Nat) (S : SF_Cm_fun) (G : Unit) (u : MS) (v1 : Int32) : Option (MS × Unit) := ck (inb v1 8016) (br (decide ((u.2.2.1 19 v1.toNatClampNeg) ≤ 0)) (hb_Cm_list_93 N S G u) (bnd (hm_Co_put N u 5) (fun u7 r7 => ck (inb v1 8016) (bnd (hm_Co_put N u7 (u7.2.2.1 19 v1.toNatClampNeg)) (fun u15 r15 => hb_Cm_list_93 N S G u15)))))
def hb_Cm_list_0 (N : Nat) (S : SF_Cm_fun) (G : Unit) (u : MS) (v1 : Int32) : Option (MS × Unit) := ck (inb v1 8016) (bnd (S.2.2.2.2.2.2.2.2.2.1 u (u.2.2.1 18 v1.toNatClampNeg)) (fun u22 r22 => ck (inb v1 8016) (br (decide ((u22.2.2.1 20 v1.toNatClampNeg) = 0)) (bnd (hm_Co_put N u22 1) (fun u29 r29 => bnd (hm_Cm_term N u29 6 0) (fun u31 r31 => hb_Cm_list_57 N S G u31 (v1)))) (ck (inb v1 8016) (bnd (S.2.2.2.2.2.2.2.2.2.2.1 u22 (u22.2.2.1 20 v1.toNatClampNeg) 0) (fun u37 r37 => hb_Cm_list_57 N S G u37 (v1)))))))
def hm_Cm_list (N : Nat) (S : SF_Cm_fun) (u : MS) (v1 : Int32) : Option (MS × Unit) := hb_Cm_list_0 N S () u v1
def hb_Cm_row_2 (N : Nat) (S : SF_Cm_fun) (G : (MS → Int32 → Option (MS × Unit))) (u : MS) (v2 : Int32) : Option (MS × Unit) := br (decide (v2 = 0)) (some (u, ())) (bnd (S.2.2.2.2.2.2.2.2.2.2.1 u v2 0) (fun u1 r1 => ck (inb v2 8016) (G u1 ((u1.2.2.1 21 v2.toNatClampNeg)))))
def hb_Cm_row_0 (N : Nat) (S : SF_Cm_fun) (G : (MS → Int32 → Option (MS × Unit))) (u : MS) (v1 : Int32) : Option (MS × Unit) := G u (v1)
def hg_Cm_row (N : Nat) (S : SF_Cm_fun) : Nat → ((MS → Int32 → Option (MS × Unit)))
  | 0 => fun _ _ => none
  | n + 1 => hb_Cm_row_2 N S (hg_Cm_row N S n)
def hm_Cm_row (N : Nat) (S : SF_Cm_fun) (u : MS) (v1 : Int32) : Option (MS × Unit) := hb_Cm_row_0 N S (hg_Cm_row N S N) u v1
def hb_Cm_expression_359 (N : Nat) (S : SF_Cm_fun) (G : Unit) (u : MS) : Option (MS × Unit) := some (u, ())
def hb_Cm_expression_227 (N : Nat) (S : SF_Cm_fun) (G : Unit) (u : MS) (v1 : Int32) : Option (MS × Unit) := bnd (hm_Co_put N u 3) (fun u2 r2 => ck (inb v1 8016) (bnd (hm_Co_put N u2 (u2.2.2.1 18 v1.toNatClampNeg)) (fun u10 r10 => hb_Cm_expression_359 N S G u10)))
def hb_Cm_expression_221 (N : Nat) (S : SF_Cm_fun) (G : Unit) (u : MS) (v1 : Int32) (v3 : Int32) : Option (MS × Unit) := bnd (hm_Cm_fault N u v3 5) (fun u12 r12 => hb_Cm_expression_227 N S G u12 (v1))
def hb_Cm_expression_0 (N : Nat) (S : SF_Cm_fun) (G : Unit) (u : MS) (v1 : Int32) (v2 : Int32) : Option (MS × Unit) := ck (inb v1 8016) (ck (inb v1 8016) (br (decide ((u.2.2.1 16 v1.toNatClampNeg) = 1)) (bnd (hm_Co_put N u 1) (fun u24 r24 => ck (inb v1 8016) (bnd (hm_Cm_term N u24 0 (u24.2.2.1 18 v1.toNatClampNeg)) (fun u31 r31 => hb_Cm_expression_359 N S G u31)))) (br (decide ((u.2.2.1 16 v1.toNatClampNeg) = 2)) (bnd (hm_Co_put N u 1) (fun u33 r33 => ck (inb v1 8016) (bnd (hm_Cm_term N u33 1 (u33.2.2.1 18 v1.toNatClampNeg)) (fun u40 r40 => hb_Cm_expression_359 N S G u40)))) (br (decide ((u.2.2.1 16 v1.toNatClampNeg) = 3)) (ck (inb v1 8016) (br (decide ((u.2.2.1 18 v1.toNatClampNeg) = 0)) (hb_Cm_expression_221 N S G u (v1) ((u.2.2.1 17 v1.toNatClampNeg))) (ck (inb v1 8016) (bnd (hm_Cm_isBound N u (u.2.2.1 18 v1.toNatClampNeg) (u.2.2.1 17 v1.toNatClampNeg) 0) (fun u51 r51 => br (decide (r51 = 0)) (hb_Cm_expression_221 N S G u51 (v1) ((u.2.2.1 17 v1.toNatClampNeg))) (hb_Cm_expression_227 N S G u51 (v1))))))) (br (decide ((u.2.2.1 16 v1.toNatClampNeg) = 4)) (bnd (hm_Cm_notInGuard N u (u.2.2.1 17 v1.toNatClampNeg)) (fun u52 r52 => bnd (hm_Co_put N u52 2) (fun u54 r54 => bnd (hm_Cm_string N u54 v1) (fun u56 r56 => hb_Cm_expression_359 N S G u56)))) (br (decide ((u.2.2.1 16 v1.toNatClampNeg) = 5)) (ck (inb v1 8016) (bnd (S.2.2.2.2.2.2.2.2.2.2.1 u (u.2.2.1 18 v1.toNatClampNeg) v2) (fun u62 r62 => hb_Cm_expression_359 N S G u62))) (br (decide ((u.2.2.1 16 v1.toNatClampNeg) = 6)) (ck (inb v1 8016) (bnd (S.2.2.2.2.2.2.2.2.2.1 u (u.2.2.1 18 v1.toNatClampNeg)) (fun u68 r68 => bnd (hm_Co_put N u68 4) (fun u70 r70 => ck (inb v1 8016) (bnd (hm_Co_put N u70 (u70.2.2.1 19 v1.toNatClampNeg)) (fun u78 r78 => hb_Cm_expression_359 N S G u78)))))) (br (decide ((u.2.2.1 16 v1.toNatClampNeg) = 7)) (bnd (S.2.2.2.2.2.2.2.2.1 u v1) (fun u80 r80 => hb_Cm_expression_359 N S G u80)) (br (decide ((u.2.2.1 16 v1.toNatClampNeg) = 8)) (bnd (S.2.2.2.2.1 u v1 v2) (fun u81 r81 => hb_Cm_expression_359 N S G u81)) (br (decide ((u.2.2.1 16 v1.toNatClampNeg) = 9)) (bnd (S.2.2.2.2.1 u v1 v2) (fun u82 r82 => hb_Cm_expression_359 N S G u82)) (br (decide ((u.2.2.1 16 v1.toNatClampNeg) = 10)) (bnd (S.2.2.2.2.1 u v1 v2) (fun u83 r83 => hb_Cm_expression_359 N S G u83)) (br (decide ((u.2.2.1 16 v1.toNatClampNeg) = 11)) (bnd (S.2.2.2.2.1 u v1 v2) (fun u84 r84 => hb_Cm_expression_359 N S G u84)) (br (decide ((u.2.2.1 16 v1.toNatClampNeg) = 12)) (bnd (S.2.2.2.2.1 u v1 v2) (fun u85 r85 => hb_Cm_expression_359 N S G u85)) (br (decide ((u.2.2.1 16 v1.toNatClampNeg) = 13)) (bnd (S.2.2.2.2.1 u v1 v2) (fun u86 r86 => hb_Cm_expression_359 N S G u86)) (br (decide ((u.2.2.1 16 v1.toNatClampNeg) = 14)) (bnd (S.2.2.2.2.2.2.1 u v1 v2) (fun u87 r87 => hb_Cm_expression_359 N S G u87)) (br (decide ((u.2.2.1 16 v1.toNatClampNeg) = 15)) (bnd (S.2.2.2.2.2.1 u v1 v2) (fun u88 r88 => hb_Cm_expression_359 N S G u88)) (br (decide ((u.2.2.1 16 v1.toNatClampNeg) = 16)) (bnd (S.2.2.2.2.1 u v1 v2) (fun u89 r89 => hb_Cm_expression_359 N S G u89)) (br (decide ((u.2.2.1 16 v1.toNatClampNeg) = 17)) (bnd (S.2.2.2.2.1 u v1 v2) (fun u90 r90 => hb_Cm_expression_359 N S G u90)) (br (decide ((u.2.2.1 16 v1.toNatClampNeg) = 18)) (bnd (S.2.2.2.2.1 u v1 v2) (fun u91 r91 => hb_Cm_expression_359 N S G u91)) (br (decide ((u.2.2.1 16 v1.toNatClampNeg) = 19)) (bnd (S.2.2.2.2.1 u v1 v2) (fun u92 r92 => hb_Cm_expression_359 N S G u92)) (br (decide ((u.2.2.1 16 v1.toNatClampNeg) = 20)) (bnd (S.2.2.2.2.1 u v1 v2) (fun u93 r93 => hb_Cm_expression_359 N S G u93)) (br (decide ((u.2.2.1 16 v1.toNatClampNeg) = 21)) (bnd (S.2.2.2.2.1 u v1 v2) (fun u94 r94 => hb_Cm_expression_359 N S G u94)) (br (decide ((u.2.2.1 16 v1.toNatClampNeg) = 22)) (ck (inb v1 8016) (bnd (S.2.2.2.2.2.2.2.1 u (u.2.2.1 18 v1.toNatClampNeg)) (fun u100 r100 => hb_Cm_expression_359 N S G u100))) (bnd (S.2.2.2.2.1 u v1 v2) (fun u101 r101 => hb_Cm_expression_359 N S G u101)))))))))))))))))))))))))
def hm_Cm_expression (N : Nat) (S : SF_Cm_fun) (u : MS) (v1 : Int32) (v2 : Int32) : Option (MS × Unit) := hb_Cm_expression_0 N S () u v1 v2
def hb_Cm_tries_181 (N : Nat) (S : SF_Cm_fun) (G : (MS → Int32 → Int32 → Int32 → Int32 → Option (MS × Int32)) × (MS → Int32 → Int32 → Int32 → Option (MS × Int32))) (u : MS) (v4 : Int32) (v5 : Int32) (v6 : Int32) : Option (MS × Int32) := br (decide (v6 = 0)) (bnd (hm_Co_put N u 23) (fun u2 r2 => ck (isb v5) (lt (upI u2 712 v5) (fun w4 => some (w4, v4))))) (bnd (S.2.2.2.2.2.2.2.2.2.2.1 u v6 0) (fun u5 r5 => bnd (hm_Co_put N u5 22) (fun u7 r7 => ck (inb v6 8016) (G.2 u7 (v4) (v5) ((u7.2.2.1 21 v6.toNatClampNeg))))))
def hb_Cm_tries_111 (N : Nat) (S : SF_Cm_fun) (G : (MS → Int32 → Int32 → Int32 → Int32 → Option (MS × Int32)) × (MS → Int32 → Int32 → Int32 → Option (MS × Int32))) (u : MS) (v2 : Int32) (v3 : Int32) (v4 : Int32) : Option (MS × Int32) := ck (inb v2 8016) (br (decide ((u.2.2.1 19 v2.toNatClampNeg) = 0)) (some (u, v4)) (lt (upI u 712 1) (fun w20 => bnd (hm_Co_put N w20 21) (fun u22 r22 => bnd (hm_Co_put N u22 ((u22.1 706) - v3)) (fun u26 r26 => bnd (hm_Co_hook N u26 v4) (fun u29 r29 => ck (inb v2 8016) (G.2 u29 (r29) ((u.1 712)) ((u29.2.2.1 19 v2.toNatClampNeg)))))))))
def hb_Cm_tries_71 (N : Nat) (S : SF_Cm_fun) (G : (MS → Int32 → Int32 → Int32 → Int32 → Option (MS × Int32)) × (MS → Int32 → Int32 → Int32 → Option (MS × Int32))) (u : MS) (v2 : Int32) (v3 : Int32) (v4 : Int32) (v5 : Int32) : Option (MS × Int32) := br (decide (v5 = 0)) (lt (upI u 713 0) (fun w36 => bnd (hm_Co_put N w36 8) (fun u38 r38 => hb_Cm_tries_111 N S G u38 (v2) (v3) (v4)))) (bnd (hr_Cm_pattern N u v5) (fun u40 r40 => ck (inb v5 8016) (G.1 u40 (v2) (v3) (v4) ((u40.2.2.1 21 v5.toNatClampNeg)))))
def hb_Cm_tries_57 (N : Nat) (S : SF_Cm_fun) (G : (MS → Int32 → Int32 → Int32 → Int32 → Option (MS × Int32)) × (MS → Int32 → Int32 → Int32 → Option (MS × Int32))) (u : MS) (v2 : Int32) (v3 : Int32) (v4 : Int32) (t1 : Int32) : Option (MS × Int32) := ck (isb t1) (lt (upI u 713 t1) (fun w46 => ck (inb v2 8016) (G.1 w46 (v2) (v3) (v4) ((w46.2.2.1 18 v2.toNatClampNeg)))))
def hb_Cm_tries_0 (N : Nat) (S : SF_Cm_fun) (G : (MS → Int32 → Int32 → Int32 → Int32 → Option (MS × Int32)) × (MS → Int32 → Int32 → Int32 → Option (MS × Int32))) (u : MS) (v1 : Int32) (v2 : Int32) : Option (MS × Int32) := ck (inb v2 8016) (br (decide ((u.2.2.1 18 v2.toNatClampNeg) = 0)) (hb_Cm_tries_111 N S G u (v2) ((u.1 706)) (0)) (bnd (hm_Co_put N u 19) (fun u59 r59 => bnd (hm_Co_put N u59 v1) (fun u62 r62 => bnd (hm_Co_hook N u62 0) (fun u65 r65 => br (decide (v1 < 0)) (hb_Cm_tries_57 N S G u65 (v2) ((u.1 706)) (r65) (0)) (hb_Cm_tries_57 N S G u65 (v2) ((u.1 706)) (r65) (1)))))))
def hg_Cm_tries (N : Nat) (S : SF_Cm_fun) : Nat → ((MS → Int32 → Int32 → Int32 → Int32 → Option (MS × Int32)) × (MS → Int32 → Int32 → Int32 → Option (MS × Int32)))
  | 0 => (fun _ _ _ _ _ => none, fun _ _ _ _ => none)
  | n + 1 => (hb_Cm_tries_71 N S (hg_Cm_tries N S n), hb_Cm_tries_181 N S (hg_Cm_tries N S n))
def hm_Cm_tries (N : Nat) (S : SF_Cm_fun) (u : MS) (v1 : Int32) (v2 : Int32) : Option (MS × Int32) := hb_Cm_tries_0 N S (hg_Cm_tries N S N) u v1 v2
def hb_Cm_clause_0 (N : Nat) (S : SF_Cm_fun) (G : Unit) (u : MS) (v1 : Int32) (v2 : Int32) (v3 : Int32) : Option (MS × Unit) := bnd (S.2.2.2.2.2.2.2.2.2.2.2.1 u v2 v1) (fun u2 r2 => bnd (hm_Co_put N u2 24) (fun u4 r4 => bnd (hm_Co_put N u4 v2) (fun u7 r7 => bnd (hm_Co_put N u7 v3) (fun u10 r10 => ck (inb v1 8016) (bnd (S.2.2.2.1 u10 (u10.2.2.1 20 v1.toNatClampNeg) 1) (fun u17 r17 => bnd (hm_Co_put N u17 35) (fun u19 r19 => lt (upI u19 706 (u.1 706)) (fun w21 => bnd (hm_Co_arrive N w21 r2) (fun u23 r23 => some (u23, ()))))))))))
def hm_Cm_clause (N : Nat) (S : SF_Cm_fun) (u : MS) (v1 : Int32) (v2 : Int32) (v3 : Int32) : Option (MS × Unit) := hb_Cm_clause_0 N S () u v1 v2 v3
def hrc_Cm_fun (N : Nat) : Nat → (SF_Cm_fun)
  | 0 => (fun _ _ => none, fun _ _ _ => none, fun _ _ _ _ _ => none, fun _ _ _ => none, fun _ _ _ => none, fun _ _ _ => none, fun _ _ _ => none, fun _ _ => none, fun _ _ => none, fun _ _ => none, fun _ _ _ => none, fun _ _ _ => none, fun _ _ _ _ => none)
  | d + 1 => (hm_Cm_fun N (hrc_Cm_fun N d), hm_Cm_receive N (hrc_Cm_fun N d), hm_Cm_parts N (hrc_Cm_fun N d), hm_Cm_body N (hrc_Cm_fun N d), hm_Cm_compound N (hrc_Cm_fun N d), hm_Cm_apply N (hrc_Cm_fun N d), hm_Cm_call N (hrc_Cm_fun N d), hm_Cm_signs N (hrc_Cm_fun N d), hm_Cm_list N (hrc_Cm_fun N d), hm_Cm_row N (hrc_Cm_fun N d), hm_Cm_expression N (hrc_Cm_fun N d), hm_Cm_tries N (hrc_Cm_fun N d), hm_Cm_clause N (hrc_Cm_fun N d))
def hr_Cm_clause (N : Nat) (u : MS) (v1 : Int32) (v2 : Int32) (v3 : Int32) : Option (MS × Unit) := (hrc_Cm_fun N 300).2.2.2.2.2.2.2.2.2.2.2.2 u v1 v2 v3
def hb_Cm_oneFunction_268 (N : Nat) (G : (MS → Int32 → Int32 → Option (MS × Unit))) (u : MS) (t1 : Int32) : Option (MS × Unit) := ck (isb t1) (lt (upI u 711 t1) (fun w1 => some (w1, ())))
def hb_Cm_oneFunction_263 (N : Nat) (G : (MS → Int32 → Int32 → Option (MS × Unit))) (u : MS) : Option (MS × Unit) := hb_Cm_oneFunction_268 N G u (1)
def hb_Cm_oneFunction_205 (N : Nat) (G : (MS → Int32 → Int32 → Option (MS × Unit))) (u : MS) (v1 : Int32) (v3 : Int32) (v4 : Int32) (v5 : Int32) : Option (MS × Unit) := ck (inb v4 4002) (bnd (hr_Cm_clause N u v3 v5 (u.2.2.1 8 v4.toNatClampNeg)) (fun u7 r7 => ck (inb v3 8016) (G u7 (v1) ((u7.2.2.1 21 v3.toNatClampNeg)))))
def hb_Cm_oneFunction_198 (N : Nat) (G : (MS → Int32 → Int32 → Option (MS × Unit))) (u : MS) (v1 : Int32) (v3 : Int32) (v4 : Int32) (v5 : Int32) : Option (MS × Unit) := bnd (hm_Cm_fault N u v4 4) (fun u13 r13 => hb_Cm_oneFunction_205 N G u13 (v1) (v3) (v4) (v5))
def hb_Cm_oneFunction_129 (N : Nat) (G : (MS → Int32 → Int32 → Option (MS × Unit))) (u : MS) (v1 : Int32) (v3 : Int32) : Option (MS × Unit) := br (decide (v3 = 0)) (bnd (hm_Co_put N u 36) (fun u15 r15 => br (decide ((u15.1 711) = 0)) (ck (inb (0 : Int32) 32) (br (decide ((u15.2.2.1 41 (0 : Int32).toNatClampNeg) ≤ 40)) (hb_Cm_oneFunction_268 N G u15 (0)) (hb_Cm_oneFunction_263 N G u15))) (hb_Cm_oneFunction_263 N G u15))) (ck (inb v3 8016) (ck (inb v3 8016) (bnd (hm_Tr_length N u (u.2.2.1 18 v3.toNatClampNeg)) (fun u32 r32 => ck (inb (u.2.2.1 17 v3.toNatClampNeg) 4002) (ck (inb v1 666) (br (decide ((u32.2.2.1 7 (u.2.2.1 17 v3.toNatClampNeg).toNatClampNeg) = (u32.2.2.1 24 v1.toNatClampNeg))) (ck (inb v1 666) (br (decide (r32 = (u32.2.2.1 25 v1.toNatClampNeg))) (hb_Cm_oneFunction_205 N G u32 (v1) (v3) ((u.2.2.1 17 v3.toNatClampNeg)) (r32)) (hb_Cm_oneFunction_198 N G u32 (v1) (v3) ((u.2.2.1 17 v3.toNatClampNeg)) (r32)))) (hb_Cm_oneFunction_198 N G u32 (v1) (v3) ((u.2.2.1 17 v3.toNatClampNeg)) (r32))))))))
def hb_Cm_oneFunction_79 (N : Nat) (G : (MS → Int32 → Int32 → Option (MS × Unit))) (u : MS) (v1 : Int32) : Option (MS × Unit) := lt (upI u 709 0) (fun w49 => lt (upI w49 706 0) (fun w50 => ck (inb (0 : Int32) 32) (lt (upA w50 40 (upd (w50.2.2.1 40) (0 : Int32).toNatClampNeg 0)) (fun w53 => ck (inb (0 : Int32) 32) (lt (upA w53 41 (upd (w53.2.2.1 41) (0 : Int32).toNatClampNeg 0)) (fun w56 => ck (inb v1 666) (lt (upA w56 29 (upd (w56.2.2.1 29) v1.toNatClampNeg (w56.1 441))) (fun w64 => ck (inb v1 666) (G w64 (v1) ((w64.2.2.1 27 v1.toNatClampNeg)))))))))))
def hb_Cm_oneFunction_73 (N : Nat) (G : (MS → Int32 → Int32 → Option (MS × Unit))) (u : MS) (v1 : Int32) (v2 : Int32) : Option (MS × Unit) := bnd (hm_Cm_fault N u v2 4) (fun u70 r70 => hb_Cm_oneFunction_79 N G u70 (v1))
def hb_Cm_oneFunction_0 (N : Nat) (G : (MS → Int32 → Int32 → Option (MS × Unit))) (u : MS) (v1 : Int32) : Option (MS × Unit) := ck (inb v1 666) (ck (inb (u.2.2.1 27 v1.toNatClampNeg) 8016) (ck (inb v1 666) (ck (inb v1 666) (bnd (hm_Co_seek N u (u.2.2.1 24 v1.toNatClampNeg) (u.2.2.1 25 v1.toNatClampNeg)) (fun u92 r92 => br (decide (r92 = v1)) (ck (inb v1 666) (ck (inb v1 666) (bnd (hm_Cm_predefinedOf N u92 (u92.2.2.1 24 v1.toNatClampNeg) (u92.2.2.1 25 v1.toNatClampNeg)) (fun u104 r104 => br (decide (r104 = (-1))) (hb_Cm_oneFunction_79 N G u104 (v1)) (hb_Cm_oneFunction_73 N G u104 (v1) ((u.2.2.1 17 (u.2.2.1 27 v1.toNatClampNeg).toNatClampNeg))))))) (hb_Cm_oneFunction_73 N G u92 (v1) ((u.2.2.1 17 (u.2.2.1 27 v1.toNatClampNeg).toNatClampNeg))))))))
def hg_Cm_oneFunction (N : Nat) : Nat → ((MS → Int32 → Int32 → Option (MS × Unit)))
  | 0 => fun _ _ _ => none
  | n + 1 => hb_Cm_oneFunction_129 N (hg_Cm_oneFunction N n)
def hm_Cm_oneFunction (N : Nat) (u : MS) (v1 : Int32) : Option (MS × Unit) := hb_Cm_oneFunction_0 N (hg_Cm_oneFunction N N) u v1
def hb_Cm_compile_142 (N : Nat) (G : (MS → Int32 → Option (MS × Int32))) (u : MS) (t0 : Int32) : Option (MS × Int32) := some (u, t0)
def hb_Cm_compile_136 (N : Nat) (G : (MS → Int32 → Option (MS × Int32))) (u : MS) : Option (MS × Int32) := hb_Cm_compile_142 N G u (8)
def hb_Cm_compile_124 (N : Nat) (G : (MS → Int32 → Option (MS × Int32))) (u : MS) (t0 : Int32) : Option (MS × Int32) := br (decide (t0 = 0)) (br (decide ((u.1 711) = 0)) (hb_Cm_compile_142 N G u (0)) (hb_Cm_compile_136 N G u)) (hb_Cm_compile_136 N G u)
def hb_Cm_compile_119 (N : Nat) (G : (MS → Int32 → Option (MS × Int32))) (u : MS) : Option (MS × Int32) := hb_Cm_compile_124 N G u (1)
def hb_Cm_compile_23 (N : Nat) (G : (MS → Int32 → Option (MS × Int32))) (u : MS) (v1 : Int32) : Option (MS × Int32) := br (decide ((u.1 442) ≤ v1)) (br (decide ((u.1 714) = 1000000000)) (br (decide (60 < (u.1 442))) (hb_Cm_compile_119 N G u) (br (decide (200 < (u.1 22))) (hb_Cm_compile_119 N G u) (br (decide ((u.1 85) ≤ 1500)) (hb_Cm_compile_124 N G u (0)) (hb_Cm_compile_119 N G u)))) (ck (inb ((u.1 714) / 16) 4002) (some (u, (((u.1 714) - (u.1 714) / 16 * 16) + (16 * (u.2.2.1 8 ((u.1 714) / 16).toNatClampNeg))))))) (bnd (hm_Cm_oneFunction N u v1) (fun u22 r22 => G u22 ((v1 + 1))))
def hb_Cm_compile_0 (N : Nat) (G : (MS → Int32 → Option (MS × Int32))) (u : MS) : Option (MS × Int32) := lt (upI u 714 1000000000) (fun w23 => lt (upI w23 711 0) (fun w24 => lt (upI w24 712 0) (fun w25 => lt (upI w25 713 0) (fun w26 => G w26 (0)))))
def hg_Cm_compile (N : Nat) : Nat → ((MS → Int32 → Option (MS × Int32)))
  | 0 => fun _ _ => none
  | n + 1 => hb_Cm_compile_23 N (hg_Cm_compile N n)
def hm_Cm_compile (N : Nat) (u : MS) : Option (MS × Int32) := hb_Cm_compile_0 N (hg_Cm_compile N N) u
def hb_H_read_45 (N : Nat) (G : Unit) (u : MS) (v1 : Int32) (t1 : Int32) : Option (MS × Int32) := ck (isb t1) (lt (upI u 10 t1) (fun w1 => bnd (hm_Wl_clearAll N w1) (fun u3 r3 => some (u3, v1))))
def hb_H_read_27 (N : Nat) (G : Unit) (u : MS) (v1 : Int32) : Option (MS × Int32) := lt (upI u 81 0) (fun w7 => br (decide (v1 = 0)) (hb_H_read_45 N G w7 (v1) (1)) (hb_H_read_45 N G w7 (v1) (0)))
def hb_H_read_0 (N : Nat) (G : Unit) (u : MS) : Option (MS × Int32) := bnd (hm_To_scanAll N u) (fun u9 r9 => bnd (hm_Pa_parse N u9) (fun u12 r12 => br (decide (r12 = 0)) (bnd (hm_Cm_compile N u12) (fun u15 r15 => hb_H_read_27 N G u15 (r15))) (hb_H_read_27 N G u12 (r12))))
def hm_H_read (N : Nat) (u : MS) : Option (MS × Int32) := hb_H_read_0 N () u
def hb_Wl_born_43 (N : Nat) (G : Unit) (u : MS) : Option (MS × Option Nat) := ck (inb (u.1 942) 24) (bo (rf (u.2.2.1 1948 (u.1 942).toNatClampNeg)) (fun j6 => bnd (hm_Pr_clear N u j6) (fun u5 r5 => lt (upI u5 942 ((u5.1 942) + 1)) (fun w8 => some (w8, (some j6))))))
def hb_Wl_born_0 (N : Nat) (G : Unit) (u : MS) : Option (MS × Option Nat) := br (decide ((u.1 942) < 24)) (ck (inb (u.1 942) 24) (br (decide ((rf (u.2.2.1 1948 (u.1 942).toNatClampNeg)) = none)) (lt (newP u (u.1 942).toNatClampNeg) (fun w20 => hb_Wl_born_43 N G w20)) (hb_Wl_born_43 N G u))) (some (u, none))
def hm_Wl_born (N : Nat) (u : MS) : Option (MS × Option Nat) := hb_Wl_born_0 N () u
def hb_H_begin_102 (N : Nat) (G : Unit) (u : MS) : Option (MS × (Unit ⊕ Nat)) := some (u, .inl ())
def hb_H_begin_0 (N : Nat) (G : Unit) (u : MS) (v1 : Int32) : Option (MS × (Unit ⊕ Nat)) := br (decide ((u.1 10) = 0)) (some (u, .inr 0)) (bnd (hm_H_isFunction N u v1) (fun u2 r2 => br (decide (r2 = 0)) (some (u2, .inr 1)) (ck (inb v1 666) (br (decide ((u2.2.2.1 25 v1.toNatClampNeg) = 0)) (bnd (hm_Wl_clearAll N u2) (fun u9 r9 => lt (upI u9 943 1) (fun w13 => bnd (hm_Wl_born N w13) (fun u15 r15 => br (decide (r15 = none)) (hb_H_begin_102 N G u15) (bo r15 (fun j17 => ck (inb v1 666) (bnd (hm_Fr_open N u15 j17 v1 (u15.2.2.1 29 v1.toNatClampNeg) 0) (fun u24 r24 => hb_H_begin_102 N G u24)))))))) (some (u2, .inr 2))))))
def hm_H_begin (N : Nat) (u : MS) (v1 : Int32) : Option (MS × (Unit ⊕ Nat)) := hb_H_begin_0 N () u v1
def hb_Wl_find_22 (N : Nat) (G : Unit) (u : MS) (t0 : Option Nat) : Option (MS × Option Nat) := some (u, t0)
def hb_Wl_find_12 (N : Nat) (G : Unit) (u : MS) : Option (MS × Option Nat) := hb_Wl_find_22 N G u none
def hb_Wl_find_0 (N : Nat) (G : Unit) (u : MS) (v1 : Int32) : Option (MS × Option Nat) := br (decide (v1 < 0)) (hb_Wl_find_12 N G u) (br (decide (v1 < (u.1 942))) (ck (inb v1 24) (hb_Wl_find_22 N G u (rf (u.2.2.1 1948 v1.toNatClampNeg)))) (hb_Wl_find_12 N G u))
def hm_Wl_find (N : Nat) (u : MS) (v1 : Int32) : Option (MS × Option Nat) := hb_Wl_find_0 N () u v1
def hb_Pr_clearHeap_250 (N : Nat) (G : (MS → Nat → Int32 → Int32 → Option (MS × Unit)) × (MS → Nat → Int32 → Int32 → Nat → Int32 → Int32 → Option (MS × Unit))) (u : MS) (v0 : Nat) (v1 : Int32) (v2 : Int32) (v3 : Nat) (v4 : Int32) (v5 : Int32) : Option (MS × Unit) := G.2 u v0 (v1) (v2) v3 (v4) ((v5 + 1))
def hb_Pr_clearHeap_230 (N : Nat) (G : (MS → Nat → Int32 → Int32 → Option (MS × Unit)) × (MS → Nat → Int32 → Int32 → Nat → Int32 → Int32 → Option (MS × Unit))) (u : MS) (v0 : Nat) (v1 : Int32) (v2 : Int32) (v3 : Nat) (v4 : Int32) (v5 : Int32) (v6 : Int32) (v7 : Int32) : Option (MS × Unit) := ck (inb v7 512) (ck (inb v5 (lnX u v3)) (lt (upJ u v3 (vp_updL (u.2.2.2 v3) v5.toNatClampNeg (((v6.toInt64) <<< ((32 : Int32).toInt64 &&& 63)) ||| ((u.2.2.2 (pq v0 2) v7.toNatClampNeg).toInt32).toInt64))) (fun w5 => hb_Pr_clearHeap_250 N G w5 v0 (v1) (v2) v3 (v4) (v5))))
def hb_Pr_clearHeap_160 (N : Nat) (G : (MS → Nat → Int32 → Int32 → Option (MS × Unit)) × (MS → Nat → Int32 → Int32 → Nat → Int32 → Int32 → Option (MS × Unit))) (u : MS) (v0 : Nat) (v1 : Int32) (v2 : Int32) (v3 : Nat) (v4 : Int32) (v5 : Int32) (v6 : Int32) : Option (MS × Unit) := ck (inb v5 (lnX u v3)) (ck (inb ((u.2.2.2 v3 v5.toNatClampNeg).toInt32) 512) (br (decide (((u.2.2.2 (pq v0 2) ((u.2.2.2 v3 v5.toNatClampNeg).toInt32).toNatClampNeg) >>> ((32 : Int32).toInt64 &&& 63)).toInt32 = 9)) (hb_Pr_clearHeap_230 N G u v0 (v1) (v2) v3 (v4) (v5) (v6) ((u.2.2.2 v3 v5.toNatClampNeg).toInt32)) (ck (inb v5 (lnX u v3)) (bnd (hm_Te_cellsAt N u (pq v0 2) (u.2.2.2 v3 v5.toNatClampNeg)) (fun u14 r14 => ck (cpOk ((u.2.2.2 v3 v5.toNatClampNeg).toInt32) v1 r14 512 512) (lt (upJ u14 (pq v0 3) (va_cpy (u14.2.2.2 (pq v0 2)) (u14.2.2.2 (pq v0 3)) ((u.2.2.2 v3 v5.toNatClampNeg).toInt32).toNatClampNeg v1.toNatClampNeg r14.toNatClampNeg)) (fun w19 => ck (inb ((u.2.2.2 v3 v5.toNatClampNeg).toInt32) 512) (lt (upJ w19 (pq v0 2) (vp_updL (w19.2.2.2 (pq v0 2)) ((u.2.2.2 v3 v5.toNatClampNeg).toInt32).toNatClampNeg (38654705664 ||| v1.toInt64))) (fun w22 => hb_Pr_clearHeap_230 N G w22 v0 ((v1 + r14)) (v2) v3 (v4) (v5) (v6) ((u.2.2.2 v3 v5.toNatClampNeg).toInt32))))))))))
def hb_Pr_clearHeap_125 (N : Nat) (G : (MS → Nat → Int32 → Int32 → Option (MS × Unit)) × (MS → Nat → Int32 → Int32 → Nat → Int32 → Int32 → Option (MS × Unit))) (u : MS) (v0 : Nat) (v1 : Int32) (v2 : Int32) (v3 : Nat) (v4 : Int32) (v5 : Int32) (t0 : Int32) (t1 : Int32) : Option (MS × Unit) := br (decide (t1 ≤ t0)) (G.1 u v0 (v1) ((v2 + 1))) (ck (inb v5 (lnX u v3)) (lt (((u.2.2.2 v3 v5.toNatClampNeg) >>> ((32 : Int32).toInt64 &&& 63)).toInt32) (fun y25 => br (decide (y25 = 7)) (hb_Pr_clearHeap_160 N G u v0 (v1) (v2) v3 (v4) (v5) (y25)) (br (decide (y25 = 5)) (hb_Pr_clearHeap_160 N G u v0 (v1) (v2) v3 (v4) (v5) (y25)) (br (decide (y25 = 3)) (hb_Pr_clearHeap_160 N G u v0 (v1) (v2) v3 (v4) (v5) (y25)) (hb_Pr_clearHeap_250 N G u v0 (v1) (v2) v3 (v4) (v5)))))))
def hb_Pr_clearHeap_112 (N : Nat) (G : (MS → Nat → Int32 → Int32 → Option (MS × Unit)) × (MS → Nat → Int32 → Int32 → Nat → Int32 → Int32 → Option (MS × Unit))) (u : MS) (v0 : Nat) (v1 : Int32) (v2 : Int32) (v3 : Nat) (v4 : Int32) (v5 : Int32) : Option (MS × Unit) := br (decide (v2 = 3)) (hb_Pr_clearHeap_125 N G u v0 (v1) (v2) v3 (v4) (v5) (v5) (v1)) (hb_Pr_clearHeap_125 N G u v0 (v1) (v2) v3 (v4) (v5) (v5) (v4))
def hb_Pr_clearHeap_107 (N : Nat) (G : (MS → Nat → Int32 → Int32 → Option (MS × Unit)) × (MS → Nat → Int32 → Int32 → Nat → Int32 → Int32 → Option (MS × Unit))) (u : MS) (v0 : Nat) (v1 : Int32) (v2 : Int32) (v3 : Nat) (t0 : Int32) : Option (MS × Unit) := G.2 u v0 (v1) (v2) v3 (t0) (0)
def hb_Pr_clearHeap_64 (N : Nat) (G : (MS → Nat → Int32 → Int32 → Option (MS × Unit)) × (MS → Nat → Int32 → Int32 → Nat → Int32 → Int32 → Option (MS × Unit))) (u : MS) (v0 : Nat) (v1 : Int32) (v2 : Int32) (t0 : Nat) : Option (MS × Unit) := br (decide (v2 = 0)) (hb_Pr_clearHeap_107 N G u v0 (v1) (v2) t0 ((u.1 (pq v0 24)))) (br (decide (v2 = 1)) (hb_Pr_clearHeap_107 N G u v0 (v1) (v2) t0 ((u.1 (pq v0 26)))) (br (decide (v2 = 2)) (hb_Pr_clearHeap_107 N G u v0 (v1) (v2) t0 ((u.1 (pq v0 7)))) (hb_Pr_clearHeap_107 N G u v0 (v1) (v2) t0 (0))))
def hb_Pr_clearHeap_14 (N : Nat) (G : (MS → Nat → Int32 → Int32 → Option (MS × Unit)) × (MS → Nat → Int32 → Int32 → Nat → Int32 → Int32 → Option (MS × Unit))) (u : MS) (v0 : Nat) (v1 : Int32) (v2 : Int32) : Option (MS × Unit) := br (decide (4 ≤ v2)) (lt (swp u v0) (fun w36 => lt (upI w36 (pq v0 4) v1) (fun w37 => some (w37, ())))) (br (decide (v2 = 0)) (hb_Pr_clearHeap_64 N G u v0 (v1) (v2) (pq v0 33)) (br (decide (v2 = 1)) (hb_Pr_clearHeap_64 N G u v0 (v1) (v2) (pq v0 35)) (br (decide (v2 = 2)) (hb_Pr_clearHeap_64 N G u v0 (v1) (v2) (pq v0 6)) (hb_Pr_clearHeap_64 N G u v0 (v1) (v2) (pq v0 3)))))
def hb_Pr_clearHeap_0 (N : Nat) (G : (MS → Nat → Int32 → Int32 → Option (MS × Unit)) × (MS → Nat → Int32 → Int32 → Nat → Int32 → Int32 → Option (MS × Unit))) (u : MS) (v0 : Nat) : Option (MS × Unit) := lt (upI u (pq v0 5) ((u.1 (pq v0 5)) + 1)) (fun w47 => G.1 w47 v0 (0) (0))
def hg_Pr_clearHeap (N : Nat) : Nat → ((MS → Nat → Int32 → Int32 → Option (MS × Unit)) × (MS → Nat → Int32 → Int32 → Nat → Int32 → Int32 → Option (MS × Unit)))
  | 0 => (fun _ _ _ _ => none, fun _ _ _ _ _ _ _ => none)
  | n + 1 => (hb_Pr_clearHeap_14 N (hg_Pr_clearHeap N n), hb_Pr_clearHeap_112 N (hg_Pr_clearHeap N n))
def hm_Pr_clearHeap (N : Nat) (u : MS) (v0 : Nat) : Option (MS × Unit) := hb_Pr_clearHeap_0 N (hg_Pr_clearHeap N N) u v0
def hb_Pr_want_33 (N : Nat) (G : Unit) (u : MS) (t0 : Int32) : Option (MS × Int32) := ck (isb t0) (some (u, t0))
def hb_Pr_want_16 (N : Nat) (G : Unit) (u : MS) (v0 : Nat) (v1 : Int32) : Option (MS × Int32) := br (decide (500 < ((u.1 (pq v0 4)) + v1))) (hb_Pr_want_33 N G u (0)) (hb_Pr_want_33 N G u (1))
def hb_Pr_want_0 (N : Nat) (G : Unit) (u : MS) (v0 : Nat) (v1 : Int32) : Option (MS × Int32) := br (decide (((u.1 (pq v0 4)) + v1) ≤ 500)) (hb_Pr_want_16 N G u v0 (v1)) (bnd (hm_Pr_clearHeap N u v0) (fun u3 r3 => hb_Pr_want_16 N G u3 v0 (v1)))
def hm_Pr_want (N : Nat) (u : MS) (v0 : Nat) (v1 : Int32) : Option (MS × Int32) := hb_Pr_want_0 N () u v0 v1
def hb_Pr_copyIn_140 (N : Nat) (G : (MS → Nat → Nat → Int64 → Int64 → Int32 → Int32 → Option (MS × Int64))) (u : MS) (v0 : Nat) (v1 : Nat) (v2 : Int64) (v4 : Int64) (v6 : Int32) (v7 : Int32) : Option (MS × Int64) := G u v0 v1 (v2) (v4) (v6) ((v7 + 1))
def hb_Pr_copyIn_42 (N : Nat) (G : (MS → Nat → Nat → Int64 → Int64 → Int32 → Int32 → Option (MS × Int64))) (u : MS) (v0 : Nat) (v1 : Nat) (v2 : Int64) (v4 : Int64) (v6 : Int32) (v7 : Int32) (t0 : Int64) : Option (MS × Int64) := bnd (hm_Te_cellsAt N u v1 t0) (fun u1 r1 => br (decide (r1 = 0)) (hb_Pr_copyIn_140 N G u1 v0 v1 (v2) (v4) (v6) (v7)) (br (decide (((u1.1 (pq v0 4)) + r1) ≤ 512)) (lt (((t0 >>> ((32 : Int32).toInt64 &&& 63)) <<< ((32 : Int32).toInt64 &&& 63)) ||| (u1.1 (pq v0 4)).toInt64) (fun y4 => ck (cpOk (t0.toInt32) (u1.1 (pq v0 4)) r1 512 512) (lt (upJ u1 (pq v0 2) (va_cpy (u1.2.2.2 v1) (u1.2.2.2 (pq v0 2)) (t0.toInt32).toNatClampNeg (u1.1 (pq v0 4)).toNatClampNeg r1.toNatClampNeg)) (fun w9 => lt (upI w9 (pq v0 4) ((w9.1 (pq v0 4)) + r1)) (fun w11 => br (decide (v6 ≤ v7)) (ck (inb v7 512) (lt (upJ w11 (pq v0 2) (vp_updL (w11.2.2.2 (pq v0 2)) v7.toNatClampNeg y4)) (fun w14 => hb_Pr_copyIn_140 N G w14 v0 v1 (v2) (v4) (v6) (v7)))) (hb_Pr_copyIn_140 N G w11 v0 v1 (v2) (y4) (v6) (v7))))))) (hb_Pr_copyIn_140 N G u1 v0 v1 (v2) (v4) (v6) (v7))))
def hb_Pr_copyIn_15 (N : Nat) (G : (MS → Nat → Nat → Int64 → Int64 → Int32 → Int32 → Option (MS × Int64))) (u : MS) (v0 : Nat) (v1 : Nat) (v2 : Int64) (v4 : Int64) (v6 : Int32) (v7 : Int32) : Option (MS × Int64) := br (decide ((u.1 (pq v0 4)) ≤ v7)) (some (u, v4)) (br (decide (v6 ≤ v7)) (ck (inb v7 512) (hb_Pr_copyIn_42 N G u v0 v1 (v2) (v4) (v6) (v7) ((u.2.2.2 (pq v0 2) v7.toNatClampNeg)))) (hb_Pr_copyIn_42 N G u v0 v1 (v2) (v4) (v6) (v7) (v2)))
def hb_Pr_copyIn_0 (N : Nat) (G : (MS → Nat → Nat → Int64 → Int64 → Int32 → Int32 → Option (MS × Int64))) (u : MS) (v0 : Nat) (v1 : Nat) (v2 : Int64) : Option (MS × Int64) := G u v0 v1 (v2) (v2) ((u.1 (pq v0 4))) (((u.1 (pq v0 4)) - 1))
def hg_Pr_copyIn (N : Nat) : Nat → ((MS → Nat → Nat → Int64 → Int64 → Int32 → Int32 → Option (MS × Int64)))
  | 0 => fun _ _ _ _ _ _ _ => none
  | n + 1 => hb_Pr_copyIn_15 N (hg_Pr_copyIn N n)
def hm_Pr_copyIn (N : Nat) (u : MS) (v0 : Nat) (v1 : Nat) (v2 : Int64) : Option (MS × Int64) := hb_Pr_copyIn_0 N (hg_Pr_copyIn N N) u v0 v1 v2
def hb_Fr_bind_48 (N : Nat) (G : Unit) (u : MS) (v0 : Nat) (v1 : Int32) (v2 : Int64) : Option (MS × Unit) := ck (inb (u.1 (pq v0 24)) (lnQ u v0 42)) (lt (upA u (pq v0 32) (upd (u.2.2.1 (pq v0 32)) (u.1 (pq v0 24)).toNatClampNeg v1)) (fun w4 => ck (inb (w4.1 (pq v0 24)) (lnQ w4 v0 43)) (lt (upJ w4 (pq v0 33) (vp_updL (w4.2.2.2 (pq v0 33)) (w4.1 (pq v0 24)).toNatClampNeg v2)) (fun w8 => lt (upI w8 (pq v0 24) ((w8.1 (pq v0 24)) + 1)) (fun w10 => some (w10, ()))))))
def hb_Fr_bind_0 (N : Nat) (G : Unit) (u : MS) (v0 : Nat) (v1 : Int32) (v2 : Int64) : Option (MS × Unit) := br (decide ((u.1 (pq v0 24)) < (u.1 (pq v0 43)))) (hb_Fr_bind_48 N G u v0 (v1) (v2)) (ck (grw (u.1 (pq v0 43))) (lt (gJm u v0 33 43) (fun w20 => ck (grw (w20.1 (pq v0 42))) (lt (gIm w20 v0 32 42) (fun w26 => hb_Fr_bind_48 N G w26 v0 (v1) (v2))))))
def hm_Fr_bind (N : Nat) (u : MS) (v0 : Nat) (v1 : Int32) (v2 : Int64) : Option (MS × Unit) := hb_Fr_bind_0 N () u v0 v1 v2
def hb_Ma_hold_40 (N : Nat) (G : (MS → Nat → Nat → Nat → Int64 → Int32 → Int32 → Option (MS × Unit))) (u : MS) (p : Nat) (v1 : Nat) (v2 : Nat) (v3 : Int64) (v6 : Int32) (v7 : Int32) : Option (MS × Unit) := bnd (hm_Co_at N u v6) (fun u2 r2 => br (decide (r2 ≤ v7)) (some (u2, ())) (bnd (hm_Co_at N u2 ((v6 + 1) + v7)) (fun u5 r5 => ck (inb ((v3.toInt32 + 2) + v7) 512) (bnd (hm_Fr_bind N u5 v1 r5 (u5.2.2.2 v2 ((v3.toInt32 + 2) + v7).toNatClampNeg)) (fun u9 r9 => G u9 p v1 v2 (v3) (v6) ((v7 + 1)))))))
def hb_Ma_hold_24 (N : Nat) (G : (MS → Nat → Nat → Nat → Int64 → Int32 → Int32 → Option (MS × Unit))) (u : MS) (p : Nat) : Option (MS × Unit) := some (u, ())
def hb_Ma_hold_0 (N : Nat) (G : (MS → Nat → Nat → Nat → Int64 → Int32 → Int32 → Option (MS × Unit))) (u : MS) (p : Nat) (v1 : Nat) (v2 : Nat) (v3 : Int64) : Option (MS × Unit) := ck (inb (v3.toInt32) 512) (br (decide ((u.2.2.2 v2 (v3.toInt32).toNatClampNeg).toInt32 < 0)) (hb_Ma_hold_24 N G u p) (br (decide ((u.2.2.2 v2 (v3.toInt32).toNatClampNeg).toInt32 < (u.1 449))) (ck (inb ((u.2.2.2 v2 (v3.toInt32).toNatClampNeg).toInt32) 400) (G u p v1 v2 (v3) ((u.2.2.1 32 ((u.2.2.2 v2 (v3.toInt32).toNatClampNeg).toInt32).toNatClampNeg)) (0))) (hb_Ma_hold_24 N G u p)))
def hg_Ma_hold (N : Nat) : Nat → ((MS → Nat → Nat → Nat → Int64 → Int32 → Int32 → Option (MS × Unit)))
  | 0 => fun _ _ _ _ _ _ _ => none
  | n + 1 => hb_Ma_hold_40 N (hg_Ma_hold N n)
def hm_Ma_hold (N : Nat) (u : MS) (p : Nat) (v1 : Nat) (v2 : Nat) (v3 : Int64) : Option (MS × Unit) := hb_Ma_hold_0 N (hg_Ma_hold N N) u p v1 v2 v3
def hb_Fr_drop_0 (N : Nat) (G : Unit) (u : MS) (v0 : Nat) (v1 : Int32) : Option (MS × Unit) := lt (if 0 < ((u.1 (pq v0 26)) - v1) then ((u.1 (pq v0 26)) - v1) else 0) (fun y2 => lt (upI u (pq v0 26) y2) (fun w3 => some (w3, ())))
def hm_Fr_drop (N : Nat) (u : MS) (v0 : Nat) (v1 : Int32) : Option (MS × Unit) := hb_Fr_drop_0 N () u v0 v1
def hb_Fr_push_30 (N : Nat) (G : Unit) (u : MS) (v0 : Nat) (v1 : Int64) : Option (MS × Unit) := ck (inb (u.1 (pq v0 26)) (lnQ u v0 45)) (lt (upJ u (pq v0 35) (vp_updL (u.2.2.2 (pq v0 35)) (u.1 (pq v0 26)).toNatClampNeg v1)) (fun w4 => lt (upI w4 (pq v0 26) ((w4.1 (pq v0 26)) + 1)) (fun w6 => some (w6, ()))))
def hb_Fr_push_0 (N : Nat) (G : Unit) (u : MS) (v0 : Nat) (v1 : Int64) : Option (MS × Unit) := br (decide ((u.1 (pq v0 26)) < (u.1 (pq v0 45)))) (hb_Fr_push_30 N G u v0 (v1)) (ck (grw (u.1 (pq v0 45))) (lt (gJm u v0 35 45) (fun w16 => hb_Fr_push_30 N G w16 v0 (v1))))
def hm_Fr_push (N : Nat) (u : MS) (v0 : Nat) (v1 : Int64) : Option (MS × Unit) := hb_Fr_push_0 N () u v0 v1
def hb_Ma_answer_0 (N : Nat) (G : Unit) (u : MS) (p : Nat) (v1 : Int32) (v2 : Int64) : Option (MS × Unit) := bnd (hm_Fr_drop N u p v1) (fun u2 r2 => bnd (hm_Fr_push N u2 p v2) (fun u5 r5 => some (u5, ())))
def hm_Ma_answer (N : Nat) (u : MS) (p : Nat) (v1 : Int32) (v2 : Int64) : Option (MS × Unit) := hb_Ma_answer_0 N () u p v1 v2
def hb_Ma_spawn_170 (N : Nat) (G : Unit) (u : MS) (p : Nat) (v4 : Nat) : Option (MS × Unit) := bnd (hm_Te_make N u 4 (Int32.ofNat v4)) (fun u3 r3 => bnd (hm_Ma_answer N u3 p 1 r3) (fun u4 r4 => some (u4, ())))
def hb_Ma_spawn_59 (N : Nat) (G : Unit) (u : MS) (p : Nat) (v1 : Int64) (t0 : Option Nat) : Option (MS × Unit) := br (decide (t0 = none)) (bnd (hm_Ma_wrong N u p 11) (fun u37 r37 => some (u37, ()))) (ck (inb (v1.toInt32) 512) (bo t0 (fun j10 => bnd (hm_Ma_functionOf N u ((u.2.2.2 (pq p 2) (v1.toInt32).toNatClampNeg).toInt32)) (fun u12 r12 => bnd (hm_Ma_entryOf N u12 p ((u.2.2.2 (pq p 2) (v1.toInt32).toNatClampNeg).toInt32)) (fun u13 r13 => bnd (hm_Fr_open N u13 j10 r12 r13 0) (fun u14 r14 => bnd (hm_Te_size N u14 (pq p 2) v1) (fun u20 r20 => bnd (hm_Pr_want N u20 j10 r20) (fun u22 r22 => br (decide (r22 = 0)) (bnd (hm_Wl_endsBy N u22 j10 20) (fun u25 r25 => hb_Ma_spawn_170 N G u25 p j10)) (bnd (hm_Pr_copyIn N u22 j10 (pq p 2) v1) (fun u34 r34 => bnd (hm_Ma_hold N u34 p j10 (pq j10 2) r34) (fun u36 r36 => hb_Ma_spawn_170 N G u36 p j10)))))))))))
def hb_Ma_spawn_43 (N : Nat) (G : Unit) (u : MS) (p : Nat) (v1 : Int64) (t0 : Int32) : Option (MS × Unit) := br (decide (t0 = 0)) (hb_Ma_spawn_59 N G u p (v1) none) (bnd (hm_Wl_born N u) (fun u39 r39 => hb_Ma_spawn_59 N G u39 p (v1) r39))
def hb_Ma_spawn_42 (N : Nat) (G : Unit) (u : MS) (p : Nat) (v1 : Int64) : Option (MS × Unit) := hb_Ma_spawn_43 N G u p (v1) (0)
def hb_Ma_spawn_0 (N : Nat) (G : Unit) (u : MS) (p : Nat) : Option (MS × Unit) := bnd (hm_Fr_below N u p 0) (fun u42 r42 => bnd (hm_Te_tag N u42 r42) (fun u44 r44 => br (decide (r44 = 3)) (ck (inb (r42.toInt32) 512) (bnd (hm_Co_takes N u44 ((u44.2.2.2 (pq p 2) (r42.toInt32).toNatClampNeg).toInt32)) (fun u51 r51 => br (decide (r51 = 0)) (hb_Ma_spawn_43 N G u51 p (r42) (1)) (hb_Ma_spawn_42 N G u51 p (r42))))) (hb_Ma_spawn_42 N G u44 p (r42))))
def hm_Ma_spawn (N : Nat) (u : MS) (p : Nat) : Option (MS × Unit) := hb_Ma_spawn_0 N () u p
def hb_Te_write_52 (N : Nat) (G : Unit) (u : MS) : Option (MS × Unit) := some (u, ())
def hb_Te_write_0 (N : Nat) (G : Unit) (u : MS) (v1 : Int32) : Option (MS × Unit) := br (decide (100 ≤ (u.1 866))) (hb_Te_write_52 N G u) (bo (rf (u.1 1964)) (fun j5 => br (decide ((Int32.ofNat (bl j5)) ≤ ((u.1 865) + (u.1 866)))) (hb_Te_write_52 N G u) (bo (rf (u.1 1964)) (fun j10 => ck (inb ((u.1 865) + (u.1 866)) (bl j10)) (lt (upA u j10 (upd (u.2.2.1 j10) ((u.1 865) + (u.1 866)).toNatClampNeg (vp_nar .byte (v1.toInt8.toInt32)))) (fun w11 => lt (upI w11 866 ((w11.1 866) + 1)) (fun w13 => hb_Te_write_52 N G w13)))))))
def hm_Te_write (N : Nat) (u : MS) (v1 : Int32) : Option (MS × Unit) := hb_Te_write_0 N () u v1
def hb_Te_toWriteRest_19 (N : Nat) (G : Unit) (u : MS) (v1 : Nat) (v2 : Int32) (t0 : Int64) : Option (MS × Int32) := lt (if v2 < 0 then 0 else v2) (fun y1 => bnd (hm_Te_tag N u t0) (fun u2 r2 => br (decide (r2 = 6)) (bnd (hm_Te_write N u2 93) (fun u10 r10 => some (u10, y1))) (bnd (hm_Te_tag N u2 t0) (fun u3 r3 => br (decide (r3 = 7)) (bnd (hm_Te_write N u3 44) (fun u8 r8 => bnd (hm_Te_toWritePair N u8 v1 (t0.toInt32) y1) (fun u9 r9 => some (u9, r9)))) (bnd (hm_Te_write N u3 124) (fun u4 r4 => bnd (hm_Te_make N u4 10 93) (fun u5 r5 => bnd (hm_Te_push N u5 y1 r5) (fun u6 r6 => bnd (hm_Te_push N u6 r6 t0) (fun u7 r7 => some (u7, r7))))))))))
def hb_Te_toWriteRest_0 (N : Nat) (G : Unit) (u : MS) (v1 : Nat) (v2 : Int32) : Option (MS × Int32) := br (decide (v2 < 0)) (bnd (hm_Te_make N u 6 0) (fun u11 r11 => hb_Te_toWriteRest_19 N G u11 v1 (v2) (r11))) (ck (inb v2 2048) (hb_Te_toWriteRest_19 N G u v1 (v2) ((u.2.2.2 45 v2.toNatClampNeg))))
def hm_Te_toWriteRest (N : Nat) (u : MS) (v1 : Nat) (v2 : Int32) : Option (MS × Int32) := hb_Te_toWriteRest_0 N () u v1 v2
def hb_Te_writeNumber_43 (N : Nat) (G : (MS → Int64 → Int64 → Option (MS × Unit)) × (MS → Int64 → Int64 → Option (MS × Unit))) (u : MS) (v2 : Int64) (v4 : Int64) : Option (MS × Unit) := br (decide ((lg_cmp v4 0) ≤ 0)) (some (u, ())) (ck (decide (¬ v4 = 0)) (ck (decide (¬ 10 = 0)) (bnd (hm_Te_write N u ((48 + ((v2 / v4) - (v2 / v4) / 10 * 10)).toInt32)) (fun u1 r1 => ck (decide (¬ 10 = 0)) (G.2 u1 (v2) ((v4 / 10)))))))
def hb_Te_writeNumber_21 (N : Nat) (G : (MS → Int64 → Int64 → Option (MS × Unit)) × (MS → Int64 → Int64 → Option (MS × Unit))) (u : MS) (v2 : Int64) (v4 : Int64) : Option (MS × Unit) := ck (decide (¬ 10 = 0)) (br (decide (0 < (lg_cmp v4 (v2 / 10)))) (G.2 u (v2) (v4)) (G.1 u (v2) ((v4 * 10))))
def hb_Te_writeNumber_18 (N : Nat) (G : (MS → Int64 → Int64 → Option (MS × Unit)) × (MS → Int64 → Int64 → Option (MS × Unit))) (u : MS) (v2 : Int64) : Option (MS × Unit) := G.1 u (v2) (1)
def hb_Te_writeNumber_0 (N : Nat) (G : (MS → Int64 → Int64 → Option (MS × Unit)) × (MS → Int64 → Int64 → Option (MS × Unit))) (u : MS) (v1 : Int32) : Option (MS × Unit) := br (decide (0 ≤ (lg_cmp (v1.toInt64) 0))) (hb_Te_writeNumber_18 N G u (v1.toInt64)) (bnd (hm_Te_write N u 45) (fun u2 r2 => hb_Te_writeNumber_18 N G u2 ((-(v1.toInt64)))))
def hg_Te_writeNumber (N : Nat) : Nat → ((MS → Int64 → Int64 → Option (MS × Unit)) × (MS → Int64 → Int64 → Option (MS × Unit)))
  | 0 => (fun _ _ _ => none, fun _ _ _ => none)
  | n + 1 => (hb_Te_writeNumber_21 N (hg_Te_writeNumber N n), hb_Te_writeNumber_43 N (hg_Te_writeNumber N n))
def hm_Te_writeNumber (N : Nat) (u : MS) (v1 : Int32) : Option (MS × Unit) := hb_Te_writeNumber_0 N (hg_Te_writeNumber N N) u v1
def hb_Te_writeAlone_170 (N : Nat) (G : (MS → Int32 → Int32 → Option (MS × Unit))) (u : MS) : Option (MS × Unit) := some (u, ())
def hb_Te_writeAlone_59 (N : Nat) (G : (MS → Int32 → Int32 → Option (MS × Unit))) (u : MS) (v3 : Int32) (v4 : Int32) : Option (MS × Unit) := bnd (hm_Wo_length N u 1 v3) (fun u2 r2 => br (decide (r2 ≤ v4)) (hb_Te_writeAlone_170 N G u2) (bnd (hm_Wo_sign N u2 1 v3 v4) (fun u5 r5 => bnd (hm_Te_write N u5 r5) (fun u7 r7 => G u7 (v3) ((v4 + 1))))))
def hb_Te_writeAlone_0 (N : Nat) (G : (MS → Int32 → Int32 → Option (MS × Unit))) (u : MS) (v1 : Int64) : Option (MS × Unit) := bnd (hm_Te_tag N u v1) (fun u8 r8 => br (decide (r8 = 0)) (bnd (hm_Te_writeNumber N u8 (v1.toInt32)) (fun u9 r9 => hb_Te_writeAlone_170 N G u9)) (br (decide (r8 = 1)) (G u8 (v1.toInt32) (0)) (br (decide (r8 = 2)) (bnd (hm_Te_write N u8 35) (fun u10 r10 => bnd (hm_Te_writeNumber N u10 (v1.toInt32)) (fun u11 r11 => hb_Te_writeAlone_170 N G u11))) (br (decide (r8 = 3)) (bnd (hm_Te_write N u8 102) (fun u12 r12 => bnd (hm_Te_write N u12 117) (fun u13 r13 => bnd (hm_Te_write N u13 110) (fun u14 r14 => hb_Te_writeAlone_170 N G u14)))) (br (decide (r8 = 4)) (bnd (hm_Te_write N u8 60) (fun u15 r15 => bnd (hm_Te_writeNumber N u15 (v1.toInt32)) (fun u16 r16 => bnd (hm_Te_write N u16 62) (fun u17 r17 => hb_Te_writeAlone_170 N G u17)))) (br (decide (r8 = 5)) (bnd (hm_Te_write N u8 (v1.toInt32)) (fun u18 r18 => hb_Te_writeAlone_170 N G u18)) (br (decide (r8 = 6)) (bnd (hm_Te_write N u8 91) (fun u19 r19 => bnd (hm_Te_write N u19 93) (fun u20 r20 => hb_Te_writeAlone_170 N G u20))) (bnd (hm_Te_write N u8 (v1.toInt32)) (fun u21 r21 => hb_Te_writeAlone_170 N G u21)))))))))
def hg_Te_writeAlone (N : Nat) : Nat → ((MS → Int32 → Int32 → Option (MS × Unit)))
  | 0 => fun _ _ _ => none
  | n + 1 => hb_Te_writeAlone_59 N (hg_Te_writeAlone N n)
def hm_Te_writeAlone (N : Nat) (u : MS) (v1 : Int64) : Option (MS × Unit) := hb_Te_writeAlone_0 N (hg_Te_writeAlone N N) u v1
def hb_Te_text_174 (N : Nat) (G : (MS → Nat → Int32 → Int32 → Option (MS × Int32))) (u : MS) : Option (MS × Int32) := some (u, (u.1 866))
def hb_Te_text_168 (N : Nat) (G : (MS → Nat → Int32 → Int32 → Option (MS × Int32))) (u : MS) (v1 : Nat) (v6 : Int32) (v7 : Int32) : Option (MS × Int32) := G u v1 (v6) ((v7 + 1))
def hb_Te_text_30 (N : Nat) (G : (MS → Nat → Int32 → Int32 → Option (MS × Int32))) (u : MS) (v1 : Nat) (v6 : Int32) (v7 : Int32) : Option (MS × Int32) := br (decide (1000000000 ≤ v7)) (hb_Te_text_174 N G u) (br (decide (v6 ≤ 0)) (hb_Te_text_174 N G u) (br (decide (100 ≤ (u.1 866))) (hb_Te_text_174 N G u) (ck (inb (v6 + (-1)) 2048) (bnd (hm_Te_tag N u (u.2.2.2 45 (v6 + (-1)).toNatClampNeg)) (fun u6 r6 => br (decide (r6 = 5)) (bnd (hm_Te_write N u6 123) (fun u7 r7 => bnd (hm_Te_toWriteTuple N u7 v1 ((u.2.2.2 45 (v6 + (-1)).toNatClampNeg).toInt32) (v6 + (-1))) (fun u8 r8 => hb_Te_text_168 N G u8 v1 (r8) (v7)))) (br (decide (r6 = 7)) (bnd (hm_Te_write N u6 91) (fun u9 r9 => bnd (hm_Te_toWritePair N u9 v1 ((u.2.2.2 45 (v6 + (-1)).toNatClampNeg).toInt32) (v6 + (-1))) (fun u10 r10 => hb_Te_text_168 N G u10 v1 (r10) (v7)))) (br (decide (r6 = 11)) (bnd (hm_Te_toWriteRest N u6 v1 ((v6 + (-1)) - 1)) (fun u11 r11 => hb_Te_text_168 N G u11 v1 (r11) (v7))) (bnd (hm_Te_writeAlone N u6 (u.2.2.2 45 (v6 + (-1)).toNatClampNeg)) (fun u12 r12 => hb_Te_text_168 N G u12 v1 ((v6 + (-1))) (v7))))))))))
def hb_Te_text_0 (N : Nat) (G : (MS → Nat → Int32 → Int32 → Option (MS × Int32))) (u : MS) (v1 : Nat) (v2 : Int64) (v4 : Nat) (v5 : Int32) : Option (MS × Int32) := lt (upI u 1964 (Int32.ofNat v4)) (fun w13 => lt (upI w13 865 v5) (fun w14 => lt (upI w14 866 0) (fun w15 => ck (inb (0 : Int32) 2048) (lt (upJ w15 45 (vp_updL (w15.2.2.2 45) (0 : Int32).toNatClampNeg v2)) (fun w18 => G w18 v1 (1) (0))))))
def hg_Te_text (N : Nat) : Nat → ((MS → Nat → Int32 → Int32 → Option (MS × Int32)))
  | 0 => fun _ _ _ _ => none
  | n + 1 => hb_Te_text_30 N (hg_Te_text N n)
def hm_Te_text (N : Nat) (u : MS) (v1 : Nat) (v2 : Int64) (v4 : Nat) (v5 : Int32) : Option (MS × Int32) := hb_Te_text_0 N (hg_Te_text N N) u v1 v2 v4 v5
def hb_Wl_print_49 (N : Nat) (G : Unit) (u : MS) : Option (MS × Unit) := some (u, ())
def hb_Wl_print_0 (N : Nat) (G : Unit) (u : MS) (v1 : Nat) (v2 : Int64) : Option (MS × Unit) := br (decide (200 ≤ (u.1 953))) (hb_Wl_print_49 N G u) (bnd (hm_Te_text N u v1 v2 52 ((u.1 953) * 100)) (fun u7 r7 => ck (inb (u.1 953) 200) (lt (upA u7 53 (upd (u7.2.2.1 53) (u.1 953).toNatClampNeg r7)) (fun w10 => lt (upI w10 953 ((w10.1 953) + 1)) (fun w12 => hb_Wl_print_49 N G w12)))))
def hm_Wl_print (N : Nat) (u : MS) (v1 : Nat) (v2 : Int64) : Option (MS × Unit) := hb_Wl_print_0 N () u v1 v2
def hb_Wl_named_39 (N : Nat) (G : (MS → Int32 → Int32 → Option (MS × Option Nat))) (u : MS) (v1 : Int32) (v2 : Int32) : Option (MS × Option Nat) := G u (v1) ((v2 + 1))
def hb_Wl_named_2 (N : Nat) (G : (MS → Int32 → Int32 → Option (MS × Option Nat))) (u : MS) (v1 : Int32) (v2 : Int32) : Option (MS × Option Nat) := br (decide ((u.1 942) ≤ v2)) (some (u, none)) (ck (inb v2 24) (br (decide ((rf (u.2.2.1 1948 v2.toNatClampNeg)) = none)) (hb_Wl_named_39 N G u (v1) (v2)) (bo (rf (u.2.2.1 1948 v2.toNatClampNeg)) (fun j5 => br (decide ((u.1 (pq j5 12)) = v1)) (br (decide ((u.1 (pq j5 9)) = 3)) (hb_Wl_named_39 N G u (v1) (v2)) (some (u, (some j5)))) (hb_Wl_named_39 N G u (v1) (v2))))))
def hb_Wl_named_0 (N : Nat) (G : (MS → Int32 → Int32 → Option (MS × Option Nat))) (u : MS) (v1 : Int32) : Option (MS × Option Nat) := G u (v1) (0)
def hg_Wl_named (N : Nat) : Nat → ((MS → Int32 → Int32 → Option (MS × Option Nat)))
  | 0 => fun _ _ _ => none
  | n + 1 => hb_Wl_named_2 N (hg_Wl_named N n)
def hm_Wl_named (N : Nat) (u : MS) (v1 : Int32) : Option (MS × Option Nat) := hb_Wl_named_0 N (hg_Wl_named N N) u v1
def hb_Ma_processAt_30 (N : Nat) (G : Unit) (u : MS) (p : Nat) (t0 : Option Nat) : Option (MS × Option Nat) := some (u, t0)
def hb_Ma_processAt_0 (N : Nat) (G : Unit) (u : MS) (p : Nat) (v1 : Int32) : Option (MS × Option Nat) := bnd (hm_Fr_below N u p v1) (fun u2 r2 => bnd (hm_Te_tag N u2 r2) (fun u4 r4 => br (decide (r4 = 4)) (bnd (hm_Wl_find N u4 (r2.toInt32)) (fun u6 r6 => hb_Ma_processAt_30 N G u6 p r6)) (hb_Ma_processAt_30 N G u4 p none)))
def hm_Ma_processAt (N : Nat) (u : MS) (p : Nat) (v1 : Int32) : Option (MS × Option Nat) := hb_Ma_processAt_0 N () u p v1
def hb_Ma_naming_147 (N : Nat) (G : Unit) (u : MS) (p : Nat) : Option (MS × Unit) := bnd (hm_Ma_wrong N u p 11) (fun u1 r1 => some (u1, ()))
def hb_Ma_naming_74 (N : Nat) (G : Unit) (u : MS) (p : Nat) (t1 : Int32) (t2 : Int64) : Option (MS × Unit) := bnd (hm_Ma_answer N u p t1 t2) (fun u2 r2 => some (u2, ()))
def hb_Ma_naming_15 (N : Nat) (G : Unit) (u : MS) (p : Nat) (v1 : Int32) (t0 : Nat) (t1 : Int32) : Option (MS × Unit) := bnd (hm_Fr_below N u t0 t1) (fun u3 r3 => bnd (hm_Te_tag N u3 r3) (fun u5 r5 => br (decide (r5 = 1)) (bnd (hm_Wl_named N u5 (r3.toInt32)) (fun u7 r7 => br (decide (v1 = 14)) (br (decide (r7 = none)) (bnd (hm_Ma_atom N u7 3) (fun u26 r26 => hb_Ma_naming_74 N G u26 p (1) (r26))) (bo r7 (fun j23 => bnd (hm_Te_make N u7 4 (Int32.ofNat j23)) (fun u25 r25 => hb_Ma_naming_74 N G u25 p (1) (r25))))) (br (decide (v1 = 13)) (br (decide (r7 = none)) (bnd (hm_Ma_wrong N u7 p 11) (fun u22 r22 => some (u22, ()))) (bo r7 (fun j18 => lt (upI u7 (pq j18 12) (-1)) (fun w19 => bnd (hm_Ma_atom N w19 0) (fun u20 r20 => bnd (hm_Ma_answer N u20 p 1 r20) (fun u21 r21 => some (u21, ()))))))) (bnd (hm_Ma_processAt N u7 p 0) (fun u9 r9 => br (decide (r9 = none)) (hb_Ma_naming_147 N G u9 p) (br (decide (r7 = none)) (bo r9 (fun j10 => br (decide ((u9.1 (pq j10 12)) = (-1))) (br (decide ((u9.1 (pq j10 9)) = 3)) (hb_Ma_naming_147 N G u9 p) (lt (upI u9 (pq j10 12) (r3.toInt32)) (fun w15 => bnd (hm_Ma_atom N w15 0) (fun u16 r16 => bnd (hm_Ma_answer N u16 p 2 r16) (fun u17 r17 => some (u17, ())))))) (hb_Ma_naming_147 N G u9 p))) (hb_Ma_naming_147 N G u9 p))))))) (bnd (hm_Ma_wrong N u5 p 11) (fun u27 r27 => some (u27, ())))))
def hb_Ma_naming_0 (N : Nat) (G : Unit) (u : MS) (p : Nat) (v1 : Int32) : Option (MS × Unit) := br (decide (v1 = 12)) (hb_Ma_naming_15 N G u p (v1) p (1)) (hb_Ma_naming_15 N G u p (v1) p (0))
def hm_Ma_naming (N : Nat) (u : MS) (p : Nat) (v1 : Int32) : Option (MS × Unit) := hb_Ma_naming_0 N () u p v1
def hb_Ma_part_189 (N : Nat) (G : Unit) (u : MS) (p : Nat) : Option (MS × Unit) := bnd (hm_Ma_wrong N u p 11) (fun u1 r1 => some (u1, ()))
def hb_Ma_part_120 (N : Nat) (G : Unit) (u : MS) (p : Nat) (t1 : Int32) (t2 : Nat) (t3 : Int32) : Option (MS × Unit) := ck (inb t3 512) (bnd (hm_Ma_answer N u p t1 (u.2.2.2 t2 t3.toNatClampNeg)) (fun u4 r4 => some (u4, ())))
def hb_Ma_part_96 (N : Nat) (G : Unit) (u : MS) (p : Nat) (v1 : Int32) (v5 : Int32) : Option (MS × Unit) := br (decide (v1 = 24)) (hb_Ma_part_120 N G u p (1) (pq p 2) (v5)) (hb_Ma_part_120 N G u p (1) (pq p 2) ((v5 + 1)))
def hb_Ma_part_74 (N : Nat) (G : Unit) (u : MS) (p : Nat) (v1 : Int32) (v5 : Int32) (t0 : Int32) (t1 : Int32) : Option (MS × Unit) := br (decide (t0 = t1)) (br (decide (v1 = 24)) (hb_Ma_part_96 N G u p (v1) (v5)) (br (decide (v1 = 25)) (hb_Ma_part_96 N G u p (v1) (v5)) (ck (inb v5 512) (br (decide (v1 = 28)) (bnd (hm_Te_make N u 0 ((u.2.2.2 (pq p 2) v5.toNatClampNeg).toInt32)) (fun u23 r23 => bnd (hm_Ma_answer N u23 p 1 r23) (fun u24 r24 => some (u24, ())))) (bnd (hm_Fr_below N u p 1) (fun u14 r14 => bnd (hm_Te_tag N u14 r14) (fun u16 r16 => br (decide (r16 = 0)) (br (decide (r14.toInt32 < 1)) (hb_Ma_part_189 N G u16 p) (br (decide (r14.toInt32 ≤ (u.2.2.2 (pq p 2) v5.toNatClampNeg).toInt32)) (ck (inb (v5 + r14.toInt32) 512) (bnd (hm_Ma_answer N u16 p 2 (u16.2.2.2 (pq p 2) (v5 + r14.toInt32).toNatClampNeg)) (fun u22 r22 => some (u22, ())))) (hb_Ma_part_189 N G u16 p))) (hb_Ma_part_189 N G u16 p)))))))) (bnd (hm_Ma_wrong N u p 11) (fun u25 r25 => some (u25, ())))
def hb_Ma_part_68 (N : Nat) (G : Unit) (u : MS) (p : Nat) (v1 : Int32) (v5 : Int32) (t0 : Int32) : Option (MS × Unit) := hb_Ma_part_74 N G u p (v1) (v5) (t0) (7)
def hb_Ma_part_53 (N : Nat) (G : Unit) (u : MS) (p : Nat) : Option (MS × Unit) := some (u, ())
def hb_Ma_part_0 (N : Nat) (G : Unit) (u : MS) (p : Nat) (v1 : Int32) (v2 : Int64) (v4 : Int32) : Option (MS × Unit) := br (decide (v1 = 26)) (bnd (hm_Te_listLength N u (pq p 2) v2) (fun u30 r30 => br (decide (r30 = (-1))) (bnd (hm_Ma_wrong N u30 p 11) (fun u34 r34 => hb_Ma_part_53 N G u34 p)) (bnd (hm_Te_make N u30 0 r30) (fun u32 r32 => bnd (hm_Ma_answer N u32 p 1 r32) (fun u33 r33 => hb_Ma_part_53 N G u33 p))))) (br (decide (v1 = 24)) (hb_Ma_part_68 N G u p (v1) (v2.toInt32) (v4)) (br (decide (v1 = 25)) (hb_Ma_part_68 N G u p (v1) (v2.toInt32) (v4)) (hb_Ma_part_74 N G u p (v1) (v2.toInt32) (v4) (5))))
def hm_Ma_part (N : Nat) (u : MS) (p : Nat) (v1 : Int32) (v2 : Int64) (v4 : Int32) : Option (MS × Unit) := hb_Ma_part_0 N () u p v1 v2 v4
def hb_Ma_test_229 (N : Nat) (G : Unit) (u : MS) (p : Nat) : Option (MS × Unit) := some (u, ())
def hb_Ma_test_212 (N : Nat) (G : Unit) (u : MS) (p : Nat) (t1 : Int32) (t2 : Int32) : Option (MS × Unit) := bnd (hm_Ma_truth N u t2) (fun u1 r1 => bnd (hm_Ma_answer N u1 p t1 r1) (fun u2 r2 => hb_Ma_test_229 N G u2 p))
def hb_Ma_test_190 (N : Nat) (G : Unit) (u : MS) (p : Nat) (t1 : Int32) (t2 : Int32) : Option (MS × Unit) := bnd (hm_Ma_truth N u t2) (fun u3 r3 => bnd (hm_Ma_answer N u3 p t1 r3) (fun u4 r4 => hb_Ma_test_229 N G u4 p))
def hb_Ma_test_168 (N : Nat) (G : Unit) (u : MS) (p : Nat) (t1 : Int32) (t2 : Int32) : Option (MS × Unit) := bnd (hm_Ma_truth N u t2) (fun u5 r5 => bnd (hm_Ma_answer N u5 p t1 r5) (fun u6 r6 => hb_Ma_test_229 N G u6 p))
def hb_Ma_test_146 (N : Nat) (G : Unit) (u : MS) (p : Nat) (t1 : Int32) (t2 : Int32) : Option (MS × Unit) := bnd (hm_Ma_truth N u t2) (fun u7 r7 => bnd (hm_Ma_answer N u7 p t1 r7) (fun u8 r8 => hb_Ma_test_229 N G u8 p))
def hb_Ma_test_124 (N : Nat) (G : Unit) (u : MS) (p : Nat) (t1 : Int32) (t2 : Int32) : Option (MS × Unit) := bnd (hm_Ma_truth N u t2) (fun u9 r9 => bnd (hm_Ma_answer N u9 p t1 r9) (fun u10 r10 => hb_Ma_test_229 N G u10 p))
def hb_Ma_test_119 (N : Nat) (G : Unit) (u : MS) (p : Nat) (t1 : Int32) : Option (MS × Unit) := hb_Ma_test_124 N G u p (t1) (1)
def hb_Ma_test_94 (N : Nat) (G : Unit) (u : MS) (p : Nat) (t1 : Int32) (t2 : Int32) : Option (MS × Unit) := bnd (hm_Ma_truth N u t2) (fun u11 r11 => bnd (hm_Ma_answer N u11 p t1 r11) (fun u12 r12 => hb_Ma_test_229 N G u12 p))
def hb_Ma_test_72 (N : Nat) (G : Unit) (u : MS) (p : Nat) (t1 : Int32) (t2 : Int32) : Option (MS × Unit) := bnd (hm_Ma_truth N u t2) (fun u13 r13 => bnd (hm_Ma_answer N u13 p t1 r13) (fun u14 r14 => hb_Ma_test_229 N G u14 p))
def hb_Ma_test_0 (N : Nat) (G : Unit) (u : MS) (p : Nat) (v1 : Int32) : Option (MS × Unit) := bnd (hm_Fr_below N u p 0) (fun u16 r16 => bnd (hm_Te_tag N u16 r16) (fun u18 r18 => br (decide (v1 = 17)) (br (decide (r18 = 0)) (hb_Ma_test_72 N G u18 p (1) (1)) (hb_Ma_test_72 N G u18 p (1) (0))) (br (decide (v1 = 18)) (br (decide (r18 = 1)) (hb_Ma_test_94 N G u18 p (1) (1)) (hb_Ma_test_94 N G u18 p (1) (0))) (br (decide (v1 = 19)) (br (decide (r18 = 6)) (hb_Ma_test_119 N G u18 p (1)) (br (decide (r18 = 7)) (hb_Ma_test_119 N G u18 p (1)) (hb_Ma_test_124 N G u18 p (1) (0)))) (br (decide (v1 = 20)) (br (decide (r18 = 5)) (hb_Ma_test_146 N G u18 p (1) (1)) (hb_Ma_test_146 N G u18 p (1) (0))) (br (decide (v1 = 21)) (br (decide (r18 = 3)) (hb_Ma_test_168 N G u18 p (1) (1)) (hb_Ma_test_168 N G u18 p (1) (0))) (br (decide (v1 = 22)) (br (decide (r18 = 4)) (hb_Ma_test_190 N G u18 p (1) (1)) (hb_Ma_test_190 N G u18 p (1) (0))) (br (decide (v1 = 23)) (br (decide (r18 = 2)) (hb_Ma_test_212 N G u18 p (1) (1)) (hb_Ma_test_212 N G u18 p (1) (0))) (bnd (hm_Ma_part N u18 p v1 r16 r18) (fun u19 r19 => hb_Ma_test_229 N G u19 p))))))))))
def hm_Ma_test (N : Nat) (u : MS) (p : Nat) (v1 : Int32) : Option (MS × Unit) := hb_Ma_test_0 N () u p v1
def hb_Ma_alone_309 (N : Nat) (G : Unit) (u : MS) (p : Nat) : Option (MS × Unit) := some (u, ())
def hb_Ma_alone_216 (N : Nat) (G : Unit) (u : MS) (p : Nat) (t0 : Nat) (t1 : Int32) : Option (MS × Unit) := ck (isb t1) (lt (upI u (pq t0 11) t1) (fun w2 => hb_Ma_alone_309 N G w2 p))
def hb_Ma_alone_183 (N : Nat) (G : Unit) (u : MS) (p : Nat) (v2 : Int64) : Option (MS × Unit) := bnd (hm_Ma_truth N u (u.1 (pq p 11))) (fun u6 r6 => bnd (hm_Ma_answer N u6 p 1 r6) (fun u7 r7 => bnd (hm_Ma_atom N u7 0) (fun u9 r9 => br (decide ((lg_cmp v2 r9) = 0)) (hb_Ma_alone_216 N G u9 p p (1)) (hb_Ma_alone_216 N G u9 p p (0)))))
def hb_Ma_alone_0 (N : Nat) (G : Unit) (u : MS) (p : Nat) (v1 : Int32) : Option (MS × Unit) := bnd (hm_Fr_below N u p 0) (fun u11 r11 => br (decide (v1 = 0)) (bnd (hm_Te_make N u11 4 (Int32.ofNat p)) (fun u16 r16 => bnd (hm_Ma_answer N u16 p 0 r16) (fun u17 r17 => hb_Ma_alone_309 N G u17 p))) (br (decide (v1 = 1)) (bnd (hm_Ma_wrong N u11 p 11) (fun u18 r18 => hb_Ma_alone_309 N G u18 p)) (br (decide (v1 = 2)) (bnd (hm_Ma_wrong N u11 p 11) (fun u19 r19 => hb_Ma_alone_309 N G u19 p)) (br (decide (v1 = 3)) (bnd (hm_Ma_wrong N u11 p 11) (fun u20 r20 => hb_Ma_alone_309 N G u20 p)) (br (decide (v1 = 4)) (bnd (hm_Ma_wrong N u11 p 11) (fun u21 r21 => hb_Ma_alone_309 N G u21 p)) (br (decide (v1 = 5)) (bnd (hm_Te_tag N u11 r11) (fun u22 r22 => br (decide (r22 = 2)) (bnd (hm_Wl_removeWatch N u22 (Int32.ofNat p) (r11.toInt32)) (fun u27 r27 => bnd (hm_Ma_atom N u27 0) (fun u29 r29 => bnd (hm_Ma_answer N u29 p 1 r29) (fun u30 r30 => hb_Ma_alone_309 N G u30 p)))) (bnd (hm_Ma_wrong N u22 p 11) (fun u31 r31 => hb_Ma_alone_309 N G u31 p)))) (br (decide (v1 = 6)) (bnd (hm_Ma_atom N u11 0) (fun u32 r32 => br (decide ((lg_cmp r11 r32) = 0)) (hb_Ma_alone_183 N G u32 p (r11)) (bnd (hm_Ma_atom N u32 1) (fun u33 r33 => br (decide ((lg_cmp r11 r33) = 0)) (hb_Ma_alone_183 N G u33 p (r11)) (bnd (hm_Ma_wrong N u33 p 11) (fun u34 r34 => hb_Ma_alone_309 N G u34 p)))))) (br (decide (v1 = 7)) (bnd (hm_Ma_tell N u11 p 2 (-1) r11) (fun u35 r35 => hb_Ma_alone_309 N G u35 p)) (br (decide (v1 = 8)) (bnd (hm_Ma_tell N u11 p 3 (-1) r11) (fun u36 r36 => hb_Ma_alone_309 N G u36 p)) (br (decide (v1 = 9)) (bnd (hm_Ma_tell N u11 p 1 (-1) r11) (fun u37 r37 => hb_Ma_alone_309 N G u37 p)) (br (decide (v1 = 10)) (bnd (hm_Ma_wrong N u11 p 11) (fun u38 r38 => hb_Ma_alone_309 N G u38 p)) (br (decide (v1 = 11)) (bnd (hm_Te_make N u11 2 (u11.1 945)) (fun u42 r42 => bnd (hm_Ma_answer N u42 p 0 r42) (fun u43 r43 => lt (upI u43 945 ((u43.1 945) + 1)) (fun w47 => hb_Ma_alone_309 N G w47 p)))) (br (decide (v1 = 12)) (bnd (hm_Ma_wrong N u11 p 11) (fun u48 r48 => hb_Ma_alone_309 N G u48 p)) (br (decide (v1 = 13)) (bnd (hm_Ma_wrong N u11 p 11) (fun u49 r49 => hb_Ma_alone_309 N G u49 p)) (br (decide (v1 = 14)) (bnd (hm_Ma_wrong N u11 p 11) (fun u50 r50 => hb_Ma_alone_309 N G u50 p)) (br (decide (v1 = 15)) (bnd (hm_Ma_wrong N u11 p 11) (fun u51 r51 => hb_Ma_alone_309 N G u51 p)) (br (decide (v1 = 16)) (bnd (hm_Te_make N u11 0 (u11.1 944)) (fun u55 r55 => bnd (hm_Ma_answer N u55 p 0 r55) (fun u56 r56 => hb_Ma_alone_309 N G u56 p))) (bnd (hm_Ma_wrong N u11 p 11) (fun u57 r57 => hb_Ma_alone_309 N G u57 p)))))))))))))))))))
def hm_Ma_alone (N : Nat) (u : MS) (p : Nat) (v1 : Int32) : Option (MS × Unit) := hb_Ma_alone_0 N () u p v1
def hb_Ma_predefined_163 (N : Nat) (G : Unit) (u : MS) (p : Nat) : Option (MS × Unit) := some (u, ())
def hb_Ma_predefined_146 (N : Nat) (G : Unit) (u : MS) (p : Nat) : Option (MS × Unit) := br (decide ((u.1 1109) = 0)) (lt (upI u 1105 ((u.1 1105) + 2)) (fun w3 => hb_Ma_predefined_163 N G w3 p)) (hb_Ma_predefined_163 N G u p)
def hb_Ma_predefined_141 (N : Nat) (G : Unit) (u : MS) (p : Nat) (v1 : Int32) : Option (MS × Unit) := bnd (hm_Ma_alone N u p v1) (fun u4 r4 => hb_Ma_predefined_146 N G u4 p)
def hb_Ma_predefined_0 (N : Nat) (G : Unit) (u : MS) (p : Nat) (v1 : Int32) : Option (MS × Unit) := br (decide (v1 = 1)) (bnd (hm_Ma_spawn N u p) (fun u5 r5 => hb_Ma_predefined_146 N G u5 p)) (br (decide (v1 = 2)) (br (decide (v1 < 17)) (hb_Ma_predefined_141 N G u p (v1)) (br (decide (28 < v1)) (hb_Ma_predefined_141 N G u p (v1)) (bnd (hm_Ma_test N u p v1) (fun u6 r6 => hb_Ma_predefined_146 N G u6 p)))) (br (decide (v1 = 3)) (br (decide (v1 < 17)) (hb_Ma_predefined_141 N G u p (v1)) (br (decide (28 < v1)) (hb_Ma_predefined_141 N G u p (v1)) (bnd (hm_Ma_test N u p v1) (fun u7 r7 => hb_Ma_predefined_146 N G u7 p)))) (br (decide (v1 = 4)) (br (decide (v1 < 17)) (hb_Ma_predefined_141 N G u p (v1)) (br (decide (28 < v1)) (hb_Ma_predefined_141 N G u p (v1)) (bnd (hm_Ma_test N u p v1) (fun u8 r8 => hb_Ma_predefined_146 N G u8 p)))) (br (decide (v1 = 5)) (br (decide (v1 < 17)) (hb_Ma_predefined_141 N G u p (v1)) (br (decide (28 < v1)) (hb_Ma_predefined_141 N G u p (v1)) (bnd (hm_Ma_test N u p v1) (fun u9 r9 => hb_Ma_predefined_146 N G u9 p)))) (br (decide (v1 = 6)) (br (decide (v1 < 17)) (hb_Ma_predefined_141 N G u p (v1)) (br (decide (28 < v1)) (hb_Ma_predefined_141 N G u p (v1)) (bnd (hm_Ma_test N u p v1) (fun u10 r10 => hb_Ma_predefined_146 N G u10 p)))) (br (decide (v1 = 7)) (br (decide (v1 < 17)) (hb_Ma_predefined_141 N G u p (v1)) (br (decide (28 < v1)) (hb_Ma_predefined_141 N G u p (v1)) (bnd (hm_Ma_test N u p v1) (fun u11 r11 => hb_Ma_predefined_146 N G u11 p)))) (br (decide (v1 = 8)) (br (decide (v1 < 17)) (hb_Ma_predefined_141 N G u p (v1)) (br (decide (28 < v1)) (hb_Ma_predefined_141 N G u p (v1)) (bnd (hm_Ma_test N u p v1) (fun u12 r12 => hb_Ma_predefined_146 N G u12 p)))) (br (decide (v1 = 9)) (br (decide (v1 < 17)) (hb_Ma_predefined_141 N G u p (v1)) (br (decide (28 < v1)) (hb_Ma_predefined_141 N G u p (v1)) (bnd (hm_Ma_test N u p v1) (fun u13 r13 => hb_Ma_predefined_146 N G u13 p)))) (br (decide (v1 = 10)) (bnd (hm_Fr_below N u p 0) (fun u19 r19 => bnd (hm_Wl_print N u19 (pq p 2) r19) (fun u21 r21 => bnd (hm_Ma_atom N u21 2) (fun u23 r23 => bnd (hm_Ma_answer N u23 p 1 r23) (fun u24 r24 => hb_Ma_predefined_146 N G u24 p))))) (br (decide (v1 = 11)) (br (decide (v1 < 17)) (hb_Ma_predefined_141 N G u p (v1)) (br (decide (28 < v1)) (hb_Ma_predefined_141 N G u p (v1)) (bnd (hm_Ma_test N u p v1) (fun u25 r25 => hb_Ma_predefined_146 N G u25 p)))) (br (decide (v1 = 12)) (bnd (hm_Ma_naming N u p v1) (fun u26 r26 => hb_Ma_predefined_146 N G u26 p)) (br (decide (v1 = 13)) (bnd (hm_Ma_naming N u p v1) (fun u27 r27 => hb_Ma_predefined_146 N G u27 p)) (br (decide (v1 = 14)) (bnd (hm_Ma_naming N u p v1) (fun u28 r28 => hb_Ma_predefined_146 N G u28 p)) (br (decide (v1 < 17)) (hb_Ma_predefined_141 N G u p (v1)) (br (decide (28 < v1)) (hb_Ma_predefined_141 N G u p (v1)) (bnd (hm_Ma_test N u p v1) (fun u29 r29 => hb_Ma_predefined_146 N G u29 p)))))))))))))))))
def hm_Ma_predefined (N : Nat) (u : MS) (p : Nat) (v1 : Int32) : Option (MS × Unit) := hb_Ma_predefined_0 N () u p v1
def hb_Wl_post_193 (N : Nat) (G : Unit) (u : MS) (v1 : Nat) (v2 : Int32) (v3 : Int32) (v11 : Int32) (v12 : Int64) : Option (MS × Unit) := bnd (hm_Te_make N u 4 v3) (fun u3 r3 => ck (inb ((v11 + v2) - 2) 512) (lt (upJ u3 (pq v1 2) (vp_updL (u3.2.2.2 (pq v1 2)) ((v11 + v2) - 2).toNatClampNeg r3)) (fun w5 => ck (inb ((v11 + v2) - 1) 512) (lt (upJ w5 (pq v1 2) (vp_updL (w5.2.2.2 (pq v1 2)) ((v11 + v2) - 1).toNatClampNeg v12)) (fun w9 => bnd (hm_Te_make N w9 5 v11) (fun u10 r10 => bnd (hm_Pr_comes N u10 v1 r10) (fun u11 r11 => some (u11, ()))))))))
def hb_Wl_post_169 (N : Nat) (G : Unit) (u : MS) (v1 : Nat) (v2 : Int32) (v3 : Int32) (v4 : Int32) (v11 : Int32) (v12 : Int64) (t0 : Nat) (t1 : Int32) (t2 : Int32) (t3 : Int32) : Option (MS × Unit) := bnd (hm_Te_make N u t2 t3) (fun u13 r13 => ck (inb t1 512) (lt (upJ u13 t0 (vp_updL (u13.2.2.2 t0) t1.toNatClampNeg r13)) (fun w15 => br (decide (v2 = 5)) (bnd (hm_Te_make N w15 2 v4) (fun u18 r18 => ck (inb (v11 + 2) 512) (lt (upJ u18 (pq v1 2) (vp_updL (u18.2.2.2 (pq v1 2)) (v11 + 2).toNatClampNeg r18)) (fun w20 => hb_Wl_post_193 N G w20 v1 (v2) (v3) (v11) (v12))))) (hb_Wl_post_193 N G w15 v1 (v2) (v3) (v11) (v12)))))
def hb_Wl_post_120 (N : Nat) (G : Unit) (u : MS) (v1 : Nat) (v2 : Int32) (v3 : Int32) (v4 : Int32) (v11 : Int32) (t0 : Int64) : Option (MS × Unit) := br (decide (v2 = 0)) (bnd (hm_Pr_comes N u v1 t0) (fun u28 r28 => some (u28, ()))) (bnd (hm_Te_make N u 8 (v2 - 1)) (fun u23 r23 => ck (inb v11 512) (lt (upJ u23 (pq v1 2) (vp_updL (u23.2.2.2 (pq v1 2)) v11.toNatClampNeg r23)) (fun w25 => br (decide (v2 = 4)) (hb_Wl_post_169 N G w25 v1 (v2) (v3) (v4) (v11) (t0) (pq v1 2) ((v11 + 1)) (1) (8)) (hb_Wl_post_169 N G w25 v1 (v2) (v3) (v4) (v11) (t0) (pq v1 2) ((v11 + 1)) (1) (9))))))
def hb_Wl_post_81 (N : Nat) (G : Unit) (u : MS) (v1 : Nat) (v2 : Int32) (v3 : Int32) (v4 : Int32) (v7 : Option Nat) (t0 : Int64) : Option (MS × Unit) := lt (upI u (pq v1 4) ((u.1 (pq v1 4)) + v2)) (fun w34 => br (decide (v7 = none)) (hb_Wl_post_120 N G w34 v1 (v2) (v3) (v4) ((u.1 (pq v1 4))) (t0)) (bo v7 (fun j35 => bnd (hm_Pr_copyIn N w34 v1 (pq j35 2) t0) (fun u37 r37 => hb_Wl_post_120 N G u37 v1 (v2) (v3) (v4) ((u.1 (pq v1 4))) (r37)))))
def hb_Wl_post_41 (N : Nat) (G : Unit) (u : MS) (v1 : Nat) (v2 : Int32) (v3 : Int32) (v4 : Int32) (v5 : Int64) (v7 : Option Nat) (t0 : Int32) : Option (MS × Unit) := bnd (hm_Pr_want N u v1 (v2 + t0)) (fun u39 r39 => br (decide (r39 = 0)) (bnd (hm_Wl_endsBy N u39 v1 20) (fun u45 r45 => some (u45, ()))) (br (decide (v7 = (some v1))) (bnd (hm_Fr_below N u39 v1 0) (fun u43 r43 => hb_Wl_post_81 N G u43 v1 (v2) (v3) (v4) v7 (r43))) (hb_Wl_post_81 N G u39 v1 (v2) (v3) (v4) v7 (v5))))
def hb_Wl_post_17 (N : Nat) (G : Unit) (u : MS) : Option (MS × Unit) := some (u, ())
def hb_Wl_post_0 (N : Nat) (G : Unit) (u : MS) (v1 : Nat) (v2 : Int32) (v3 : Int32) (v4 : Int32) (v5 : Int64) (v7 : Option Nat) : Option (MS × Unit) := br (decide ((u.1 (pq v1 9)) = 3)) (hb_Wl_post_17 N G u) (br (decide ((u.1 (pq v1 7)) < 30)) (br (decide (v7 = none)) (hb_Wl_post_41 N G u v1 (v2) (v3) (v4) (v5) v7 (0)) (bo v7 (fun j51 => bnd (hm_Te_size N u (pq j51 2) v5) (fun u53 r53 => hb_Wl_post_41 N G u53 v1 (v2) (v3) (v4) (v5) (some j51) (r53))))) (hb_Wl_post_17 N G u))
def hm_Wl_post (N : Nat) (u : MS) (v1 : Nat) (v2 : Int32) (v3 : Int32) (v4 : Int32) (v5 : Int64) (v7 : Option Nat) : Option (MS × Unit) := hb_Wl_post_0 N () u v1 v2 v3 v4 v5 v7
def hb_Wl_signal_121 (N : Nat) (G : Unit) (u : MS) : Option (MS × Unit) := some (u, ())
def hb_Wl_signal_70 (N : Nat) (G : Unit) (u : MS) (v2 : Nat) (v3 : Int64) : Option (MS × Unit) := bnd (hm_Wl_endsWith N u v2 v3 v2) (fun u1 r1 => hb_Wl_signal_121 N G u1)
def hb_Wl_signal_59 (N : Nat) (G : Unit) (u : MS) (v2 : Nat) (v3 : Int64) (v5 : Option Nat) : Option (MS × Unit) := br (decide (v5 = none)) (hb_Wl_signal_70 N G u v2 (v3)) (br (decide (v5 = (some v2))) (hb_Wl_signal_70 N G u v2 (v3)) (bo v5 (fun j2 => br (decide ((u.1 (pq j2 9)) = 3)) (bnd (hm_Wl_endsWith N u v2 v3 j2) (fun u11 r11 => hb_Wl_signal_121 N G u11)) (lt (upI u (pq v2 4) 0) (fun w5 => bnd (hm_Pr_copyIn N w5 v2 (pq j2 2) v3) (fun u8 r8 => bnd (hm_Wl_endsWith N u8 v2 r8 v2) (fun u10 r10 => hb_Wl_signal_121 N G u10)))))))
def hb_Wl_signal_43 (N : Nat) (G : Unit) (u : MS) (v1 : Int32) (v2 : Nat) (v3 : Int64) (v5 : Option Nat) (t0 : Int32) : Option (MS × Unit) := br (decide (t0 = 0)) (hb_Wl_signal_59 N G u v2 (v3) v5) (br (decide (v1 = (Int32.ofNat v2))) (hb_Wl_signal_59 N G u v2 (v3) v5) (some (u, ())))
def hb_Wl_signal_0 (N : Nat) (G : Unit) (u : MS) (v1 : Int32) (v2 : Nat) (v3 : Int64) (v5 : Option Nat) : Option (MS × Unit) := br (decide ((u.1 (pq v2 9)) = 3)) (some (u, ())) (br (decide ((u.1 (pq v2 11)) = 0)) (bnd (hm_Te_make N u 1 4) (fun u18 r18 => br (decide ((lg_cmp v3 r18) = 0)) (hb_Wl_signal_43 N G u18 (v1) v2 (v3) v5 (1)) (hb_Wl_signal_43 N G u18 (v1) v2 (v3) v5 (0)))) (bnd (hm_Wl_post N u v2 4 v1 0 v3 v5) (fun u19 r19 => some (u19, ()))))
def hm_Wl_signal (N : Nat) (u : MS) (v1 : Int32) (v2 : Nat) (v3 : Int64) (v5 : Option Nat) : Option (MS × Unit) := hb_Wl_signal_0 N () u v1 v2 v3 v5
def hb_Pr_removeLink_44 (N : Nat) (G : Unit) (u : MS) : Option (MS × Unit) := some (u, ())
def hb_Pr_removeLink_0 (N : Nat) (G : Unit) (u : MS) (v0 : Nat) (v1 : Int32) : Option (MS × Unit) := bnd (hm_Pr_seekLink N u v0 v1) (fun u1 r1 => br (decide (r1 = (-1))) (hb_Pr_removeLink_44 N G u1) (ck (cpOk (r1 + 1) r1 (((u1.1 (pq v0 15)) - r1) - 1) 24 24) (lt (upA u1 (pq v0 14) (va_cpy (u1.2.2.1 (pq v0 14)) (u1.2.2.1 (pq v0 14)) (r1 + 1).toNatClampNeg r1.toNatClampNeg (((u1.1 (pq v0 15)) - r1) - 1).toNatClampNeg)) (fun w7 => lt (upI w7 (pq v0 15) ((w7.1 (pq v0 15)) - 1)) (fun w9 => hb_Pr_removeLink_44 N G w9)))))
def hm_Pr_removeLink (N : Nat) (u : MS) (v0 : Nat) (v1 : Int32) : Option (MS × Unit) := hb_Pr_removeLink_0 N () u v0 v1
def hb_Ma_watch_81 (N : Nat) (G : Unit) (u : MS) (p : Nat) (v2 : Int32) : Option (MS × Int64) := bnd (hm_Te_make N u 2 v2) (fun u1 r1 => some (u1, r1))
def hb_Ma_watch_0 (N : Nat) (G : Unit) (u : MS) (p : Nat) (v1 : Nat) : Option (MS × Int64) := lt (upI u 945 ((u.1 945) + 1)) (fun w8 => br (decide ((w8.1 (pq v1 9)) = 3)) (bnd (hm_Ma_atom N w8 3) (fun u24 r24 => bnd (hm_Wl_post N u24 p 5 (Int32.ofNat v1) (u.1 945) r24 none) (fun u25 r25 => hb_Ma_watch_81 N G u25 p ((u.1 945))))) (br (decide ((some v1) = (some p))) (hb_Ma_watch_81 N G w8 p ((u.1 945))) (bnd (hm_Wl_addWatch N w8 (Int32.ofNat p) (Int32.ofNat v1) (u.1 945)) (fun u18 r18 => hb_Ma_watch_81 N G u18 p ((u.1 945))))))
def hm_Ma_watch (N : Nat) (u : MS) (p : Nat) (v1 : Nat) : Option (MS × Int64) := hb_Ma_watch_0 N () u p v1
def hb_Ma_toward_335 (N : Nat) (G : Unit) (u : MS) (p : Nat) (v2 : Int32) (v5 : Int64) : Option (MS × Unit) := bnd (hm_Ma_answer N u p v2 v5) (fun u1 r1 => lt (upI u1 1105 ((u1.1 1105) + 2)) (fun w3 => some (w3, ())))
def hb_Ma_toward_330 (N : Nat) (G : Unit) (u : MS) (p : Nat) (v2 : Int32) (t0 : Int32) : Option (MS × Unit) := bnd (hm_Ma_truth N u t0) (fun u4 r4 => hb_Ma_toward_335 N G u4 p (v2) (r4))
def hb_Ma_toward_95 (N : Nat) (G : Unit) (u : MS) (p : Nat) (v1 : Int32) (v2 : Int32) (v3 : Option Nat) : Option (MS × Unit) := bnd (hm_Ma_atom N u 0) (fun u5 r5 => br (decide (v1 = 2)) (bo v3 (fun j6 => br (decide ((u5.1 (pq j6 9)) = 3)) (bnd (hm_Ma_atom N u5 3) (fun u28 r28 => bnd (hm_Wl_signal N u28 (Int32.ofNat j6) p r28 none) (fun u29 r29 => hb_Ma_toward_335 N G u29 p (v2) (r5)))) (br (decide ((some j6) = (some p))) (hb_Ma_toward_335 N G u5 p (v2) (r5)) (bnd (hm_Pr_seekLink N u5 p (Int32.ofNat j6)) (fun u12 r12 => br (decide (r12 = (-1))) (bnd (hm_Pr_addLink N u12 p (Int32.ofNat j6)) (fun u17 r17 => bnd (hm_Pr_addLink N u17 j6 (Int32.ofNat p)) (fun u22 r22 => hb_Ma_toward_335 N G u22 p (v2) (r5)))) (hb_Ma_toward_335 N G u12 p (v2) (r5))))))) (br (decide (v1 = 3)) (bo v3 (fun j32 => bnd (hm_Pr_removeLink N u5 p (Int32.ofNat j32)) (fun u34 r34 => bnd (hm_Pr_removeLink N u34 j32 (Int32.ofNat p)) (fun u39 r39 => hb_Ma_toward_335 N G u39 p (v2) (r5))))) (br (decide (v1 = 4)) (bo v3 (fun v3_q => bnd (hm_Ma_watch N u5 p v3_q) (fun u41 r41 => hb_Ma_toward_335 N G u41 p (v2) (r41)))) (br (decide (v1 = 29)) (bnd (hm_Fr_below N u5 p 0) (fun u43 r43 => bnd (hm_Ma_atom N u43 5) (fun u45 r45 => br (decide ((lg_cmp r43 r45) = 0)) (bo v3 (fun v3_q => bnd (hm_Wl_endsBy N u45 v3_q 6) (fun u57 r57 => hb_Ma_toward_335 N G u57 p (v2) (r5)))) (bnd (hm_Fr_below N u45 p 0) (fun u51 r51 => bo v3 (fun v3_q => bnd (hm_Wl_signal N u51 (Int32.ofNat p) v3_q r51 (some p)) (fun u54 r54 => hb_Ma_toward_335 N G u54 p (v2) (r5)))))))) (bo v3 (fun j59 => br (decide ((u5.1 (pq j59 9)) = 3)) (hb_Ma_toward_330 N G u5 p (v2) (0)) (hb_Ma_toward_330 N G u5 p (v2) (1))))))))
def hb_Ma_toward_88 (N : Nat) (G : Unit) (u : MS) (p : Nat) : Option (MS × Unit) := bnd (hm_Ma_wrong N u p 11) (fun u61 r61 => some (u61, ()))
def hb_Ma_toward_59 (N : Nat) (G : Unit) (u : MS) (p : Nat) (v1 : Int32) (v2 : Int32) (v3 : Option Nat) (t0 : Int32) : Option (MS × Unit) := br (decide (v3 = none)) (hb_Ma_toward_88 N G u p) (br (decide (t0 = 0)) (br (decide (v1 = 4)) (br (decide ((u.1 950) < 200)) (hb_Ma_toward_95 N G u p (v1) (v2) v3) (hb_Ma_toward_88 N G u p)) (hb_Ma_toward_95 N G u p (v1) (v2) v3)) (hb_Ma_toward_88 N G u p))
def hb_Ma_toward_58 (N : Nat) (G : Unit) (u : MS) (p : Nat) (v1 : Int32) (v2 : Int32) (v3 : Option Nat) : Option (MS × Unit) := hb_Ma_toward_59 N G u p (v1) (v2) v3 (0)
def hb_Ma_toward_11 (N : Nat) (G : Unit) (u : MS) (p : Nat) (v1 : Int32) (t0 : Int32) : Option (MS × Unit) := bnd (hm_Ma_processAt N u p (t0 - 1)) (fun u65 r65 => br (decide (v1 = 29)) (bnd (hm_Fr_below N u65 p 0) (fun u71 r71 => bnd (hm_Te_size N u71 (pq p 2) r71) (fun u73 r73 => br (decide (r73 ≤ 500)) (hb_Ma_toward_58 N G u73 p (v1) (t0) r65) (hb_Ma_toward_59 N G u73 p (v1) (t0) r65 (1))))) (hb_Ma_toward_58 N G u65 p (v1) (t0) r65))
def hb_Ma_toward_0 (N : Nat) (G : Unit) (u : MS) (p : Nat) (v1 : Int32) : Option (MS × Unit) := br (decide (v1 = 29)) (hb_Ma_toward_11 N G u p (v1) (2)) (hb_Ma_toward_11 N G u p (v1) (1))
def hm_Ma_toward (N : Nat) (u : MS) (p : Nat) (v1 : Int32) : Option (MS × Unit) := hb_Ma_toward_0 N () u p v1
def hb_Ma_room_0 (N : Nat) (G : Unit) (u : MS) (p : Nat) (v1 : Int32) : Option (MS × Int32) := bnd (hm_Pr_want N u p v1) (fun u2 r2 => br (decide (r2 = 0)) (bnd (hm_Wl_endsBy N u2 p 20) (fun u6 r6 => ck (isb 0) (some (u6, 0)))) (ck (isb 1) (some (u2, 1))))
def hm_Ma_room (N : Nat) (u : MS) (p : Nat) (v1 : Int32) : Option (MS × Int32) := hb_Ma_room_0 N () u p v1
def hb_Ma_string_126 (N : Nat) (G : (MS → Nat → Int32 → Int32 → Int32 → Option (MS × Unit))) (u : MS) (p : Nat) (v1 : Int32) (t0 : Nat) (t1 : Int64) : Option (MS × Unit) := bnd (hm_Fr_push N u t0 t1) (fun u1 r1 => lt (upI u1 1105 ((u1.1 1105) + (2 + v1))) (fun w4 => some (w4, ())))
def hb_Ma_string_21 (N : Nat) (G : (MS → Nat → Int32 → Int32 → Int32 → Option (MS × Unit))) (u : MS) (p : Nat) (v1 : Int32) (v2 : Int32) (v3 : Int32) : Option (MS × Unit) := br (decide (v1 ≤ v3)) (bnd (hm_Te_make N u 6 0) (fun u5 r5 => bnd (hm_Ma_endList N u5 p v2 v1 r5) (fun u6 r6 => br (decide (v1 = 0)) (bnd (hm_Te_make N u6 6 0) (fun u9 r9 => hb_Ma_string_126 N G u9 p (v1) p (r9))) (bnd (hm_Te_make N u6 7 v2) (fun u8 r8 => hb_Ma_string_126 N G u8 p (v1) p (r8)))))) (bnd (hm_Co_at N u (((u.1 1105) + 2) + v3)) (fun u15 r15 => bnd (hm_Te_make N u15 0 r15) (fun u17 r17 => ck (inb (v2 + (2 * v3)) 512) (lt (upJ u17 (pq p 2) (vp_updL (u17.2.2.2 (pq p 2)) (v2 + (2 * v3)).toNatClampNeg r17)) (fun w19 => bnd (hm_Te_make N w19 7 ((v2 + (2 * v3)) + 2)) (fun u23 r23 => ck (inb ((v2 + (2 * v3)) + 1) 512) (lt (upJ u23 (pq p 2) (vp_updL (u23.2.2.2 (pq p 2)) ((v2 + (2 * v3)) + 1).toNatClampNeg r23)) (fun w25 => G w25 p (v1) (v2) ((v3 + 1))))))))))
def hb_Ma_string_0 (N : Nat) (G : (MS → Nat → Int32 → Int32 → Int32 → Option (MS × Unit))) (u : MS) (p : Nat) (v1 : Int32) : Option (MS × Unit) := bnd (hm_Ma_room N u p (2 * v1)) (fun u26 r26 => br (decide (r26 = 0)) (some (u26, ())) (G u26 p (v1) ((u26.1 (pq p 4))) (0)))
def hg_Ma_string (N : Nat) : Nat → ((MS → Nat → Int32 → Int32 → Int32 → Option (MS × Unit)))
  | 0 => fun _ _ _ _ _ => none
  | n + 1 => hb_Ma_string_21 N (hg_Ma_string N n)
def hm_Ma_string (N : Nat) (u : MS) (p : Nat) (v1 : Int32) : Option (MS × Unit) := hb_Ma_string_0 N (hg_Ma_string N N) u p v1
def hb_Ma_tuple_57 (N : Nat) (G : (MS → Nat → Int32 → Int32 → Int32 → Option (MS × Unit))) (u : MS) (p : Nat) (v1 : Int32) (v2 : Int32) (v3 : Int32) : Option (MS × Unit) := br (decide (v1 ≤ v3)) (lt (upI u (pq p 4) ((u.1 (pq p 4)) + (v1 + 1))) (fun w4 => bnd (hm_Te_make N w4 5 v2) (fun u5 r5 => bnd (hm_Ma_answer N u5 p v1 r5) (fun u6 r6 => lt (upI u6 1105 ((u6.1 1105) + 2)) (fun w8 => some (w8, ())))))) (bnd (hm_Fr_below N u p ((v1 - 1) - v3)) (fun u13 r13 => ck (inb ((v2 + 1) + v3) 512) (lt (upJ u13 (pq p 2) (vp_updL (u13.2.2.2 (pq p 2)) ((v2 + 1) + v3).toNatClampNeg r13)) (fun w16 => G w16 p (v1) (v2) ((v3 + 1))))))
def hb_Ma_tuple_0 (N : Nat) (G : (MS → Nat → Int32 → Int32 → Int32 → Option (MS × Unit))) (u : MS) (p : Nat) (v1 : Int32) : Option (MS × Unit) := bnd (hm_Ma_sizes N u p v1 (v1 + 1)) (fun u17 r17 => br (decide (r17 ≤ 500)) (bnd (hm_Ma_room N u17 p (v1 + 1)) (fun u18 r18 => br (decide (r18 = 0)) (some (u18, ())) (bnd (hm_Te_make N u18 8 v1) (fun u25 r25 => ck (inb (u18.1 (pq p 4)) 512) (lt (upJ u25 (pq p 2) (vp_updL (u25.2.2.2 (pq p 2)) (u18.1 (pq p 4)).toNatClampNeg r25)) (fun w27 => G w27 p (v1) ((u18.1 (pq p 4))) (0))))))) (bnd (hm_Ma_wrong N u17 p 11) (fun u28 r28 => some (u28, ()))))
def hg_Ma_tuple (N : Nat) : Nat → ((MS → Nat → Int32 → Int32 → Int32 → Option (MS × Unit)))
  | 0 => fun _ _ _ _ _ => none
  | n + 1 => hb_Ma_tuple_57 N (hg_Ma_tuple N n)
def hm_Ma_tuple (N : Nat) (u : MS) (p : Nat) (v1 : Int32) : Option (MS × Unit) := hb_Ma_tuple_0 N (hg_Ma_tuple N N) u p v1
def hb_Ma_list_44 (N : Nat) (G : (MS → Nat → Int32 → Int32 → Int32 → Option (MS × Unit))) (u : MS) (p : Nat) (v1 : Int32) (v2 : Int32) (v3 : Int32) : Option (MS × Unit) := br (decide (v1 ≤ v3)) (bnd (hm_Fr_below N u p 0) (fun u2 r2 => bnd (hm_Ma_endList N u2 p v2 v1 r2) (fun u4 r4 => bnd (hm_Te_make N u4 7 v2) (fun u5 r5 => bnd (hm_Ma_answer N u5 p (v1 + 1) r5) (fun u6 r6 => lt (upI u6 1105 ((u6.1 1105) + 2)) (fun w8 => some (w8, ()))))))) (bnd (hm_Fr_below N u p (v1 - v3)) (fun u13 r13 => ck (inb (v2 + (2 * v3)) 512) (lt (upJ u13 (pq p 2) (vp_updL (u13.2.2.2 (pq p 2)) (v2 + (2 * v3)).toNatClampNeg r13)) (fun w16 => bnd (hm_Te_make N w16 7 ((v2 + (2 * v3)) + 2)) (fun u20 r20 => ck (inb ((v2 + (2 * v3)) + 1) 512) (lt (upJ u20 (pq p 2) (vp_updL (u20.2.2.2 (pq p 2)) ((v2 + (2 * v3)) + 1).toNatClampNeg r20)) (fun w22 => G w22 p (v1) (v2) ((v3 + 1)))))))))
def hb_Ma_list_0 (N : Nat) (G : (MS → Nat → Int32 → Int32 → Int32 → Option (MS × Unit))) (u : MS) (p : Nat) (v1 : Int32) : Option (MS × Unit) := bnd (hm_Ma_sizes N u p (v1 + 1) (2 * v1)) (fun u23 r23 => br (decide (r23 ≤ 500)) (bnd (hm_Ma_room N u23 p (2 * v1)) (fun u24 r24 => br (decide (r24 = 0)) (some (u24, ())) (G u24 p (v1) ((u24.1 (pq p 4))) (0)))) (bnd (hm_Ma_wrong N u23 p 11) (fun u28 r28 => some (u28, ()))))
def hg_Ma_list (N : Nat) : Nat → ((MS → Nat → Int32 → Int32 → Int32 → Option (MS × Unit)))
  | 0 => fun _ _ _ _ _ => none
  | n + 1 => hb_Ma_list_44 N (hg_Ma_list N n)
def hm_Ma_list (N : Nat) (u : MS) (p : Nat) (v1 : Int32) : Option (MS × Unit) := hb_Ma_list_0 N (hg_Ma_list N N) u p v1
def hb_Ma_fun_144 (N : Nat) (G : (MS → Nat → Int32 → Int32 → Int32 → Int32 → Option (MS × Unit)) × (MS → Nat → Int32 → Int32 → Int32 → Option (MS × Unit))) (u : MS) (p : Nat) (v2 : Int32) (v4 : Int32) (v5 : Int32) : Option (MS × Unit) := br (decide (v2 ≤ v5)) (lt (upI u (pq p 4) ((u.1 (pq p 4)) + (v2 + 2))) (fun w4 => bnd (hm_Te_make N w4 3 v4) (fun u6 r6 => bnd (hm_Fr_push N u6 p r6) (fun u7 r7 => lt (upI u7 1105 ((u7.1 1105) + (3 + v2))) (fun w10 => some (w10, ())))))) (bnd (hm_Co_at N u (((u.1 1105) + 3) + v5)) (fun u17 r17 => bnd (hm_Fr_termOf N u17 p r17) (fun u19 r19 => ck (inb ((v4 + 2) + v5) 512) (lt (upJ u19 (pq p 2) (vp_updL (u19.2.2.2 (pq p 2)) ((v4 + 2) + v5).toNatClampNeg r19)) (fun w22 => G.2 w22 p (v2) (v4) ((v5 + 1)))))))
def hb_Ma_fun_21 (N : Nat) (G : (MS → Nat → Int32 → Int32 → Int32 → Int32 → Option (MS × Unit)) × (MS → Nat → Int32 → Int32 → Int32 → Option (MS × Unit))) (u : MS) (p : Nat) (v1 : Int32) (v2 : Int32) (v3 : Int32) (v4 : Int32) : Option (MS × Unit) := br (decide (v2 ≤ v4)) (br (decide (v3 ≤ 500)) (bnd (hm_Ma_room N u p (v2 + 2)) (fun u23 r23 => br (decide (r23 = 0)) (some (u23, ())) (bnd (hm_Te_make N u23 8 v1) (fun u30 r30 => ck (inb (u23.1 (pq p 4)) 512) (lt (upJ u30 (pq p 2) (vp_updL (u30.2.2.2 (pq p 2)) (u23.1 (pq p 4)).toNatClampNeg r30)) (fun w32 => bnd (hm_Te_make N w32 8 v2) (fun u36 r36 => ck (inb ((u23.1 (pq p 4)) + 1) 512) (lt (upJ u36 (pq p 2) (vp_updL (u36.2.2.2 (pq p 2)) ((u23.1 (pq p 4)) + 1).toNatClampNeg r36)) (fun w38 => G.2 w38 p (v2) ((u23.1 (pq p 4))) (0)))))))))) (bnd (hm_Ma_wrong N u p 11) (fun u39 r39 => some (u39, ())))) (bnd (hm_Co_at N u (((u.1 1105) + 3) + v4)) (fun u47 r47 => bnd (hm_Fr_termOf N u47 p r47) (fun u49 r49 => bnd (hm_Te_size N u49 (pq p 2) r49) (fun u51 r51 => G.1 u51 p (v1) (v2) ((v3 + r51)) ((v4 + 1))))))
def hb_Ma_fun_0 (N : Nat) (G : (MS → Nat → Int32 → Int32 → Int32 → Int32 → Option (MS × Unit)) × (MS → Nat → Int32 → Int32 → Int32 → Option (MS × Unit))) (u : MS) (p : Nat) (v1 : Int32) : Option (MS × Unit) := bnd (hm_Co_at N u ((u.1 1105) + 2)) (fun u55 r55 => G.1 u55 p (v1) (r55) ((r55 + 2)) (0))
def hg_Ma_fun (N : Nat) : Nat → ((MS → Nat → Int32 → Int32 → Int32 → Int32 → Option (MS × Unit)) × (MS → Nat → Int32 → Int32 → Int32 → Option (MS × Unit)))
  | 0 => (fun _ _ _ _ _ _ => none, fun _ _ _ _ _ => none)
  | n + 1 => (hb_Ma_fun_21 N (hg_Ma_fun N n), hb_Ma_fun_144 N (hg_Ma_fun N n))
def hm_Ma_fun (N : Nat) (u : MS) (p : Nat) (v1 : Int32) : Option (MS × Unit) := hb_Ma_fun_0 N (hg_Ma_fun N N) u p v1
def hb_Ma_funOf_0 (N : Nat) (G : Unit) (u : MS) (p : Nat) (v1 : Int32) : Option (MS × Unit) := bnd (hm_Ma_room N u p 2) (fun u1 r1 => br (decide (r1 = 0)) (some (u1, ())) (bnd (hm_Te_make N u1 8 (1000000 + v1)) (fun u8 r8 => ck (inb (u1.1 (pq p 4)) 512) (lt (upJ u8 (pq p 2) (vp_updL (u8.2.2.2 (pq p 2)) (u1.1 (pq p 4)).toNatClampNeg r8)) (fun w10 => bnd (hm_Te_make N w10 8 0) (fun u14 r14 => ck (inb ((u1.1 (pq p 4)) + 1) 512) (lt (upJ u14 (pq p 2) (vp_updL (u14.2.2.2 (pq p 2)) ((u1.1 (pq p 4)) + 1).toNatClampNeg r14)) (fun w16 => lt (upI w16 (pq p 4) ((w16.1 (pq p 4)) + 2)) (fun w20 => bnd (hm_Te_make N w20 3 (u1.1 (pq p 4))) (fun u22 r22 => bnd (hm_Fr_push N u22 p r22) (fun u23 r23 => lt (upI u23 1105 ((u23.1 1105) + 2)) (fun w26 => some (w26, ())))))))))))))
def hm_Ma_funOf (N : Nat) (u : MS) (p : Nat) (v1 : Int32) : Option (MS × Unit) := hb_Ma_funOf_0 N () u p v1
def hb_Ma_making_166 (N : Nat) (G : Unit) (u : MS) (p : Nat) : Option (MS × Unit) := some (u, ())
def hb_Ma_making_0 (N : Nat) (G : Unit) (u : MS) (p : Nat) (v1 : Int32) : Option (MS × Unit) := bnd (hm_Co_at N u ((u.1 1105) + 1)) (fun u3 r3 => br (decide (v1 = 1)) (bnd (hm_Co_at N u3 ((u3.1 1105) + 2)) (fun u8 r8 => bnd (hm_Te_make N u8 r3 r8) (fun u10 r10 => bnd (hm_Fr_push N u10 p r10) (fun u11 r11 => lt (upI u11 1105 ((u11.1 1105) + 3)) (fun w14 => hb_Ma_making_166 N G w14 p))))) (br (decide (v1 = 2)) (bnd (hm_Ma_string N u3 p r3) (fun u15 r15 => hb_Ma_making_166 N G u15 p)) (br (decide (v1 = 3)) (bnd (hm_Fr_termOf N u3 p r3) (fun u18 r18 => bnd (hm_Fr_push N u18 p r18) (fun u20 r20 => lt (upI u20 1105 ((u20.1 1105) + 2)) (fun w23 => hb_Ma_making_166 N G w23 p)))) (br (decide (v1 = 4)) (bnd (hm_Ma_tuple N u3 p r3) (fun u24 r24 => hb_Ma_making_166 N G u24 p)) (br (decide (v1 = 5)) (bnd (hm_Ma_list N u3 p r3) (fun u25 r25 => hb_Ma_making_166 N G u25 p)) (br (decide (v1 = 6)) (bnd (hm_Ma_fun N u3 p r3) (fun u26 r26 => hb_Ma_making_166 N G u26 p)) (br (decide (v1 = 7)) (bnd (hm_Ma_funOf N u3 p r3) (fun u27 r27 => hb_Ma_making_166 N G u27 p)) (lt (upI u3 1108 1) (fun w28 => hb_Ma_making_166 N G w28 p)))))))))
def hm_Ma_making (N : Nat) (u : MS) (p : Nat) (v1 : Int32) : Option (MS × Unit) := hb_Ma_making_0 N () u p v1
def hb_Te_orderAlone_107 (N : Nat) (G : Unit) (u : MS) (t0 : Int32) : Option (MS × Int32) := some (u, t0)
def hb_Te_orderAlone_75 (N : Nat) (G : Unit) (u : MS) (v1 : Nat) (v7 : Int32) (v8 : Int32) : Option (MS × Int32) := ck (inb v7 512) (ck (inb v8 512) (bnd (hm_JI_compare N u ((u.2.2.2 v1 v7.toNatClampNeg).toInt32) ((u.2.2.2 v1 v8.toNatClampNeg).toInt32)) (fun u5 r5 => some (u5, r5))))
def hb_Te_orderAlone_62 (N : Nat) (G : Unit) (u : MS) (t0 : Int32) : Option (MS × Int32) := some (u, t0)
def hb_Te_orderAlone_0 (N : Nat) (G : Unit) (u : MS) (v1 : Nat) (v2 : Int64) (v4 : Int64) : Option (MS × Int32) := bnd (hm_Te_tag N u v2) (fun u6 r6 => bnd (hm_Te_tag N u6 v4) (fun u7 r7 => br (decide (r6 = r7)) (br (decide (r6 = 1)) (br (decide (v2.toInt32 = v4.toInt32)) (hb_Te_orderAlone_62 N G u7 (0)) (bnd (hm_Wo_order N u7 1 (v2.toInt32) (v4.toInt32)) (fun u10 r10 => hb_Te_orderAlone_62 N G u10 (r10)))) (br (decide (r6 = 5)) (hb_Te_orderAlone_75 N G u7 v1 (v2.toInt32) (v4.toInt32)) (br (decide (r6 = 3)) (hb_Te_orderAlone_75 N G u7 v1 (v2.toInt32) (v4.toInt32)) (br (decide (r6 = 7)) (hb_Te_orderAlone_107 N G u7 (0)) (bnd (hm_JI_compare N u7 (v2.toInt32) (v4.toInt32)) (fun u8 r8 => hb_Te_orderAlone_107 N G u8 (r8))))))) (bnd (hm_Te_tag N u7 v4) (fun u12 r12 => some (u12, (r6 - r12))))))
def hm_Te_orderAlone (N : Nat) (u : MS) (v1 : Nat) (v2 : Int64) (v4 : Int64) : Option (MS × Int32) := hb_Te_orderAlone_0 N () u v1 v2 v4
def hb_Te_order_179 (N : Nat) (G : (MS → Nat → Int32 → Int32 → Option (MS × Int32)) × (MS → Nat → Int32 → Int32 → Int32 → Int32 → Int32 → Int32 → Option (MS × Int32))) (u : MS) : Option (MS × Int32) := some (u, 0)
def hb_Te_order_173 (N : Nat) (G : (MS → Nat → Int32 → Int32 → Option (MS × Int32)) × (MS → Nat → Int32 → Int32 → Int32 → Int32 → Int32 → Int32 → Option (MS × Int32))) (u : MS) (v1 : Nat) (v6 : Int32) (v7 : Int32) : Option (MS × Int32) := G.1 u v1 (v6) ((v7 + 1))
def hb_Te_order_121 (N : Nat) (G : (MS → Nat → Int32 → Int32 → Option (MS × Int32)) × (MS → Nat → Int32 → Int32 → Int32 → Int32 → Int32 → Int32 → Option (MS × Int32))) (u : MS) (v1 : Nat) (v6 : Int32) (v7 : Int32) (v9 : Int32) (v10 : Int32) (v12 : Int32) (v13 : Int32) : Option (MS × Int32) := br (decide (v13 < v12)) (hb_Te_order_173 N G u v1 (v6) (v7)) (br (decide (2048 ≤ v6)) (hb_Te_order_173 N G u v1 (v6) (v7)) (ck (inb (v9 + v13) 512) (ck (inb v6 2048) (lt (upJ u 45 (vp_updL (u.2.2.2 45) v6.toNatClampNeg (u.2.2.2 v1 (v9 + v13).toNatClampNeg))) (fun w5 => ck (inb (v10 + v13) 512) (ck (inb v6 2048) (lt (upJ w5 46 (vp_updL (w5.2.2.2 46) v6.toNatClampNeg (w5.2.2.2 v1 (v10 + v13).toNatClampNeg))) (fun w10 => G.2 w10 v1 ((v6 + 1)) (v7) (v9) (v10) (v12) ((v13 + (-1)))))))))))
def hb_Te_order_21 (N : Nat) (G : (MS → Nat → Int32 → Int32 → Option (MS × Int32)) × (MS → Nat → Int32 → Int32 → Int32 → Int32 → Int32 → Int32 → Option (MS × Int32))) (u : MS) (v1 : Nat) (v6 : Int32) (v7 : Int32) : Option (MS × Int32) := br (decide (1000000000 ≤ v7)) (hb_Te_order_179 N G u) (br (decide (v6 ≤ 0)) (hb_Te_order_179 N G u) (ck (inb (v6 + (-1)) 2048) (ck (inb (v6 + (-1)) 2048) (bnd (hm_Te_orderAlone N u v1 (u.2.2.2 45 (v6 + (-1)).toNatClampNeg) (u.2.2.2 46 (v6 + (-1)).toNatClampNeg)) (fun u17 r17 => br (decide (r17 = 0)) (ck (inb (v6 + (-1)) 2048) (ck (inb (v6 + (-1)) 2048) (ck (inb (v6 + (-1)) 2048) (bnd (hm_Te_cellsAt N u17 v1 (u17.2.2.2 45 (v6 + (-1)).toNatClampNeg)) (fun u27 r27 => ck (inb (v6 + (-1)) 2048) (bnd (hm_Te_partsOf N u27 (u27.2.2.2 45 (v6 + (-1)).toNatClampNeg) r27) (fun u31 r31 => G.2 u31 v1 ((v6 + (-1))) (v7) ((u17.2.2.2 45 (v6 + (-1)).toNatClampNeg).toInt32) ((u17.2.2.2 46 (v6 + (-1)).toNatClampNeg).toInt32) ((r27 - r31)) ((r27 - 1))))))))) (some (u17, r17)))))))
def hb_Te_order_0 (N : Nat) (G : (MS → Nat → Int32 → Int32 → Option (MS × Int32)) × (MS → Nat → Int32 → Int32 → Int32 → Int32 → Int32 → Int32 → Option (MS × Int32))) (u : MS) (v1 : Nat) (v2 : Int64) (v4 : Int64) : Option (MS × Int32) := ck (inb (0 : Int32) 2048) (lt (upJ u 45 (vp_updL (u.2.2.2 45) (0 : Int32).toNatClampNeg v2)) (fun w34 => ck (inb (0 : Int32) 2048) (lt (upJ w34 46 (vp_updL (w34.2.2.2 46) (0 : Int32).toNatClampNeg v4)) (fun w37 => G.1 w37 v1 (1) (0)))))
def hg_Te_order (N : Nat) : Nat → ((MS → Nat → Int32 → Int32 → Option (MS × Int32)) × (MS → Nat → Int32 → Int32 → Int32 → Int32 → Int32 → Int32 → Option (MS × Int32)))
  | 0 => (fun _ _ _ _ => none, fun _ _ _ _ _ _ _ _ => none)
  | n + 1 => (hb_Te_order_21 N (hg_Te_order N n), hb_Te_order_121 N (hg_Te_order N n))
def hm_Te_order (N : Nat) (u : MS) (v1 : Nat) (v2 : Int64) (v4 : Int64) : Option (MS × Int32) := hb_Te_order_0 N (hg_Te_order N N) u v1 v2 v4
def hb_Ma_number_0 (N : Nat) (G : Unit) (u : MS) (p : Nat) (v1 : Int32) (v2 : Int64) (v4 : Int32) : Option (MS × Unit) := br (decide ((lg_cmp v2 ((v2.toInt32).toInt64)) = 0)) (bnd (hm_Te_make N u 0 (v2.toInt32)) (fun u1 r1 => bnd (hm_Ma_answer N u1 p v1 r1) (fun u2 r2 => lt (upI u2 1105 ((u2.1 1105) + v4)) (fun w4 => some (w4, ()))))) (bnd (hm_Ma_wrong N u p 12) (fun u5 r5 => some (u5, ())))
def hm_Ma_number (N : Nat) (u : MS) (p : Nat) (v1 : Int32) (v2 : Int64) (v4 : Int32) : Option (MS × Unit) := hb_Ma_number_0 N () u p v1 v2 v4
def hb_Ma_arithmetic_208 (N : Nat) (G : Unit) (u : MS) (p : Nat) (v8 : Int64) : Option (MS × Unit) := bnd (hm_Ma_number N u p 2 v8 2) (fun u1 r1 => some (u1, ()))
def hb_Ma_arithmetic_206 (N : Nat) (G : Unit) (u : MS) (p : Nat) (t0 : Int64) : Option (MS × Unit) := hb_Ma_arithmetic_208 N G u p (t0)
def hb_Ma_arithmetic_186 (N : Nat) (G : Unit) (u : MS) (p : Nat) (t0 : Int64) : Option (MS × Unit) := hb_Ma_arithmetic_208 N G u p (t0)
def hb_Ma_arithmetic_99 (N : Nat) (G : Unit) (u : MS) (p : Nat) (v1 : Int32) (v3 : Int64) (v5 : Int64) : Option (MS × Unit) := br (decide (v1 = 10)) (br (decide ((lg_cmp v5 0) = 0)) (hb_Ma_arithmetic_186 N G u p (0)) (ck (decide (¬ v5 = 0)) (hb_Ma_arithmetic_186 N G u p ((v3 / v5))))) (br (decide (v1 = 33)) (hb_Ma_arithmetic_208 N G u p ((v3 + v5))) (br (decide (v1 = 34)) (hb_Ma_arithmetic_208 N G u p ((v3 - v5))) (br (decide (v1 = 35)) (hb_Ma_arithmetic_208 N G u p ((v3 * v5))) (br (decide ((lg_cmp v5 0) = 0)) (hb_Ma_arithmetic_206 N G u p (0)) (ck (decide (¬ v5 = 0)) (hb_Ma_arithmetic_206 N G u p ((v3 - v3 / v5 * v5))))))))
def hb_Ma_arithmetic_92 (N : Nat) (G : Unit) (u : MS) (p : Nat) : Option (MS × Unit) := bnd (hm_Ma_wrong N u p 12) (fun u2 r2 => some (u2, ()))
def hb_Ma_arithmetic_74 (N : Nat) (G : Unit) (u : MS) (p : Nat) (v1 : Int32) (v2 : Int32) (v3 : Int64) (v5 : Int64) (t0 : Int32) : Option (MS × Unit) := br (decide (v2 = 0)) (hb_Ma_arithmetic_92 N G u p) (br (decide (t0 = 0)) (hb_Ma_arithmetic_99 N G u p (v1) (v3) (v5)) (br (decide ((lg_cmp v5 0) = 0)) (hb_Ma_arithmetic_92 N G u p) (hb_Ma_arithmetic_99 N G u p (v1) (v3) (v5))))
def hb_Ma_arithmetic_69 (N : Nat) (G : Unit) (u : MS) (p : Nat) (v1 : Int32) (v2 : Int32) (v3 : Int64) (v5 : Int64) : Option (MS × Unit) := hb_Ma_arithmetic_74 N G u p (v1) (v2) (v3) (v5) (1)
def hb_Ma_arithmetic_33 (N : Nat) (G : Unit) (u : MS) (p : Nat) (v1 : Int32) (t0 : Int32) : Option (MS × Unit) := bnd (hm_Fr_below N u p 1) (fun u4 r4 => bnd (hm_Fr_below N u4 p 0) (fun u7 r7 => br (decide (v1 = 10)) (hb_Ma_arithmetic_69 N G u7 p (v1) (t0) ((r4.toInt32).toInt64) ((r7.toInt32).toInt64)) (br (decide (v1 = 18)) (hb_Ma_arithmetic_69 N G u7 p (v1) (t0) ((r4.toInt32).toInt64) ((r7.toInt32).toInt64)) (hb_Ma_arithmetic_74 N G u7 p (v1) (t0) ((r4.toInt32).toInt64) ((r7.toInt32).toInt64) (0)))))
def hb_Ma_arithmetic_32 (N : Nat) (G : Unit) (u : MS) (p : Nat) (v1 : Int32) : Option (MS × Unit) := hb_Ma_arithmetic_33 N G u p (v1) (0)
def hb_Ma_arithmetic_0 (N : Nat) (G : Unit) (u : MS) (p : Nat) (v1 : Int32) : Option (MS × Unit) := bnd (hm_Fr_below N u p 1) (fun u10 r10 => bnd (hm_Te_tag N u10 r10) (fun u12 r12 => br (decide (r12 = 0)) (bnd (hm_Fr_below N u12 p 0) (fun u14 r14 => bnd (hm_Te_tag N u14 r14) (fun u16 r16 => br (decide (r16 = 0)) (hb_Ma_arithmetic_33 N G u16 p (v1) (1)) (hb_Ma_arithmetic_32 N G u16 p (v1))))) (hb_Ma_arithmetic_32 N G u12 p (v1))))
def hm_Ma_arithmetic (N : Nat) (u : MS) (p : Nat) (v1 : Int32) : Option (MS × Unit) := hb_Ma_arithmetic_0 N () u p v1
def hb_Ma_negate_0 (N : Nat) (G : Unit) (u : MS) (p : Nat) : Option (MS × Unit) := bnd (hm_Fr_below N u p 0) (fun u2 r2 => bnd (hm_Te_tag N u2 r2) (fun u4 r4 => br (decide (r4 = 0)) (bnd (hm_Fr_below N u4 p 0) (fun u6 r6 => bnd (hm_Ma_number N u6 p 1 (-((r6.toInt32).toInt64)) 1) (fun u8 r8 => some (u8, ())))) (bnd (hm_Ma_wrong N u4 p 12) (fun u9 r9 => some (u9, ())))))
def hm_Ma_negate (N : Nat) (u : MS) (p : Nat) : Option (MS × Unit) := hb_Ma_negate_0 N () u p
def hb_Ma_not_50 (N : Nat) (G : Unit) (u : MS) (p : Nat) (t1 : Int32) (t2 : Int32) : Option (MS × Unit) := bnd (hm_Ma_truth N u t2) (fun u1 r1 => bnd (hm_Ma_answer N u1 p t1 r1) (fun u2 r2 => lt (upI u2 1105 ((u2.1 1105) + 1)) (fun w4 => some (w4, ()))))
def hb_Ma_not_34 (N : Nat) (G : Unit) (u : MS) (p : Nat) (v1 : Int64) : Option (MS × Unit) := bnd (hm_Ma_atom N u 1) (fun u5 r5 => br (decide ((lg_cmp v1 r5) = 0)) (hb_Ma_not_50 N G u5 p (1) (1)) (hb_Ma_not_50 N G u5 p (1) (0)))
def hb_Ma_not_0 (N : Nat) (G : Unit) (u : MS) (p : Nat) : Option (MS × Unit) := bnd (hm_Fr_below N u p 0) (fun u7 r7 => bnd (hm_Ma_atom N u7 0) (fun u9 r9 => br (decide ((lg_cmp r7 r9) = 0)) (hb_Ma_not_34 N G u9 p (r7)) (bnd (hm_Ma_atom N u9 1) (fun u10 r10 => br (decide ((lg_cmp r7 r10) = 0)) (hb_Ma_not_34 N G u10 p (r7)) (bnd (hm_Ma_wrong N u10 p 11) (fun u11 r11 => some (u11, ())))))))
def hm_Ma_not (N : Nat) (u : MS) (p : Nat) : Option (MS × Unit) := hb_Ma_not_0 N () u p
def hb_Ma_hinge_71 (N : Nat) (G : Unit) (u : MS) (p : Nat) : Option (MS × Unit) := some (u, ())
def hb_Ma_hinge_36 (N : Nat) (G : Unit) (u : MS) (p : Nat) (v1 : Int32) (v2 : Int32) (v3 : Int64) : Option (MS × Unit) := bnd (hm_Ma_truth N u v1) (fun u1 r1 => br (decide ((lg_cmp v3 r1) = 0)) (bnd (hm_Fr_drop N u1 p 1) (fun u4 r4 => lt (upI u4 1105 ((u4.1 1105) + 2)) (fun w7 => hb_Ma_hinge_71 N G w7 p))) (lt (upI u1 1105 v2) (fun w2 => hb_Ma_hinge_71 N G w2 p)))
def hb_Ma_hinge_0 (N : Nat) (G : Unit) (u : MS) (p : Nat) (v1 : Int32) (v2 : Int32) : Option (MS × Unit) := bnd (hm_Fr_below N u p 0) (fun u9 r9 => bnd (hm_Ma_atom N u9 0) (fun u11 r11 => br (decide ((lg_cmp r9 r11) = 0)) (hb_Ma_hinge_36 N G u11 p (v1) (v2) (r9)) (bnd (hm_Ma_atom N u11 1) (fun u12 r12 => br (decide ((lg_cmp r9 r12) = 0)) (hb_Ma_hinge_36 N G u12 p (v1) (v2) (r9)) (bnd (hm_Ma_wrong N u12 p 11) (fun u13 r13 => hb_Ma_hinge_71 N G u13 p))))))
def hm_Ma_hinge (N : Nat) (u : MS) (p : Nat) (v1 : Int32) (v2 : Int32) : Option (MS × Unit) := hb_Ma_hinge_0 N () u p v1 v2
def hb_Fr_forget_0 (N : Nat) (G : Unit) (u : MS) (v0 : Nat) (v1 : Int32) : Option (MS × Unit) := lt (if 0 < ((u.1 (pq v0 24)) - v1) then ((u.1 (pq v0 24)) - v1) else 0) (fun y2 => lt (upI u (pq v0 24) y2) (fun w3 => some (w3, ())))
def hm_Fr_forget (N : Nat) (u : MS) (v0 : Nat) (v1 : Int32) : Option (MS × Unit) := hb_Fr_forget_0 N () u v0 v1
def hb_Ma_sendTo_34 (N : Nat) (G : Unit) (u : MS) (p : Nat) (t0 : Option Nat) : Option (MS × Unit) := br (decide (t0 = none)) (bnd (hm_Ma_wrong N u p 11) (fun u17 r17 => some (u17, ()))) (bnd (hm_Fr_below N u p 0) (fun u6 r6 => bo t0 (fun t0_q => bnd (hm_Wl_post N u6 t0_q 0 (Int32.ofNat p) 0 r6 (some p)) (fun u9 r9 => bnd (hm_Fr_below N u9 p 0) (fun u12 r12 => bnd (hm_Ma_answer N u12 p 2 r12) (fun u14 r14 => lt (upI u14 1105 ((u14.1 1105) + 1)) (fun w16 => some (w16, ()))))))))
def hb_Ma_sendTo_0 (N : Nat) (G : Unit) (u : MS) (p : Nat) : Option (MS × Unit) := bnd (hm_Fr_below N u p 1) (fun u19 r19 => bnd (hm_Te_tag N u19 r19) (fun u21 r21 => br (decide (r21 = 1)) (bnd (hm_Wl_named N u21 (r19.toInt32)) (fun u24 r24 => hb_Ma_sendTo_34 N G u24 p r24)) (bnd (hm_Ma_processAt N u21 p 1) (fun u22 r22 => hb_Ma_sendTo_34 N G u22 p r22))))
def hm_Ma_sendTo (N : Nat) (u : MS) (p : Nat) : Option (MS × Unit) := hb_Ma_sendTo_0 N () u p
def hb_Ma_join_106 (N : Nat) (G : (MS → Nat → Int32 → Int32 → Int64 → Int32 → Option (MS × Unit))) (u : MS) (p : Nat) (v1 : Int32) (v2 : Int32) (v3 : Int64) (v5 : Int32) : Option (MS × Unit) := br (decide (v1 ≤ v5)) (bnd (hm_Fr_below N u p 0) (fun u2 r2 => bnd (hm_Ma_endList N u2 p v2 v1 r2) (fun u4 r4 => bnd (hm_Te_make N u4 7 v2) (fun u5 r5 => bnd (hm_Ma_answer N u5 p 2 r5) (fun u6 r6 => lt (upI u6 1105 ((u6.1 1105) + 2)) (fun w8 => some (w8, ()))))))) (ck (inb (v3.toInt32) 512) (ck (inb (v2 + (2 * v5)) 512) (lt (upJ u (pq p 2) (vp_updL (u.2.2.2 (pq p 2)) (v2 + (2 * v5)).toNatClampNeg (u.2.2.2 (pq p 2) (v3.toInt32).toNatClampNeg))) (fun w18 => bnd (hm_Te_make N w18 7 ((v2 + (2 * v5)) + 2)) (fun u22 r22 => ck (inb ((v2 + (2 * v5)) + 1) 512) (lt (upJ u22 (pq p 2) (vp_updL (u22.2.2.2 (pq p 2)) ((v2 + (2 * v5)) + 1).toNatClampNeg r22)) (fun w24 => ck (inb (v3.toInt32 + 1) 512) (G w24 p (v1) (v2) ((w24.2.2.2 (pq p 2) (v3.toInt32 + 1).toNatClampNeg)) ((v5 + 1))))))))))
def hb_Ma_join_68 (N : Nat) (G : (MS → Nat → Int32 → Int32 → Int64 → Int32 → Option (MS × Unit))) (u : MS) (p : Nat) : Option (MS × Unit) := bnd (hm_Ma_wrong N u p 11) (fun u30 r30 => some (u30, ()))
def hb_Ma_join_0 (N : Nat) (G : (MS → Nat → Int32 → Int32 → Int64 → Int32 → Option (MS × Unit))) (u : MS) (p : Nat) : Option (MS × Unit) := bnd (hm_Fr_below N u p 1) (fun u36 r36 => bnd (hm_Te_listLength N u36 (pq p 2) r36) (fun u38 r38 => br (decide (r38 = 0)) (bnd (hm_Fr_below N u38 p 0) (fun u49 r49 => bnd (hm_Ma_answer N u49 p 2 r49) (fun u51 r51 => lt (upI u51 1105 ((u51.1 1105) + 2)) (fun w53 => some (w53, ()))))) (br (decide (r38 = (-1))) (hb_Ma_join_68 N G u38 p) (bnd (hm_Ma_sizes N u38 p 2 0) (fun u40 r40 => br (decide (r40 ≤ 500)) (bnd (hm_Ma_room N u40 p (2 * r38)) (fun u41 r41 => br (decide (r41 = 0)) (some (u41, ())) (bnd (hm_Fr_below N u41 p 1) (fun u46 r46 => G u46 p (r38) ((u41.1 (pq p 4))) (r46) (0))))) (hb_Ma_join_68 N G u40 p))))))
def hg_Ma_join (N : Nat) : Nat → ((MS → Nat → Int32 → Int32 → Int64 → Int32 → Option (MS × Unit)))
  | 0 => fun _ _ _ _ _ _ => none
  | n + 1 => hb_Ma_join_106 N (hg_Ma_join N n)
def hm_Ma_join (N : Nat) (u : MS) (p : Nat) : Option (MS × Unit) := hb_Ma_join_0 N (hg_Ma_join N N) u p
def hb_Ma_markGone_188 (N : Nat) (G : (MS → Nat → Int32 → Int32 → Option (MS × Int32)) × (MS → Nat → Int32 → Int32 → Int64 → Int32 → Option (MS × Int32)) × (MS → Nat → Int32 → Int32 → Int64 → Int32 → Int64 → Int32 → Option (MS × Int32))) (u : MS) (p : Nat) (v2 : Int32) : Option (MS × Int32) := some (u, v2)
def hb_Ma_markGone_169 (N : Nat) (G : (MS → Nat → Int32 → Int32 → Option (MS × Int32)) × (MS → Nat → Int32 → Int32 → Int64 → Int32 → Option (MS × Int32)) × (MS → Nat → Int32 → Int32 → Int64 → Int32 → Int64 → Int32 → Option (MS × Int32))) (u : MS) (p : Nat) (v1 : Int32) (v2 : Int32) (v3 : Int64) (v5 : Int32) : Option (MS × Int32) := ck (inb (v3.toInt32 + 1) 512) (G.2.1 u p (v1) (v2) ((u.2.2.2 (pq p 2) (v3.toInt32 + 1).toNatClampNeg)) ((v5 + 1)))
def hb_Ma_markGone_148 (N : Nat) (G : (MS → Nat → Int32 → Int32 → Option (MS × Int32)) × (MS → Nat → Int32 → Int32 → Int64 → Int32 → Option (MS × Int32)) × (MS → Nat → Int32 → Int32 → Int64 → Int32 → Int64 → Int32 → Option (MS × Int32))) (u : MS) (p : Nat) (v1 : Int32) (v2 : Int32) (v3 : Int64) (v5 : Int32) (v6 : Int64) (v8 : Int32) : Option (MS × Int32) := ck (inb (v6.toInt32 + 1) 512) (G.2.2 u p (v1) (v2) (v3) (v5) ((u.2.2.2 (pq p 2) (v6.toInt32 + 1).toNatClampNeg)) ((v8 + 1)))
def hb_Ma_markGone_66 (N : Nat) (G : (MS → Nat → Int32 → Int32 → Option (MS × Int32)) × (MS → Nat → Int32 → Int32 → Int64 → Int32 → Option (MS × Int32)) × (MS → Nat → Int32 → Int32 → Int64 → Int32 → Int64 → Int32 → Option (MS × Int32))) (u : MS) (p : Nat) (v1 : Int32) (v2 : Int32) (v3 : Int64) (v5 : Int32) (v6 : Int64) (v8 : Int32) : Option (MS × Int32) := br (decide (v1 ≤ v8)) (hb_Ma_markGone_169 N G u p (v1) (v2) (v3) (v5)) (ck (inb v8 2048) (br (decide ((lg_cmp (u.2.2.2 44 v8.toNatClampNeg) 0) = 0)) (ck (inb (v6.toInt32) 512) (ck (inb (v3.toInt32) 512) (bnd (hm_Te_order N u (pq p 2) (u.2.2.2 (pq p 2) (v6.toInt32).toNatClampNeg) (u.2.2.2 (pq p 2) (v3.toInt32).toNatClampNeg)) (fun u30 r30 => br (decide (r30 = 0)) (ck (inb v8 2048) (lt (upJ u30 44 (vp_updL (u30.2.2.2 44) v8.toNatClampNeg 1)) (fun w36 => lt (if v2 < (v8 + 1) then (v8 + 1) else v2) (fun y37 => hb_Ma_markGone_169 N G w36 p (v1) (y37) (v3) (v5))))) (hb_Ma_markGone_148 N G u30 p (v1) (v2) (v3) (v5) (v6) (v8)))))) (hb_Ma_markGone_148 N G u p (v1) (v2) (v3) (v5) (v6) (v8))))
def hb_Ma_markGone_37 (N : Nat) (G : (MS → Nat → Int32 → Int32 → Option (MS × Int32)) × (MS → Nat → Int32 → Int32 → Int64 → Int32 → Option (MS × Int32)) × (MS → Nat → Int32 → Int32 → Int64 → Int32 → Int64 → Int32 → Option (MS × Int32))) (u : MS) (p : Nat) (v1 : Int32) (v2 : Int32) (v3 : Int64) (v5 : Int32) : Option (MS × Int32) := br (decide (1000000000 ≤ v5)) (hb_Ma_markGone_188 N G u p (v2)) (bnd (hm_Te_tag N u v3) (fun u38 r38 => br (decide (r38 = 7)) (bnd (hm_Fr_below N u38 p 1) (fun u40 r40 => G.2.2 u40 p (v1) (v2) (v3) (v5) (r40) (0))) (hb_Ma_markGone_188 N G u38 p (v2))))
def hb_Ma_markGone_2 (N : Nat) (G : (MS → Nat → Int32 → Int32 → Option (MS × Int32)) × (MS → Nat → Int32 → Int32 → Int64 → Int32 → Option (MS × Int32)) × (MS → Nat → Int32 → Int32 → Int64 → Int32 → Int64 → Int32 → Option (MS × Int32))) (u : MS) (p : Nat) (v1 : Int32) (v2 : Int32) : Option (MS × Int32) := br (decide (v1 ≤ v2)) (bnd (hm_Fr_below N u p 0) (fun u43 r43 => G.2.1 u43 p (v1) (0) (r43) (0))) (ck (inb v2 2048) (lt (upJ u 44 (vp_updL (u.2.2.2 44) v2.toNatClampNeg 0)) (fun w49 => G.1 w49 p (v1) ((v2 + 1)))))
def hb_Ma_markGone_0 (N : Nat) (G : (MS → Nat → Int32 → Int32 → Option (MS × Int32)) × (MS → Nat → Int32 → Int32 → Int64 → Int32 → Option (MS × Int32)) × (MS → Nat → Int32 → Int32 → Int64 → Int32 → Int64 → Int32 → Option (MS × Int32))) (u : MS) (p : Nat) (v1 : Int32) : Option (MS × Int32) := G.1 u p (v1) (0)
def hg_Ma_markGone (N : Nat) : Nat → ((MS → Nat → Int32 → Int32 → Option (MS × Int32)) × (MS → Nat → Int32 → Int32 → Int64 → Int32 → Option (MS × Int32)) × (MS → Nat → Int32 → Int32 → Int64 → Int32 → Int64 → Int32 → Option (MS × Int32)))
  | 0 => (fun _ _ _ _ => none, fun _ _ _ _ _ _ => none, fun _ _ _ _ _ _ _ _ => none)
  | n + 1 => (hb_Ma_markGone_2 N (hg_Ma_markGone N n), hb_Ma_markGone_37 N (hg_Ma_markGone N n), hb_Ma_markGone_66 N (hg_Ma_markGone N n))
def hm_Ma_markGone (N : Nat) (u : MS) (p : Nat) (v1 : Int32) : Option (MS × Int32) := hb_Ma_markGone_0 N (hg_Ma_markGone N N) u p v1
def hb_Ma_without_281 (N : Nat) (G : (MS → Nat → Int32 → Int32 → Int32 → Option (MS × Unit)) × (MS → Nat → Int32 → Int32 → Int32 → Int64 → Int32 → Option (MS × Unit))) (u : MS) (p : Nat) (t1 : Int32) (t2 : Int64) : Option (MS × Unit) := bnd (hm_Ma_answer N u p t1 t2) (fun u1 r1 => lt (upI u1 1105 ((u1.1 1105) + 2)) (fun w3 => some (w3, ())))
def hb_Ma_without_231 (N : Nat) (G : (MS → Nat → Int32 → Int32 → Int32 → Option (MS × Unit)) × (MS → Nat → Int32 → Int32 → Int32 → Int64 → Int32 → Option (MS × Unit))) (u : MS) (p : Nat) (v2 : Int32) (v4 : Int32) (v5 : Int32) (v6 : Int64) (v8 : Int32) : Option (MS × Unit) := ck (inb (v6.toInt32 + 1) 512) (G.2 u p (v2) (v4) (v5) ((u.2.2.2 (pq p 2) (v6.toInt32 + 1).toNatClampNeg)) ((v8 + 1)))
def hb_Ma_without_150 (N : Nat) (G : (MS → Nat → Int32 → Int32 → Int32 → Option (MS × Unit)) × (MS → Nat → Int32 → Int32 → Int32 → Int64 → Int32 → Option (MS × Unit))) (u : MS) (p : Nat) (v2 : Int32) (v4 : Int32) (v5 : Int32) (v6 : Int64) (v8 : Int32) : Option (MS × Unit) := br (decide (v2 ≤ v8)) (bnd (hm_Ma_endList N u p v4 v5 v6) (fun u9 r9 => br (decide (v5 = 0)) (hb_Ma_without_281 N G u9 p (2) (v6)) (bnd (hm_Te_make N u9 7 v4) (fun u10 r10 => hb_Ma_without_281 N G u10 p (2) (r10))))) (ck (inb v8 2048) (br (decide ((lg_cmp (u.2.2.2 44 v8.toNatClampNeg) 0) = 0)) (ck (inb (v6.toInt32) 512) (ck (inb (v4 + (2 * v5)) 512) (lt (upJ u (pq p 2) (vp_updL (u.2.2.2 (pq p 2)) (v4 + (2 * v5)).toNatClampNeg (u.2.2.2 (pq p 2) (v6.toInt32).toNatClampNeg))) (fun w25 => bnd (hm_Te_make N w25 7 ((v4 + (2 * v5)) + 2)) (fun u29 r29 => ck (inb ((v4 + (2 * v5)) + 1) 512) (lt (upJ u29 (pq p 2) (vp_updL (u29.2.2.2 (pq p 2)) ((v4 + (2 * v5)) + 1).toNatClampNeg r29)) (fun w31 => hb_Ma_without_231 N G w31 p (v2) (v4) ((v5 + 1)) (v6) (v8)))))))) (hb_Ma_without_231 N G u p (v2) (v4) (v5) (v6) (v8))))
def hb_Ma_without_106 (N : Nat) (G : (MS → Nat → Int32 → Int32 → Int32 → Option (MS × Unit)) × (MS → Nat → Int32 → Int32 → Int32 → Int64 → Int32 → Option (MS × Unit))) (u : MS) (p : Nat) (v2 : Int32) (v4 : Int32) (t0 : Int32) (t1 : Int32) : Option (MS × Unit) := G.1 u p (v2) ((t0 + t1)) ((v4 + 1))
def hb_Ma_without_79 (N : Nat) (G : (MS → Nat → Int32 → Int32 → Int32 → Option (MS × Unit)) × (MS → Nat → Int32 → Int32 → Int32 → Int64 → Int32 → Option (MS × Unit))) (u : MS) (p : Nat) (v2 : Int32) (v3 : Int32) (v4 : Int32) : Option (MS × Unit) := br (decide (v2 ≤ v4)) (bnd (hm_Ma_room N u p (2 * v3)) (fun u32 r32 => br (decide (r32 = 0)) (some (u32, ())) (bnd (hm_Fr_below N u32 p 1) (fun u37 r37 => G.2 u37 p (v2) ((u32.1 (pq p 4))) (0) (r37) (0))))) (ck (inb v4 2048) (br (decide ((lg_cmp (u.2.2.2 44 v4.toNatClampNeg) 0) = 0)) (hb_Ma_without_106 N G u p (v2) (v4) (v3) (1)) (hb_Ma_without_106 N G u p (v2) (v4) (v3) (0))))
def hb_Ma_without_61 (N : Nat) (G : (MS → Nat → Int32 → Int32 → Int32 → Option (MS × Unit)) × (MS → Nat → Int32 → Int32 → Int32 → Int64 → Int32 → Option (MS × Unit))) (u : MS) (p : Nat) : Option (MS × Unit) := bnd (hm_Ma_wrong N u p 11) (fun u44 r44 => some (u44, ()))
def hb_Ma_without_0 (N : Nat) (G : (MS → Nat → Int32 → Int32 → Int32 → Option (MS × Unit)) × (MS → Nat → Int32 → Int32 → Int32 → Int64 → Int32 → Option (MS × Unit))) (u : MS) (p : Nat) : Option (MS × Unit) := bnd (hm_Fr_below N u p 1) (fun u50 r50 => bnd (hm_Te_listLength N u50 (pq p 2) r50) (fun u52 r52 => br (decide (r52 = (-1))) (hb_Ma_without_61 N G u52 p) (br (decide (2048 < r52)) (hb_Ma_without_61 N G u52 p) (bnd (hm_Fr_below N u52 p 0) (fun u59 r59 => bnd (hm_Te_listLength N u59 (pq p 2) r59) (fun u61 r61 => br (decide (r61 = (-1))) (hb_Ma_without_61 N G u61 p) (bnd (hm_Ma_markGone N u61 p r52) (fun u63 r63 => G.1 u63 p (r63) (0) (0)))))))))
def hg_Ma_without (N : Nat) : Nat → ((MS → Nat → Int32 → Int32 → Int32 → Option (MS × Unit)) × (MS → Nat → Int32 → Int32 → Int32 → Int64 → Int32 → Option (MS × Unit)))
  | 0 => (fun _ _ _ _ _ => none, fun _ _ _ _ _ _ _ => none)
  | n + 1 => (hb_Ma_without_79 N (hg_Ma_without N n), hb_Ma_without_150 N (hg_Ma_without N n))
def hm_Ma_without (N : Nat) (u : MS) (p : Nat) : Option (MS × Unit) := hb_Ma_without_0 N (hg_Ma_without N N) u p
def hb_Ma_value_240 (N : Nat) (G : Unit) (u : MS) (p : Nat) : Option (MS × Unit) := some (u, ())
def hb_Ma_value_159 (N : Nat) (G : Unit) (u : MS) (p : Nat) (v2 : Int32) (t1 : Int32) : Option (MS × Unit) := bnd (hm_Ma_hinge N u p t1 v2) (fun u1 r1 => hb_Ma_value_240 N G u1 p)
def hb_Ma_value_0 (N : Nat) (G : Unit) (u : MS) (p : Nat) (v1 : Int32) : Option (MS × Unit) := bnd (hm_Co_at N u ((u.1 1105) + 1)) (fun u4 r4 => br (decide (v1 = 8)) (bnd (hm_Fr_below N u4 p 1) (fun u11 r11 => bnd (hm_Fr_below N u11 p 0) (fun u14 r14 => bnd (hm_Te_order N u14 (pq p 2) r11 r14) (fun u16 r16 => bnd (hm_Ma_holds N u16 r4 r16) (fun u18 r18 => bnd (hm_Ma_truth N u18 r18) (fun u19 r19 => bnd (hm_Ma_answer N u19 p 2 r19) (fun u20 r20 => lt (upI u20 1105 ((u20.1 1105) + 2)) (fun w22 => hb_Ma_value_240 N G w22 p)))))))) (br (decide (v1 = 9)) (bnd (hm_Ma_arithmetic N u4 p r4) (fun u23 r23 => hb_Ma_value_240 N G u23 p)) (br (decide (v1 = 10)) (br (decide (r4 = 43)) (bnd (hm_Ma_join N u4 p) (fun u25 r25 => hb_Ma_value_240 N G u25 p)) (bnd (hm_Ma_without N u4 p) (fun u24 r24 => hb_Ma_value_240 N G u24 p))) (br (decide (v1 = 11)) (bnd (hm_Ma_negate N u4 p) (fun u26 r26 => hb_Ma_value_240 N G u26 p)) (br (decide (v1 = 12)) (bnd (hm_Ma_not N u4 p) (fun u27 r27 => hb_Ma_value_240 N G u27 p)) (br (decide (v1 = 13)) (br (decide (v1 = 13)) (hb_Ma_value_159 N G u4 p (r4) (1)) (hb_Ma_value_159 N G u4 p (r4) (0))) (br (decide (v1 = 14)) (br (decide (v1 = 13)) (hb_Ma_value_159 N G u4 p (r4) (1)) (hb_Ma_value_159 N G u4 p (r4) (0))) (br (decide (v1 = 15)) (bnd (hm_Fr_drop N u4 p 1) (fun u29 r29 => lt (upI u29 1105 ((u29.1 1105) + 1)) (fun w32 => hb_Ma_value_240 N G w32 p))) (br (decide (v1 = 16)) (bnd (hm_Fr_forget N u4 p r4) (fun u34 r34 => lt (upI u34 1105 ((u34.1 1105) + 2)) (fun w37 => hb_Ma_value_240 N G w37 p))) (br (decide (v1 = 17)) (bnd (hm_Ma_sendTo N u4 p) (fun u38 r38 => hb_Ma_value_240 N G u38 p)) (lt (upI u4 1108 1) (fun w39 => hb_Ma_value_240 N G w39 p))))))))))))
def hm_Ma_value (N : Nat) (u : MS) (p : Nat) (v1 : Int32) : Option (MS × Unit) := hb_Ma_value_0 N () u p v1
def hb_Ma_fit_370 (N : Nat) (G : (MS → Nat → Int32 → Int32 → Int32 → Option (MS × Int32)) × (MS → Nat → Int32 → Int32 → Int32 → Int64 → Int32 → Option (MS × Int32))) (u : MS) (p : Nat) (v4 : Int32) : Option (MS × Int32) := some (u, (v4 + 1))
def hb_Ma_fit_364 (N : Nat) (G : (MS → Nat → Int32 → Int32 → Int32 → Option (MS × Int32)) × (MS → Nat → Int32 → Int32 → Int32 → Int64 → Int32 → Option (MS × Int32))) (u : MS) (p : Nat) (v4 : Int32) (v5 : Int32) (v6 : Int32) : Option (MS × Int32) := G.1 u p (v4) (v5) ((v6 + 1))
def hb_Ma_fit_268 (N : Nat) (G : (MS → Nat → Int32 → Int32 → Int32 → Option (MS × Int32)) × (MS → Nat → Int32 → Int32 → Int32 → Int64 → Int32 → Option (MS × Int32))) (u : MS) (p : Nat) (v4 : Int32) (v5 : Int32) (v6 : Int32) (v7 : Int64) (v10 : Int32) : Option (MS × Int32) := br (decide (v10 ≤ 0)) (hb_Ma_fit_364 N G u p ((v4 + 2)) (v5) (v6)) (ck (inb (v7.toInt32 + v10) 512) (ck (inb v5 2048) (lt (upJ u 44 (vp_updL (u.2.2.2 44) v5.toNatClampNeg (u.2.2.2 (pq p 2) (v7.toInt32 + v10).toNatClampNeg))) (fun w7 => G.2 w7 p (v4) ((v5 + 1)) (v6) (v7) ((v10 + (-1)))))))
def hb_Ma_fit_262 (N : Nat) (G : (MS → Nat → Int32 → Int32 → Int32 → Option (MS × Int32)) × (MS → Nat → Int32 → Int32 → Int32 → Int64 → Int32 → Option (MS × Int32))) (u : MS) (p : Nat) : Option (MS × Int32) := some (u, (-1))
def hb_Ma_fit_57 (N : Nat) (G : (MS → Nat → Int32 → Int32 → Int32 → Option (MS × Int32)) × (MS → Nat → Int32 → Int32 → Int32 → Int64 → Int32 → Option (MS × Int32))) (u : MS) (p : Nat) : Option (MS × Int32) := some (u, (-1))
def hb_Ma_fit_17 (N : Nat) (G : (MS → Nat → Int32 → Int32 → Int32 → Option (MS × Int32)) × (MS → Nat → Int32 → Int32 → Int32 → Int64 → Int32 → Option (MS × Int32))) (u : MS) (p : Nat) (v4 : Int32) (v5 : Int32) (v6 : Int32) : Option (MS × Int32) := br (decide (1000000000 ≤ v6)) (hb_Ma_fit_370 N G u p (v4)) (bnd (hm_Co_at N u v4) (fun u9 r9 => br (decide (r9 = 8)) (hb_Ma_fit_370 N G u9 p (v4)) (br (decide ((v5 + (-1)) < 0)) (hb_Ma_fit_57 N G u9 p) (br (decide (((v5 + (-1)) + 8) < 2048)) (ck (inb (v5 + (-1)) 2048) (bnd (hm_Co_at N u9 (v4 + 1)) (fun u14 r14 => bnd (hm_Co_at N u14 v4) (fun u17 r17 => br (decide (r17 = 1)) (bnd (hm_Co_at N u17 (v4 + 2)) (fun u20 r20 => bnd (hm_Te_make N u20 r14 r20) (fun u22 r22 => br (decide ((lg_cmp (u9.2.2.2 44 (v5 + (-1)).toNatClampNeg) r22) = 0)) (hb_Ma_fit_364 N G u22 p ((v4 + 3)) ((v5 + (-1))) (v6)) (some (u22, (-1)))))) (br (decide (r17 = 2)) (bnd (hm_Ma_fitsString N u17 p v4 (u9.2.2.2 44 (v5 + (-1)).toNatClampNeg)) (fun u23 r23 => br (decide (r23 = 0)) (some (u23, (-1))) (hb_Ma_fit_364 N G u23 p ((v4 + (2 + r14))) ((v5 + (-1))) (v6)))) (br (decide (r17 = 3)) (bnd (hm_Fr_termOf N u17 p r14) (fun u29 r29 => bnd (hm_Te_order N u29 (pq p 2) r29 (u9.2.2.2 44 (v5 + (-1)).toNatClampNeg)) (fun u31 r31 => br (decide (r31 = 0)) (hb_Ma_fit_364 N G u31 p ((v4 + 2)) ((v5 + (-1))) (v6)) (some (u31, (-1)))))) (br (decide (r17 = 4)) (bnd (hm_Fr_bind N u17 p r14 (u9.2.2.2 44 (v5 + (-1)).toNatClampNeg)) (fun u34 r34 => hb_Ma_fit_364 N G u34 p ((v4 + 2)) ((v5 + (-1))) (v6))) (br (decide (r17 = 5)) (hb_Ma_fit_364 N G u17 p ((v4 + 1)) ((v5 + (-1))) (v6)) (br (decide (r17 = 6)) (bnd (hm_Te_tag N u17 (u9.2.2.2 44 (v5 + (-1)).toNatClampNeg)) (fun u36 r36 => br (decide (r36 = 5)) (ck (inb ((u9.2.2.2 44 (v5 + (-1)).toNatClampNeg).toInt32) 512) (br (decide ((u36.2.2.2 (pq p 2) ((u9.2.2.2 44 (v5 + (-1)).toNatClampNeg).toInt32).toNatClampNeg).toInt32 = r14)) (G.2 u36 p (v4) ((v5 + (-1))) (v6) ((u9.2.2.2 44 (v5 + (-1)).toNatClampNeg)) (r14)) (hb_Ma_fit_262 N G u36 p))) (hb_Ma_fit_262 N G u36 p))) (br (decide (r17 = 7)) (bnd (hm_Te_tag N u17 (u9.2.2.2 44 (v5 + (-1)).toNatClampNeg)) (fun u42 r42 => br (decide (r42 = 7)) (ck (inb ((u9.2.2.2 44 (v5 + (-1)).toNatClampNeg).toInt32 + 1) 512) (ck (inb (v5 + (-1)) 2048) (lt (upJ u42 44 (vp_updL (u42.2.2.2 44) (v5 + (-1)).toNatClampNeg (u42.2.2.2 (pq p 2) ((u9.2.2.2 44 (v5 + (-1)).toNatClampNeg).toInt32 + 1).toNatClampNeg))) (fun w49 => ck (inb ((u9.2.2.2 44 (v5 + (-1)).toNatClampNeg).toInt32) 512) (ck (inb ((v5 + (-1)) + 1) 2048) (lt (upJ w49 44 (vp_updL (w49.2.2.2 44) ((v5 + (-1)) + 1).toNatClampNeg (w49.2.2.2 (pq p 2) ((u9.2.2.2 44 (v5 + (-1)).toNatClampNeg).toInt32).toNatClampNeg))) (fun w56 => hb_Ma_fit_364 N G w56 p ((v4 + 1)) (((v5 + (-1)) + 2)) (v6)))))))) (some (u42, (-1))))) (hb_Ma_fit_364 N G u17 p ((v4 + 1)) ((v5 + (-1))) (v6)))))))))))) (hb_Ma_fit_57 N G u9 p)))))
def hb_Ma_fit_0 (N : Nat) (G : (MS → Nat → Int32 → Int32 → Int32 → Option (MS × Int32)) × (MS → Nat → Int32 → Int32 → Int32 → Int64 → Int32 → Option (MS × Int32))) (u : MS) (p : Nat) (v1 : Int32) (v2 : Int32) : Option (MS × Int32) := G.1 u p (v1) (v2) (0)
def hg_Ma_fit (N : Nat) : Nat → ((MS → Nat → Int32 → Int32 → Int32 → Option (MS × Int32)) × (MS → Nat → Int32 → Int32 → Int32 → Int64 → Int32 → Option (MS × Int32)))
  | 0 => (fun _ _ _ _ _ => none, fun _ _ _ _ _ _ _ => none)
  | n + 1 => (hb_Ma_fit_17 N (hg_Ma_fit N n), hb_Ma_fit_268 N (hg_Ma_fit N n))
def hm_Ma_fit (N : Nat) (u : MS) (p : Nat) (v1 : Int32) (v2 : Int32) : Option (MS × Int32) := hb_Ma_fit_0 N (hg_Ma_fit N N) u p v1 v2
def hb_Ma_tries_153 (N : Nat) (G : (MS → Nat → Int32 → Int32 → Int32 → Int32 → Option (MS × Unit))) (u : MS) (p : Nat) : Option (MS × Unit) := some (u, ())
def hb_Ma_tries_93 (N : Nat) (G : (MS → Nat → Int32 → Int32 → Int32 → Int32 → Option (MS × Unit))) (u : MS) (p : Nat) (v1 : Int32) (v2 : Int32) (v3 : Int32) (v4 : Int32) (t1 : Int32) (t2 : Int64) : Option (MS × Unit) := ck (inb t1 2048) (lt (upJ u 44 (vp_updL (u.2.2.2 44) t1.toNatClampNeg t2)) (fun w2 => G w2 p (v1) (v2) (v3) ((v4 + 1))))
def hb_Ma_tries_50 (N : Nat) (G : (MS → Nat → Int32 → Int32 → Int32 → Int32 → Option (MS × Unit))) (u : MS) (p : Nat) (v1 : Int32) (v2 : Int32) (v3 : Int32) (v4 : Int32) (t0 : Int32) : Option (MS × Unit) := br (decide (t0 = 0)) (bnd (hm_Fr_below N u p v4) (fun u7 r7 => hb_Ma_tries_93 N G u7 p (v1) (v2) (v3) (v4) (v4) (r7))) (ck (inb (u.1 (pq p 8)) 30) (hb_Ma_tries_93 N G u p (v1) (v2) (v3) (v4) (v4) ((u.2.2.2 (pq p 6) (u.1 (pq p 8)).toNatClampNeg))))
def hb_Ma_tries_49 (N : Nat) (G : (MS → Nat → Int32 → Int32 → Int32 → Int32 → Option (MS × Unit))) (u : MS) (p : Nat) (v1 : Int32) (v2 : Int32) (v3 : Int32) (v4 : Int32) : Option (MS × Unit) := hb_Ma_tries_50 N G u p (v1) (v2) (v3) (v4) (0)
def hb_Ma_tries_21 (N : Nat) (G : (MS → Nat → Int32 → Int32 → Int32 → Int32 → Option (MS × Unit))) (u : MS) (p : Nat) (v1 : Int32) (v2 : Int32) (v3 : Int32) (v4 : Int32) : Option (MS × Unit) := br (decide (v3 ≤ v4)) (bnd (hm_Ma_fit N u p ((u.1 1105) + 3) v3) (fun u18 r18 => br (decide (r18 = (-1))) (lt (upI u18 (pq p 24) v2) (fun w22 => bnd (hm_Co_at N w22 ((w22.1 1105) + 2)) (fun u25 r25 => lt (upI u25 1105 r25) (fun w27 => hb_Ma_tries_153 N G w27 p)))) (lt (upI u18 1105 r18) (fun w19 => hb_Ma_tries_153 N G w19 p)))) (br (decide (v1 = (-2))) (br (decide (30 ≤ (u.1 (pq p 8)))) (hb_Ma_tries_49 N G u p (v1) (v2) (v3) (v4)) (hb_Ma_tries_50 N G u p (v1) (v2) (v3) (v4) (1))) (hb_Ma_tries_49 N G u p (v1) (v2) (v3) (v4)))
def hb_Ma_tries_17 (N : Nat) (G : (MS → Nat → Int32 → Int32 → Int32 → Int32 → Option (MS × Unit))) (u : MS) (p : Nat) (v1 : Int32) (v2 : Int32) (t0 : Int32) : Option (MS × Unit) := G u p (v1) (v2) (t0) (0)
def hb_Ma_tries_0 (N : Nat) (G : (MS → Nat → Int32 → Int32 → Int32 → Int32 → Option (MS × Unit))) (u : MS) (p : Nat) (v1 : Int32) : Option (MS × Unit) := br (decide (v1 < 0)) (hb_Ma_tries_17 N G u p (v1) ((u.1 (pq p 24))) (1)) (hb_Ma_tries_17 N G u p (v1) ((u.1 (pq p 24))) (v1))
def hg_Ma_tries (N : Nat) : Nat → ((MS → Nat → Int32 → Int32 → Int32 → Int32 → Option (MS × Unit)))
  | 0 => fun _ _ _ _ _ _ => none
  | n + 1 => hb_Ma_tries_21 N (hg_Ma_tries N n)
def hm_Ma_tries (N : Nat) (u : MS) (p : Nat) (v1 : Int32) : Option (MS × Unit) := hb_Ma_tries_0 N (hg_Ma_tries N N) u p v1
def hb_Ma_match_73 (N : Nat) (G : Unit) (u : MS) (p : Nat) : Option (MS × Unit) := some (u, ())
def hb_Ma_match_0 (N : Nat) (G : Unit) (u : MS) (p : Nat) : Option (MS × Unit) := bnd (hm_Fr_below N u p 0) (fun u8 r8 => ck (inb (0 : Int32) 2048) (lt (upJ u8 44 (vp_updL (u8.2.2.2 44) (0 : Int32).toNatClampNeg r8)) (fun w11 => bnd (hm_Ma_fit N w11 p ((w11.1 1105) + 1) 1) (fun u13 r13 => br (decide (r13 = (-1))) (lt (upI u13 (pq p 24) (u.1 (pq p 24))) (fun w17 => bnd (hm_Fr_below N w17 p 0) (fun u19 r19 => bnd (hm_Ma_tell N u19 p 1 13 r19) (fun u21 r21 => hb_Ma_match_73 N G u21 p)))) (lt (upI u13 1105 r13) (fun w14 => hb_Ma_match_73 N G w14 p))))))
def hm_Ma_match (N : Nat) (u : MS) (p : Nat) : Option (MS × Unit) := hb_Ma_match_0 N () u p
def hb_Ma_guardFails_0 (N : Nat) (G : Unit) (u : MS) (p : Nat) : Option (MS × Unit) := lt (upI u (pq p 26) (u.1 1114)) (fun w4 => bnd (hm_Fr_forget N w4 p (w4.1 1113)) (fun u7 r7 => lt (upI u7 1105 (u7.1 1112)) (fun w10 => lt (upI w10 1112 0) (fun w11 => some (w11, ())))))
def hm_Ma_guardFails (N : Nat) (u : MS) (p : Nat) : Option (MS × Unit) := hb_Ma_guardFails_0 N () u p
def hb_Fr_replace_0 (N : Nat) (G : Unit) (u : MS) (v0 : Nat) (v1 : Int32) (v2 : Int32) (v3 : Int32) : Option (MS × Unit) := bnd (hm_Fr_of N u v0 ((u.1 (pq v0 21)) - 1) 3) (fun u2 r2 => ck (cpOk ((u2.1 (pq v0 26)) - v3) r2 v3 (lnQ u2 v0 45) (lnQ u2 v0 45)) (lt (upJ u2 (pq v0 35) (va_cpy (u2.2.2.2 (pq v0 35)) (u2.2.2.2 (pq v0 35)) ((u2.1 (pq v0 26)) - v3).toNatClampNeg r2.toNatClampNeg v3.toNatClampNeg)) (fun w8 => lt (upI w8 (pq v0 26) (r2 + v3)) (fun w9 => bnd (hm_Fr_of N w9 v0 ((w9.1 (pq v0 21)) - 1) 2) (fun u11 r11 => lt (upI u11 (pq v0 24) r11) (fun w12 => bnd (hm_Fr_set N w12 v0 0 v1) (fun u13 r13 => bnd (hm_Fr_set N u13 v0 1 0) (fun u14 r14 => bnd (hm_Fr_set N u14 v0 4 v2) (fun u15 r15 => some (u15, ()))))))))))
def hm_Fr_replace (N : Nat) (u : MS) (v0 : Nat) (v1 : Int32) (v2 : Int32) (v3 : Int32) : Option (MS × Unit) := hb_Fr_replace_0 N () u v0 v1 v2 v3
def hb_Ma_enter_37 (N : Nat) (G : Unit) (u : MS) (p : Nat) (v2 : Int32) : Option (MS × Unit) := lt (upI u 1105 v2) (fun w1 => some (w1, ()))
def hb_Ma_enter_0 (N : Nat) (G : Unit) (u : MS) (p : Nat) (v1 : Int32) (v2 : Int32) (v3 : Int32) (v4 : Int32) (v5 : Int32) : Option (MS × Unit) := br (decide (v4 = 0)) (bnd (hm_Fr_setPlace N u p v5) (fun u3 r3 => bnd (hm_Fr_open N u3 p v1 v2 v3) (fun u6 r6 => hb_Ma_enter_37 N G u6 p (v2)))) (bnd (hm_Fr_replace N u p v1 v2 v3) (fun u9 r9 => hb_Ma_enter_37 N G u9 p (v2)))
def hm_Ma_enter (N : Nat) (u : MS) (p : Nat) (v1 : Int32) (v2 : Int32) (v3 : Int32) (v4 : Int32) (v5 : Int32) : Option (MS × Unit) := hb_Ma_enter_0 N () u p v1 v2 v3 v4 v5
def hb_Ma_call_70 (N : Nat) (G : Unit) (u : MS) (p : Nat) : Option (MS × Unit) := some (u, ())
def hb_Ma_call_0 (N : Nat) (G : Unit) (u : MS) (p : Nat) (v1 : Int32) (v2 : Int32) : Option (MS × Unit) := bnd (hm_Co_at N u ((u.1 1105) + 3)) (fun u3 r3 => bnd (hm_Ma_begins N u3 p v2 r3) (fun u5 r5 => br (decide (r5 = 0)) (hb_Ma_call_70 N G u5 p) (br (decide (v1 < 0)) (hb_Ma_call_70 N G u5 p) (br (decide ((u5.1 442) ≤ v1)) (hb_Ma_call_70 N G u5 p) (ck (inb v1 666) (bnd (hm_Co_at N u5 ((u5.1 1105) + 2)) (fun u16 r16 => bnd (hm_Ma_enter N u16 p v1 (u5.2.2.1 29 v1.toNatClampNeg) r16 v2 ((u16.1 1105) + 4)) (fun u19 r19 => hb_Ma_call_70 N G u19 p))))))))
def hm_Ma_call (N : Nat) (u : MS) (p : Nat) (v1 : Int32) (v2 : Int32) : Option (MS × Unit) := hb_Ma_call_0 N () u p v1 v2
def hb_Fr_takeOut_39 (N : Nat) (G : Unit) (u : MS) : Option (MS × Unit) := some (u, ())
def hb_Fr_takeOut_0 (N : Nat) (G : Unit) (u : MS) (v0 : Nat) (v1 : Int32) : Option (MS × Unit) := br (decide ((((u.1 (pq v0 26)) - v1) - 1) < 0)) (hb_Fr_takeOut_39 N G u) (ck (cpOk ((((u.1 (pq v0 26)) - v1) - 1) + 1) (((u.1 (pq v0 26)) - v1) - 1) v1 (lnQ u v0 45) (lnQ u v0 45)) (lt (upJ u (pq v0 35) (va_cpy (u.2.2.2 (pq v0 35)) (u.2.2.2 (pq v0 35)) ((((u.1 (pq v0 26)) - v1) - 1) + 1).toNatClampNeg (((u.1 (pq v0 26)) - v1) - 1).toNatClampNeg v1.toNatClampNeg)) (fun w6 => lt (upI w6 (pq v0 26) ((w6.1 (pq v0 26)) - 1)) (fun w8 => hb_Fr_takeOut_39 N G w8))))
def hm_Fr_takeOut (N : Nat) (u : MS) (v0 : Nat) (v1 : Int32) : Option (MS × Unit) := hb_Fr_takeOut_0 N () u v0 v1
def hb_Ma_apply_0 (N : Nat) (G : Unit) (u : MS) (p : Nat) (v1 : Int32) (v2 : Int32) : Option (MS × Unit) := bnd (hm_Fr_below N u p v1) (fun u2 r2 => bnd (hm_Te_tag N u2 r2) (fun u4 r4 => br (decide (r4 = 3)) (ck (inb (r2.toInt32) 512) (bnd (hm_Co_takes N u4 ((u4.2.2.2 (pq p 2) (r2.toInt32).toNatClampNeg).toInt32)) (fun u11 r11 => br (decide (r11 = v1)) (bnd (hm_Co_at N u11 ((u11.1 1105) + 2)) (fun u15 r15 => bnd (hm_Ma_begins N u15 p v2 r15) (fun u17 r17 => br (decide (r17 = 0)) (some (u17, ())) (bnd (hm_Fr_takeOut N u17 p v1) (fun u19 r19 => bnd (hm_Ma_functionOf N u19 ((u4.2.2.2 (pq p 2) (r2.toInt32).toNatClampNeg).toInt32)) (fun u21 r21 => bnd (hm_Ma_entryOf N u21 p ((u4.2.2.2 (pq p 2) (r2.toInt32).toNatClampNeg).toInt32)) (fun u22 r22 => bnd (hm_Ma_enter N u22 p r21 r22 v1 v2 ((u22.1 1105) + 3)) (fun u24 r24 => bnd (hm_Ma_hold N u24 p p (pq p 2) r2) (fun u29 r29 => some (u29, ())))))))))) (bnd (hm_Te_make N u11 0 v1) (fun u30 r30 => bnd (hm_Ma_tell N u30 p 1 18 r30) (fun u31 r31 => some (u31, ()))))))) (bnd (hm_Ma_tell N u4 p 1 17 r2) (fun u32 r32 => some (u32, ())))))
def hm_Ma_apply (N : Nat) (u : MS) (p : Nat) (v1 : Int32) (v2 : Int32) : Option (MS × Unit) := hb_Ma_apply_0 N () u p v1 v2
def hb_Fr_catchTo_34 (N : Nat) (G : Unit) (u : MS) (v0 : Nat) (v1 : Int32) (v2 : Int32) : Option (MS × Unit) := ck (inb v2 (lnQ u v0 47)) (lt (upA u (pq v0 37) (upd (u.2.2.1 (pq v0 37)) v2.toNatClampNeg (u.1 (pq v0 21)))) (fun w4 => ck (inb (v2 + 1) (lnQ w4 v0 47)) (lt (upA w4 (pq v0 37) (upd (w4.2.2.1 (pq v0 37)) (v2 + 1).toNatClampNeg (w4.1 (pq v0 24)))) (fun w8 => ck (inb (v2 + 2) (lnQ w8 v0 47)) (lt (upA w8 (pq v0 37) (upd (w8.2.2.1 (pq v0 37)) (v2 + 2).toNatClampNeg (w8.1 (pq v0 26)))) (fun w12 => ck (inb (v2 + 3) (lnQ w12 v0 47)) (lt (upA w12 (pq v0 37) (upd (w12.2.2.1 (pq v0 37)) (v2 + 3).toNatClampNeg v1)) (fun w15 => lt (upI w15 (pq v0 28) ((w15.1 (pq v0 28)) + 1)) (fun w17 => some (w17, ()))))))))))
def hb_Fr_catchTo_0 (N : Nat) (G : Unit) (u : MS) (v0 : Nat) (v1 : Int32) : Option (MS × Unit) := br (decide (((u.1 (pq v0 28)) * 4) < (u.1 (pq v0 47)))) (hb_Fr_catchTo_34 N G u v0 (v1) (((u.1 (pq v0 28)) * 4))) (ck (grw (u.1 (pq v0 47))) (lt (gIm u v0 37 47) (fun w27 => hb_Fr_catchTo_34 N G w27 v0 (v1) (((u.1 (pq v0 28)) * 4)))))
def hm_Fr_catchTo (N : Nat) (u : MS) (v0 : Nat) (v1 : Int32) : Option (MS × Unit) := hb_Fr_catchTo_0 N () u v0 v1
def hb_Ma_await_104 (N : Nat) (G : Unit) (u : MS) (p : Nat) : Option (MS × Unit) := lt (upI u 1105 ((u.1 1105) + 2)) (fun w2 => some (w2, ()))
def hb_Ma_await_96 (N : Nat) (G : Unit) (u : MS) (p : Nat) : Option (MS × Unit) := bnd (hm_Fr_drop N u p 1) (fun u4 r4 => hb_Ma_await_104 N G u4 p)
def hb_Ma_await_72 (N : Nat) (G : Unit) (u : MS) (p : Nat) (v2 : Int64) (v4 : Int32) : Option (MS × Unit) := br (decide (v4 = 0)) (hb_Ma_await_96 N G u p) (lt (upL u (pq p 10) ((u.1 944).toInt64 + (v2.toInt32).toInt64)) (fun w11 => hb_Ma_await_96 N G w11 p))
def hb_Ma_await_48 (N : Nat) (G : Unit) (u : MS) (p : Nat) (v2 : Int64) (t0 : Int32) : Option (MS × Unit) := br (decide (t0 = 0)) (bnd (hm_Ma_atom N u 10) (fun u12 r12 => br (decide ((lg_cmp v2 r12) = 0)) (hb_Ma_await_72 N G u12 p (v2) (t0)) (bnd (hm_Ma_wrong N u12 p 11) (fun u13 r13 => some (u13, ()))))) (hb_Ma_await_72 N G u p (v2) (t0))
def hb_Ma_await_47 (N : Nat) (G : Unit) (u : MS) (p : Nat) (v2 : Int64) : Option (MS × Unit) := hb_Ma_await_48 N G u p (v2) (0)
def hb_Ma_await_0 (N : Nat) (G : Unit) (u : MS) (p : Nat) (v1 : Int32) : Option (MS × Unit) := lt (upI u (pq p 8) 0) (fun w16 => lt (upL w16 (pq p 10) (-1)) (fun w19 => br (decide (v1 = 0)) (hb_Ma_await_104 N G w19 p) (bnd (hm_Fr_below N w19 p 0) (fun u21 r21 => bnd (hm_Te_tag N u21 r21) (fun u23 r23 => br (decide (r23 = 0)) (br (decide (r21.toInt32 < 0)) (hb_Ma_await_47 N G u23 p (r21)) (hb_Ma_await_48 N G u23 p (r21) (1))) (hb_Ma_await_47 N G u23 p (r21)))))))
def hm_Ma_await (N : Nat) (u : MS) (p : Nat) (v1 : Int32) : Option (MS × Unit) := hb_Ma_await_0 N () u p v1
def hb_Pr_takeMessage_53 (N : Nat) (G : Unit) (u : MS) (v0 : Nat) : Option (MS × Unit) := lt (upI u (pq v0 8) 0) (fun w1 => lt (upL w1 (pq v0 10) (-1)) (fun w2 => some (w2, ())))
def hb_Pr_takeMessage_0 (N : Nat) (G : Unit) (u : MS) (v0 : Nat) : Option (MS × Unit) := br (decide ((u.1 (pq v0 7)) ≤ (u.1 (pq v0 8)))) (hb_Pr_takeMessage_53 N G u v0) (ck (cpOk ((u.1 (pq v0 8)) + 1) (u.1 (pq v0 8)) (((u.1 (pq v0 7)) - (u.1 (pq v0 8))) - 1) 30 30) (lt (upJ u (pq v0 6) (va_cpy (u.2.2.2 (pq v0 6)) (u.2.2.2 (pq v0 6)) ((u.1 (pq v0 8)) + 1).toNatClampNeg (u.1 (pq v0 8)).toNatClampNeg (((u.1 (pq v0 7)) - (u.1 (pq v0 8))) - 1).toNatClampNeg)) (fun w13 => lt (upI w13 (pq v0 7) ((w13.1 (pq v0 7)) - 1)) (fun w15 => hb_Pr_takeMessage_53 N G w15 v0))))
def hm_Pr_takeMessage (N : Nat) (u : MS) (v0 : Nat) : Option (MS × Unit) := hb_Pr_takeMessage_0 N () u v0
def hb_Ma_returns_0 (N : Nat) (G : Unit) (u : MS) (p : Nat) : Option (MS × Unit) := br (decide (1 < (u.1 (pq p 21)))) (bnd (hm_Fr_below N u p 0) (fun u5 r5 => bnd (hm_Fr_leave N u5 p) (fun u8 r8 => bnd (hm_Fr_push N u8 p r5) (fun u11 r11 => bnd (hm_Fr_place N u11 p) (fun u14 r14 => lt (upI u14 1105 r14) (fun w16 => some (w16, ()))))))) (bnd (hm_Wl_endsBy N u p 4) (fun u19 r19 => some (u19, ())))
def hm_Ma_returns (N : Nat) (u : MS) (p : Nat) : Option (MS × Unit) := hb_Ma_returns_0 N () u p
def hb_Ma_waitOrLeave_162 (N : Nat) (G : Unit) (u : MS) (p : Nat) : Option (MS × Unit) := some (u, ())
def hb_Ma_waitOrLeave_59 (N : Nat) (G : Unit) (u : MS) (p : Nat) (t1 : Int32) : Option (MS × Unit) := bnd (hm_Ma_await N u p t1) (fun u1 r1 => hb_Ma_waitOrLeave_162 N G u1 p)
def hb_Ma_waitOrLeave_0 (N : Nat) (G : Unit) (u : MS) (p : Nat) (v1 : Int32) (v2 : Int32) : Option (MS × Unit) := br (decide (v1 = 31)) (br (decide (v2 = 1)) (hb_Ma_waitOrLeave_59 N G u p (1)) (hb_Ma_waitOrLeave_59 N G u p (0))) (br (decide (v1 = 32)) (bnd (hm_Ma_nextMessage N u p v2) (fun u2 r2 => hb_Ma_waitOrLeave_162 N G u2 p)) (br (decide (v1 = 33)) (bnd (hm_Pr_takeMessage N u p) (fun u4 r4 => lt (upI u4 1105 ((u4.1 1105) + 1)) (fun w7 => hb_Ma_waitOrLeave_162 N G w7 p))) (br (decide (v1 = 34)) (lt (upI u (pq p 8) ((u.1 (pq p 8)) + 1)) (fun w11 => lt (upI w11 1105 v2) (fun w12 => hb_Ma_waitOrLeave_162 N G w12 p))) (br (decide (v1 = 35)) (bnd (hm_Ma_returns N u p) (fun u13 r13 => hb_Ma_waitOrLeave_162 N G u13 p)) (br (decide (v1 = 36)) (bnd (hm_Ma_wrong N u p 14) (fun u14 r14 => hb_Ma_waitOrLeave_162 N G u14 p)) (br (decide (v1 = 37)) (bnd (hm_Fr_below N u p 0) (fun u16 r16 => bnd (hm_Ma_tell N u16 p 1 15 r16) (fun u18 r18 => hb_Ma_waitOrLeave_162 N G u18 p))) (br (decide (v1 = 38)) (bnd (hm_Ma_wrong N u p 16) (fun u19 r19 => hb_Ma_waitOrLeave_162 N G u19 p)) (lt (upI u 1108 1) (fun w20 => hb_Ma_waitOrLeave_162 N G w20 p)))))))))
def hm_Ma_waitOrLeave (N : Nat) (u : MS) (p : Nat) (v1 : Int32) (v2 : Int32) : Option (MS × Unit) := hb_Ma_waitOrLeave_0 N () u p v1 v2
def hb_Ma_flow_343 (N : Nat) (G : Unit) (u : MS) (p : Nat) : Option (MS × Unit) := some (u, ())
def hb_Ma_flow_284 (N : Nat) (G : Unit) (u : MS) (p : Nat) (t1 : Int32) (t2 : Int32) : Option (MS × Unit) := bnd (hm_Ma_apply N u p t1 t2) (fun u1 r1 => hb_Ma_flow_343 N G u1 p)
def hb_Ma_flow_265 (N : Nat) (G : Unit) (u : MS) (p : Nat) (t1 : Int32) (t2 : Int32) : Option (MS × Unit) := bnd (hm_Ma_call N u p t1 t2) (fun u2 r2 => hb_Ma_flow_343 N G u2 p)
def hb_Ma_flow_0 (N : Nat) (G : Unit) (u : MS) (p : Nat) (v1 : Int32) : Option (MS × Unit) := bnd (hm_Co_at N u ((u.1 1105) + 1)) (fun u5 r5 => br (decide (v1 = 18)) (lt (upI u5 1105 r5) (fun w7 => hb_Ma_flow_343 N G w7 p)) (br (decide (v1 = 19)) (bnd (hm_Ma_tries N u5 p r5) (fun u8 r8 => hb_Ma_flow_343 N G u8 p)) (br (decide (v1 = 20)) (bnd (hm_Ma_match N u5 p) (fun u9 r9 => hb_Ma_flow_343 N G u9 p)) (br (decide (v1 = 21)) (lt (upI u5 1113 r5) (fun w10 => bnd (hm_Co_at N w10 ((w10.1 1105) + 2)) (fun u13 r13 => lt (upI u13 1112 r13) (fun w15 => lt (upI w15 1114 (w15.1 (pq p 26))) (fun w19 => lt (upI w19 1105 ((w19.1 1105) + 3)) (fun w21 => hb_Ma_flow_343 N G w21 p)))))) (br (decide (v1 = 22)) (bnd (hm_Fr_below N u5 p 0) (fun u23 r23 => bnd (hm_Ma_atom N u23 0) (fun u25 r25 => br (decide ((lg_cmp r23 r25) = 0)) (bnd (hm_Fr_drop N u25 p 1) (fun u27 r27 => lt (upI u27 1105 ((u27.1 1105) + 1)) (fun w30 => hb_Ma_flow_343 N G w30 p))) (bnd (hm_Ma_guardFails N u25 p) (fun u31 r31 => hb_Ma_flow_343 N G u31 p))))) (br (decide (v1 = 23)) (lt (upI u5 1112 0) (fun w32 => lt (upI w32 1105 ((w32.1 1105) + 1)) (fun w34 => hb_Ma_flow_343 N G w34 p))) (br (decide (v1 = 24)) (bnd (hm_Fr_drop N u5 p r5) (fun u36 r36 => bnd (hm_Co_at N u36 ((u36.1 1105) + 2)) (fun u41 r41 => bnd (hm_Fr_setLine N u41 p r41) (fun u43 r43 => lt (upI u43 1105 ((u43.1 1105) + 3)) (fun w46 => hb_Ma_flow_343 N G w46 p))))) (br (decide (v1 = 25)) (br (decide (v1 = 26)) (hb_Ma_flow_265 N G u5 p (r5) (1)) (hb_Ma_flow_265 N G u5 p (r5) (0))) (br (decide (v1 = 26)) (br (decide (v1 = 26)) (hb_Ma_flow_265 N G u5 p (r5) (1)) (hb_Ma_flow_265 N G u5 p (r5) (0))) (br (decide (v1 = 27)) (br (decide (v1 = 28)) (hb_Ma_flow_284 N G u5 p (r5) (1)) (hb_Ma_flow_284 N G u5 p (r5) (0))) (br (decide (v1 = 28)) (br (decide (v1 = 28)) (hb_Ma_flow_284 N G u5 p (r5) (1)) (hb_Ma_flow_284 N G u5 p (r5) (0))) (br (decide (v1 = 29)) (bnd (hm_Fr_catchTo N u5 p r5) (fun u48 r48 => lt (upI u48 1105 ((u48.1 1105) + 2)) (fun w51 => hb_Ma_flow_343 N G w51 p))) (br (decide (v1 = 30)) (lt (upI u5 (pq p 28) ((u5.1 (pq p 28)) - 1)) (fun w55 => lt (upI w55 1105 ((w55.1 1105) + 1)) (fun w57 => hb_Ma_flow_343 N G w57 p))) (bnd (hm_Ma_waitOrLeave N u5 p v1 r5) (fun u58 r58 => hb_Ma_flow_343 N G u58 p)))))))))))))))
def hm_Ma_flow (N : Nat) (u : MS) (p : Nat) (v1 : Int32) : Option (MS × Unit) := hb_Ma_flow_0 N () u p v1
def hb_Ma_wrap_0 (N : Nat) (G : Unit) (u : MS) (p : Nat) (v1 : Int32) : Option (MS × Int32) := bnd (hm_Ma_room N u p 3) (fun u1 r1 => br (decide (r1 = 0)) (ck (isb 0) (some (u1, 0))) (bnd (hm_Fr_below N u1 p 0) (fun u4 r4 => bnd (hm_Pr_pair N u4 p v1 r4) (fun u6 r6 => bnd (hm_Ma_answer N u6 p 1 r6) (fun u8 r8 => ck (isb 1) (some (u8, 1)))))))
def hm_Ma_wrap (N : Nat) (u : MS) (p : Nat) (v1 : Int32) : Option (MS × Int32) := hb_Ma_wrap_0 N () u p v1
def hb_Ma_raise_172 (N : Nat) (G : Unit) (u : MS) (p : Nat) : Option (MS × Unit) := some (u, ())
def hb_Ma_raise_168 (N : Nat) (G : Unit) (u : MS) (p : Nat) (t1 : Int32) : Option (MS × Unit) := bnd (hm_Ma_wrap N u p t1) (fun u1 r1 => hb_Ma_raise_172 N G u1 p)
def hb_Ma_raise_110 (N : Nat) (G : Unit) (u : MS) (p : Nat) (t0 : Int64) : Option (MS × Unit) := bnd (hm_Wl_endsWith N u p t0 p) (fun u5 r5 => some (u5, ()))
def hb_Ma_raise_103 (N : Nat) (G : Unit) (u : MS) (p : Nat) (t0 : Nat) (t1 : Int32) : Option (MS × Unit) := bnd (hm_Pr_pair N u t0 t1 (u.2.1 1110)) (fun u8 r8 => hb_Ma_raise_110 N G u8 p (r8))
def hb_Ma_raise_65 (N : Nat) (G : Unit) (u : MS) (p : Nat) (v1 : Int32) : Option (MS × Unit) := br (decide ((u.1 (pq p 28)) = 0)) (br (decide (v1 = 2)) (hb_Ma_raise_110 N G u p ((u.2.1 1110))) (br (decide (v1 = 1)) (hb_Ma_raise_103 N G u p p (7)) (hb_Ma_raise_103 N G u p p (19)))) (bnd (hm_Fr_unwind N u p) (fun u14 r14 => lt (upI u14 1105 r14) (fun w16 => bnd (hm_Fr_push N w16 p (w16.2.1 1110)) (fun u19 r19 => br (decide (v1 = 3)) (hb_Ma_raise_172 N G u19 p) (br (decide (v1 = 1)) (hb_Ma_raise_168 N G u19 p (7)) (hb_Ma_raise_168 N G u19 p (8)))))))
def hb_Ma_raise_0 (N : Nat) (G : Unit) (u : MS) (p : Nat) : Option (MS × Unit) := lt (upI u 1109 0) (fun w24 => br (decide ((w24.1 1112) = 0)) (br (decide ((w24.1 1111) = (-1))) (hb_Ma_raise_65 N G w24 p ((u.1 1109))) (bnd (hm_Fr_push N w24 p (w24.2.1 1110)) (fun u29 r29 => bnd (hm_Ma_wrap N u29 p (u29.1 1111)) (fun u32 r32 => br (decide (r32 = 0)) (some (u32, ())) (bnd (hm_Fr_below N u32 p 0) (fun u34 r34 => lt (upL u34 1110 r34) (fun w36 => hb_Ma_raise_65 N G w36 p ((u.1 1109))))))))) (bnd (hm_Ma_guardFails N w24 p) (fun u37 r37 => some (u37, ()))))
def hm_Ma_raise (N : Nat) (u : MS) (p : Nat) : Option (MS × Unit) := hb_Ma_raise_0 N () u p
def hb_Wl_tellWatchers_92 (N : Nat) (G : (MS → Nat → Int32 → Int32 → Option (MS × Unit))) (u : MS) (v1 : Nat) (v2 : Int32) (v3 : Int32) : Option (MS × Unit) := G u v1 (v2) ((v3 + 1))
def hb_Wl_tellWatchers_70 (N : Nat) (G : (MS → Nat → Int32 → Int32 → Option (MS × Unit))) (u : MS) (v1 : Nat) (v2 : Int32) (v3 : Int32) : Option (MS × Unit) := ck (inb v3 200) (br (decide ((u.2.2.1 49 v3.toNatClampNeg) = (Int32.ofNat v1))) (hb_Wl_tellWatchers_92 N G u v1 (v2) (v3)) (bnd (hm_Wl_keepWatch N u v3 v2) (fun u6 r6 => hb_Wl_tellWatchers_92 N G u6 v1 ((v2 + 1)) (v3))))
def hb_Wl_tellWatchers_4 (N : Nat) (G : (MS → Nat → Int32 → Int32 → Option (MS × Unit))) (u : MS) (v1 : Nat) (v2 : Int32) (v3 : Int32) : Option (MS × Unit) := br (decide ((u.1 950) ≤ v3)) (lt (upI u 950 v2) (fun w8 => some (w8, ()))) (ck (inb v3 200) (bnd (hm_Wl_find N u (u.2.2.1 49 v3.toNatClampNeg)) (fun u12 r12 => ck (inb v3 200) (br (decide ((u12.2.2.1 50 v3.toNatClampNeg) = (Int32.ofNat v1))) (br (decide (r12 = none)) (hb_Wl_tellWatchers_70 N G u12 v1 (v2) (v3)) (ck (inb v3 200) (bo r12 (fun r12_q => bnd (hm_Wl_post N u12 r12_q 5 (Int32.ofNat v1) (u12.2.2.1 51 v3.toNatClampNeg) (u12.2.1 (pq v1 16)) (rf (u12.1 (pq v1 17)))) (fun u27 r27 => hb_Wl_tellWatchers_92 N G u27 v1 (v2) (v3)))))) (hb_Wl_tellWatchers_70 N G u12 v1 (v2) (v3))))))
def hb_Wl_tellWatchers_0 (N : Nat) (G : (MS → Nat → Int32 → Int32 → Option (MS × Unit))) (u : MS) (v1 : Nat) : Option (MS × Unit) := G u v1 (0) (0)
def hg_Wl_tellWatchers (N : Nat) : Nat → ((MS → Nat → Int32 → Int32 → Option (MS × Unit)))
  | 0 => fun _ _ _ _ => none
  | n + 1 => hb_Wl_tellWatchers_4 N (hg_Wl_tellWatchers N n)
def hm_Wl_tellWatchers (N : Nat) (u : MS) (v1 : Nat) : Option (MS × Unit) := hb_Wl_tellWatchers_0 N (hg_Wl_tellWatchers N N) u v1
def hb_Wl_settle_104 (N : Nat) (G : (MS → Option (MS × Unit)) × (MS → Nat → Int32 → Option (MS × Unit))) (u : MS) : Option (MS × Unit) := lt (upI u 956 ((u.1 956) + 1)) (fun w2 => G.1 w2)
def hb_Wl_settle_88 (N : Nat) (G : (MS → Option (MS × Unit)) × (MS → Nat → Int32 → Option (MS × Unit))) (u : MS) (v1 : Nat) (v2 : Int32) : Option (MS × Unit) := G.2 u v1 ((v2 + 1))
def hb_Wl_settle_40 (N : Nat) (G : (MS → Option (MS × Unit)) × (MS → Nat → Int32 → Option (MS × Unit))) (u : MS) (v1 : Nat) (v2 : Int32) : Option (MS × Unit) := br (decide ((u.1 (pq v1 15)) ≤ v2)) (lt (upI u (pq v1 15) 0) (fun w6 => bnd (hm_Wl_tellWatchers N w6 v1) (fun u7 r7 => hb_Wl_settle_104 N G u7))) (ck (inb v2 24) (bnd (hm_Wl_find N u (u.2.2.1 (pq v1 14) v2.toNatClampNeg)) (fun u12 r12 => br (decide (r12 = none)) (hb_Wl_settle_88 N G u12 v1 (v2)) (bo r12 (fun j16 => bnd (hm_Pr_removeLink N u12 j16 (Int32.ofNat v1)) (fun u15 r15 => bnd (hm_Wl_signal N u15 (Int32.ofNat v1) j16 (u15.2.1 (pq v1 16)) (rf (u15.1 (pq v1 17)))) (fun u23 r23 => hb_Wl_settle_88 N G u23 v1 (v2))))))))
def hb_Wl_settle_0 (N : Nat) (G : (MS → Option (MS × Unit)) × (MS → Nat → Int32 → Option (MS × Unit))) (u : MS) : Option (MS × Unit) := br (decide ((u.1 955) ≤ (u.1 956))) (some (u, ())) (ck (inb (u.1 956) 24) (ck (inb (u.2.2.1 54 (u.1 956).toNatClampNeg) 24) (br (decide ((rf (u.2.2.1 1948 (u.2.2.1 54 (u.1 956).toNatClampNeg).toNatClampNeg)) = none)) (hb_Wl_settle_104 N G u) (bo (rf (u.2.2.1 1948 (u.2.2.1 54 (u.1 956).toNatClampNeg).toNatClampNeg)) (fun j33 => lt (upI u (pq j33 12) (-1)) (fun w34 => G.2 w34 j33 (0)))))))
def hg_Wl_settle (N : Nat) : Nat → ((MS → Option (MS × Unit)) × (MS → Nat → Int32 → Option (MS × Unit)))
  | 0 => (fun _ => none, fun _ _ _ => none)
  | n + 1 => (hb_Wl_settle_0 N (hg_Wl_settle N n), hb_Wl_settle_40 N (hg_Wl_settle N n))
def hm_Wl_settle (N : Nat) (u : MS) : Option (MS × Unit) := hb_Wl_settle_0 N (hg_Wl_settle N N) u
def hb_Ma_goOn_219 (N : Nat) (G : (MS → Nat → Int32 → Option (MS × Int32))) (u : MS) (p : Nat) : Option (MS × Int32) := bnd (hm_Fr_setPlace N u p (u.1 1105)) (fun u3 r3 => some (u3, (u3.1 1106)))
def hb_Ma_goOn_206 (N : Nat) (G : (MS → Nat → Int32 → Option (MS × Int32))) (u : MS) (p : Nat) (v3 : Int32) : Option (MS × Int32) := bnd (hm_Wl_settle N u) (fun u7 r7 => G u7 p ((v3 + 1)))
def hb_Ma_goOn_195 (N : Nat) (G : (MS → Nat → Int32 → Option (MS × Int32))) (u : MS) (p : Nat) (v3 : Int32) : Option (MS × Int32) := br (decide ((u.1 1109) = 0)) (hb_Ma_goOn_206 N G u p (v3)) (bnd (hm_Ma_raise N u p) (fun u10 r10 => hb_Ma_goOn_206 N G u10 p (v3)))
def hb_Ma_goOn_67 (N : Nat) (G : (MS → Nat → Int32 → Option (MS × Int32))) (u : MS) (p : Nat) (v3 : Int32) : Option (MS × Int32) := br (decide (1000000000 ≤ v3)) (hb_Ma_goOn_219 N G u p) (br (decide ((u.1 (pq p 9)) = 0)) (br (decide ((u.1 1108) = 0)) (bnd (hm_Co_at N u (u.1 1105)) (fun u17 r17 => br (decide (r17 = 39)) (bnd (hm_Co_at N u17 ((u17.1 1105) + 1)) (fun u29 r29 => bnd (hm_Ma_predefined N u29 p r29) (fun u31 r31 => hb_Ma_goOn_195 N G u31 p (v3)))) (br (decide (r17 = 40)) (bnd (hm_Co_at N u17 ((u17.1 1105) + 1)) (fun u24 r24 => bnd (hm_Ma_toward N u24 p r24) (fun u26 r26 => hb_Ma_goOn_195 N G u26 p (v3)))) (br (decide (8 ≤ r17)) (br (decide (18 ≤ r17)) (bnd (hm_Ma_flow N u17 p r17) (fun u19 r19 => hb_Ma_goOn_195 N G u19 p (v3))) (bnd (hm_Ma_value N u17 p r17) (fun u20 r20 => hb_Ma_goOn_195 N G u20 p (v3)))) (bnd (hm_Ma_making N u17 p r17) (fun u21 r21 => hb_Ma_goOn_195 N G u21 p (v3))))))) (hb_Ma_goOn_219 N G u p)) (hb_Ma_goOn_219 N G u p))
def hb_Ma_goOn_0 (N : Nat) (G : (MS → Nat → Int32 → Option (MS × Int32))) (u : MS) (v1 : Nat) (v2 : Int32) : Option (MS × Int32) := bnd (hm_Fr_place N u v1) (fun u37 r37 => lt (upI u37 1105 r37) (fun w39 => lt (upI w39 1106 0) (fun w40 => lt (upI w40 1107 v2) (fun w41 => lt (upI w41 1108 0) (fun w42 => lt (upI w42 1109 0) (fun w43 => lt (upI w43 1112 0) (fun w44 => lt (upI w44 (pq v1 9) 0) (fun w47 => lt (upI w47 (pq v1 29) 0) (fun w50 => G w50 v1 (0))))))))))
def hg_Ma_goOn (N : Nat) : Nat → ((MS → Nat → Int32 → Option (MS × Int32)))
  | 0 => fun _ _ _ => none
  | n + 1 => hb_Ma_goOn_67 N (hg_Ma_goOn N n)
def hm_Ma_goOn (N : Nat) (u : MS) (v1 : Nat) (v2 : Int32) : Option (MS × Int32) := hb_Ma_goOn_0 N (hg_Ma_goOn N N) u v1 v2
def hb_H_go_81 (N : Nat) (G : Unit) (u : MS) (v2 : Int32) (v3 : Nat) : Option (MS × (Int32 ⊕ Nat)) := bnd (hm_Ma_goOn N u v3 v2) (fun u2 r2 => some (u2, .inl r2))
def hb_H_go_71 (N : Nat) (G : Unit) (u : MS) : Option (MS × (Int32 ⊕ Nat)) := some (u, .inr 0)
def hb_H_go_11 (N : Nat) (G : Unit) (u : MS) : Option (MS × (Int32 ⊕ Nat)) := some (u, .inr 2)
def hb_H_go_0 (N : Nat) (G : Unit) (u : MS) (v1 : Int32) (v2 : Int32) : Option (MS × (Int32 ⊕ Nat)) := br (decide (v2 < 0)) (hb_H_go_11 N G u) (br (decide (v2 ≤ 500)) (bnd (hm_Wl_find N u v1) (fun u5 r5 => br (decide (r5 = none)) (some (u5, .inr 1)) (bo r5 (fun j7 => br (decide ((u5.1 (pq j7 9)) = 3)) (hb_H_go_71 N G u5) (br (decide ((u5.1 (pq j7 9)) = 1)) (bnd (hm_Wl_isReady N u5 j7) (fun u12 r12 => br (decide (r12 = 0)) (hb_H_go_71 N G u12) (hb_H_go_81 N G u12 (v2) j7))) (hb_H_go_81 N G u5 (v2) j7)))))) (hb_H_go_11 N G u))
def hm_H_go (N : Nat) (u : MS) (v1 : Int32) (v2 : Int32) : Option (MS × (Int32 ⊕ Nat)) := hb_H_go_0 N () u v1 v2
def hb_H_clock_24 (N : Nat) (G : Unit) (u : MS) : Option (MS × (Int32 ⊕ Nat)) := some (u, .inr 2)
def hb_H_clock_0 (N : Nat) (G : Unit) (u : MS) (v1 : Int32) : Option (MS × (Int32 ⊕ Nat)) := br (decide (v1 < 0)) (hb_H_clock_24 N G u) (br (decide (1000000000 < v1)) (hb_H_clock_24 N G u) (br (decide (v1 ≤ (1000000000 - (u.1 944)))) (br (decide ((u.1 943) = 0)) (some (u, .inr 0)) (lt (upI u 944 ((u.1 944) + v1)) (fun w10 => some (w10, .inl (w10.1 944))))) (hb_H_clock_24 N G u)))
def hm_H_clock (N : Nat) (u : MS) (v1 : Int32) : Option (MS × (Int32 ⊕ Nat)) := hb_H_clock_0 N () u v1
def hb_Wl_postPair_17 (N : Nat) (G : Unit) (u : MS) : Option (MS × Unit) := some (u, ())
def hb_Wl_postPair_0 (N : Nat) (G : Unit) (u : MS) (v1 : Nat) (v2 : Int32) : Option (MS × Unit) := br (decide ((u.1 (pq v1 9)) = 3)) (hb_Wl_postPair_17 N G u) (br (decide ((u.1 (pq v1 7)) < 30)) (bnd (hm_Pr_want N u v1 3) (fun u5 r5 => br (decide (r5 = 0)) (bnd (hm_Wl_endsBy N u5 v1 20) (fun u32 r32 => some (u32, ()))) (bnd (hm_Te_make N u5 8 2) (fun u11 r11 => ck (inb (u5.1 (pq v1 4)) 512) (lt (upJ u11 (pq v1 2) (vp_updL (u11.2.2.2 (pq v1 2)) (u5.1 (pq v1 4)).toNatClampNeg r11)) (fun w13 => bnd (hm_Te_make N w13 0 v2) (fun u16 r16 => ck (inb ((u5.1 (pq v1 4)) + 1) 512) (lt (upJ u16 (pq v1 2) (vp_updL (u16.2.2.2 (pq v1 2)) ((u5.1 (pq v1 4)) + 1).toNatClampNeg r16)) (fun w18 => bnd (hm_Te_make N w18 4 (Int32.ofNat v1)) (fun u23 r23 => ck (inb ((u5.1 (pq v1 4)) + 2) 512) (lt (upJ u23 (pq v1 2) (vp_updL (u23.2.2.2 (pq v1 2)) ((u5.1 (pq v1 4)) + 2).toNatClampNeg r23)) (fun w25 => lt (upI w25 (pq v1 4) ((w25.1 (pq v1 4)) + 3)) (fun w28 => bnd (hm_Te_make N w28 5 (u5.1 (pq v1 4))) (fun u29 r29 => bnd (hm_Pr_comes N u29 v1 r29) (fun u30 r30 => some (u30, ())))))))))))))))) (hb_Wl_postPair_17 N G u))
def hm_Wl_postPair (N : Nat) (u : MS) (v1 : Nat) (v2 : Int32) : Option (MS × Unit) := hb_Wl_postPair_0 N () u v1 v2
def hb_H_send_112 (N : Nat) (G : Unit) (u : MS) : Option (MS × (Unit ⊕ Nat)) := bnd (hm_Wl_settle N u) (fun u2 r2 => some (u2, .inl ()))
def hb_H_send_91 (N : Nat) (G : Unit) (u : MS) (v3 : Int32) (v4 : Option Nat) (t0 : Int32) : Option (MS × (Unit ⊕ Nat)) := bnd (hm_Te_make N u t0 v3) (fun u5 r5 => bo v4 (fun v4_q => bnd (hm_Wl_post N u5 v4_q 0 0 0 r5 none) (fun u6 r6 => hb_H_send_112 N G u6)))
def hb_H_send_54 (N : Nat) (G : Unit) (u : MS) : Option (MS × (Unit ⊕ Nat)) := some (u, .inr 2)
def hb_H_send_45 (N : Nat) (G : Unit) (u : MS) (v2 : Int32) (v3 : Int32) (v4 : Option Nat) : Option (MS × (Unit ⊕ Nat)) := br (decide (v2 < 0)) (hb_H_send_54 N G u) (br (decide (v2 ≤ 2)) (br (decide (v2 = 2)) (bo v4 (fun v4_q => bnd (hm_Wl_postPair N u v4_q v3) (fun u9 r9 => hb_H_send_112 N G u9))) (br (decide (v2 = 0)) (hb_H_send_91 N G u (v3) v4 (0)) (hb_H_send_91 N G u (v3) v4 (1)))) (hb_H_send_54 N G u))
def hb_H_send_35 (N : Nat) (G : Unit) (u : MS) : Option (MS × (Unit ⊕ Nat)) := some (u, .inr 1)
def hb_H_send_0 (N : Nat) (G : Unit) (u : MS) (v1 : Int32) (v2 : Int32) (v3 : Int32) : Option (MS × (Unit ⊕ Nat)) := bnd (hm_Wl_find N u v1) (fun u12 r12 => br (decide (r12 = none)) (hb_H_send_35 N G u12) (br (decide (v2 = 1)) (br (decide (v3 < 0)) (hb_H_send_35 N G u12) (br (decide (v3 < (u12.1 22))) (hb_H_send_45 N G u12 (v2) (v3) r12) (hb_H_send_35 N G u12))) (hb_H_send_45 N G u12 (v2) (v3) r12)))
def hm_H_send (N : Nat) (u : MS) (v1 : Int32) (v2 : Int32) (v3 : Int32) : Option (MS × (Unit ⊕ Nat)) := hb_H_send_0 N () u v1 v2 v3
def hb_Pr_wakes_26 (N : Nat) (G : Unit) (u : MS) (t0 : Int32) : Option (MS × Int32) := some (u, t0)
def hb_Pr_wakes_0 (N : Nat) (G : Unit) (u : MS) (v0 : Nat) : Option (MS × Int32) := br (decide ((lg_cmp (u.2.1 (pq v0 10)) (-1)) = 0)) (hb_Pr_wakes_26 N G u ((-1))) (lt (if 2147483647 < (u.2.1 (pq v0 10)) then 2147483647 else (u.2.1 (pq v0 10))) (fun y3 => hb_Pr_wakes_26 N G u (y3.toInt32)))
def hm_Pr_wakes (N : Nat) (u : MS) (v0 : Nat) : Option (MS × Int32) := hb_Pr_wakes_0 N () u v0
def hb_H_process_269 (N : Nat) (G : Unit) (u : MS) (t0 : Int32) : Option (MS × Int32) := some (u, t0)
def hb_H_process_252 (N : Nat) (G : Unit) (u : MS) (t0 : Int32) : Option (MS × Int32) := some (u, t0)
def hb_H_process_233 (N : Nat) (G : Unit) (u : MS) (t0 : Int32) : Option (MS × Int32) := some (u, t0)
def hb_H_process_219 (N : Nat) (G : Unit) (u : MS) (t0 : Int32) : Option (MS × Int32) := some (u, t0)
def hb_H_process_218 (N : Nat) (G : Unit) (u : MS) : Option (MS × Int32) := hb_H_process_219 N G u (0)
def hb_H_process_201 (N : Nat) (G : Unit) (u : MS) (t0 : Int32) : Option (MS × Int32) := some (u, t0)
def hb_H_process_183 (N : Nat) (G : Unit) (u : MS) (t0 : Int32) : Option (MS × Int32) := some (u, t0)
def hb_H_process_169 (N : Nat) (G : Unit) (u : MS) (t0 : Int32) : Option (MS × Int32) := some (u, t0)
def hb_H_process_150 (N : Nat) (G : Unit) (u : MS) (t0 : Int32) : Option (MS × Int32) := some (u, t0)
def hb_H_process_136 (N : Nat) (G : Unit) (u : MS) (t0 : Int32) : Option (MS × Int32) := some (u, t0)
def hb_H_process_119 (N : Nat) (G : Unit) (u : MS) (t0 : Int32) : Option (MS × Int32) := some (u, t0)
def hb_H_process_115 (N : Nat) (G : Unit) (u : MS) (v3 : Nat) : Option (MS × Int32) := hb_H_process_119 N G u ((u.1 (pq v3 9)))
def hb_H_process_28 (N : Nat) (G : Unit) (u : MS) (v1 : Int32) (v2 : Int32) (v3 : Nat) (t0 : Int32) : Option (MS × Int32) := br (decide (v2 = 0)) (br (decide ((u.1 (pq v3 9)) = 1)) (bnd (hm_Wl_isReady N u v3) (fun u6 r6 => br (decide (r6 = 0)) (hb_H_process_115 N G u6 v3) (hb_H_process_119 N G u6 (2)))) (hb_H_process_115 N G u v3)) (br (decide (v2 = 1)) (br (decide (t0 = 0)) (hb_H_process_136 N G u ((u.1 (pq v3 21)))) (hb_H_process_136 N G u (0))) (br (decide (v2 = 2)) (br (decide (t0 = 0)) (hb_H_process_150 N G u ((u.1 (pq v3 4)))) (hb_H_process_150 N G u (0))) (br (decide (v2 = 3)) (some (u, (u.1 (pq v3 5)))) (br (decide (v2 = 4)) (br (decide (t0 = 0)) (hb_H_process_169 N G u ((u.1 (pq v3 7)))) (hb_H_process_169 N G u (0))) (br (decide (v2 = 5)) (br (decide (t0 = 0)) (hb_H_process_183 N G u ((u.1 (pq v3 15)))) (hb_H_process_183 N G u (0))) (br (decide (v2 = 6)) (br (decide (t0 = 0)) (bnd (hm_Wl_watchesOf N u v1) (fun u21 r21 => hb_H_process_201 N G u21 (r21))) (hb_H_process_201 N G u (0))) (br (decide (v2 = 7)) (br (decide (t0 = 0)) (br (decide ((u.1 (pq v3 11)) = 0)) (hb_H_process_218 N G u) (hb_H_process_219 N G u (1))) (hb_H_process_218 N G u)) (br (decide (v2 = 8)) (br (decide (t0 = 0)) (hb_H_process_233 N G u ((u.1 (pq v3 12)))) (hb_H_process_233 N G u ((-1)))) (br (decide (v2 = 9)) (some (u, (u.1 (pq v3 13)))) (br (decide (v2 = 10)) (br (decide (t0 = 0)) (bnd (hm_Pr_wakes N u v3) (fun u29 r29 => hb_H_process_252 N G u29 (r29))) (hb_H_process_252 N G u ((-1)))) (br (decide (v2 = 11)) (br (decide (t0 = 0)) (hb_H_process_269 N G u ((u.1 (pq v3 29)))) (hb_H_process_269 N G u (0))) (some (u, (-1))))))))))))))
def hb_H_process_0 (N : Nat) (G : Unit) (u : MS) (v1 : Int32) (v2 : Int32) : Option (MS × Int32) := bnd (hm_Wl_find N u v1) (fun u36 r36 => br (decide (r36 = none)) (some (u36, (-1))) (bo r36 (fun j38 => br (decide ((u36.1 (pq j38 9)) = 3)) (hb_H_process_28 N G u36 (v1) (v2) j38 (1)) (hb_H_process_28 N G u36 (v1) (v2) j38 (0)))))
def hm_H_process (N : Nat) (u : MS) (v1 : Int32) (v2 : Int32) : Option (MS × Int32) := hb_H_process_0 N () u v1 v2
def hb_H_frame_40 (N : Nat) (G : Unit) (u : MS) : Option (MS × Int32) := some (u, (-1))
def hb_H_frame_0 (N : Nat) (G : Unit) (u : MS) (v1 : Int32) (v2 : Int32) (v3 : Int32) : Option (MS × Int32) := bnd (hm_Wl_find N u v1) (fun u2 r2 => br (decide (r2 = none)) (hb_H_frame_40 N G u2) (bo r2 (fun j4 => br (decide ((u2.1 (pq j4 9)) = 3)) (hb_H_frame_40 N G u2) (br (decide (v2 < 0)) (hb_H_frame_40 N G u2) (br (decide (v2 < (u2.1 (pq j4 21)))) (br (decide (v3 = 0)) (bnd (hm_Fr_of N u2 j4 (((u2.1 (pq j4 21)) - 1) - v2) 0) (fun u16 r16 => some (u16, r16))) (br (decide (v3 = 1)) (bnd (hm_Fr_of N u2 j4 (((u2.1 (pq j4 21)) - 1) - v2) 1) (fun u20 r20 => some (u20, r20))) (br (decide (v3 = 2)) (bnd (hm_Fr_namesIn N u2 j4 (((u2.1 (pq j4 21)) - 1) - v2)) (fun u24 r24 => some (u24, r24))) (br (decide (v3 = 3)) (bnd (hm_Fr_waitsIn N u2 j4 (((u2.1 (pq j4 21)) - 1) - v2)) (fun u28 r28 => some (u28, r28))) (some (u2, (-1))))))) (hb_H_frame_40 N G u2))))))
def hm_H_frame (N : Nat) (u : MS) (v1 : Int32) (v2 : Int32) (v3 : Int32) : Option (MS × Int32) := hb_H_frame_0 N () u v1 v2 v3
def hb_H_link_33 (N : Nat) (G : Unit) (u : MS) : Option (MS × Int32) := some (u, (-1))
def hb_H_link_0 (N : Nat) (G : Unit) (u : MS) (v1 : Int32) (v2 : Int32) : Option (MS × Int32) := bnd (hm_Wl_find N u v1) (fun u2 r2 => br (decide (r2 = none)) (hb_H_link_33 N G u2) (bo r2 (fun j4 => br (decide ((u2.1 (pq j4 9)) = 3)) (hb_H_link_33 N G u2) (br (decide (v2 < 0)) (hb_H_link_33 N G u2) (br (decide (v2 < (u2.1 (pq j4 15)))) (ck (inb v2 24) (some (u2, (u2.2.2.1 (pq j4 14) v2.toNatClampNeg)))) (hb_H_link_33 N G u2))))))
def hm_H_link (N : Nat) (u : MS) (v1 : Int32) (v2 : Int32) : Option (MS × Int32) := hb_H_link_0 N () u v1 v2
def hb_H_show_209 (N : Nat) (G : Unit) (u : MS) (v4 : Nat) (t0 : Int64) : Option (MS × Int32) := bnd (hm_Te_text N u (pq v4 2) t0 56 0) (fun u5 r5 => lt (upI u5 9 r5) (fun w7 => some (w7, (w7.1 9))))
def hb_H_show_145 (N : Nat) (G : Unit) (u : MS) (v2 : Int32) (v3 : Int32) (v4 : Nat) (v5 : Nat) (v6 : Int32) (t0 : Int32) : Option (MS × Int32) := br (decide (v3 < t0)) (br (decide (v2 = 0)) (ck (inb v3 30) (hb_H_show_209 N G u v4 ((u.2.2.2 (pq v4 6) v3.toNatClampNeg)))) (br (decide (v2 = 1)) (bnd (hm_Fr_of N u v5 v6 2) (fun u17 r17 => ck (inb (r17 + v3) (lnQ u17 v5 43)) (hb_H_show_209 N G u17 v4 ((u17.2.2.2 (pq v5 33) (r17 + v3).toNatClampNeg))))) (bnd (hm_Fr_of N u v5 v6 3) (fun u11 r11 => ck (inb (r11 + v3) (lnQ u11 v5 45)) (hb_H_show_209 N G u11 v4 ((u11.2.2.2 (pq v5 35) (r11 + v3).toNatClampNeg))))))) (some (u, (-1)))
def hb_H_show_93 (N : Nat) (G : Unit) (u : MS) : Option (MS × Int32) := some (u, (-1))
def hb_H_show_39 (N : Nat) (G : Unit) (u : MS) : Option (MS × Int32) := some (u, (-1))
def hb_H_show_19 (N : Nat) (G : Unit) (u : MS) : Option (MS × Int32) := some (u, (-1))
def hb_H_show_0 (N : Nat) (G : Unit) (u : MS) (v1 : Int32) (v2 : Int32) (v3 : Int32) : Option (MS × Int32) := bnd (hm_Wl_find N u v1) (fun u26 r26 => br (decide (r26 = none)) (hb_H_show_19 N G u26) (br (decide (0 ≤ v3)) (br (decide (v2 = 3)) (bo r26 (fun j40 => br (decide ((u26.1 (pq j40 9)) = 3)) (br (decide (v3 = 0)) (bo (rf (u26.1 (pq j40 17))) (fun j45 => bnd (hm_Te_text N u26 (pq j45 2) (u26.2.1 (pq j40 16)) 56 0) (fun u50 r50 => lt (upI u50 9 r50) (fun w52 => some (w52, (w52.1 9)))))) (hb_H_show_39 N G u26)) (hb_H_show_39 N G u26))) (br (decide (v2 < 0)) (hb_H_show_93 N G u26) (br (decide (2 < v2)) (hb_H_show_93 N G u26) (bo r26 (fun j28 => br (decide ((u26.1 (pq j28 9)) = 3)) (hb_H_show_93 N G u26) (br (decide (v2 = 0)) (hb_H_show_145 N G u26 (v2) (v3) j28 j28 (((u26.1 (pq j28 21)) - 1)) ((u26.1 (pq j28 7)))) (br (decide (v2 = 1)) (bnd (hm_Fr_namesIn N u26 j28 ((u26.1 (pq j28 21)) - 1)) (fun u36 r36 => hb_H_show_145 N G u36 (v2) (v3) j28 j28 (((u26.1 (pq j28 21)) - 1)) (r36))) (bnd (hm_Fr_waitsIn N u26 j28 ((u26.1 (pq j28 21)) - 1)) (fun u34 r34 => hb_H_show_145 N G u34 (v2) (v3) j28 j28 (((u26.1 (pq j28 21)) - 1)) (r34)))))))))) (hb_H_show_19 N G u26)))
def hm_H_show (N : Nat) (u : MS) (v1 : Int32) (v2 : Int32) (v3 : Int32) : Option (MS × Int32) := hb_H_show_0 N () u v1 v2 v3
end
section
set_option maxRecDepth 100000
theorem yb_To_append_46 {N : Nat} {o : Option Nat} {c : Nat → Nat} {m : MS} {u : CS} {G : (CS → Nat → Int32 → Int32 → Option (CS × Unit))} {G' : (MS → Int32 → Int32 → Option (MS × Unit))} (hG : ∀ (c : Nat → Nat) (m : MS) (u : CS) (v1 : Int32) (v2 : Int32), RP o c m u → RF 0 o VE c u (G u 4 v1 v2) (G' m v1 v2)) (R : RP o c m u) : RF 0 o VE c u (fb_To_append_46 N G u) (hb_To_append_46 N G' m) := by
  unfold fb_To_append_46 hb_To_append_46
  exact rf_ret R rfl
theorem yb_To_append_3 {N : Nat} {o : Option Nat} {c : Nat → Nat} {m : MS} {u : CS} {G : (CS → Nat → Int32 → Int32 → Option (CS × Unit))} {G' : (MS → Int32 → Int32 → Option (MS × Unit))} (hG : ∀ (c : Nat → Nat) (m : MS) (u : CS) (v1 : Int32) (v2 : Int32), RP o c m u → RF 0 o VE c u (G u 4 v1 v2) (G' m v1 v2)) (R : RP o c m u) {v1 : Int32} {v2 : Int32} : RF 0 o VE c u (fb_To_append_3 N G u 4 v1 v2) (hb_To_append_3 N G' m v1 v2) := by
  unfold fb_To_append_3 hb_To_append_3
  refine rf_br ?_ ?_
  · exact (yb_To_append_46 hG R)
  · refine rf_bo (gx_4_1 R) ?_
    refine rf_br ?_ ?_
    · exact (yb_To_append_46 hG R)
    · refine rf_bo (rx_4_0 R) ?_
      refine rf_bo (gx_4_1 R) ?_
      refine rf_so ?_
      refine rf_wk (sx_5 R) (fun w5' w5 R_w5 => ?_)
      refine rf_bo (gx_4_1 R_w5) ?_
      refine rf_w (px_4_1 R_w5) (fun w7' w7 R_w7 => ?_)
      exact (hG _ _ _ _ _ R_w7)
theorem yb_To_append_0 {N : Nat} {o : Option Nat} {c : Nat → Nat} {m : MS} {u : CS} {G : (CS → Nat → Int32 → Int32 → Option (CS × Unit))} {G' : (MS → Int32 → Int32 → Option (MS × Unit))} (hG : ∀ (c : Nat → Nat) (m : MS) (u : CS) (v1 : Int32) (v2 : Int32), RP o c m u → RF 0 o VE c u (G u 4 v1 v2) (G' m v1 v2)) (R : RP o c m u) {v1 : Int32} : RF 0 o VE c u (fb_To_append_0 N G u 4 v1) (hb_To_append_0 N G' m v1) := by
  unfold fb_To_append_0 hb_To_append_0
  exact (hG _ _ _ _ _ R)
theorem yg_To_append {N : Nat} {o : Option Nat} : ∀ n, (∀ (c : Nat → Nat) (m : MS) (u : CS) (v1 : Int32) (v2 : Int32), RP o c m u → RF 0 o VE c u ((gg_To_append N n) u 4 v1 v2) ((hg_To_append N n) m v1 v2)) := by
  intro n
  induction n with
  | zero => exact fun c m u v1 v2 R => rf_none
  | succ n ih => exact fun c m u v1 v2 R => yb_To_append_3 (N := N) ih R
theorem ym_To_append {N : Nat} {o : Option Nat} {c : Nat → Nat} {m : MS} {u : CS} (R : RP o c m u) {v1 : Int32} : RF 0 o VE c u (fm_To_append N u 4 v1) (hm_To_append N m v1) := yb_To_append_0 (N := N) (yg_To_append (N := N) N) R
theorem yb_H_feed_0 {N : Nat} {c : Nat → Nat} {m : MS} {u : CS} (R : RP none c m u) {v1 : Int32} {v2 : Int32} {v3 : Int32} {v4 : Int32} {v5 : Int32} : RF 0 none VE c u (fb_H_feed_0 N () u 0 v1 v2 v3 v4 v5) (hb_H_feed_0 N () m v1 v2 v3 v4 v5) := by
  unfold fb_H_feed_0 hb_H_feed_0
  refine rf_bo (rx_0_1 R) ?_
  refine rf_so ?_
  refine rf_bo (gx_4_1 R) ?_
  refine rf_br ?_ ?_
  · refine rf_bo (rx_0_1 R) ?_
    refine rf_so ?_
    refine rf_ck (ox_4 R) ?_
    refine rf_bx0 (ym_To_append R) (fun u5' u5 r5 R_u5 => ?_)
    refine rf_bo (rx_0_1 R_u5) ?_
    refine rf_so ?_
    refine rf_ck (ox_4 R_u5) ?_
    refine rf_bx0 (ym_To_append R_u5) (fun u8' u8 r8 R_u8 => ?_)
    refine rf_bo (rx_0_1 R_u8) ?_
    refine rf_so ?_
    refine rf_ck (ox_4 R_u8) ?_
    refine rf_bx0 (ym_To_append R_u8) (fun u11' u11 r11 R_u11 => ?_)
    refine rf_bo (rx_0_1 R_u11) ?_
    refine rf_so ?_
    refine rf_ck (ox_4 R_u11) ?_
    refine rf_bx0 (ym_To_append R_u11) (fun u14' u14 r14 R_u14 => ?_)
    refine rf_bo (rx_0_1 R_u14) ?_
    refine rf_so ?_
    refine rf_ck (ox_4 R_u14) ?_
    refine rf_bx0 (ym_To_append R_u14) (fun u17' u17 r17 R_u17 => ?_)
    refine rf_bo (rx_0_1 R_u17) ?_
    refine rf_so ?_
    refine rf_bo (gx_4_1 R_u17) ?_
    exact rf_ret R_u17 rfl
  · exact rf_ret R rfl
theorem ym_H_feed {N : Nat} {c : Nat → Nat} {m : MS} {u : CS} (R : RP none c m u) {v1 : Int32} {v2 : Int32} {v3 : Int32} {v4 : Int32} {v5 : Int32} : RF 0 none VE c u (fm_H_feed N u 0 v1 v2 v3 v4 v5) (hm_H_feed N m v1 v2 v3 v4 v5) := yb_H_feed_0 (N := N) R
theorem yb_H_back_15 {N : Nat} {c : Nat → Nat} {m : MS} {u : CS} (R : RP none c m u) : RF 0 none VE c u (fb_H_back_15 N () u) (hb_H_back_15 N () m) := by
  unfold fb_H_back_15 hb_H_back_15
  exact rf_ret R rfl
theorem yb_H_back_0 {N : Nat} {c : Nat → Nat} {m : MS} {u : CS} (R : RP none c m u) {v1 : Int32} : RF 0 none VE c u (fb_H_back_0 N () u 0 v1) (hb_H_back_0 N () m v1) := by
  unfold fb_H_back_0 hb_H_back_0
  refine rf_br ?_ ?_
  · exact (yb_H_back_15 R)
  · refine rf_bo (rx_0_1 R) ?_
    refine rf_so ?_
    refine rf_bo (gx_4_1 R) ?_
    refine rf_br ?_ ?_
    · refine rf_bo (rx_0_1 R) ?_
      refine rf_so ?_
      refine rf_bo (gx_4_1 R) ?_
      refine rf_w (px_4_1 R) (fun w7' w7 R_w7 => ?_)
      refine rf_bo (rx_0_1 R_w7) ?_
      refine rf_so ?_
      refine rf_bo (gx_4_1 R_w7) ?_
      exact rf_ret R_w7 rfl
    · exact (yb_H_back_15 R)
theorem ym_H_back {N : Nat} {c : Nat → Nat} {m : MS} {u : CS} (R : RP none c m u) {v1 : Int32} : RF 0 none VE c u (fm_H_back N u 0 v1) (hm_H_back N m v1) := yb_H_back_0 (N := N) R
theorem yb_To_skip_84 {N : Nat} {o : Option Nat} {c : Nat → Nat} {m : MS} {u : CS} {G : (CS → Nat → Int32 → Option (CS × Unit))} {G' : (MS → Int32 → Option (MS × Unit))} (hG : ∀ (c : Nat → Nat) (m : MS) (u : CS) (v1 : Int32), RP o c m u → RF 0 o VE c u (G u 4 v1) (G' m v1)) (R : RP o c m u) {v1 : Int32} {t1 : Int32} {t2 : Int32} : RF 0 o VE c u (fb_To_skip_84 N G u 4 v1 4 t1 t2) (hb_To_skip_84 N G' m v1 t1 t2) := by
  unfold fb_To_skip_84 hb_To_skip_84
  refine rf_w (px_4_10 R) (fun w1' w1 R_w1 => ?_)
  refine rf_bo (gx_4_9 R_w1) ?_
  refine rf_w (px_4_9 R_w1) (fun w3' w3 R_w3 => ?_)
  exact (hG _ _ _ _ R_w3)
theorem yb_To_skip_68 {N : Nat} {o : Option Nat} {c : Nat → Nat} {m : MS} {u : CS} {G : (CS → Nat → Int32 → Option (CS × Unit))} {G' : (MS → Int32 → Option (MS × Unit))} (hG : ∀ (c : Nat → Nat) (m : MS) (u : CS) (v1 : Int32), RP o c m u → RF 0 o VE c u (G u 4 v1) (G' m v1)) (R : RP o c m u) {v1 : Int32} {v2 : Int32} : RF 0 o VE c u (fb_To_skip_68 N G u 4 v1 v2) (hb_To_skip_68 N G' m v1 v2) := by
  unfold fb_To_skip_68 hb_To_skip_68
  refine rf_bo (gx_4_10 R) ?_
  refine rf_br ?_ ?_
  · exact (yb_To_skip_84 hG R)
  · exact (yb_To_skip_84 hG R)
theorem yb_To_skip_44 {N : Nat} {o : Option Nat} {c : Nat → Nat} {m : MS} {u : CS} {G : (CS → Nat → Int32 → Option (CS × Unit))} {G' : (MS → Int32 → Option (MS × Unit))} (hG : ∀ (c : Nat → Nat) (m : MS) (u : CS) (v1 : Int32), RP o c m u → RF 0 o VE c u (G u 4 v1) (G' m v1)) (R : RP o c m u) {v2 : Int32} {t0 : Int32} : RF 0 o VE c u (fb_To_skip_44 N G u 4 v2 t0) (hb_To_skip_44 N G' m v2 t0) := by
  unfold fb_To_skip_44 hb_To_skip_44
  refine rf_br ?_ ?_
  · refine rf_br ?_ ?_
    · exact (yb_To_skip_68 hG R)
    · refine rf_br ?_ ?_
      · exact (yb_To_skip_68 hG R)
      · refine rf_br ?_ ?_
        · exact (yb_To_skip_68 hG R)
        · exact rf_ret R rfl
  · exact (yb_To_skip_68 hG R)
theorem yb_To_skip_43 {N : Nat} {o : Option Nat} {c : Nat → Nat} {m : MS} {u : CS} {G : (CS → Nat → Int32 → Option (CS × Unit))} {G' : (MS → Int32 → Option (MS × Unit))} (hG : ∀ (c : Nat → Nat) (m : MS) (u : CS) (v1 : Int32), RP o c m u → RF 0 o VE c u (G u 4 v1) (G' m v1)) (R : RP o c m u) {v2 : Int32} : RF 0 o VE c u (fb_To_skip_43 N G u 4 v2) (hb_To_skip_43 N G' m v2) := by
  unfold fb_To_skip_43 hb_To_skip_43
  exact (yb_To_skip_44 hG R)
theorem yb_To_skip_39 {N : Nat} {o : Option Nat} {c : Nat → Nat} {m : MS} {u : CS} {G : (CS → Nat → Int32 → Option (CS × Unit))} {G' : (MS → Int32 → Option (MS × Unit))} (hG : ∀ (c : Nat → Nat) (m : MS) (u : CS) (v1 : Int32), RP o c m u → RF 0 o VE c u (G u 4 v1) (G' m v1)) (R : RP o c m u) {v2 : Int32} : RF 0 o VE c u (fb_To_skip_39 N G u 4 v2) (hb_To_skip_39 N G' m v2) := by
  unfold fb_To_skip_39 hb_To_skip_39
  exact (yb_To_skip_44 hG R)
theorem yb_To_skip_2 {N : Nat} {o : Option Nat} {c : Nat → Nat} {m : MS} {u : CS} {G : (CS → Nat → Int32 → Option (CS × Unit))} {G' : (MS → Int32 → Option (MS × Unit))} (hG : ∀ (c : Nat → Nat) (m : MS) (u : CS) (v1 : Int32), RP o c m u → RF 0 o VE c u (G u 4 v1) (G' m v1)) (R : RP o c m u) {v1 : Int32} : RF 0 o VE c u (fb_To_skip_2 N G u 4 v1) (hb_To_skip_2 N G' m v1) := by
  unfold fb_To_skip_2 hb_To_skip_2
  refine rf_bo (gx_4_9 R) ?_
  refine rf_bo (gx_4_1 R) ?_
  refine rf_br ?_ ?_
  · exact rf_ret R rfl
  · refine rf_bo (rx_4_0 R) ?_
    refine rf_bo (gx_4_9 R) ?_
    refine rf_so ?_
    refine rf_ai (ax_5 R) ?_
    refine rf_br ?_ ?_
    · exact (yb_To_skip_43 hG R)
    · refine rf_br ?_ ?_
      · refine rf_br ?_ ?_
        · exact (yb_To_skip_39 hG R)
        · exact (yb_To_skip_43 hG R)
      · exact (yb_To_skip_39 hG R)
theorem yb_To_skip_0 {N : Nat} {o : Option Nat} {c : Nat → Nat} {m : MS} {u : CS} {G : (CS → Nat → Int32 → Option (CS × Unit))} {G' : (MS → Int32 → Option (MS × Unit))} (hG : ∀ (c : Nat → Nat) (m : MS) (u : CS) (v1 : Int32), RP o c m u → RF 0 o VE c u (G u 4 v1) (G' m v1)) (R : RP o c m u) : RF 0 o VE c u (fb_To_skip_0 N G u 4) (hb_To_skip_0 N G' m) := by
  unfold fb_To_skip_0 hb_To_skip_0
  exact (hG _ _ _ _ R)
theorem yg_To_skip {N : Nat} {o : Option Nat} : ∀ n, (∀ (c : Nat → Nat) (m : MS) (u : CS) (v1 : Int32), RP o c m u → RF 0 o VE c u ((gg_To_skip N n) u 4 v1) ((hg_To_skip N n) m v1)) := by
  intro n
  induction n with
  | zero => exact fun c m u v1 R => rf_none
  | succ n ih => exact fun c m u v1 R => yb_To_skip_2 (N := N) ih R
theorem ym_To_skip {N : Nat} {o : Option Nat} {c : Nat → Nat} {m : MS} {u : CS} (R : RP o c m u) : RF 0 o VE c u (fm_To_skip N u 4) (hm_To_skip N m) := yb_To_skip_0 (N := N) (yg_To_skip (N := N) N) R
theorem yb_To_signAt_26 {N : Nat} {o : Option Nat} {c : Nat → Nat} {m : MS} {u : CS} (R : RP o c m u) {t0 : Int32} : RF 0 o VE c u (fb_To_signAt_26 N () u t0) (hb_To_signAt_26 N () m t0) := by
  unfold fb_To_signAt_26 hb_To_signAt_26
  exact rf_ret R rfl
theorem yb_To_signAt_12 {N : Nat} {o : Option Nat} {c : Nat → Nat} {m : MS} {u : CS} (R : RP o c m u) : RF 0 o VE c u (fb_To_signAt_12 N () u) (hb_To_signAt_12 N () m) := by
  unfold fb_To_signAt_12 hb_To_signAt_12
  exact (yb_To_signAt_26 R)
theorem yb_To_signAt_0 {N : Nat} {o : Option Nat} {c : Nat → Nat} {m : MS} {u : CS} (R : RP o c m u) {v1 : Int32} : RF 0 o VE c u (fb_To_signAt_0 N () u 4 v1) (hb_To_signAt_0 N () m v1) := by
  unfold fb_To_signAt_0 hb_To_signAt_0
  refine rf_br ?_ ?_
  · exact (yb_To_signAt_12 R)
  · refine rf_bo (gx_4_1 R) ?_
    refine rf_br ?_ ?_
    · refine rf_bo (rx_4_0 R) ?_
      refine rf_so ?_
      refine rf_ai (ax_5 R) ?_
      exact (yb_To_signAt_26 R)
    · exact (yb_To_signAt_12 R)
theorem ym_To_signAt {N : Nat} {o : Option Nat} {c : Nat → Nat} {m : MS} {u : CS} (R : RP o c m u) {v1 : Int32} : RF 0 o VE c u (fm_To_signAt N u 4 v1) (hm_To_signAt N m v1) := yb_To_signAt_0 (N := N) R
theorem yb_To_isDigit_17 {N : Nat} {o : Option Nat} {c : Nat → Nat} {m : MS} {u : CS} (R : RP o c m u) {t0 : Int32} : RF 0 o VE c u (fb_To_isDigit_17 N () u t0) (hb_To_isDigit_17 N () m t0) := by
  unfold fb_To_isDigit_17 hb_To_isDigit_17
  refine rf_ckk ?_
  exact rf_ret R rfl
theorem yb_To_isDigit_16 {N : Nat} {o : Option Nat} {c : Nat → Nat} {m : MS} {u : CS} (R : RP o c m u) : RF 0 o VE c u (fb_To_isDigit_16 N () u) (hb_To_isDigit_16 N () m) := by
  unfold fb_To_isDigit_16 hb_To_isDigit_16
  exact (yb_To_isDigit_17 R)
theorem yb_To_isDigit_0 {N : Nat} {o : Option Nat} {c : Nat → Nat} {m : MS} {u : CS} (R : RP o c m u) {v0 : Int32} : RF 0 o VE c u (fb_To_isDigit_0 N () u v0) (hb_To_isDigit_0 N () m v0) := by
  unfold fb_To_isDigit_0 hb_To_isDigit_0
  refine rf_br ?_ ?_
  · exact (yb_To_isDigit_16 R)
  · refine rf_br ?_ ?_
    · exact (yb_To_isDigit_16 R)
    · exact (yb_To_isDigit_17 R)
theorem ym_To_isDigit {N : Nat} {o : Option Nat} {c : Nat → Nat} {m : MS} {u : CS} (R : RP o c m u) {v0 : Int32} : RF 0 o VE c u (fm_To_isDigit N u v0) (hm_To_isDigit N m v0) := yb_To_isDigit_0 (N := N) R
theorem yb_To_isWordly_42 {N : Nat} {o : Option Nat} {c : Nat → Nat} {m : MS} {u : CS} (R : RP o c m u) {t0 : Int32} : RF 0 o VE c u (fb_To_isWordly_42 N () u t0) (hb_To_isWordly_42 N () m t0) := by
  unfold fb_To_isWordly_42 hb_To_isWordly_42
  refine rf_ckk ?_
  exact rf_ret R rfl
theorem yb_To_isWordly_37 {N : Nat} {o : Option Nat} {c : Nat → Nat} {m : MS} {u : CS} (R : RP o c m u) : RF 0 o VE c u (fb_To_isWordly_37 N () u) (hb_To_isWordly_37 N () m) := by
  unfold fb_To_isWordly_37 hb_To_isWordly_37
  exact (yb_To_isWordly_42 R)
theorem yb_To_isWordly_31 {N : Nat} {o : Option Nat} {c : Nat → Nat} {m : MS} {u : CS} (R : RP o c m u) {v0 : Int32} : RF 0 o VE c u (fb_To_isWordly_31 N () u v0) (hb_To_isWordly_31 N () m v0) := by
  unfold fb_To_isWordly_31 hb_To_isWordly_31
  refine rf_br ?_ ?_
  · exact (yb_To_isWordly_37 R)
  · exact (yb_To_isWordly_42 R)
theorem yb_To_isWordly_19 {N : Nat} {o : Option Nat} {c : Nat → Nat} {m : MS} {u : CS} (R : RP o c m u) {v0 : Int32} : RF 0 o VE c u (fb_To_isWordly_19 N () u v0) (hb_To_isWordly_19 N () m v0) := by
  unfold fb_To_isWordly_19 hb_To_isWordly_19
  refine rf_br ?_ ?_
  · exact (yb_To_isWordly_31 R)
  · refine rf_br ?_ ?_
    · exact (yb_To_isWordly_37 R)
    · exact (yb_To_isWordly_31 R)
theorem yb_To_isWordly_0 {N : Nat} {o : Option Nat} {c : Nat → Nat} {m : MS} {u : CS} (R : RP o c m u) {v0 : Int32} : RF 0 o VE c u (fb_To_isWordly_0 N () u v0) (hb_To_isWordly_0 N () m v0) := by
  unfold fb_To_isWordly_0 hb_To_isWordly_0
  refine rf_bx0 (ym_To_isDigit R) (fun u1' u1 r1 R_u1 => ?_)
  refine rf_br ?_ ?_
  · refine rf_br ?_ ?_
    · exact (yb_To_isWordly_19 R_u1)
    · refine rf_br ?_ ?_
      · exact (yb_To_isWordly_37 R_u1)
      · exact (yb_To_isWordly_19 R_u1)
  · exact (yb_To_isWordly_37 R_u1)
theorem ym_To_isWordly {N : Nat} {o : Option Nat} {c : Nat → Nat} {m : MS} {u : CS} (R : RP o c m u) {v0 : Int32} : RF 0 o VE c u (fm_To_isWordly N u v0) (hm_To_isWordly N m v0) := yb_To_isWordly_0 (N := N) R
theorem yb_Wo_isSame_12 {N : Nat} {o : Option Nat} {c : Nat → Nat} {m : MS} {u : CS} {G : (CS → Nat → Int32 → Option Nat → Int32 → Int32 → Int32 → Option (CS × Int32))} {G' : (MS → Nat → Int32 → Nat → Int32 → Int32 → Int32 → Option (MS × Int32))} (hG : ∀ (c : Nat → Nat) (m : MS) (u : CS) (v0 : Nat) (v1 : Int32) (v2 : Nat) (v3 : Int32) (v4 : Int32) (v5 : Int32), RP o c m u → isWd v0 → isBy v2 → RF 0 o VE c u (G u v0 v1 (some v2) v3 v4 v5) (G' m v0 v1 v2 v3 v4 v5)) (R : RP o c m u) {v0 : Nat} {v1 : Int32} {v2 : Nat} {v3 : Int32} {v4 : Int32} {v5 : Int32} (h_v0 : isWd v0) (h_v2 : isBy v2) : RF 0 o VE c u (fb_Wo_isSame_12 N G u v0 v1 (some v2) v3 v4 v5) (hb_Wo_isSame_12 N G' m v0 v1 v2 v3 v4 v5) := by
  unfold fb_Wo_isSame_12 hb_Wo_isSame_12
  refine rf_bo (gr_W1 R h_v0) ?_
  refine rf_so ?_
  refine rf_ai (ai_W R h_v0) ?_
  refine rf_br ?_ ?_
  · refine rf_ckk ?_
    exact rf_ret R rfl
  · refine rf_bo (gr_W0 R h_v0) ?_
    refine rf_so ?_
    refine rf_ai (ai_B R (By_w h_v0)) ?_
    refine rf_so ?_
    refine rf_ai (ai_B R h_v2) ?_
    refine rf_br ?_ ?_
    · exact (hG _ _ _ _ _ _ _ _ _ R h_v0 h_v2)
    · refine rf_ckk ?_
      exact rf_ret R rfl
theorem yb_Wo_isSame_0 {N : Nat} {o : Option Nat} {c : Nat → Nat} {m : MS} {u : CS} {G : (CS → Nat → Int32 → Option Nat → Int32 → Int32 → Int32 → Option (CS × Int32))} {G' : (MS → Nat → Int32 → Nat → Int32 → Int32 → Int32 → Option (MS × Int32))} (hG : ∀ (c : Nat → Nat) (m : MS) (u : CS) (v0 : Nat) (v1 : Int32) (v2 : Nat) (v3 : Int32) (v4 : Int32) (v5 : Int32), RP o c m u → isWd v0 → isBy v2 → RF 0 o VE c u (G u v0 v1 (some v2) v3 v4 v5) (G' m v0 v1 v2 v3 v4 v5)) (R : RP o c m u) {v0 : Nat} {v1 : Int32} {v2 : Nat} {v3 : Int32} (h_v0 : isWd v0) (h_v2 : isBy v2) : RF 0 o VE c u (fb_Wo_isSame_0 N G u v0 v1 (some v2) v3) (hb_Wo_isSame_0 N G' m v0 v1 v2 v3) := by
  unfold fb_Wo_isSame_0 hb_Wo_isSame_0
  refine rf_bo (gr_W1 R h_v0) ?_
  refine rf_so ?_
  refine rf_ai (ai_W R h_v0) ?_
  exact (hG _ _ _ _ _ _ _ _ _ R h_v0 h_v2)
theorem yg_Wo_isSame {N : Nat} {o : Option Nat} : ∀ n, (∀ (c : Nat → Nat) (m : MS) (u : CS) (v0 : Nat) (v1 : Int32) (v2 : Nat) (v3 : Int32) (v4 : Int32) (v5 : Int32), RP o c m u → isWd v0 → isBy v2 → RF 0 o VE c u ((gg_Wo_isSame N n) u v0 v1 (some v2) v3 v4 v5) ((hg_Wo_isSame N n) m v0 v1 v2 v3 v4 v5)) := by
  intro n
  induction n with
  | zero => exact fun c m u v0 v1 v2 v3 v4 v5 R h_v0 h_v2 => rf_none
  | succ n ih => exact fun c m u v0 v1 v2 v3 v4 v5 R h_v0 h_v2 => yb_Wo_isSame_12 (N := N) ih R h_v0 h_v2
theorem ym_Wo_isSame {N : Nat} {o : Option Nat} {c : Nat → Nat} {m : MS} {u : CS} (R : RP o c m u) {v0 : Nat} {v1 : Int32} {v2 : Nat} {v3 : Int32} (h_v0 : isWd v0) (h_v2 : isBy v2) : RF 0 o VE c u (fm_Wo_isSame N u v0 v1 (some v2) v3) (hm_Wo_isSame N m v0 v1 v2 v3) := yb_Wo_isSame_0 (N := N) (yg_Wo_isSame (N := N) N) R h_v0 h_v2
theorem yb_Wo_seek_47 {N : Nat} {o : Option Nat} {c : Nat → Nat} {m : MS} {u : CS} {G : (CS → Nat → Option Nat → Int32 → Int32 → Int32 → Option (CS × Int32))} {G' : (MS → Nat → Nat → Int32 → Int32 → Int32 → Option (MS × Int32))} (hG : ∀ (c : Nat → Nat) (m : MS) (u : CS) (v0 : Nat) (v1 : Nat) (v2 : Int32) (v3 : Int32) (v4 : Int32), RP o c m u → isWd v0 → isBy v1 → RF 0 o VE c u (G u v0 (some v1) v2 v3 v4) (G' m v0 v1 v2 v3 v4)) (R : RP o c m u) {v0 : Nat} {v1 : Nat} {v2 : Int32} {v3 : Int32} {v4 : Int32} (h_v0 : isWd v0) (h_v1 : isBy v1) : RF 0 o VE c u (fb_Wo_seek_47 N G u v0 (some v1) v2 v3 v4) (hb_Wo_seek_47 N G' m v0 v1 v2 v3 v4) := by
  unfold fb_Wo_seek_47 hb_Wo_seek_47
  exact (hG _ _ _ _ _ _ _ _ R h_v0 h_v1)
theorem yb_Wo_seek_3 {N : Nat} {o : Option Nat} {c : Nat → Nat} {m : MS} {u : CS} {G : (CS → Nat → Option Nat → Int32 → Int32 → Int32 → Option (CS × Int32))} {G' : (MS → Nat → Nat → Int32 → Int32 → Int32 → Option (MS × Int32))} (hG : ∀ (c : Nat → Nat) (m : MS) (u : CS) (v0 : Nat) (v1 : Nat) (v2 : Int32) (v3 : Int32) (v4 : Int32), RP o c m u → isWd v0 → isBy v1 → RF 0 o VE c u (G u v0 (some v1) v2 v3 v4) (G' m v0 v1 v2 v3 v4)) (R : RP o c m u) {v0 : Nat} {v1 : Nat} {v2 : Int32} {v3 : Int32} {v4 : Int32} (h_v0 : isWd v0) (h_v1 : isBy v1) : RF 0 o VE c u (fb_Wo_seek_3 N G u v0 (some v1) v2 v3 v4) (hb_Wo_seek_3 N G' m v0 v1 v2 v3 v4) := by
  unfold fb_Wo_seek_3 hb_Wo_seek_3
  refine rf_bo (gi_W2 R h_v0) ?_
  refine rf_br ?_ ?_
  · exact rf_ret R rfl
  · refine rf_bo (gr_W1 R h_v0) ?_
    refine rf_so ?_
    refine rf_ai (ai_W R h_v0) ?_
    refine rf_bo (gr_W1 R h_v0) ?_
    refine rf_so ?_
    refine rf_ai (ai_W R h_v0) ?_
    refine rf_br ?_ ?_
    · refine rf_ck (io_W R h_v0) ?_
      refine rf_bx0 (ym_Wo_isSame R h_v0 h_v1) (fun u8' u8 r8 R_u8 => ?_)
      refine rf_br ?_ ?_
      · exact (yb_Wo_seek_47 hG R_u8 h_v0 h_v1)
      · exact rf_ret R_u8 rfl
    · exact (yb_Wo_seek_47 hG R h_v0 h_v1)
theorem yb_Wo_seek_0 {N : Nat} {o : Option Nat} {c : Nat → Nat} {m : MS} {u : CS} {G : (CS → Nat → Option Nat → Int32 → Int32 → Int32 → Option (CS × Int32))} {G' : (MS → Nat → Nat → Int32 → Int32 → Int32 → Option (MS × Int32))} (hG : ∀ (c : Nat → Nat) (m : MS) (u : CS) (v0 : Nat) (v1 : Nat) (v2 : Int32) (v3 : Int32) (v4 : Int32), RP o c m u → isWd v0 → isBy v1 → RF 0 o VE c u (G u v0 (some v1) v2 v3 v4) (G' m v0 v1 v2 v3 v4)) (R : RP o c m u) {v0 : Nat} {v1 : Nat} {v2 : Int32} {v3 : Int32} (h_v0 : isWd v0) (h_v1 : isBy v1) : RF 0 o VE c u (fb_Wo_seek_0 N G u v0 (some v1) v2 v3) (hb_Wo_seek_0 N G' m v0 v1 v2 v3) := by
  unfold fb_Wo_seek_0 hb_Wo_seek_0
  exact (hG _ _ _ _ _ _ _ _ R h_v0 h_v1)
theorem yg_Wo_seek {N : Nat} {o : Option Nat} : ∀ n, (∀ (c : Nat → Nat) (m : MS) (u : CS) (v0 : Nat) (v1 : Nat) (v2 : Int32) (v3 : Int32) (v4 : Int32), RP o c m u → isWd v0 → isBy v1 → RF 0 o VE c u ((gg_Wo_seek N n) u v0 (some v1) v2 v3 v4) ((hg_Wo_seek N n) m v0 v1 v2 v3 v4)) := by
  intro n
  induction n with
  | zero => exact fun c m u v0 v1 v2 v3 v4 R h_v0 h_v1 => rf_none
  | succ n ih => exact fun c m u v0 v1 v2 v3 v4 R h_v0 h_v1 => yb_Wo_seek_3 (N := N) ih R h_v0 h_v1
theorem ym_Wo_seek {N : Nat} {o : Option Nat} {c : Nat → Nat} {m : MS} {u : CS} (R : RP o c m u) {v0 : Nat} {v1 : Nat} {v2 : Int32} {v3 : Int32} (h_v0 : isWd v0) (h_v1 : isBy v1) : RF 0 o VE c u (fm_Wo_seek N u v0 (some v1) v2 v3) (hm_Wo_seek N m v0 v1 v2 v3) := yb_Wo_seek_0 (N := N) (yg_Wo_seek (N := N) N) R h_v0 h_v1
theorem yb_To_string_70 {N : Nat} {o : Option Nat} {c : Nat → Nat} {m : MS} {u : CS} {G : (CS → Nat → Int32 → Option (CS × Int32))} {G' : (MS → Int32 → Option (MS × Int32))} (hG : ∀ (c : Nat → Nat) (m : MS) (u : CS) (v1 : Int32), RP o c m u → RF 0 o VE c u (G u 4 v1) (G' m v1)) (R : RP o c m u) : RF 0 o VE c u (fb_To_string_70 N G u) (hb_To_string_70 N G' m) := by
  unfold fb_To_string_70 hb_To_string_70
  exact rf_ret R rfl
theorem yb_To_string_25 {N : Nat} {o : Option Nat} {c : Nat → Nat} {m : MS} {u : CS} {G : (CS → Nat → Int32 → Option (CS × Int32))} {G' : (MS → Int32 → Option (MS × Int32))} (hG : ∀ (c : Nat → Nat) (m : MS) (u : CS) (v1 : Int32), RP o c m u → RF 0 o VE c u (G u 4 v1) (G' m v1)) (R : RP o c m u) {v1 : Int32} : RF 0 o VE c u (fb_To_string_25 N G u 4 v1) (hb_To_string_25 N G' m v1) := by
  unfold fb_To_string_25 hb_To_string_25
  refine rf_br ?_ ?_
  · exact rf_ret R rfl
  · refine rf_bo (gx_4_9 R) ?_
    refine rf_ck (ox_4 R) ?_
    refine rf_bx0 (ym_To_signAt R) (fun u2' u2 r2 R_u2 => ?_)
    refine rf_bo (gx_4_9 R_u2) ?_
    refine rf_w (px_4_9 R_u2) (fun w4' w4 R_w4 => ?_)
    refine rf_br ?_ ?_
    · exact rf_ret R_w4 rfl
    · refine rf_br ?_ ?_
      · exact (yb_To_string_70 hG R_w4)
      · refine rf_br ?_ ?_
        · exact (hG _ _ _ _ R_w4)
        · exact (yb_To_string_70 hG R_w4)
theorem yb_To_string_0 {N : Nat} {o : Option Nat} {c : Nat → Nat} {m : MS} {u : CS} {G : (CS → Nat → Int32 → Option (CS × Int32))} {G' : (MS → Int32 → Option (MS × Int32))} (hG : ∀ (c : Nat → Nat) (m : MS) (u : CS) (v1 : Int32), RP o c m u → RF 0 o VE c u (G u 4 v1) (G' m v1)) (R : RP o c m u) : RF 0 o VE c u (fb_To_string_0 N G u 4) (hb_To_string_0 N G' m) := by
  unfold fb_To_string_0 hb_To_string_0
  refine rf_bo (gx_4_9 R) ?_
  refine rf_w (px_4_9 R) (fun w6' w6 R_w6 => ?_)
  refine rf_bo (rx_4_3 R_w6) ?_
  refine rf_bo (gx_4_5 R_w6) ?_
  refine rf_bo (gx_4_9 R_w6) ?_
  refine rf_so ?_
  refine rf_wk (sx_7 R_w6) (fun w11' w11 R_w11 => ?_)
  exact (hG _ _ _ _ R_w11)
theorem yg_To_string {N : Nat} {o : Option Nat} : ∀ n, (∀ (c : Nat → Nat) (m : MS) (u : CS) (v1 : Int32), RP o c m u → RF 0 o VE c u ((gg_To_string N n) u 4 v1) ((hg_To_string N n) m v1)) := by
  intro n
  induction n with
  | zero => exact fun c m u v1 R => rf_none
  | succ n ih => exact fun c m u v1 R => yb_To_string_25 (N := N) ih R
theorem ym_To_string {N : Nat} {o : Option Nat} {c : Nat → Nat} {m : MS} {u : CS} (R : RP o c m u) : RF 0 o VE c u (fm_To_string N u 4) (hm_To_string N m) := yb_To_string_0 (N := N) (yg_To_string (N := N) N) R
theorem yb_Tr_clear_0 {N : Nat} {o : Option Nat} {c : Nat → Nat} {m : MS} {u : CS} (R : RP o c m u) : RF 0 o VE c u (fb_Tr_clear_0 N () u 15) (hb_Tr_clear_0 N () m) := by
  unfold fb_Tr_clear_0 hb_Tr_clear_0
  refine rf_w (px_15_6 R) (fun w1' w1 R_w1 => ?_)
  exact rf_ret R_w1 rfl
theorem ym_Tr_clear {N : Nat} {o : Option Nat} {c : Nat → Nat} {m : MS} {u : CS} (R : RP o c m u) : RF 0 o VE c u (fm_Tr_clear N u 15) (hm_Tr_clear N m) := yb_Tr_clear_0 (N := N) R
theorem yb_Co_clear_0 {N : Nat} {o : Option Nat} {c : Nat → Nat} {m : MS} {u : CS} (R : RP o c m u) : RF 0 o VE c u (fb_Co_clear_0 N () u 22) (hb_Co_clear_0 N () m) := by
  unfold fb_Co_clear_0 hb_Co_clear_0
  refine rf_w (px_22_1 R) (fun w1' w1 R_w1 => ?_)
  refine rf_w (px_22_2 R_w1) (fun w2' w2 R_w2 => ?_)
  refine rf_w (px_22_9 R_w2) (fun w3' w3 R_w3 => ?_)
  exact rf_ret R_w3 rfl
theorem ym_Co_clear {N : Nat} {o : Option Nat} {c : Nat → Nat} {m : MS} {u : CS} (R : RP o c m u) : RF 0 o VE c u (fm_Co_clear N u 22) (hm_Co_clear N m) := yb_Co_clear_0 (N := N) R
theorem yb_Pa_beginsPattern_0 {N : Nat} {o : Option Nat} {c : Nat → Nat} {m : MS} {u : CS} (R : RP o c m u) {v0 : Int32} : RF 0 o VE c u (fb_Pa_beginsPattern_0 N () u v0) (hb_Pa_beginsPattern_0 N () m v0) := by
  unfold fb_Pa_beginsPattern_0 hb_Pa_beginsPattern_0
  refine rf_br ?_ ?_
  · refine rf_ckk ?_
    exact rf_ret R rfl
  · refine rf_br ?_ ?_
    · refine rf_ckk ?_
      exact rf_ret R rfl
    · refine rf_br ?_ ?_
      · refine rf_ckk ?_
        exact rf_ret R rfl
      · refine rf_br ?_ ?_
        · refine rf_ckk ?_
          exact rf_ret R rfl
        · refine rf_br ?_ ?_
          · refine rf_ckk ?_
            exact rf_ret R rfl
          · refine rf_br ?_ ?_
            · refine rf_ckk ?_
              exact rf_ret R rfl
            · refine rf_br ?_ ?_
              · refine rf_ckk ?_
                exact rf_ret R rfl
              · refine rf_br ?_ ?_
                · refine rf_ckk ?_
                  exact rf_ret R rfl
                · refine rf_ckk ?_
                  exact rf_ret R rfl
theorem ym_Pa_beginsPattern {N : Nat} {o : Option Nat} {c : Nat → Nat} {m : MS} {u : CS} (R : RP o c m u) {v0 : Int32} : RF 0 o VE c u (fm_Pa_beginsPattern N u v0) (hm_Pa_beginsPattern N m v0) := yb_Pa_beginsPattern_0 (N := N) R
theorem yb_Tr_add_0 {N : Nat} {o : Option Nat} {c : Nat → Nat} {m : MS} {u : CS} (R : RP o c m u) {v1 : Int32} {v2 : Int32} {v3 : Int32} {v4 : Int32} {v5 : Int32} : RF 0 o VE c u (fb_Tr_add_0 N () u 15 v1 v2 v3 v4 v5) (hb_Tr_add_0 N () m v1 v2 v3 v4 v5) := by
  unfold fb_Tr_add_0 hb_Tr_add_0
  refine rf_bo (gx_15_6 R) ?_
  refine rf_br ?_ ?_
  · refine rf_bo (gx_15_6 R) ?_
    refine rf_w (px_15_6 R) (fun w3' w3 R_w3 => ?_)
    refine rf_bo (rx_15_0 R_w3) ?_
    refine rf_bo (gx_15_6 R_w3) ?_
    refine rf_so ?_
    refine rf_wk (sx_16 R_w3) (fun w7' w7 R_w7 => ?_)
    refine rf_bo (rx_15_1 R_w7) ?_
    refine rf_bo (gx_15_6 R_w7) ?_
    refine rf_so ?_
    refine rf_wk (sx_17 R_w7) (fun w11' w11 R_w11 => ?_)
    refine rf_bo (rx_15_2 R_w11) ?_
    refine rf_bo (gx_15_6 R_w11) ?_
    refine rf_so ?_
    refine rf_wk (sx_18 R_w11) (fun w15' w15 R_w15 => ?_)
    refine rf_bo (rx_15_3 R_w15) ?_
    refine rf_bo (gx_15_6 R_w15) ?_
    refine rf_so ?_
    refine rf_wk (sx_19 R_w15) (fun w19' w19 R_w19 => ?_)
    refine rf_bo (rx_15_4 R_w19) ?_
    refine rf_bo (gx_15_6 R_w19) ?_
    refine rf_so ?_
    refine rf_wk (sx_20 R_w19) (fun w23' w23 R_w23 => ?_)
    refine rf_bo (rx_15_5 R_w23) ?_
    refine rf_bo (gx_15_6 R_w23) ?_
    refine rf_so ?_
    refine rf_wk (sx_21 R_w23) (fun w27' w27 R_w27 => ?_)
    refine rf_bo (gx_15_6 R_w27) ?_
    exact rf_ret R_w27 rfl
  · exact rf_ret R rfl
theorem ym_Tr_add {N : Nat} {o : Option Nat} {c : Nat → Nat} {m : MS} {u : CS} (R : RP o c m u) {v1 : Int32} {v2 : Int32} {v3 : Int32} {v4 : Int32} {v5 : Int32} : RF 0 o VE c u (fm_Tr_add N u 15 v1 v2 v3 v4 v5) (hm_Tr_add N m v1 v2 v3 v4 v5) := yb_Tr_add_0 (N := N) R
theorem yb_Tr_length_4 {N : Nat} {o : Option Nat} {c : Nat → Nat} {m : MS} {u : CS} {G : (CS → Nat → Int32 → Int32 → Option (CS × Int32))} {G' : (MS → Int32 → Int32 → Option (MS × Int32))} (hG : ∀ (c : Nat → Nat) (m : MS) (u : CS) (v2 : Int32) (v3 : Int32), RP o c m u → RF 0 o VE c u (G u 15 v2 v3) (G' m v2 v3)) (R : RP o c m u) {v2 : Int32} {v3 : Int32} : RF 0 o VE c u (fb_Tr_length_4 N G u 15 v2 v3) (hb_Tr_length_4 N G' m v2 v3) := by
  unfold fb_Tr_length_4 hb_Tr_length_4
  refine rf_br ?_ ?_
  · exact rf_ret R rfl
  · refine rf_bo (rx_15_5 R) ?_
    refine rf_so ?_
    refine rf_ai (ax_21 R) ?_
    exact (hG _ _ _ _ _ R)
theorem yb_Tr_length_0 {N : Nat} {o : Option Nat} {c : Nat → Nat} {m : MS} {u : CS} {G : (CS → Nat → Int32 → Int32 → Option (CS × Int32))} {G' : (MS → Int32 → Int32 → Option (MS × Int32))} (hG : ∀ (c : Nat → Nat) (m : MS) (u : CS) (v2 : Int32) (v3 : Int32), RP o c m u → RF 0 o VE c u (G u 15 v2 v3) (G' m v2 v3)) (R : RP o c m u) {v1 : Int32} : RF 0 o VE c u (fb_Tr_length_0 N G u 15 v1) (hb_Tr_length_0 N G' m v1) := by
  unfold fb_Tr_length_0 hb_Tr_length_0
  exact (hG _ _ _ _ _ R)
theorem yg_Tr_length {N : Nat} {o : Option Nat} : ∀ n, (∀ (c : Nat → Nat) (m : MS) (u : CS) (v2 : Int32) (v3 : Int32), RP o c m u → RF 0 o VE c u ((gg_Tr_length N n) u 15 v2 v3) ((hg_Tr_length N n) m v2 v3)) := by
  intro n
  induction n with
  | zero => exact fun c m u v2 v3 R => rf_none
  | succ n ih => exact fun c m u v2 v3 R => yb_Tr_length_4 (N := N) ih R
theorem ym_Tr_length {N : Nat} {o : Option Nat} {c : Nat → Nat} {m : MS} {u : CS} (R : RP o c m u) {v1 : Int32} : RF 0 o VE c u (fm_Tr_length N u 15 v1) (hm_Tr_length N m v1) := yb_Tr_length_0 (N := N) (yg_Tr_length (N := N) N) R
theorem yb_Pa_beginsUnit_0 {N : Nat} {o : Option Nat} {c : Nat → Nat} {m : MS} {u : CS} (R : RP o c m u) {v0 : Int32} : RF 0 o VE c u (fb_Pa_beginsUnit_0 N () u v0) (hb_Pa_beginsUnit_0 N () m v0) := by
  unfold fb_Pa_beginsUnit_0 hb_Pa_beginsUnit_0
  refine rf_br ?_ ?_
  · refine rf_ckk ?_
    exact rf_ret R rfl
  · refine rf_br ?_ ?_
    · refine rf_ckk ?_
      exact rf_ret R rfl
    · refine rf_br ?_ ?_
      · refine rf_ckk ?_
        exact rf_ret R rfl
      · refine rf_br ?_ ?_
        · refine rf_ckk ?_
          exact rf_ret R rfl
        · refine rf_br ?_ ?_
          · refine rf_ckk ?_
            exact rf_ret R rfl
          · refine rf_br ?_ ?_
            · refine rf_ckk ?_
              exact rf_ret R rfl
            · refine rf_br ?_ ?_
              · refine rf_ckk ?_
                exact rf_ret R rfl
              · refine rf_br ?_ ?_
                · refine rf_ckk ?_
                  exact rf_ret R rfl
                · refine rf_br ?_ ?_
                  · refine rf_ckk ?_
                    exact rf_ret R rfl
                  · refine rf_br ?_ ?_
                    · refine rf_ckk ?_
                      exact rf_ret R rfl
                    · refine rf_br ?_ ?_
                      · refine rf_ckk ?_
                        exact rf_ret R rfl
                      · refine rf_br ?_ ?_
                        · refine rf_ckk ?_
                          exact rf_ret R rfl
                        · refine rf_br ?_ ?_
                          · refine rf_ckk ?_
                            exact rf_ret R rfl
                          · refine rf_br ?_ ?_
                            · refine rf_ckk ?_
                              exact rf_ret R rfl
                            · refine rf_br ?_ ?_
                              · refine rf_ckk ?_
                                exact rf_ret R rfl
                              · refine rf_br ?_ ?_
                                · refine rf_ckk ?_
                                  exact rf_ret R rfl
                                · refine rf_br ?_ ?_
                                  · refine rf_ckk ?_
                                    exact rf_ret R rfl
                                  · refine rf_br ?_ ?_
                                    · refine rf_ckk ?_
                                      exact rf_ret R rfl
                                    · refine rf_br ?_ ?_
                                      · refine rf_ckk ?_
                                        exact rf_ret R rfl
                                      · refine rf_br ?_ ?_
                                        · refine rf_ckk ?_
                                          exact rf_ret R rfl
                                        · refine rf_br ?_ ?_
                                          · refine rf_ckk ?_
                                            exact rf_ret R rfl
                                          · refine rf_br ?_ ?_
                                            · refine rf_ckk ?_
                                              exact rf_ret R rfl
                                            · refine rf_br ?_ ?_
                                              · refine rf_ckk ?_
                                                exact rf_ret R rfl
                                              · refine rf_br ?_ ?_
                                                · refine rf_ckk ?_
                                                  exact rf_ret R rfl
                                                · refine rf_br ?_ ?_
                                                  · refine rf_ckk ?_
                                                    exact rf_ret R rfl
                                                  · refine rf_br ?_ ?_
                                                    · refine rf_ckk ?_
                                                      exact rf_ret R rfl
                                                    · refine rf_br ?_ ?_
                                                      · refine rf_ckk ?_
                                                        exact rf_ret R rfl
                                                      · refine rf_br ?_ ?_
                                                        · refine rf_ckk ?_
                                                          exact rf_ret R rfl
                                                        · refine rf_br ?_ ?_
                                                          · refine rf_ckk ?_
                                                            exact rf_ret R rfl
                                                          · refine rf_br ?_ ?_
                                                            · refine rf_ckk ?_
                                                              exact rf_ret R rfl
                                                            · refine rf_br ?_ ?_
                                                              · refine rf_ckk ?_
                                                                exact rf_ret R rfl
                                                              · refine rf_br ?_ ?_
                                                                · refine rf_ckk ?_
                                                                  exact rf_ret R rfl
                                                                · refine rf_br ?_ ?_
                                                                  · refine rf_ckk ?_
                                                                    exact rf_ret R rfl
                                                                  · refine rf_br ?_ ?_
                                                                    · refine rf_ckk ?_
                                                                      exact rf_ret R rfl
                                                                    · refine rf_ckk ?_
                                                                      exact rf_ret R rfl
theorem ym_Pa_beginsUnit {N : Nat} {o : Option Nat} {c : Nat → Nat} {m : MS} {u : CS} (R : RP o c m u) {v0 : Int32} : RF 0 o VE c u (fm_Pa_beginsUnit N u v0) (hm_Pa_beginsUnit N m v0) := yb_Pa_beginsUnit_0 (N := N) R
theorem yb_Pa_leaf_0 {N : Nat} {o : Option Nat} {c : Nat → Nat} {m : MS} {u : CS} (R : RP o c m u) : RF 0 o VE c u (fb_Pa_leaf_0 N () u 33) (hb_Pa_leaf_0 N () m) := by
  unfold fb_Pa_leaf_0 hb_Pa_leaf_0
  refine rf_bo (rx_33_1 R) ?_
  refine rf_bo (rx_33_0 R) ?_
  refine rf_so ?_
  refine rf_bo (rx_4_2 R) ?_
  refine rf_bo (gx_33_5 R) ?_
  refine rf_so ?_
  refine rf_ai (ax_6 R) ?_
  refine rf_bo (gx_33_5 R) ?_
  refine rf_bo (rx_33_0 R) ?_
  refine rf_so ?_
  refine rf_bo (rx_4_3 R) ?_
  refine rf_bo (gx_33_5 R) ?_
  refine rf_so ?_
  refine rf_ai (ax_7 R) ?_
  refine rf_so ?_
  refine rf_ck (ox_15 R) ?_
  refine rf_bx0 (ym_Tr_add R) (fun u15' u15 r15 R_u15 => ?_)
  refine rf_bo (gx_33_5 R_u15) ?_
  refine rf_w (px_33_5 R_u15) (fun w18' w18 R_w18 => ?_)
  exact rf_ret R_w18 rfl
theorem ym_Pa_leaf {N : Nat} {o : Option Nat} {c : Nat → Nat} {m : MS} {u : CS} (R : RP o c m u) : RF 0 o VE c u (fm_Pa_leaf N u 33) (hm_Pa_leaf N m) := yb_Pa_leaf_0 (N := N) R
theorem yb_Pa_chain_0 {N : Nat} {o : Option Nat} {c : Nat → Nat} {m : MS} {u : CS} (R : RP o c m u) {v1 : Int32} {v2 : Int32} : RF 0 o VE c u (fb_Pa_chain_0 N () u 33 v1 v2) (hb_Pa_chain_0 N () m v1 v2) := by
  unfold fb_Pa_chain_0 hb_Pa_chain_0
  refine rf_bo (rx_33_1 R) ?_
  refine rf_so ?_
  refine rf_bo (rx_15_5 R) ?_
  refine rf_so ?_
  refine rf_wk (sx_21 R) (fun w5' w5 R_w5 => ?_)
  exact rf_ret R_w5 rfl
theorem ym_Pa_chain {N : Nat} {o : Option Nat} {c : Nat → Nat} {m : MS} {u : CS} (R : RP o c m u) {v1 : Int32} {v2 : Int32} : RF 0 o VE c u (fm_Pa_chain N u 33 v1 v2) (hm_Pa_chain N m v1 v2) := yb_Pa_chain_0 (N := N) R
theorem yb_Co_addPlace_0 {N : Nat} {o : Option Nat} {c : Nat → Nat} {m : MS} {u : CS} (R : RP o c m u) : RF 0 o VE c u (fb_Co_addPlace_0 N () u 22) (hb_Co_addPlace_0 N () m) := by
  unfold fb_Co_addPlace_0 hb_Co_addPlace_0
  refine rf_bo (gx_22_9 R) ?_
  refine rf_br ?_ ?_
  · refine rf_bo (gx_22_9 R) ?_
    refine rf_w (px_22_9 R) (fun w3' w3 R_w3 => ?_)
    refine rf_bo (gx_22_9 R_w3) ?_
    exact rf_ret R_w3 rfl
  · exact rf_ret R rfl
theorem ym_Co_addPlace {N : Nat} {o : Option Nat} {c : Nat → Nat} {m : MS} {u : CS} (R : RP o c m u) : RF 0 o VE c u (fm_Co_addPlace N u 22) (hm_Co_addPlace N m) := yb_Co_addPlace_0 (N := N) R
theorem yb_Pa_rank_0 {N : Nat} {o : Option Nat} {c : Nat → Nat} {m : MS} {u : CS} (R : RP o c m u) {v0 : Int32} : RF 0 o VE c u (fb_Pa_rank_0 N () u v0) (hb_Pa_rank_0 N () m v0) := by
  unfold fb_Pa_rank_0 hb_Pa_rank_0
  refine rf_br ?_ ?_
  · exact rf_ret R rfl
  · refine rf_br ?_ ?_
    · exact rf_ret R rfl
    · refine rf_br ?_ ?_
      · exact rf_ret R rfl
      · refine rf_br ?_ ?_
        · exact rf_ret R rfl
        · refine rf_br ?_ ?_
          · exact rf_ret R rfl
          · refine rf_br ?_ ?_
            · exact rf_ret R rfl
            · refine rf_br ?_ ?_
              · exact rf_ret R rfl
              · refine rf_br ?_ ?_
                · exact rf_ret R rfl
                · refine rf_br ?_ ?_
                  · exact rf_ret R rfl
                  · refine rf_br ?_ ?_
                    · exact rf_ret R rfl
                    · refine rf_br ?_ ?_
                      · exact rf_ret R rfl
                      · refine rf_br ?_ ?_
                        · exact rf_ret R rfl
                        · refine rf_br ?_ ?_
                          · exact rf_ret R rfl
                          · refine rf_br ?_ ?_
                            · exact rf_ret R rfl
                            · refine rf_br ?_ ?_
                              · exact rf_ret R rfl
                              · refine rf_br ?_ ?_
                                · exact rf_ret R rfl
                                · refine rf_br ?_ ?_
                                  · exact rf_ret R rfl
                                  · refine rf_br ?_ ?_
                                    · exact rf_ret R rfl
                                    · refine rf_br ?_ ?_
                                      · exact rf_ret R rfl
                                      · refine rf_br ?_ ?_
                                        · exact rf_ret R rfl
                                        · refine rf_br ?_ ?_
                                          · exact rf_ret R rfl
                                          · refine rf_br ?_ ?_
                                            · exact rf_ret R rfl
                                            · refine rf_br ?_ ?_
                                              · exact rf_ret R rfl
                                              · refine rf_br ?_ ?_
                                                · exact rf_ret R rfl
                                                · refine rf_br ?_ ?_
                                                  · exact rf_ret R rfl
                                                  · refine rf_br ?_ ?_
                                                    · exact rf_ret R rfl
                                                    · refine rf_br ?_ ?_
                                                      · exact rf_ret R rfl
                                                      · refine rf_br ?_ ?_
                                                        · exact rf_ret R rfl
                                                        · refine rf_br ?_ ?_
                                                          · exact rf_ret R rfl
                                                          · refine rf_br ?_ ?_
                                                            · exact rf_ret R rfl
                                                            · refine rf_br ?_ ?_
                                                              · exact rf_ret R rfl
                                                              · refine rf_br ?_ ?_
                                                                · exact rf_ret R rfl
                                                                · refine rf_br ?_ ?_
                                                                  · exact rf_ret R rfl
                                                                  · refine rf_br ?_ ?_
                                                                    · exact rf_ret R rfl
                                                                    · refine rf_br ?_ ?_
                                                                      · exact rf_ret R rfl
                                                                      · refine rf_br ?_ ?_
                                                                        · exact rf_ret R rfl
                                                                        · refine rf_br ?_ ?_
                                                                          · exact rf_ret R rfl
                                                                          · refine rf_br ?_ ?_
                                                                            · exact rf_ret R rfl
                                                                            · refine rf_br ?_ ?_
                                                                              · exact rf_ret R rfl
                                                                              · exact rf_ret R rfl
theorem ym_Pa_rank {N : Nat} {o : Option Nat} {c : Nat → Nat} {m : MS} {u : CS} (R : RP o c m u) {v0 : Int32} : RF 0 o VE c u (fm_Pa_rank N u v0) (hm_Pa_rank N m v0) := yb_Pa_rank_0 (N := N) R
theorem yb_Co_addFunction_0 {N : Nat} {o : Option Nat} {c : Nat → Nat} {m : MS} {u : CS} (R : RP o c m u) {v1 : Int32} {v2 : Int32} {v3 : Int32} {v4 : Int32} {v5 : Int32} : RF 0 o VE c u (fb_Co_addFunction_0 N () u 22 v1 v2 v3 v4 v5) (hb_Co_addFunction_0 N () m v1 v2 v3 v4 v5) := by
  unfold fb_Co_addFunction_0 hb_Co_addFunction_0
  refine rf_bo (gx_22_2 R) ?_
  refine rf_br ?_ ?_
  · refine rf_bo (rx_22_3 R) ?_
    refine rf_bo (gx_22_2 R) ?_
    refine rf_so ?_
    refine rf_wk (sx_24 R) (fun w5' w5 R_w5 => ?_)
    refine rf_bo (rx_22_4 R_w5) ?_
    refine rf_bo (gx_22_2 R_w5) ?_
    refine rf_so ?_
    refine rf_wk (sx_25 R_w5) (fun w9' w9 R_w9 => ?_)
    refine rf_bo (rx_22_5 R_w9) ?_
    refine rf_bo (gx_22_2 R_w9) ?_
    refine rf_so ?_
    refine rf_wk (sx_26 R_w9) (fun w13' w13 R_w13 => ?_)
    refine rf_bo (rx_22_6 R_w13) ?_
    refine rf_bo (gx_22_2 R_w13) ?_
    refine rf_so ?_
    refine rf_wk (sx_27 R_w13) (fun w17' w17 R_w17 => ?_)
    refine rf_bo (rx_22_7 R_w17) ?_
    refine rf_bo (gx_22_2 R_w17) ?_
    refine rf_so ?_
    refine rf_wk (sx_28 R_w17) (fun w21' w21 R_w21 => ?_)
    refine rf_bo (gx_22_2 R_w21) ?_
    refine rf_w (px_22_2 R_w21) (fun w23' w23 R_w23 => ?_)
    exact rf_ret R_w23 rfl
  · exact rf_ret R rfl
theorem ym_Co_addFunction {N : Nat} {o : Option Nat} {c : Nat → Nat} {m : MS} {u : CS} (R : RP o c m u) {v1 : Int32} {v2 : Int32} {v3 : Int32} {v4 : Int32} {v5 : Int32} : RF 0 o VE c u (fm_Co_addFunction N u 22 v1 v2 v3 v4 v5) (hm_Co_addFunction N m v1 v2 v3 v4 v5) := yb_Co_addFunction_0 (N := N) R
theorem yb_Co_seek_32 {N : Nat} {o : Option Nat} {c : Nat → Nat} {m : MS} {u : CS} {G : (CS → Nat → Int32 → Int32 → Int32 → Option (CS × Int32))} {G' : (MS → Int32 → Int32 → Int32 → Option (MS × Int32))} (hG : ∀ (c : Nat → Nat) (m : MS) (u : CS) (v1 : Int32) (v2 : Int32) (v3 : Int32), RP o c m u → RF 0 o VE c u (G u 22 v1 v2 v3) (G' m v1 v2 v3)) (R : RP o c m u) {v1 : Int32} {v2 : Int32} {v3 : Int32} : RF 0 o VE c u (fb_Co_seek_32 N G u 22 v1 v2 v3) (hb_Co_seek_32 N G' m v1 v2 v3) := by
  unfold fb_Co_seek_32 hb_Co_seek_32
  exact (hG _ _ _ _ _ _ R)
theorem yb_Co_seek_2 {N : Nat} {o : Option Nat} {c : Nat → Nat} {m : MS} {u : CS} {G : (CS → Nat → Int32 → Int32 → Int32 → Option (CS × Int32))} {G' : (MS → Int32 → Int32 → Int32 → Option (MS × Int32))} (hG : ∀ (c : Nat → Nat) (m : MS) (u : CS) (v1 : Int32) (v2 : Int32) (v3 : Int32), RP o c m u → RF 0 o VE c u (G u 22 v1 v2 v3) (G' m v1 v2 v3)) (R : RP o c m u) {v1 : Int32} {v2 : Int32} {v3 : Int32} : RF 0 o VE c u (fb_Co_seek_2 N G u 22 v1 v2 v3) (hb_Co_seek_2 N G' m v1 v2 v3) := by
  unfold fb_Co_seek_2 hb_Co_seek_2
  refine rf_bo (gx_22_2 R) ?_
  refine rf_br ?_ ?_
  · exact rf_ret R rfl
  · refine rf_bo (rx_22_3 R) ?_
    refine rf_so ?_
    refine rf_ai (ax_24 R) ?_
    refine rf_br ?_ ?_
    · refine rf_bo (rx_22_4 R) ?_
      refine rf_so ?_
      refine rf_ai (ax_25 R) ?_
      refine rf_br ?_ ?_
      · exact rf_ret R rfl
      · exact (yb_Co_seek_32 hG R)
    · exact (yb_Co_seek_32 hG R)
theorem yb_Co_seek_0 {N : Nat} {o : Option Nat} {c : Nat → Nat} {m : MS} {u : CS} {G : (CS → Nat → Int32 → Int32 → Int32 → Option (CS × Int32))} {G' : (MS → Int32 → Int32 → Int32 → Option (MS × Int32))} (hG : ∀ (c : Nat → Nat) (m : MS) (u : CS) (v1 : Int32) (v2 : Int32) (v3 : Int32), RP o c m u → RF 0 o VE c u (G u 22 v1 v2 v3) (G' m v1 v2 v3)) (R : RP o c m u) {v1 : Int32} {v2 : Int32} : RF 0 o VE c u (fb_Co_seek_0 N G u 22 v1 v2) (hb_Co_seek_0 N G' m v1 v2) := by
  unfold fb_Co_seek_0 hb_Co_seek_0
  exact (hG _ _ _ _ _ _ R)
theorem yg_Co_seek {N : Nat} {o : Option Nat} : ∀ n, (∀ (c : Nat → Nat) (m : MS) (u : CS) (v1 : Int32) (v2 : Int32) (v3 : Int32), RP o c m u → RF 0 o VE c u ((gg_Co_seek N n) u 22 v1 v2 v3) ((hg_Co_seek N n) m v1 v2 v3)) := by
  intro n
  induction n with
  | zero => exact fun c m u v1 v2 v3 R => rf_none
  | succ n ih => exact fun c m u v1 v2 v3 R => yb_Co_seek_2 (N := N) ih R
theorem ym_Co_seek {N : Nat} {o : Option Nat} {c : Nat → Nat} {m : MS} {u : CS} (R : RP o c m u) {v1 : Int32} {v2 : Int32} : RF 0 o VE c u (fm_Co_seek N u 22 v1 v2) (hm_Co_seek N m v1 v2) := yb_Co_seek_0 (N := N) (yg_Co_seek (N := N) N) R
theorem yb_Wo_seekIn_45 {N : Nat} {o : Option Nat} {c : Nat → Nat} {m : MS} {u : CS} (R : RP o c m u) {t0 : Int32} : RF 0 o VE c u (fb_Wo_seekIn_45 N () u t0) (hb_Wo_seekIn_45 N () m t0) := by
  unfold fb_Wo_seekIn_45 hb_Wo_seekIn_45
  exact rf_ret R rfl
theorem yb_Wo_seekIn_12 {N : Nat} {o : Option Nat} {c : Nat → Nat} {m : MS} {u : CS} (R : RP o c m u) : RF 0 o VE c u (fb_Wo_seekIn_12 N () u) (hb_Wo_seekIn_12 N () m) := by
  unfold fb_Wo_seekIn_12 hb_Wo_seekIn_12
  exact (yb_Wo_seekIn_45 R)
theorem yb_Wo_seekIn_0 {N : Nat} {o : Option Nat} {c : Nat → Nat} {m : MS} {u : CS} (R : RP o c m u) {v0 : Nat} {v1 : Nat} {v2 : Int32} (h_v0 : isWd v0) (h_v1 : isWd v1) : RF 0 o VE c u (fb_Wo_seekIn_0 N () u v0 (some v1) v2) (hb_Wo_seekIn_0 N () m v0 v1 v2) := by
  unfold fb_Wo_seekIn_0 hb_Wo_seekIn_0
  refine rf_br ?_ ?_
  · exact (yb_Wo_seekIn_12 R)
  · refine rf_bo (gi_W2 R h_v0) ?_
    refine rf_br ?_ ?_
    · refine rf_bo (gr_W0 R h_v0) ?_
      refine rf_bo (gr_W1 R h_v0) ?_
      refine rf_so ?_
      refine rf_ai (ai_W R h_v0) ?_
      refine rf_bo (gr_W1 R h_v0) ?_
      refine rf_so ?_
      refine rf_ai (ai_W R h_v0) ?_
      refine rf_bo (gr_W1 R h_v0) ?_
      refine rf_so ?_
      refine rf_ai (ai_W R h_v0) ?_
      refine rf_so ?_
      refine rf_ck (io_W R h_v1) ?_
      refine rf_bx0 (ym_Wo_seek R h_v1 (By_w h_v0)) (fun u12' u12 r12 R_u12 => ?_)
      exact (yb_Wo_seekIn_45 R_u12)
    · exact (yb_Wo_seekIn_12 R)
theorem ym_Wo_seekIn {N : Nat} {o : Option Nat} {c : Nat → Nat} {m : MS} {u : CS} (R : RP o c m u) {v0 : Nat} {v1 : Nat} {v2 : Int32} (h_v0 : isWd v0) (h_v1 : isWd v1) : RF 0 o VE c u (fm_Wo_seekIn N u v0 (some v1) v2) (hm_Wo_seekIn N m v0 v1 v2) := yb_Wo_seekIn_0 (N := N) R h_v0 h_v1
theorem yb_Co_put_30 {N : Nat} {o : Option Nat} {c : Nat → Nat} {m : MS} {u : CS} (R : RP o c m u) : RF 0 o VE c u (fb_Co_put_30 N () u) (hb_Co_put_30 N () m) := by
  unfold fb_Co_put_30 hb_Co_put_30
  exact rf_ret R rfl
theorem yb_Co_put_0 {N : Nat} {o : Option Nat} {c : Nat → Nat} {m : MS} {u : CS} (R : RP o c m u) {v1 : Int32} : RF 0 o VE c u (fb_Co_put_0 N () u 22 v1) (hb_Co_put_0 N () m v1) := by
  unfold fb_Co_put_0 hb_Co_put_0
  refine rf_bo (gx_22_1 R) ?_
  refine rf_br ?_ ?_
  · exact (yb_Co_put_30 R)
  · refine rf_bo (rx_22_0 R) ?_
    refine rf_bo (gx_22_1 R) ?_
    refine rf_so ?_
    refine rf_wk (sx_23 R) (fun w5' w5 R_w5 => ?_)
    refine rf_bo (gx_22_1 R_w5) ?_
    refine rf_w (px_22_1 R_w5) (fun w7' w7 R_w7 => ?_)
    exact (yb_Co_put_30 R_w7)
theorem ym_Co_put {N : Nat} {o : Option Nat} {c : Nat → Nat} {m : MS} {u : CS} (R : RP o c m u) {v1 : Int32} : RF 0 o VE c u (fm_Co_put N u 22 v1) (hm_Co_put N m v1) := yb_Co_put_0 (N := N) R
theorem yb_Co_hook_0 {N : Nat} {o : Option Nat} {c : Nat → Nat} {m : MS} {u : CS} (R : RP o c m u) {v1 : Int32} : RF 0 o VE c u (fb_Co_hook_0 N () u 22 v1) (hb_Co_hook_0 N () m v1) := by
  unfold fb_Co_hook_0 hb_Co_hook_0
  refine rf_ck (ox_22 R) ?_
  refine rf_bx0 (ym_Co_put R) (fun u1' u1 r1 R_u1 => ?_)
  refine rf_bo (gx_22_1 R_u1) ?_
  exact rf_ret R_u1 rfl
theorem ym_Co_hook {N : Nat} {o : Option Nat} {c : Nat → Nat} {m : MS} {u : CS} (R : RP o c m u) {v1 : Int32} : RF 0 o VE c u (fm_Co_hook N u 22 v1) (hm_Co_hook N m v1) := yb_Co_hook_0 (N := N) R
theorem yb_Cm_term_0 {N : Nat} {o : Option Nat} {c : Nat → Nat} {m : MS} {u : CS} (R : RP o c m u) {v1 : Int32} {v2 : Int32} : RF 0 o VE c u (fb_Cm_term_0 N () u 35 v1 v2) (hb_Cm_term_0 N () m v1 v2) := by
  unfold fb_Cm_term_0 hb_Cm_term_0
  refine rf_bo (rx_35_2 R) ?_
  refine rf_so ?_
  refine rf_ck (ox_22 R) ?_
  refine rf_bx0 (ym_Co_put R) (fun u2' u2 r2 R_u2 => ?_)
  refine rf_bo (rx_35_2 R_u2) ?_
  refine rf_so ?_
  refine rf_ck (ox_22 R_u2) ?_
  refine rf_bx0 (ym_Co_put R_u2) (fun u5' u5 r5 R_u5 => ?_)
  exact rf_ret R_u5 rfl
theorem ym_Cm_term {N : Nat} {o : Option Nat} {c : Nat → Nat} {m : MS} {u : CS} (R : RP o c m u) {v1 : Int32} {v2 : Int32} : RF 0 o VE c u (fm_Cm_term N u 35 v1 v2) (hm_Cm_term N m v1 v2) := yb_Cm_term_0 (N := N) R
theorem yb_Cm_string_50 {N : Nat} {o : Option Nat} {c : Nat → Nat} {m : MS} {u : CS} {G : (CS → Nat → Int32 → Int32 → Option (CS × Unit)) × (CS → Nat → Int32 → Int32 → Int32 → Option (CS × Unit))} {G' : (MS → Int32 → Int32 → Option (MS × Unit)) × (MS → Int32 → Int32 → Int32 → Option (MS × Unit))} (hG1 : ∀ (c : Nat → Nat) (m : MS) (u : CS) (v2 : Int32) (v3 : Int32), RP o c m u → RF 0 o VE c u (G.1 u 35 v2 v3) (G'.1 m v2 v3)) (hG2 : ∀ (c : Nat → Nat) (m : MS) (u : CS) (v2 : Int32) (v3 : Int32) (v4 : Int32), RP o c m u → RF 0 o VE c u (G.2 u 35 v2 v3 v4) (G'.2 m v2 v3 v4)) (R : RP o c m u) {v2 : Int32} {v3 : Int32} {v4 : Int32} : RF 0 o VE c u (fb_Cm_string_50 N G u 35 v2 v3 v4) (hb_Cm_string_50 N G' m v2 v3 v4) := by
  unfold fb_Cm_string_50 hb_Cm_string_50
  refine rf_br ?_ ?_
  · exact rf_ret R rfl
  · refine rf_bo (rx_35_2 R) ?_
    refine rf_bo (rx_35_0 R) ?_
    refine rf_so ?_
    refine rf_ck (ox_4 R) ?_
    refine rf_bx0 (ym_To_signAt R) (fun u3' u3 r3 R_u3 => ?_)
    refine rf_so ?_
    refine rf_ck (ox_22 R_u3) ?_
    refine rf_bx0 (ym_Co_put R_u3) (fun u5' u5 r5 R_u5 => ?_)
    exact (hG2 _ _ _ _ _ _ R_u5)
theorem yb_Cm_string_39 {N : Nat} {o : Option Nat} {c : Nat → Nat} {m : MS} {u : CS} {G : (CS → Nat → Int32 → Int32 → Option (CS × Unit)) × (CS → Nat → Int32 → Int32 → Int32 → Option (CS × Unit))} {G' : (MS → Int32 → Int32 → Option (MS × Unit)) × (MS → Int32 → Int32 → Int32 → Option (MS × Unit))} (hG1 : ∀ (c : Nat → Nat) (m : MS) (u : CS) (v2 : Int32) (v3 : Int32), RP o c m u → RF 0 o VE c u (G.1 u 35 v2 v3) (G'.1 m v2 v3)) (hG2 : ∀ (c : Nat → Nat) (m : MS) (u : CS) (v2 : Int32) (v3 : Int32) (v4 : Int32), RP o c m u → RF 0 o VE c u (G.2 u 35 v2 v3 v4) (G'.2 m v2 v3 v4)) (R : RP o c m u) {v2 : Int32} {v3 : Int32} : RF 0 o VE c u (fb_Cm_string_39 N G u 35 v2 v3) (hb_Cm_string_39 N G' m v2 v3) := by
  unfold fb_Cm_string_39 hb_Cm_string_39
  refine rf_bo (rx_35_2 R) ?_
  refine rf_so ?_
  refine rf_ck (ox_22 R) ?_
  refine rf_bx0 (ym_Co_put R) (fun u8' u8 r8 R_u8 => ?_)
  exact (hG2 _ _ _ _ _ _ R_u8)
theorem yb_Cm_string_12 {N : Nat} {o : Option Nat} {c : Nat → Nat} {m : MS} {u : CS} {G : (CS → Nat → Int32 → Int32 → Option (CS × Unit)) × (CS → Nat → Int32 → Int32 → Int32 → Option (CS × Unit))} {G' : (MS → Int32 → Int32 → Option (MS × Unit)) × (MS → Int32 → Int32 → Int32 → Option (MS × Unit))} (hG1 : ∀ (c : Nat → Nat) (m : MS) (u : CS) (v2 : Int32) (v3 : Int32), RP o c m u → RF 0 o VE c u (G.1 u 35 v2 v3) (G'.1 m v2 v3)) (hG2 : ∀ (c : Nat → Nat) (m : MS) (u : CS) (v2 : Int32) (v3 : Int32) (v4 : Int32), RP o c m u → RF 0 o VE c u (G.2 u 35 v2 v3 v4) (G'.2 m v2 v3 v4)) (R : RP o c m u) {v2 : Int32} {v3 : Int32} : RF 0 o VE c u (fb_Cm_string_12 N G u 35 v2 v3) (hb_Cm_string_12 N G' m v2 v3) := by
  unfold fb_Cm_string_12 hb_Cm_string_12
  refine rf_br ?_ ?_
  · exact (yb_Cm_string_39 hG1 hG2 R)
  · refine rf_bo (rx_35_0 R) ?_
    refine rf_so ?_
    refine rf_ck (ox_4 R) ?_
    refine rf_bx0 (ym_To_signAt R) (fun u11' u11 r11 R_u11 => ?_)
    refine rf_br ?_ ?_
    · exact (yb_Cm_string_39 hG1 hG2 R_u11)
    · exact (hG1 _ _ _ _ _ R_u11)
theorem yb_Cm_string_0 {N : Nat} {o : Option Nat} {c : Nat → Nat} {m : MS} {u : CS} {G : (CS → Nat → Int32 → Int32 → Option (CS × Unit)) × (CS → Nat → Int32 → Int32 → Int32 → Option (CS × Unit))} {G' : (MS → Int32 → Int32 → Option (MS × Unit)) × (MS → Int32 → Int32 → Int32 → Option (MS × Unit))} (hG1 : ∀ (c : Nat → Nat) (m : MS) (u : CS) (v2 : Int32) (v3 : Int32), RP o c m u → RF 0 o VE c u (G.1 u 35 v2 v3) (G'.1 m v2 v3)) (hG2 : ∀ (c : Nat → Nat) (m : MS) (u : CS) (v2 : Int32) (v3 : Int32) (v4 : Int32), RP o c m u → RF 0 o VE c u (G.2 u 35 v2 v3 v4) (G'.2 m v2 v3 v4)) (R : RP o c m u) {v1 : Int32} : RF 0 o VE c u (fb_Cm_string_0 N G u 35 v1) (hb_Cm_string_0 N G' m v1) := by
  unfold fb_Cm_string_0 hb_Cm_string_0
  refine rf_bo (rx_35_1 R) ?_
  refine rf_so ?_
  refine rf_bo (rx_15_2 R) ?_
  refine rf_so ?_
  refine rf_ai (ax_18 R) ?_
  exact (hG1 _ _ _ _ _ R)
theorem yg_Cm_string {N : Nat} {o : Option Nat} : ∀ n, (∀ (c : Nat → Nat) (m : MS) (u : CS) (v2 : Int32) (v3 : Int32), RP o c m u → RF 0 o VE c u ((gg_Cm_string N n).1 u 35 v2 v3) ((hg_Cm_string N n).1 m v2 v3)) ∧ (∀ (c : Nat → Nat) (m : MS) (u : CS) (v2 : Int32) (v3 : Int32) (v4 : Int32), RP o c m u → RF 0 o VE c u ((gg_Cm_string N n).2 u 35 v2 v3 v4) ((hg_Cm_string N n).2 m v2 v3 v4)) := by
  intro n
  induction n with
  | zero => exact ⟨fun c m u v2 v3 R => rf_none, fun c m u v2 v3 v4 R => rf_none⟩
  | succ n ih => exact ⟨fun c m u v2 v3 R => yb_Cm_string_12 (N := N) ih.1 ih.2 R, fun c m u v2 v3 v4 R => yb_Cm_string_50 (N := N) ih.1 ih.2 R⟩
theorem ym_Cm_string {N : Nat} {o : Option Nat} {c : Nat → Nat} {m : MS} {u : CS} (R : RP o c m u) {v1 : Int32} : RF 0 o VE c u (fm_Cm_string N u 35 v1) (hm_Cm_string N m v1) := yb_Cm_string_0 (N := N) (yg_Cm_string (N := N) N).1 (yg_Cm_string (N := N) N).2 R
theorem yb_Cm_isBound_54 {N : Nat} {o : Option Nat} {c : Nat → Nat} {m : MS} {u : CS} {G : (CS → Nat → Int32 → Int32 → Int32 → Int32 → Option (CS × Int32)) × (CS → Nat → Int32 → Int32 → Int32 → Option (CS × Int32))} {G' : (MS → Int32 → Int32 → Int32 → Int32 → Option (MS × Int32)) × (MS → Int32 → Int32 → Int32 → Option (MS × Int32))} (hG1 : ∀ (c : Nat → Nat) (m : MS) (u : CS) (v1 : Int32) (v2 : Int32) (v3 : Int32) (v4 : Int32), RP o c m u → RF 0 o VE c u (G.1 u 35 v1 v2 v3 v4) (G'.1 m v1 v2 v3 v4)) (hG2 : ∀ (c : Nat → Nat) (m : MS) (u : CS) (v2 : Int32) (v4 : Int32) (v5 : Int32), RP o c m u → RF 0 o VE c u (G.2 u 35 v2 v4 v5) (G'.2 m v2 v4 v5)) (R : RP o c m u) {v2 : Int32} {v5 : Int32} : RF 0 o VE c u (fb_Cm_isBound_54 N G u 35 v2 v5) (hb_Cm_isBound_54 N G' m v2 v5) := by
  unfold fb_Cm_isBound_54 hb_Cm_isBound_54
  refine rf_bo (rx_35_10 R) ?_
  refine rf_so ?_
  refine rf_wk (sx_42 R) (fun w3' w3 R_w3 => ?_)
  refine rf_ckk ?_
  exact rf_ret R_w3 rfl
theorem yb_Cm_isBound_31 {N : Nat} {o : Option Nat} {c : Nat → Nat} {m : MS} {u : CS} {G : (CS → Nat → Int32 → Int32 → Int32 → Int32 → Option (CS × Int32)) × (CS → Nat → Int32 → Int32 → Int32 → Option (CS × Int32))} {G' : (MS → Int32 → Int32 → Int32 → Int32 → Option (MS × Int32)) × (MS → Int32 → Int32 → Int32 → Option (MS × Int32))} (hG1 : ∀ (c : Nat → Nat) (m : MS) (u : CS) (v1 : Int32) (v2 : Int32) (v3 : Int32) (v4 : Int32), RP o c m u → RF 0 o VE c u (G.1 u 35 v1 v2 v3 v4) (G'.1 m v1 v2 v3 v4)) (hG2 : ∀ (c : Nat → Nat) (m : MS) (u : CS) (v2 : Int32) (v4 : Int32) (v5 : Int32), RP o c m u → RF 0 o VE c u (G.2 u 35 v2 v4 v5) (G'.2 m v2 v4 v5)) (R : RP o c m u) {v2 : Int32} {v4 : Int32} {v5 : Int32} : RF 0 o VE c u (fb_Cm_isBound_31 N G u 35 v2 v4 v5) (hb_Cm_isBound_31 N G' m v2 v4 v5) := by
  unfold fb_Cm_isBound_31 hb_Cm_isBound_31
  refine rf_br ?_ ?_
  · exact (yb_Cm_isBound_54 hG1 hG2 R)
  · refine rf_bo (rx_35_7 R) ?_
    refine rf_so ?_
    refine rf_ai (ax_40 R) ?_
    refine rf_br ?_ ?_
    · exact (yb_Cm_isBound_54 hG1 hG2 R)
    · exact (hG2 _ _ _ _ _ _ R)
theorem yb_Cm_isBound_8 {N : Nat} {o : Option Nat} {c : Nat → Nat} {m : MS} {u : CS} {G : (CS → Nat → Int32 → Int32 → Int32 → Int32 → Option (CS × Int32)) × (CS → Nat → Int32 → Int32 → Int32 → Option (CS × Int32))} {G' : (MS → Int32 → Int32 → Int32 → Int32 → Option (MS × Int32)) × (MS → Int32 → Int32 → Int32 → Option (MS × Int32))} (hG1 : ∀ (c : Nat → Nat) (m : MS) (u : CS) (v1 : Int32) (v2 : Int32) (v3 : Int32) (v4 : Int32), RP o c m u → RF 0 o VE c u (G.1 u 35 v1 v2 v3 v4) (G'.1 m v1 v2 v3 v4)) (hG2 : ∀ (c : Nat → Nat) (m : MS) (u : CS) (v2 : Int32) (v4 : Int32) (v5 : Int32), RP o c m u → RF 0 o VE c u (G.2 u 35 v2 v4 v5) (G'.2 m v2 v4 v5)) (R : RP o c m u) {v1 : Int32} {v2 : Int32} {v3 : Int32} {v4 : Int32} : RF 0 o VE c u (fb_Cm_isBound_8 N G u 35 v1 v2 v3 v4) (hb_Cm_isBound_8 N G' m v1 v2 v3 v4) := by
  unfold fb_Cm_isBound_8 hb_Cm_isBound_8
  refine rf_br ?_ ?_
  · refine rf_ckk ?_
    exact rf_ret R rfl
  · refine rf_bo (rx_35_5 R) ?_
    refine rf_so ?_
    refine rf_ai (ax_39 R) ?_
    refine rf_br ?_ ?_
    · refine rf_bo (gx_35_9 R) ?_
      exact (hG2 _ _ _ _ _ _ R)
    · exact (hG1 _ _ _ _ _ _ _ R)
theorem yb_Cm_isBound_0 {N : Nat} {o : Option Nat} {c : Nat → Nat} {m : MS} {u : CS} {G : (CS → Nat → Int32 → Int32 → Int32 → Int32 → Option (CS × Int32)) × (CS → Nat → Int32 → Int32 → Int32 → Option (CS × Int32))} {G' : (MS → Int32 → Int32 → Int32 → Int32 → Option (MS × Int32)) × (MS → Int32 → Int32 → Int32 → Option (MS × Int32))} (hG1 : ∀ (c : Nat → Nat) (m : MS) (u : CS) (v1 : Int32) (v2 : Int32) (v3 : Int32) (v4 : Int32), RP o c m u → RF 0 o VE c u (G.1 u 35 v1 v2 v3 v4) (G'.1 m v1 v2 v3 v4)) (hG2 : ∀ (c : Nat → Nat) (m : MS) (u : CS) (v2 : Int32) (v4 : Int32) (v5 : Int32), RP o c m u → RF 0 o VE c u (G.2 u 35 v2 v4 v5) (G'.2 m v2 v4 v5)) (R : RP o c m u) {v1 : Int32} {v2 : Int32} {v3 : Int32} : RF 0 o VE c u (fb_Cm_isBound_0 N G u 35 v1 v2 v3) (hb_Cm_isBound_0 N G' m v1 v2 v3) := by
  unfold fb_Cm_isBound_0 hb_Cm_isBound_0
  refine rf_bo (gx_35_6 R) ?_
  exact (hG1 _ _ _ _ _ _ _ R)
theorem yg_Cm_isBound {N : Nat} {o : Option Nat} : ∀ n, (∀ (c : Nat → Nat) (m : MS) (u : CS) (v1 : Int32) (v2 : Int32) (v3 : Int32) (v4 : Int32), RP o c m u → RF 0 o VE c u ((gg_Cm_isBound N n).1 u 35 v1 v2 v3 v4) ((hg_Cm_isBound N n).1 m v1 v2 v3 v4)) ∧ (∀ (c : Nat → Nat) (m : MS) (u : CS) (v2 : Int32) (v4 : Int32) (v5 : Int32), RP o c m u → RF 0 o VE c u ((gg_Cm_isBound N n).2 u 35 v2 v4 v5) ((hg_Cm_isBound N n).2 m v2 v4 v5)) := by
  intro n
  induction n with
  | zero => exact ⟨fun c m u v1 v2 v3 v4 R => rf_none, fun c m u v2 v4 v5 R => rf_none⟩
  | succ n ih => exact ⟨fun c m u v1 v2 v3 v4 R => yb_Cm_isBound_8 (N := N) ih.1 ih.2 R, fun c m u v2 v4 v5 R => yb_Cm_isBound_31 (N := N) ih.1 ih.2 R⟩
theorem ym_Cm_isBound {N : Nat} {o : Option Nat} {c : Nat → Nat} {m : MS} {u : CS} (R : RP o c m u) {v1 : Int32} {v2 : Int32} {v3 : Int32} : RF 0 o VE c u (fm_Cm_isBound N u 35 v1 v2 v3) (hm_Cm_isBound N m v1 v2 v3) := yb_Cm_isBound_0 (N := N) (yg_Cm_isBound (N := N) N).1 (yg_Cm_isBound (N := N) N).2 R
theorem yb_Cm_forget_30 {N : Nat} {o : Option Nat} {c : Nat → Nat} {m : MS} {u : CS} (R : RP o c m u) {v1 : Int32} : RF 0 o VE c u (fb_Cm_forget_30 N () u 35 v1) (hb_Cm_forget_30 N () m v1) := by
  unfold fb_Cm_forget_30 hb_Cm_forget_30
  refine rf_w (px_35_6 R) (fun w1' w1 R_w1 => ?_)
  exact rf_ret R_w1 rfl
theorem yb_Cm_forget_0 {N : Nat} {o : Option Nat} {c : Nat → Nat} {m : MS} {u : CS} (R : RP o c m u) {v1 : Int32} : RF 0 o VE c u (fb_Cm_forget_0 N () u 35 v1) (hb_Cm_forget_0 N () m v1) := by
  unfold fb_Cm_forget_0 hb_Cm_forget_0
  refine rf_bo (gx_35_6 R) ?_
  refine rf_br ?_ ?_
  · exact (yb_Cm_forget_30 R)
  · refine rf_bo (rx_35_2 R) ?_
    refine rf_so ?_
    refine rf_ck (ox_22 R) ?_
    refine rf_bx0 (ym_Co_put R) (fun u4' u4 r4 R_u4 => ?_)
    refine rf_bo (rx_35_2 R_u4) ?_
    refine rf_bo (gx_35_6 R_u4) ?_
    refine rf_so ?_
    refine rf_ck (ox_22 R_u4) ?_
    refine rf_bx0 (ym_Co_put R_u4) (fun u8' u8 r8 R_u8 => ?_)
    exact (yb_Cm_forget_30 R_u8)
theorem ym_Cm_forget {N : Nat} {o : Option Nat} {c : Nat → Nat} {m : MS} {u : CS} (R : RP o c m u) {v1 : Int32} : RF 0 o VE c u (fm_Cm_forget N u 35 v1) (hm_Cm_forget N m v1) := yb_Cm_forget_0 (N := N) R
end
section
set_option maxRecDepth 100000
theorem yb_Co_at_21 {N : Nat} {o : Option Nat} {c : Nat → Nat} {m : MS} {u : CS} (R : RP o c m u) {t0 : Int32} : RF 0 o VE c u (fb_Co_at_21 N () u t0) (hb_Co_at_21 N () m t0) := by
  unfold fb_Co_at_21 hb_Co_at_21
  exact rf_ret R rfl
theorem yb_Co_at_11 {N : Nat} {o : Option Nat} {c : Nat → Nat} {m : MS} {u : CS} (R : RP o c m u) : RF 0 o VE c u (fb_Co_at_11 N () u) (hb_Co_at_11 N () m) := by
  unfold fb_Co_at_11 hb_Co_at_11
  exact (yb_Co_at_21 R)
theorem yb_Co_at_0 {N : Nat} {o : Option Nat} {c : Nat → Nat} {m : MS} {u : CS} (R : RP o c m u) {v1 : Int32} : RF 0 o VE c u (fb_Co_at_0 N () u 22 v1) (hb_Co_at_0 N () m v1) := by
  unfold fb_Co_at_0 hb_Co_at_0
  refine rf_br ?_ ?_
  · exact (yb_Co_at_11 R)
  · refine rf_br ?_ ?_
    · refine rf_bo (rx_22_0 R) ?_
      refine rf_so ?_
      refine rf_ai (ax_23 R) ?_
      exact (yb_Co_at_21 R)
    · exact (yb_Co_at_11 R)
theorem ym_Co_at {N : Nat} {o : Option Nat} {c : Nat → Nat} {m : MS} {u : CS} (R : RP o c m u) {v1 : Int32} : RF 0 o VE c u (fm_Co_at N u 22 v1) (hm_Co_at N m v1) := yb_Co_at_0 (N := N) R
theorem yb_Co_set_18 {N : Nat} {o : Option Nat} {c : Nat → Nat} {m : MS} {u : CS} (R : RP o c m u) : RF 0 o VE c u (fb_Co_set_18 N () u) (hb_Co_set_18 N () m) := by
  unfold fb_Co_set_18 hb_Co_set_18
  exact rf_ret R rfl
theorem yb_Co_set_0 {N : Nat} {o : Option Nat} {c : Nat → Nat} {m : MS} {u : CS} (R : RP o c m u) {v1 : Int32} {v2 : Int32} : RF 0 o VE c u (fb_Co_set_0 N () u 22 v1 v2) (hb_Co_set_0 N () m v1 v2) := by
  unfold fb_Co_set_0 hb_Co_set_0
  refine rf_br ?_ ?_
  · exact (yb_Co_set_18 R)
  · refine rf_br ?_ ?_
    · exact (yb_Co_set_18 R)
    · refine rf_bo (rx_22_0 R) ?_
      refine rf_so ?_
      refine rf_wk (sx_23 R) (fun w3' w3 R_w3 => ?_)
      exact (yb_Co_set_18 R_w3)
theorem ym_Co_set {N : Nat} {o : Option Nat} {c : Nat → Nat} {m : MS} {u : CS} (R : RP o c m u) {v1 : Int32} {v2 : Int32} : RF 0 o VE c u (fm_Co_set N u 22 v1 v2) (hm_Co_set N m v1 v2) := yb_Co_set_0 (N := N) R
theorem yb_Co_arrive_40 {N : Nat} {o : Option Nat} {c : Nat → Nat} {m : MS} {u : CS} {G : (CS → Nat → Int32 → Int32 → Option (CS × Unit))} {G' : (MS → Int32 → Int32 → Option (MS × Unit))} (hG : ∀ (c : Nat → Nat) (m : MS) (u : CS) (v2 : Int32) (v3 : Int32), RP o c m u → RF 0 o VE c u (G u 22 v2 v3) (G' m v2 v3)) (R : RP o c m u) : RF 0 o VE c u (fb_Co_arrive_40 N G u) (hb_Co_arrive_40 N G' m) := by
  unfold fb_Co_arrive_40 hb_Co_arrive_40
  exact rf_ret R rfl
theorem yb_Co_arrive_4 {N : Nat} {o : Option Nat} {c : Nat → Nat} {m : MS} {u : CS} {G : (CS → Nat → Int32 → Int32 → Option (CS × Unit))} {G' : (MS → Int32 → Int32 → Option (MS × Unit))} (hG : ∀ (c : Nat → Nat) (m : MS) (u : CS) (v2 : Int32) (v3 : Int32), RP o c m u → RF 0 o VE c u (G u 22 v2 v3) (G' m v2 v3)) (R : RP o c m u) {v2 : Int32} {v3 : Int32} : RF 0 o VE c u (fb_Co_arrive_4 N G u 22 v2 v3) (hb_Co_arrive_4 N G' m v2 v3) := by
  unfold fb_Co_arrive_4 hb_Co_arrive_4
  refine rf_br ?_ ?_
  · exact (yb_Co_arrive_40 hG R)
  · refine rf_br ?_ ?_
    · exact (yb_Co_arrive_40 hG R)
    · refine rf_ck (ox_22 R) ?_
      refine rf_bx0 (ym_Co_at R) (fun u1' u1 r1 R_u1 => ?_)
      refine rf_bo (gx_22_1 R_u1) ?_
      refine rf_ck (ox_22 R_u1) ?_
      refine rf_bx0 (ym_Co_set R_u1) (fun u3' u3 r3 R_u3 => ?_)
      exact (hG _ _ _ _ _ R_u3)
theorem yb_Co_arrive_0 {N : Nat} {o : Option Nat} {c : Nat → Nat} {m : MS} {u : CS} {G : (CS → Nat → Int32 → Int32 → Option (CS × Unit))} {G' : (MS → Int32 → Int32 → Option (MS × Unit))} (hG : ∀ (c : Nat → Nat) (m : MS) (u : CS) (v2 : Int32) (v3 : Int32), RP o c m u → RF 0 o VE c u (G u 22 v2 v3) (G' m v2 v3)) (R : RP o c m u) {v1 : Int32} : RF 0 o VE c u (fb_Co_arrive_0 N G u 22 v1) (hb_Co_arrive_0 N G' m v1) := by
  unfold fb_Co_arrive_0 hb_Co_arrive_0
  exact (hG _ _ _ _ _ R)
theorem yg_Co_arrive {N : Nat} {o : Option Nat} : ∀ n, (∀ (c : Nat → Nat) (m : MS) (u : CS) (v2 : Int32) (v3 : Int32), RP o c m u → RF 0 o VE c u ((gg_Co_arrive N n) u 22 v2 v3) ((hg_Co_arrive N n) m v2 v3)) := by
  intro n
  induction n with
  | zero => exact fun c m u v2 v3 R => rf_none
  | succ n ih => exact fun c m u v2 v3 R => yb_Co_arrive_4 (N := N) ih R
theorem ym_Co_arrive {N : Nat} {o : Option Nat} {c : Nat → Nat} {m : MS} {u : CS} (R : RP o c m u) {v1 : Int32} : RF 0 o VE c u (fm_Co_arrive N u 22 v1) (hm_Co_arrive N m v1) := yb_Co_arrive_0 (N := N) (yg_Co_arrive (N := N) N) R
theorem yb_Cm_hold_113 {N : Nat} {o : Option Nat} {c : Nat → Nat} {m : MS} {u : CS} {G : (CS → Nat → Int32 → Int32 → Int32 → Option (CS × Int32)) × (CS → Nat → Int32 → Int32 → Int32 → Int32 → Int32 → Option (CS × Int32))} {G' : (MS → Int32 → Int32 → Int32 → Option (MS × Int32)) × (MS → Int32 → Int32 → Int32 → Int32 → Int32 → Option (MS × Int32))} (hG1 : ∀ (c : Nat → Nat) (m : MS) (u : CS) (v2 : Int32) (v3 : Int32) (v4 : Int32), RP o c m u → RF 0 o VE c u (G.1 u 35 v2 v3 v4) (G'.1 m v2 v3 v4)) (hG2 : ∀ (c : Nat → Nat) (m : MS) (u : CS) (v2 : Int32) (v3 : Int32) (v4 : Int32) (v5 : Int32) (v6 : Int32), RP o c m u → RF 0 o VE c u (G.2 u 35 v2 v3 v4 v5 v6) (G'.2 m v2 v3 v4 v5 v6)) (R : RP o c m u) {v2 : Int32} {v3 : Int32} {v4 : Int32} : RF 0 o VE c u (fb_Cm_hold_113 N G u 35 v2 v3 v4) (hb_Cm_hold_113 N G' m v2 v3 v4) := by
  unfold fb_Cm_hold_113 hb_Cm_hold_113
  exact (hG1 _ _ _ _ _ _ R)
theorem yb_Cm_hold_92 {N : Nat} {o : Option Nat} {c : Nat → Nat} {m : MS} {u : CS} {G : (CS → Nat → Int32 → Int32 → Int32 → Option (CS × Int32)) × (CS → Nat → Int32 → Int32 → Int32 → Int32 → Int32 → Option (CS × Int32))} {G' : (MS → Int32 → Int32 → Int32 → Option (MS × Int32)) × (MS → Int32 → Int32 → Int32 → Int32 → Int32 → Option (MS × Int32))} (hG1 : ∀ (c : Nat → Nat) (m : MS) (u : CS) (v2 : Int32) (v3 : Int32) (v4 : Int32), RP o c m u → RF 0 o VE c u (G.1 u 35 v2 v3 v4) (G'.1 m v2 v3 v4)) (hG2 : ∀ (c : Nat → Nat) (m : MS) (u : CS) (v2 : Int32) (v3 : Int32) (v4 : Int32) (v5 : Int32) (v6 : Int32), RP o c m u → RF 0 o VE c u (G.2 u 35 v2 v3 v4 v5 v6) (G'.2 m v2 v3 v4 v5 v6)) (R : RP o c m u) {v2 : Int32} {v3 : Int32} {v4 : Int32} {v5 : Int32} {v6 : Int32} : RF 0 o VE c u (fb_Cm_hold_92 N G u 35 v2 v3 v4 v5 v6) (hb_Cm_hold_92 N G' m v2 v3 v4 v5 v6) := by
  unfold fb_Cm_hold_92 hb_Cm_hold_92
  refine rf_bo (rx_35_2 R) ?_
  refine rf_so ?_
  refine rf_bo (gx_22_1 R) ?_
  refine rf_br ?_ ?_
  · refine rf_bo (rx_35_2 R) ?_
    refine rf_so ?_
    refine rf_ck (ox_22 R) ?_
    refine rf_bx0 (ym_Co_put R) (fun u5' u5 r5 R_u5 => ?_)
    exact (yb_Cm_hold_113 hG1 hG2 R_u5)
  · exact (yb_Cm_hold_113 hG1 hG2 R)
theorem yb_Cm_hold_60 {N : Nat} {o : Option Nat} {c : Nat → Nat} {m : MS} {u : CS} {G : (CS → Nat → Int32 → Int32 → Int32 → Option (CS × Int32)) × (CS → Nat → Int32 → Int32 → Int32 → Int32 → Int32 → Option (CS × Int32))} {G' : (MS → Int32 → Int32 → Int32 → Option (MS × Int32)) × (MS → Int32 → Int32 → Int32 → Int32 → Int32 → Option (MS × Int32))} (hG1 : ∀ (c : Nat → Nat) (m : MS) (u : CS) (v2 : Int32) (v3 : Int32) (v4 : Int32), RP o c m u → RF 0 o VE c u (G.1 u 35 v2 v3 v4) (G'.1 m v2 v3 v4)) (hG2 : ∀ (c : Nat → Nat) (m : MS) (u : CS) (v2 : Int32) (v3 : Int32) (v4 : Int32) (v5 : Int32) (v6 : Int32), RP o c m u → RF 0 o VE c u (G.2 u 35 v2 v3 v4 v5 v6) (G'.2 m v2 v3 v4 v5 v6)) (R : RP o c m u) {v2 : Int32} {v3 : Int32} {v4 : Int32} {v5 : Int32} {v6 : Int32} : RF 0 o VE c u (fb_Cm_hold_60 N G u 35 v2 v3 v4 v5 v6) (hb_Cm_hold_60 N G' m v2 v3 v4 v5 v6) := by
  unfold fb_Cm_hold_60 hb_Cm_hold_60
  refine rf_bo (rx_35_2 R) ?_
  refine rf_so ?_
  refine rf_bo (gx_22_1 R) ?_
  refine rf_br ?_ ?_
  · exact (yb_Cm_hold_92 hG1 hG2 R)
  · refine rf_bo (rx_35_2 R) ?_
    refine rf_so ?_
    refine rf_ck (ox_22 R) ?_
    refine rf_bx0 (ym_Co_at R) (fun u11' u11 r11 R_u11 => ?_)
    refine rf_br ?_ ?_
    · exact (yb_Cm_hold_92 hG1 hG2 R_u11)
    · exact (hG2 _ _ _ _ _ _ _ _ R_u11)
theorem yb_Cm_hold_11 {N : Nat} {o : Option Nat} {c : Nat → Nat} {m : MS} {u : CS} {G : (CS → Nat → Int32 → Int32 → Int32 → Option (CS × Int32)) × (CS → Nat → Int32 → Int32 → Int32 → Int32 → Int32 → Option (CS × Int32))} {G' : (MS → Int32 → Int32 → Int32 → Option (MS × Int32)) × (MS → Int32 → Int32 → Int32 → Int32 → Int32 → Option (MS × Int32))} (hG1 : ∀ (c : Nat → Nat) (m : MS) (u : CS) (v2 : Int32) (v3 : Int32) (v4 : Int32), RP o c m u → RF 0 o VE c u (G.1 u 35 v2 v3 v4) (G'.1 m v2 v3 v4)) (hG2 : ∀ (c : Nat → Nat) (m : MS) (u : CS) (v2 : Int32) (v3 : Int32) (v4 : Int32) (v5 : Int32) (v6 : Int32), RP o c m u → RF 0 o VE c u (G.2 u 35 v2 v3 v4 v5 v6) (G'.2 m v2 v3 v4 v5 v6)) (R : RP o c m u) {v2 : Int32} {v3 : Int32} {v4 : Int32} : RF 0 o VE c u (fb_Cm_hold_11 N G u 35 v2 v3 v4) (hb_Cm_hold_11 N G' m v2 v3 v4) := by
  unfold fb_Cm_hold_11 hb_Cm_hold_11
  refine rf_br ?_ ?_
  · refine rf_bo (rx_35_2 R) ?_
    refine rf_so ?_
    refine rf_bo (gx_22_1 R) ?_
    exact rf_ret R rfl
  · refine rf_bo (rx_35_0 R) ?_
    refine rf_so ?_
    refine rf_bo (rx_4_2 R) ?_
    refine rf_so ?_
    refine rf_ai (ax_6 R) ?_
    refine rf_br ?_ ?_
    · refine rf_bo (rx_35_10 R) ?_
      refine rf_so ?_
      refine rf_ai (ax_42 R) ?_
      refine rf_bo (gx_35_9 R) ?_
      refine rf_br ?_ ?_
      · exact (yb_Cm_hold_113 hG1 hG2 R)
      · refine rf_bo (rx_35_0 R) ?_
        refine rf_so ?_
        refine rf_bo (rx_4_3 R) ?_
        refine rf_so ?_
        refine rf_ai (ax_7 R) ?_
        exact (hG2 _ _ _ _ _ _ _ _ R)
    · exact (yb_Cm_hold_113 hG1 hG2 R)
theorem yb_Cm_hold_0 {N : Nat} {o : Option Nat} {c : Nat → Nat} {m : MS} {u : CS} {G : (CS → Nat → Int32 → Int32 → Int32 → Option (CS × Int32)) × (CS → Nat → Int32 → Int32 → Int32 → Int32 → Int32 → Option (CS × Int32))} {G' : (MS → Int32 → Int32 → Int32 → Option (MS × Int32)) × (MS → Int32 → Int32 → Int32 → Int32 → Int32 → Option (MS × Int32))} (hG1 : ∀ (c : Nat → Nat) (m : MS) (u : CS) (v2 : Int32) (v3 : Int32) (v4 : Int32), RP o c m u → RF 0 o VE c u (G.1 u 35 v2 v3 v4) (G'.1 m v2 v3 v4)) (hG2 : ∀ (c : Nat → Nat) (m : MS) (u : CS) (v2 : Int32) (v3 : Int32) (v4 : Int32) (v5 : Int32) (v6 : Int32), RP o c m u → RF 0 o VE c u (G.2 u 35 v2 v3 v4 v5 v6) (G'.2 m v2 v3 v4 v5 v6)) (R : RP o c m u) {v1 : Int32} {v2 : Int32} : RF 0 o VE c u (fb_Cm_hold_0 N G u 35 v1 v2) (hb_Cm_hold_0 N G' m v1 v2) := by
  unfold fb_Cm_hold_0 hb_Cm_hold_0
  refine rf_bo (rx_35_2 R) ?_
  refine rf_so ?_
  refine rf_bo (gx_22_1 R) ?_
  exact (hG1 _ _ _ _ _ _ R)
theorem yg_Cm_hold {N : Nat} {o : Option Nat} : ∀ n, (∀ (c : Nat → Nat) (m : MS) (u : CS) (v2 : Int32) (v3 : Int32) (v4 : Int32), RP o c m u → RF 0 o VE c u ((gg_Cm_hold N n).1 u 35 v2 v3 v4) ((hg_Cm_hold N n).1 m v2 v3 v4)) ∧ (∀ (c : Nat → Nat) (m : MS) (u : CS) (v2 : Int32) (v3 : Int32) (v4 : Int32) (v5 : Int32) (v6 : Int32), RP o c m u → RF 0 o VE c u ((gg_Cm_hold N n).2 u 35 v2 v3 v4 v5 v6) ((hg_Cm_hold N n).2 m v2 v3 v4 v5 v6)) := by
  intro n
  induction n with
  | zero => exact ⟨fun c m u v2 v3 v4 R => rf_none, fun c m u v2 v3 v4 v5 v6 R => rf_none⟩
  | succ n ih => exact ⟨fun c m u v2 v3 v4 R => yb_Cm_hold_11 (N := N) ih.1 ih.2 R, fun c m u v2 v3 v4 v5 v6 R => yb_Cm_hold_60 (N := N) ih.1 ih.2 R⟩
theorem ym_Cm_hold {N : Nat} {o : Option Nat} {c : Nat → Nat} {m : MS} {u : CS} (R : RP o c m u) {v1 : Int32} {v2 : Int32} : RF 0 o VE c u (fm_Cm_hold N u 35 v1 v2) (hm_Cm_hold N m v1 v2) := yb_Cm_hold_0 (N := N) (yg_Cm_hold (N := N) N).1 (yg_Cm_hold (N := N) N).2 R
theorem yb_Wl_clearAll_0 {N : Nat} {o : Option Nat} {c : Nat → Nat} {m : MS} {u : CS} (R : RP o c m u) : RF 0 o VE c u (fb_Wl_clearAll_0 N () u 47) (hb_Wl_clearAll_0 N () m) := by
  unfold fb_Wl_clearAll_0 hb_Wl_clearAll_0
  refine rf_w (px_47_2 R) (fun w1' w1 R_w1 => ?_)
  refine rf_w (px_47_3 R_w1) (fun w2' w2 R_w2 => ?_)
  refine rf_w (px_47_4 R_w2) (fun w3' w3 R_w3 => ?_)
  refine rf_w (px_47_5 R_w3) (fun w4' w4 R_w4 => ?_)
  refine rf_w (px_47_6 R_w4) (fun w5' w5 R_w5 => ?_)
  refine rf_w (px_47_10 R_w5) (fun w6' w6 R_w6 => ?_)
  refine rf_w (px_47_13 R_w6) (fun w7' w7 R_w7 => ?_)
  refine rf_w (px_47_15 R_w7) (fun w8' w8 R_w8 => ?_)
  refine rf_w (px_47_16 R_w8) (fun w9' w9 R_w9 => ?_)
  exact rf_ret R_w9 rfl
theorem ym_Wl_clearAll {N : Nat} {o : Option Nat} {c : Nat → Nat} {m : MS} {u : CS} (R : RP o c m u) : RF 0 o VE c u (fm_Wl_clearAll N u 47) (hm_Wl_clearAll N m) := yb_Wl_clearAll_0 (N := N) R
theorem yb_H_count_108 {N : Nat} {c : Nat → Nat} {m : MS} {u : CS} (R : RP none c m u) {t0 : Int32} : RF 0 none VE c u (fb_H_count_108 N () u t0) (hb_H_count_108 N () m t0) := by
  unfold fb_H_count_108 hb_H_count_108
  exact rf_ret R rfl
theorem yb_H_count_89 {N : Nat} {c : Nat → Nat} {m : MS} {u : CS} (R : RP none c m u) {t0 : Int32} : RF 0 none VE c u (fb_H_count_89 N () u t0) (hb_H_count_89 N () m t0) := by
  unfold fb_H_count_89 hb_H_count_89
  exact rf_ret R rfl
theorem yb_H_count_70 {N : Nat} {c : Nat → Nat} {m : MS} {u : CS} (R : RP none c m u) {t0 : Int32} : RF 0 none VE c u (fb_H_count_70 N () u t0) (hb_H_count_70 N () m t0) := by
  unfold fb_H_count_70 hb_H_count_70
  exact rf_ret R rfl
theorem yb_H_count_0 {N : Nat} {c : Nat → Nat} {m : MS} {u : CS} (R : RP none c m u) {v1 : Int32} : RF 0 none VE c u (fb_H_count_0 N () u 0 v1) (hb_H_count_0 N () m v1) := by
  unfold fb_H_count_0 hb_H_count_0
  refine rf_br ?_ ?_
  · refine rf_bo (gx_0_10 R) ?_
    refine rf_br ?_ ?_
    · exact (yb_H_count_70 R)
    · refine rf_bo (rx_0_1 R) ?_
      refine rf_so ?_
      refine rf_bo (gx_4_5 R) ?_
      exact (yb_H_count_70 R)
  · refine rf_br ?_ ?_
    · refine rf_bo (gx_0_10 R) ?_
      refine rf_br ?_ ?_
      · exact (yb_H_count_89 R)
      · refine rf_bo (rx_0_2 R) ?_
        refine rf_so ?_
        refine rf_bo (gx_22_2 R) ?_
        exact (yb_H_count_89 R)
    · refine rf_br ?_ ?_
      · refine rf_bo (gx_0_10 R) ?_
        refine rf_br ?_ ?_
        · exact (yb_H_count_108 R)
        · refine rf_bo (rx_0_0 R) ?_
          refine rf_so ?_
          refine rf_bo (gx_1_2 R) ?_
          exact (yb_H_count_108 R)
      · refine rf_br ?_ ?_
        · refine rf_bo (rx_0_1 R) ?_
          refine rf_so ?_
          refine rf_bo (gx_4_1 R) ?_
          exact rf_ret R rfl
        · refine rf_br ?_ ?_
          · refine rf_bo (rx_0_6 R) ?_
            refine rf_so ?_
            refine rf_bo (gx_47_2 R) ?_
            exact rf_ret R rfl
          · refine rf_br ?_ ?_
            · refine rf_bo (rx_0_6 R) ?_
              refine rf_so ?_
              refine rf_bo (gx_47_13 R) ?_
              exact rf_ret R rfl
            · refine rf_br ?_ ?_
              · refine rf_bo (rx_0_6 R) ?_
                refine rf_so ?_
                refine rf_bo (gx_47_6 R) ?_
                exact rf_ret R rfl
              · refine rf_br ?_ ?_
                · refine rf_bo (rx_0_6 R) ?_
                  refine rf_so ?_
                  refine rf_bo (gx_47_4 R) ?_
                  exact rf_ret R rfl
                · refine rf_br ?_ ?_
                  · refine rf_bo (rx_0_6 R) ?_
                    refine rf_so ?_
                    refine rf_bo (gx_47_5 R) ?_
                    exact rf_ret R rfl
                  · exact rf_ret R rfl
theorem ym_H_count {N : Nat} {c : Nat → Nat} {m : MS} {u : CS} (R : RP none c m u) {v1 : Int32} : RF 0 none VE c u (fm_H_count N u 0 v1) (hm_H_count N m v1) := yb_H_count_0 (N := N) R
theorem yb_H_isFunction_27 {N : Nat} {c : Nat → Nat} {m : MS} {u : CS} (R : RP none c m u) {t0 : Int32} : RF 0 none VE c u (fb_H_isFunction_27 N () u t0) (hb_H_isFunction_27 N () m t0) := by
  unfold fb_H_isFunction_27 hb_H_isFunction_27
  refine rf_ckk ?_
  exact rf_ret R rfl
theorem yb_H_isFunction_26 {N : Nat} {c : Nat → Nat} {m : MS} {u : CS} (R : RP none c m u) : RF 0 none VE c u (fb_H_isFunction_26 N () u) (hb_H_isFunction_26 N () m) := by
  unfold fb_H_isFunction_26 hb_H_isFunction_26
  exact (yb_H_isFunction_27 R)
theorem yb_H_isFunction_0 {N : Nat} {c : Nat → Nat} {m : MS} {u : CS} (R : RP none c m u) {v1 : Int32} : RF 0 none VE c u (fb_H_isFunction_0 N () u 0 v1) (hb_H_isFunction_0 N () m v1) := by
  unfold fb_H_isFunction_0 hb_H_isFunction_0
  refine rf_bo (gx_0_10 R) ?_
  refine rf_br ?_ ?_
  · exact (yb_H_isFunction_26 R)
  · refine rf_br ?_ ?_
    · exact (yb_H_isFunction_26 R)
    · refine rf_bo (rx_0_2 R) ?_
      refine rf_so ?_
      refine rf_bo (gx_22_2 R) ?_
      refine rf_br ?_ ?_
      · exact (yb_H_isFunction_26 R)
      · exact (yb_H_isFunction_27 R)
theorem ym_H_isFunction {N : Nat} {c : Nat → Nat} {m : MS} {u : CS} (R : RP none c m u) {v1 : Int32} : RF 0 none VE c u (fm_H_isFunction N u 0 v1) (hm_H_isFunction N m v1) := yb_H_isFunction_0 (N := N) R
theorem yb_H_function_0 {N : Nat} {c : Nat → Nat} {m : MS} {u : CS} (R : RP none c m u) {v1 : Int32} {v2 : Int32} : RF 0 none VE c u (fb_H_function_0 N () u 0 v1 v2) (hb_H_function_0 N () m v1 v2) := by
  unfold fb_H_function_0 hb_H_function_0
  refine rf_ck (ox_0 R) ?_
  refine rf_bx0 (ym_H_isFunction R) (fun u1' u1 r1 R_u1 => ?_)
  refine rf_br ?_ ?_
  · exact rf_ret R_u1 rfl
  · refine rf_br ?_ ?_
    · refine rf_bo (rx_0_2 R_u1) ?_
      refine rf_so ?_
      refine rf_bo (rx_22_3 R_u1) ?_
      refine rf_so ?_
      refine rf_ai (ax_24 R_u1) ?_
      exact rf_ret R_u1 rfl
    · refine rf_br ?_ ?_
      · refine rf_bo (rx_0_2 R_u1) ?_
        refine rf_so ?_
        refine rf_bo (rx_22_4 R_u1) ?_
        refine rf_so ?_
        refine rf_ai (ax_25 R_u1) ?_
        exact rf_ret R_u1 rfl
      · refine rf_br ?_ ?_
        · refine rf_bo (rx_0_2 R_u1) ?_
          refine rf_so ?_
          refine rf_bo (rx_22_7 R_u1) ?_
          refine rf_so ?_
          refine rf_ai (ax_28 R_u1) ?_
          exact rf_ret R_u1 rfl
        · refine rf_br ?_ ?_
          · refine rf_bo (rx_0_2 R_u1) ?_
            refine rf_so ?_
            refine rf_bo (rx_22_5 R_u1) ?_
            refine rf_so ?_
            refine rf_ai (ax_26 R_u1) ?_
            exact rf_ret R_u1 rfl
          · exact rf_ret R_u1 rfl
theorem ym_H_function {N : Nat} {c : Nat → Nat} {m : MS} {u : CS} (R : RP none c m u) {v1 : Int32} {v2 : Int32} : RF 0 none VE c u (fm_H_function N u 0 v1 v2) (hm_H_function N m v1 v2) := yb_H_function_0 (N := N) R
theorem yb_Wo_sign_35 {N : Nat} {o : Option Nat} {c : Nat → Nat} {m : MS} {u : CS} (R : RP o c m u) : RF 0 o VE c u (fb_Wo_sign_35 N () u) (hb_Wo_sign_35 N () m) := by
  unfold fb_Wo_sign_35 hb_Wo_sign_35
  exact rf_ret R rfl
theorem yb_Wo_sign_0 {N : Nat} {o : Option Nat} {c : Nat → Nat} {m : MS} {u : CS} (R : RP o c m u) {v0 : Nat} {v1 : Int32} {v2 : Int32} (h_v0 : isWd v0) : RF 0 o VE c u (fb_Wo_sign_0 N () u v0 v1 v2) (hb_Wo_sign_0 N () m v0 v1 v2) := by
  unfold fb_Wo_sign_0 hb_Wo_sign_0
  refine rf_br ?_ ?_
  · exact (yb_Wo_sign_35 R)
  · refine rf_bo (gi_W2 R h_v0) ?_
    refine rf_br ?_ ?_
    · exact (yb_Wo_sign_35 R)
    · refine rf_br ?_ ?_
      · exact (yb_Wo_sign_35 R)
      · refine rf_bo (gr_W1 R h_v0) ?_
        refine rf_so ?_
        refine rf_ai (ai_W R h_v0) ?_
        refine rf_bo (gr_W1 R h_v0) ?_
        refine rf_so ?_
        refine rf_ai (ai_W R h_v0) ?_
        refine rf_br ?_ ?_
        · refine rf_bo (gr_W0 R h_v0) ?_
          refine rf_bo (gr_W1 R h_v0) ?_
          refine rf_so ?_
          refine rf_ai (ai_W R h_v0) ?_
          refine rf_so ?_
          refine rf_ai (ai_B R (By_w h_v0)) ?_
          exact rf_ret R rfl
        · exact (yb_Wo_sign_35 R)
theorem ym_Wo_sign {N : Nat} {o : Option Nat} {c : Nat → Nat} {m : MS} {u : CS} (R : RP o c m u) {v0 : Nat} {v1 : Int32} {v2 : Int32} (h_v0 : isWd v0) : RF 0 o VE c u (fm_Wo_sign N u v0 v1 v2) (hm_Wo_sign N m v0 v1 v2) := yb_Wo_sign_0 (N := N) R h_v0
theorem yb_H_letter_0 {N : Nat} {c : Nat → Nat} {m : MS} {u : CS} (R : RP none c m u) {v1 : Int32} {v2 : Int32} : RF 0 none VE c u (fb_H_letter_0 N () u 0 v1 v2) (hb_H_letter_0 N () m v1 v2) := by
  unfold fb_H_letter_0 hb_H_letter_0
  refine rf_bo (gx_0_10 R) ?_
  refine rf_br ?_ ?_
  · exact rf_ret R rfl
  · refine rf_bo (rx_0_0 R) ?_
    refine rf_so ?_
    refine rf_ck (ox_1 R) ?_
    refine rf_bx0 (ym_Wo_sign R (by unfold isWd; omega)) (fun u3' u3 r3 R_u3 => ?_)
    exact rf_ret R_u3 rfl
theorem ym_H_letter {N : Nat} {c : Nat → Nat} {m : MS} {u : CS} (R : RP none c m u) {v1 : Int32} {v2 : Int32} : RF 0 none VE c u (fm_H_letter N u 0 v1 v2) (hm_H_letter N m v1 v2) := yb_H_letter_0 (N := N) R
theorem yb_Fr_clear_0 {N : Nat} {o : Option Nat} {c : Nat → Nat} {m : MS} {u : CS} (R : RP o c m u) {v0 : Nat} {v0' : Nat} (h_v0 : FVn c v0 v0') : RF 0 o VE c u (fb_Fr_clear_0 N () u v0) (hb_Fr_clear_0 N () m v0') := by
  unfold fb_Fr_clear_0 hb_Fr_clear_0
  refine rf_w (wf_1 R h_v0) (fun w1' w1 R_w1 => ?_)
  refine rf_w (wf_4 R_w1 h_v0) (fun w2' w2 R_w2 => ?_)
  refine rf_w (wf_6 R_w2 h_v0) (fun w3' w3 R_w3 => ?_)
  refine rf_w (wf_8 R_w3 h_v0) (fun w4' w4 R_w4 => ?_)
  refine rf_w (wf_9 R_w4 h_v0) (fun w5' w5 R_w5 => ?_)
  exact rf_ret R_w5 rfl
theorem ym_Fr_clear {N : Nat} {o : Option Nat} {c : Nat → Nat} {m : MS} {u : CS} (R : RP o c m u) {v0 : Nat} {v0' : Nat} (h_v0 : FVn c v0 v0') : RF 0 o VE c u (fm_Fr_clear N u v0) (hm_Fr_clear N m v0') := yb_Fr_clear_0 (N := N) R h_v0
theorem yb_Pr_clear_0 {N : Nat} {o : Option Nat} {c : Nat → Nat} {m : MS} {u : CS} (R : RP o c m u) {v0 : Nat} {v0' : Nat} (h_v0 : PVn c v0 v0') : RF 0 o VE c u (fb_Pr_clear_0 N () u v0) (hb_Pr_clear_0 N () m v0') := by
  unfold fb_Pr_clear_0 hb_Pr_clear_0
  refine rf_bo (gR_P1 R h_v0) ?_
  refine rf_soF h_v0.1 (fun j3 h_j3 => ?_)
  refine rf_ck (io_F R h_j3) ?_
  refine rf_bx0 (ym_Fr_clear R h_j3) (fun u2' u2 r2 R_u2 => ?_)
  refine rf_w (wq_4 R_u2 h_v0) (fun w4' w4 R_w4 => ?_)
  refine rf_w (wq_5 R_w4 h_v0) (fun w5' w5 R_w5 => ?_)
  refine rf_w (wq_7 R_w5 h_v0) (fun w6' w6 R_w6 => ?_)
  refine rf_w (wq_8 R_w6 h_v0) (fun w7' w7 R_w7 => ?_)
  refine rf_w (wq_9 R_w7 h_v0) (fun w8' w8 R_w8 => ?_)
  refine rf_w (lq_10 R_w8 h_v0) (fun w9' w9 R_w9 => ?_)
  refine rf_w (wq_11 R_w9 h_v0) (fun w10' w10 R_w10 => ?_)
  refine rf_w (wq_12 R_w10 h_v0) (fun w11' w11 R_w11 => ?_)
  refine rf_w (wq_13 R_w11 h_v0) (fun w12' w12 R_w12 => ?_)
  refine rf_w (wq_15 R_w12 h_v0) (fun w13' w13 R_w13 => ?_)
  refine rf_w (lq_16 R_w13 h_v0) (fun w14' w14 R_w14 => ?_)
  refine rf_w (RP_qH R_w14 h_v0 (PV_j h_v0)) (fun w15' w15 R_w15 => ?_)
  exact rf_ret R_w15 rfl
theorem ym_Pr_clear {N : Nat} {o : Option Nat} {c : Nat → Nat} {m : MS} {u : CS} (R : RP o c m u) {v0 : Nat} {v0' : Nat} (h_v0 : PVn c v0 v0') : RF 0 o VE c u (fm_Pr_clear N u v0) (hm_Pr_clear N m v0') := yb_Pr_clear_0 (N := N) R h_v0
theorem yb_Fr_set_23 {N : Nat} {o : Option Nat} {c : Nat → Nat} {m : MS} {u : CS} (R : RP o c m u) : RF 0 o VE c u (fb_Fr_set_23 N () u) (hb_Fr_set_23 N () m) := by
  unfold fb_Fr_set_23 hb_Fr_set_23
  exact rf_ret R rfl
theorem yb_Fr_set_0 {N : Nat} {o : Option Nat} {c : Nat → Nat} {m : MS} {u : CS} (R : RP o c m u) {v0 : Nat} {v0' : Nat} {v1 : Int32} {v2 : Int32} (h_v0 : FVn c v0 v0') : RF 0 o VE c u (fb_Fr_set_0 N () u v0 v1 v2) (hb_Fr_set_0 N () m v0' v1 v2) := by
  unfold fb_Fr_set_0 hb_Fr_set_0
  refine rf_bo (gf_1 R h_v0) ?_
  refine rf_br ?_ ?_
  · exact (yb_Fr_set_23 R)
  · refine rf_bo (gR_F0 R h_v0) ?_
    refine rf_bo (gf_1 R h_v0) ?_
    refine rf_so ?_
    refine rf_wk (sq_30 R h_v0.1) (fun w5' w5 R_w5 => ?_)
    exact (yb_Fr_set_23 R_w5)
theorem ym_Fr_set {N : Nat} {o : Option Nat} {c : Nat → Nat} {m : MS} {u : CS} (R : RP o c m u) {v0 : Nat} {v0' : Nat} {v1 : Int32} {v2 : Int32} (h_v0 : FVn c v0 v0') : RF 0 o VE c u (fm_Fr_set N u v0 v1 v2) (hm_Fr_set N m v0' v1 v2) := yb_Fr_set_0 (N := N) R h_v0
theorem yb_Fr_open_0 {N : Nat} {o : Option Nat} {c : Nat → Nat} {m : MS} {u : CS} (R : RP o c m u) {v0 : Nat} {v0' : Nat} {v1 : Int32} {v2 : Int32} {v3 : Int32} (h_v0 : FVn c v0 v0') : RF 0 o VE c u (fb_Fr_open_0 N () u v0 v1 v2 v3) (hb_Fr_open_0 N () m v0' v1 v2 v3) := by
  unfold fb_Fr_open_0 hb_Fr_open_0
  refine rf_bo (gf_1 R h_v0) ?_
  refine rf_br ?_ ?_
  · refine rf_bo (gf_1 R h_v0) ?_
    refine rf_w (wf_1 R h_v0) (fun w3' w3 R_w3 => ?_)
    refine rf_bo (gf_4 R_w3 h_v0) ?_
    refine rf_ck (io_F R_w3 h_v0) ?_
    refine rf_bx0 (ym_Fr_set R_w3 h_v0) (fun u5' u5 r5 R_u5 => ?_)
    refine rf_bo (gf_6 R_u5 h_v0) ?_
    refine rf_ck (io_F R_u5 h_v0) ?_
    refine rf_bx0 (ym_Fr_set R_u5 h_v0) (fun u7' u7 r7 R_u7 => ?_)
    refine rf_ck (io_F R_u7 h_v0) ?_
    refine rf_bx0 (ym_Fr_set R_u7 h_v0) (fun u8' u8 r8 R_u8 => ?_)
    refine rf_ck (io_F R_u8 h_v0) ?_
    refine rf_bx0 (ym_Fr_set R_u8 h_v0) (fun u9' u9 r9 R_u9 => ?_)
    refine rf_ck (io_F R_u9 h_v0) ?_
    refine rf_bx0 (ym_Fr_set R_u9 h_v0) (fun u10' u10 r10 R_u10 => ?_)
    exact rf_ret R_u10 rfl
  · exact rf_ret R rfl
theorem ym_Fr_open {N : Nat} {o : Option Nat} {c : Nat → Nat} {m : MS} {u : CS} (R : RP o c m u) {v0 : Nat} {v0' : Nat} {v1 : Int32} {v2 : Int32} {v3 : Int32} (h_v0 : FVn c v0 v0') : RF 0 o VE c u (fm_Fr_open N u v0 v1 v2 v3) (hm_Fr_open N m v0' v1 v2 v3) := yb_Fr_open_0 (N := N) R h_v0
theorem yb_Wl_isReady_40 {N : Nat} {o : Option Nat} {c : Nat → Nat} {m : MS} {u : CS} (R : RP o c m u) {t0 : Int32} : RF 0 o VE c u (fb_Wl_isReady_40 N () u t0) (hb_Wl_isReady_40 N () m t0) := by
  unfold fb_Wl_isReady_40 hb_Wl_isReady_40
  refine rf_ckk ?_
  exact rf_ret R rfl
theorem yb_Wl_isReady_39 {N : Nat} {o : Option Nat} {c : Nat → Nat} {m : MS} {u : CS} (R : RP o c m u) : RF 0 o VE c u (fb_Wl_isReady_39 N () u) (hb_Wl_isReady_39 N () m) := by
  unfold fb_Wl_isReady_39 hb_Wl_isReady_39
  exact (yb_Wl_isReady_40 R)
theorem yb_Wl_isReady_35 {N : Nat} {o : Option Nat} {c : Nat → Nat} {m : MS} {u : CS} (R : RP o c m u) : RF 0 o VE c u (fb_Wl_isReady_35 N () u) (hb_Wl_isReady_35 N () m) := by
  unfold fb_Wl_isReady_35 hb_Wl_isReady_35
  exact (yb_Wl_isReady_40 R)
theorem yb_Wl_isReady_0 {N : Nat} {o : Option Nat} {c : Nat → Nat} {m : MS} {u : CS} (R : RP o c m u) {v1 : Nat} {v1' : Nat} (h_v1 : PVn c v1 v1') : RF 0 o VE c u (fb_Wl_isReady_0 N () u 47 (some v1)) (hb_Wl_isReady_0 N () m v1') := by
  unfold fb_Wl_isReady_0 hb_Wl_isReady_0
  refine rf_so ?_
  refine rf_bo (gq_8 R h_v1) ?_
  refine rf_so ?_
  refine rf_bo (gq_7 R h_v1) ?_
  refine rf_br ?_ ?_
  · exact (yb_Wl_isReady_35 R)
  · refine rf_so ?_
    refine rf_bo (gJ_P10 R h_v1) ?_
    refine rf_br ?_ ?_
    · exact (yb_Wl_isReady_39 R)
    · refine rf_so ?_
      refine rf_bo (gJ_P10 R h_v1) ?_
      refine rf_bo (gx_47_4 R) ?_
      refine rf_br ?_ ?_
      · exact (yb_Wl_isReady_39 R)
      · exact (yb_Wl_isReady_35 R)
theorem ym_Wl_isReady {N : Nat} {o : Option Nat} {c : Nat → Nat} {m : MS} {u : CS} (R : RP o c m u) {v1 : Nat} {v1' : Nat} (h_v1 : PVn c v1 v1') : RF 0 o VE c u (fm_Wl_isReady N u 47 (some v1)) (hm_Wl_isReady N m v1') := yb_Wl_isReady_0 (N := N) R h_v1
theorem yb_Fr_of_26 {N : Nat} {o : Option Nat} {c : Nat → Nat} {m : MS} {u : CS} (R : RP o c m u) {t0 : Int32} : RF 0 o VE c u (fb_Fr_of_26 N () u t0) (hb_Fr_of_26 N () m t0) := by
  unfold fb_Fr_of_26 hb_Fr_of_26
  exact rf_ret R rfl
theorem yb_Fr_of_12 {N : Nat} {o : Option Nat} {c : Nat → Nat} {m : MS} {u : CS} (R : RP o c m u) : RF 0 o VE c u (fb_Fr_of_12 N () u) (hb_Fr_of_12 N () m) := by
  unfold fb_Fr_of_12 hb_Fr_of_12
  exact (yb_Fr_of_26 R)
theorem yb_Fr_of_0 {N : Nat} {o : Option Nat} {c : Nat → Nat} {m : MS} {u : CS} (R : RP o c m u) {v0 : Nat} {v0' : Nat} {v1 : Int32} {v2 : Int32} (h_v0 : FVn c v0 v0') : RF 0 o VE c u (fb_Fr_of_0 N () u v0 v1 v2) (hb_Fr_of_0 N () m v0' v1 v2) := by
  unfold fb_Fr_of_0 hb_Fr_of_0
  refine rf_br ?_ ?_
  · exact (yb_Fr_of_12 R)
  · refine rf_bo (gf_1 R h_v0) ?_
    refine rf_br ?_ ?_
    · refine rf_bo (gR_F0 R h_v0) ?_
      refine rf_so ?_
      refine rf_ai (aq_30 R h_v0.1) ?_
      exact (yb_Fr_of_26 R)
    · exact (yb_Fr_of_12 R)
theorem ym_Fr_of {N : Nat} {o : Option Nat} {c : Nat → Nat} {m : MS} {u : CS} (R : RP o c m u) {v0 : Nat} {v0' : Nat} {v1 : Int32} {v2 : Int32} (h_v0 : FVn c v0 v0') : RF 0 o VE c u (fm_Fr_of N u v0 v1 v2) (hm_Fr_of N m v0' v1 v2) := yb_Fr_of_0 (N := N) R h_v0
theorem yb_Fr_place_0 {N : Nat} {o : Option Nat} {c : Nat → Nat} {m : MS} {u : CS} (R : RP o c m u) {v0 : Nat} {v0' : Nat} (h_v0 : FVn c v0 v0') : RF 0 o VE c u (fb_Fr_place_0 N () u v0) (hb_Fr_place_0 N () m v0') := by
  unfold fb_Fr_place_0 hb_Fr_place_0
  refine rf_bo (gf_1 R h_v0) ?_
  refine rf_ck (io_F R h_v0) ?_
  refine rf_bx0 (ym_Fr_of R h_v0) (fun u2' u2 r2 R_u2 => ?_)
  exact rf_ret R_u2 rfl
theorem ym_Fr_place {N : Nat} {o : Option Nat} {c : Nat → Nat} {m : MS} {u : CS} (R : RP o c m u) {v0 : Nat} {v0' : Nat} (h_v0 : FVn c v0 v0') : RF 0 o VE c u (fm_Fr_place N u v0) (hm_Fr_place N m v0') := yb_Fr_place_0 (N := N) R h_v0
theorem yb_Fr_below_23 {N : Nat} {o : Option Nat} {c : Nat → Nat} {m : MS} {u : CS} (R : RP o c m u) {t0 : Int64} : RF 0 o VE c u (fb_Fr_below_23 N () u t0) (hb_Fr_below_23 N () m t0) := by
  unfold fb_Fr_below_23 hb_Fr_below_23
  exact rf_ret R rfl
theorem yb_Fr_below_0 {N : Nat} {o : Option Nat} {c : Nat → Nat} {m : MS} {u : CS} (R : RP o c m u) {v0 : Nat} {v0' : Nat} {v1 : Int32} (h_v0 : FVn c v0 v0') : RF 0 o VE c u (fb_Fr_below_0 N () u v0 v1) (hb_Fr_below_0 N () m v0' v1) := by
  unfold fb_Fr_below_0 hb_Fr_below_0
  refine rf_bo (gf_6 R h_v0) ?_
  refine rf_br ?_ ?_
  · refine rf_bo (gR_F5 R h_v0) ?_
    refine rf_so ?_
    refine rf_ai (aq_35 R h_v0.1) ?_
    exact (yb_Fr_below_23 R)
  · exact (yb_Fr_below_23 R)
theorem ym_Fr_below {N : Nat} {o : Option Nat} {c : Nat → Nat} {m : MS} {u : CS} (R : RP o c m u) {v0 : Nat} {v0' : Nat} {v1 : Int32} (h_v0 : FVn c v0 v0') : RF 0 o VE c u (fm_Fr_below N u v0 v1) (hm_Fr_below N m v0' v1) := yb_Fr_below_0 (N := N) R h_v0
theorem yb_Te_tag_0 {N : Nat} {o : Option Nat} {c : Nat → Nat} {m : MS} {u : CS} (R : RP o c m u) {v0 : Int64} : RF 0 o VE c u (fb_Te_tag_0 N () u v0) (hb_Te_tag_0 N () m v0) := by
  unfold fb_Te_tag_0 hb_Te_tag_0
  exact rf_ret R rfl
theorem ym_Te_tag {N : Nat} {o : Option Nat} {c : Nat → Nat} {m : MS} {u : CS} (R : RP o c m u) {v0 : Int64} : RF 0 o VE c u (fm_Te_tag N u v0) (hm_Te_tag N m v0) := yb_Te_tag_0 (N := N) R
theorem yb_Co_takes_50 {N : Nat} {o : Option Nat} {c : Nat → Nat} {m : MS} {u : CS} (R : RP o c m u) {t0 : Int32} : RF 0 o VE c u (fb_Co_takes_50 N () u t0) (hb_Co_takes_50 N () m t0) := by
  unfold fb_Co_takes_50 hb_Co_takes_50
  exact rf_ret R rfl
theorem yb_Co_takes_49 {N : Nat} {o : Option Nat} {c : Nat → Nat} {m : MS} {u : CS} (R : RP o c m u) : RF 0 o VE c u (fb_Co_takes_49 N () u) (hb_Co_takes_49 N () m) := by
  unfold fb_Co_takes_49 hb_Co_takes_49
  exact (yb_Co_takes_50 R)
theorem yb_Co_takes_27 {N : Nat} {o : Option Nat} {c : Nat → Nat} {m : MS} {u : CS} (R : RP o c m u) {t0 : Int32} : RF 0 o VE c u (fb_Co_takes_27 N () u t0) (hb_Co_takes_27 N () m t0) := by
  unfold fb_Co_takes_27 hb_Co_takes_27
  exact rf_ret R rfl
theorem yb_Co_takes_0 {N : Nat} {o : Option Nat} {c : Nat → Nat} {m : MS} {u : CS} (R : RP o c m u) {v1 : Int32} : RF 0 o VE c u (fb_Co_takes_0 N () u 22 v1) (hb_Co_takes_0 N () m v1) := by
  unfold fb_Co_takes_0 hb_Co_takes_0
  refine rf_br ?_ ?_
  · refine rf_br ?_ ?_
    · exact (yb_Co_takes_49 R)
    · refine rf_bo (gx_22_9 R) ?_
      refine rf_br ?_ ?_
      · exact (yb_Co_takes_49 R)
      · refine rf_bo (rx_22_10 R) ?_
        refine rf_so ?_
        refine rf_ai (ax_30 R) ?_
        exact (yb_Co_takes_50 R)
  · refine rf_bo (gx_22_2 R) ?_
    refine rf_br ?_ ?_
    · exact (yb_Co_takes_27 R)
    · refine rf_bo (rx_22_4 R) ?_
      refine rf_so ?_
      refine rf_ai (ax_25 R) ?_
      exact (yb_Co_takes_27 R)
theorem ym_Co_takes {N : Nat} {o : Option Nat} {c : Nat → Nat} {m : MS} {u : CS} (R : RP o c m u) {v1 : Int32} : RF 0 o VE c u (fm_Co_takes N u 22 v1) (hm_Co_takes N m v1) := yb_Co_takes_0 (N := N) R
theorem yb_Te_make_0 {N : Nat} {o : Option Nat} {c : Nat → Nat} {m : MS} {u : CS} (R : RP o c m u) {v0 : Int32} {v1 : Int32} : RF 0 o VE c u (fb_Te_make_0 N () u v0 v1) (hb_Te_make_0 N () m v0 v1) := by
  unfold fb_Te_make_0 hb_Te_make_0
  exact rf_ret R rfl
theorem ym_Te_make {N : Nat} {o : Option Nat} {c : Nat → Nat} {m : MS} {u : CS} (R : RP o c m u) {v0 : Int32} {v1 : Int32} : RF 0 o VE c u (fm_Te_make N u v0 v1) (hm_Te_make N m v0 v1) := yb_Te_make_0 (N := N) R
theorem yb_Ma_atom_0 {N : Nat} {o : Option Nat} {c : Nat → Nat} {m : MS} {u : CS} (R : RP o c m u) {v0 : Int32} : RF 0 o VE c u (fb_Ma_atom_0 N () u v0) (hb_Ma_atom_0 N () m v0) := by
  unfold fb_Ma_atom_0 hb_Ma_atom_0
  refine rf_bx0 (ym_Te_make R) (fun u1' u1 r1 R_u1 => ?_)
  exact rf_ret R_u1 rfl
theorem ym_Ma_atom {N : Nat} {o : Option Nat} {c : Nat → Nat} {m : MS} {u : CS} (R : RP o c m u) {v0 : Int32} : RF 0 o VE c u (fm_Ma_atom N u v0) (hm_Ma_atom N m v0) := yb_Ma_atom_0 (N := N) R
theorem yb_Ma_tell_0 {N : Nat} {p : Nat} {c : Nat → Nat} {m : MS} {u : CS} (R : RP (some p) c m u) {v1 : Int32} {v2 : Int32} {v3 : Int64} : RF 0 (some p) VE c u (fb_Ma_tell_0 N () u 55 v1 v2 v3) (hb_Ma_tell_0 N () m p v1 v2 v3) := by
  unfold fb_Ma_tell_0 hb_Ma_tell_0
  refine rf_w (px_55_9 R) (fun w1' w1 R_w1 => ?_)
  refine rf_w (px_55_11 R_w1) (fun w2' w2 R_w2 => ?_)
  refine rf_w (pL_s10 R_w2) (fun w3' w3 R_w3 => ?_)
  exact rf_ret R_w3 rfl
theorem ym_Ma_tell {N : Nat} {p : Nat} {c : Nat → Nat} {m : MS} {u : CS} (R : RP (some p) c m u) {v1 : Int32} {v2 : Int32} {v3 : Int64} : RF 0 (some p) VE c u (fm_Ma_tell N u 55 v1 v2 v3) (hm_Ma_tell N m p v1 v2 v3) := yb_Ma_tell_0 (N := N) R
theorem yb_Ma_wrong_0 {N : Nat} {p : Nat} {c : Nat → Nat} {m : MS} {u : CS} (R : RP (some p) c m u) {v1 : Int32} : RF 0 (some p) VE c u (fb_Ma_wrong_0 N () u 55 v1) (hb_Ma_wrong_0 N () m p v1) := by
  unfold fb_Ma_wrong_0 hb_Ma_wrong_0
  refine rf_bx0 (ym_Ma_atom R) (fun u1' u1 r1 R_u1 => ?_)
  refine rf_ck (ox_55 R_u1) ?_
  refine rf_bx0 (ym_Ma_tell R_u1) (fun u2' u2 r2 R_u2 => ?_)
  exact rf_ret R_u2 rfl
theorem ym_Ma_wrong {N : Nat} {p : Nat} {c : Nat → Nat} {m : MS} {u : CS} (R : RP (some p) c m u) {v1 : Int32} : RF 0 (some p) VE c u (fm_Ma_wrong N u 55 v1) (hm_Ma_wrong N m p v1) := yb_Ma_wrong_0 (N := N) R
theorem yb_Ma_functionOf_14 {N : Nat} {o : Option Nat} {c : Nat → Nat} {m : MS} {u : CS} (R : RP o c m u) {t0 : Int32} : RF 0 o VE c u (fb_Ma_functionOf_14 N () u t0) (hb_Ma_functionOf_14 N () m t0) := by
  unfold fb_Ma_functionOf_14 hb_Ma_functionOf_14
  exact rf_ret R rfl
theorem yb_Ma_functionOf_0 {N : Nat} {o : Option Nat} {c : Nat → Nat} {m : MS} {u : CS} (R : RP o c m u) {v0 : Int32} : RF 0 o VE c u (fb_Ma_functionOf_0 N () u v0) (hb_Ma_functionOf_0 N () m v0) := by
  unfold fb_Ma_functionOf_0 hb_Ma_functionOf_0
  refine rf_br ?_ ?_
  · exact (yb_Ma_functionOf_14 R)
  · exact (yb_Ma_functionOf_14 R)
theorem ym_Ma_functionOf {N : Nat} {o : Option Nat} {c : Nat → Nat} {m : MS} {u : CS} (R : RP o c m u) {v0 : Int32} : RF 0 o VE c u (fm_Ma_functionOf N u v0) (hm_Ma_functionOf N m v0) := yb_Ma_functionOf_0 (N := N) R
theorem yb_Ma_entryOf_62 {N : Nat} {p : Nat} {c : Nat → Nat} {m : MS} {u : CS} (R : RP (some p) c m u) {t0 : Int32} : RF 0 (some p) VE c u (fb_Ma_entryOf_62 N () u t0) (hb_Ma_entryOf_62 N () m p t0) := by
  unfold fb_Ma_entryOf_62 hb_Ma_entryOf_62
  exact rf_ret R rfl
theorem yb_Ma_entryOf_61 {N : Nat} {p : Nat} {c : Nat → Nat} {m : MS} {u : CS} (R : RP (some p) c m u) : RF 0 (some p) VE c u (fb_Ma_entryOf_61 N () u) (hb_Ma_entryOf_61 N () m p) := by
  unfold fb_Ma_entryOf_61 hb_Ma_entryOf_61
  exact (yb_Ma_entryOf_62 R)
theorem yb_Ma_entryOf_33 {N : Nat} {p : Nat} {c : Nat → Nat} {m : MS} {u : CS} (R : RP (some p) c m u) {t0 : Int32} : RF 0 (some p) VE c u (fb_Ma_entryOf_33 N () u t0) (hb_Ma_entryOf_33 N () m p t0) := by
  unfold fb_Ma_entryOf_33 hb_Ma_entryOf_33
  exact rf_ret R rfl
theorem yb_Ma_entryOf_0 {N : Nat} {p : Nat} {c : Nat → Nat} {m : MS} {u : CS} (R : RP (some p) c m u) {v1 : Int32} : RF 0 (some p) VE c u (fb_Ma_entryOf_0 N () u 55 v1) (hb_Ma_entryOf_0 N () m p v1) := by
  unfold fb_Ma_entryOf_0 hb_Ma_entryOf_0
  refine rf_bx0 (ym_Ma_functionOf R) (fun u1' u1 r1 R_u1 => ?_)
  refine rf_br ?_ ?_
  · refine rf_br ?_ ?_
    · exact (yb_Ma_entryOf_61 R_u1)
    · refine rf_bo (rx_55_0 R_u1) ?_
      refine rf_so ?_
      refine rf_bo (gx_22_9 R_u1) ?_
      refine rf_br ?_ ?_
      · exact (yb_Ma_entryOf_61 R_u1)
      · refine rf_bo (rx_55_0 R_u1) ?_
        refine rf_so ?_
        refine rf_bo (rx_22_11 R_u1) ?_
        refine rf_so ?_
        refine rf_ai (ax_31 R_u1) ?_
        exact (yb_Ma_entryOf_62 R_u1)
  · refine rf_bo (rx_55_0 R_u1) ?_
    refine rf_so ?_
    refine rf_bo (gx_22_2 R_u1) ?_
    refine rf_br ?_ ?_
    · exact (yb_Ma_entryOf_33 R_u1)
    · refine rf_bo (rx_55_0 R_u1) ?_
      refine rf_so ?_
      refine rf_bo (rx_22_8 R_u1) ?_
      refine rf_so ?_
      refine rf_ai (ax_29 R_u1) ?_
      exact (yb_Ma_entryOf_33 R_u1)
theorem ym_Ma_entryOf {N : Nat} {p : Nat} {c : Nat → Nat} {m : MS} {u : CS} (R : RP (some p) c m u) {v1 : Int32} : RF 0 (some p) VE c u (fm_Ma_entryOf N u 55 v1) (hm_Ma_entryOf N m p v1) := yb_Ma_entryOf_0 (N := N) R
theorem yb_Te_cellsAt_49 {N : Nat} {o : Option Nat} {c : Nat → Nat} {m : MS} {u : CS} (R : RP o c m u) {t0 : Int32} : RF 0 o VE c u (fb_Te_cellsAt_49 N () u t0) (hb_Te_cellsAt_49 N () m t0) := by
  unfold fb_Te_cellsAt_49 hb_Te_cellsAt_49
  exact rf_ret R rfl
theorem yb_Te_cellsAt_0 {N : Nat} {o : Option Nat} {c : Nat → Nat} {m : MS} {u : CS} (R : RP o c m u) {v0 : Nat} {v0' : Nat} {v1 : Int64} (h_v0 : CVn c v0 v0') : RF 0 o VE c u (fb_Te_cellsAt_0 N () u (some v0) v1) (hb_Te_cellsAt_0 N () m v0' v1) := by
  unfold fb_Te_cellsAt_0 hb_Te_cellsAt_0
  refine rf_lt ?_
  refine rf_br ?_ ?_
  · exact rf_ret R rfl
  · refine rf_br ?_ ?_
    · refine rf_so ?_
      refine rf_ai (aq_C R h_v0) ?_
      exact rf_ret R rfl
    · refine rf_br ?_ ?_
      · refine rf_so ?_
        refine rf_ai (aq_C R h_v0) ?_
        exact (yb_Te_cellsAt_49 R)
      · exact (yb_Te_cellsAt_49 R)
theorem ym_Te_cellsAt {N : Nat} {o : Option Nat} {c : Nat → Nat} {m : MS} {u : CS} (R : RP o c m u) {v0 : Nat} {v0' : Nat} {v1 : Int64} (h_v0 : CVn c v0 v0') : RF 0 o VE c u (fm_Te_cellsAt N u (some v0) v1) (hm_Te_cellsAt N m v0' v1) := yb_Te_cellsAt_0 (N := N) R h_v0
theorem yb_Te_size_140 {N : Nat} {o : Option Nat} {c : Nat → Nat} {m : MS} {u : CS} {G : (CS → Nat → Option Nat → Int32 → Int32 → Int32 → Option (CS × Int32)) × (CS → Nat → Option Nat → Int32 → Int32 → Int32 → Int32 → Int32 → Int32 → Option (CS × Int32))} {G' : (MS → Nat → Int32 → Int32 → Int32 → Option (MS × Int32)) × (MS → Nat → Int32 → Int32 → Int32 → Int32 → Int32 → Int32 → Option (MS × Int32))} (hG1 : ∀ (c : Nat → Nat) (m : MS) (u : CS) (v1 : Nat) (v1' : Nat) (v4 : Int32) (v5 : Int32) (v6 : Int32), RP o c m u → CVn c v1 v1' → RF 0 o VE c u (G.1 u 43 (some v1) v4 v5 v6) (G'.1 m v1' v4 v5 v6)) (hG2 : ∀ (c : Nat → Nat) (m : MS) (u : CS) (v1 : Nat) (v1' : Nat) (v4 : Int32) (v5 : Int32) (v6 : Int32) (v7 : Int32) (v8 : Int32) (v9 : Int32), RP o c m u → CVn c v1 v1' → RF 0 o VE c u (G.2 u 43 (some v1) v4 v5 v6 v7 v8 v9) (G'.2 m v1' v4 v5 v6 v7 v8 v9)) (R : RP o c m u) {v4 : Int32} : RF 0 o VE c u (fb_Te_size_140 N G u v4) (hb_Te_size_140 N G' m v4) := by
  unfold fb_Te_size_140 hb_Te_size_140
  exact rf_ret R rfl
theorem yb_Te_size_134 {N : Nat} {o : Option Nat} {c : Nat → Nat} {m : MS} {u : CS} {G : (CS → Nat → Option Nat → Int32 → Int32 → Int32 → Option (CS × Int32)) × (CS → Nat → Option Nat → Int32 → Int32 → Int32 → Int32 → Int32 → Int32 → Option (CS × Int32))} {G' : (MS → Nat → Int32 → Int32 → Int32 → Option (MS × Int32)) × (MS → Nat → Int32 → Int32 → Int32 → Int32 → Int32 → Int32 → Option (MS × Int32))} (hG1 : ∀ (c : Nat → Nat) (m : MS) (u : CS) (v1 : Nat) (v1' : Nat) (v4 : Int32) (v5 : Int32) (v6 : Int32), RP o c m u → CVn c v1 v1' → RF 0 o VE c u (G.1 u 43 (some v1) v4 v5 v6) (G'.1 m v1' v4 v5 v6)) (hG2 : ∀ (c : Nat → Nat) (m : MS) (u : CS) (v1 : Nat) (v1' : Nat) (v4 : Int32) (v5 : Int32) (v6 : Int32) (v7 : Int32) (v8 : Int32) (v9 : Int32), RP o c m u → CVn c v1 v1' → RF 0 o VE c u (G.2 u 43 (some v1) v4 v5 v6 v7 v8 v9) (G'.2 m v1' v4 v5 v6 v7 v8 v9)) (R : RP o c m u) {v1 : Nat} {v1' : Nat} {v4 : Int32} {v5 : Int32} {v6 : Int32} (h_v1 : CVn c v1 v1') : RF 0 o VE c u (fb_Te_size_134 N G u 43 (some v1) v4 v5 v6) (hb_Te_size_134 N G' m v1' v4 v5 v6) := by
  unfold fb_Te_size_134 hb_Te_size_134
  exact (hG1 _ _ _ _ _ _ _ _ R h_v1)
theorem yb_Te_size_128 {N : Nat} {o : Option Nat} {c : Nat → Nat} {m : MS} {u : CS} {G : (CS → Nat → Option Nat → Int32 → Int32 → Int32 → Option (CS × Int32)) × (CS → Nat → Option Nat → Int32 → Int32 → Int32 → Int32 → Int32 → Int32 → Option (CS × Int32))} {G' : (MS → Nat → Int32 → Int32 → Int32 → Option (MS × Int32)) × (MS → Nat → Int32 → Int32 → Int32 → Int32 → Int32 → Int32 → Option (MS × Int32))} (hG1 : ∀ (c : Nat → Nat) (m : MS) (u : CS) (v1 : Nat) (v1' : Nat) (v4 : Int32) (v5 : Int32) (v6 : Int32), RP o c m u → CVn c v1 v1' → RF 0 o VE c u (G.1 u 43 (some v1) v4 v5 v6) (G'.1 m v1' v4 v5 v6)) (hG2 : ∀ (c : Nat → Nat) (m : MS) (u : CS) (v1 : Nat) (v1' : Nat) (v4 : Int32) (v5 : Int32) (v6 : Int32) (v7 : Int32) (v8 : Int32) (v9 : Int32), RP o c m u → CVn c v1 v1' → RF 0 o VE c u (G.2 u 43 (some v1) v4 v5 v6 v7 v8 v9) (G'.2 m v1' v4 v5 v6 v7 v8 v9)) (R : RP o c m u) {v1 : Nat} {v1' : Nat} {v4 : Int32} {v5 : Int32} {v6 : Int32} {v7 : Int32} {v8 : Int32} {v9 : Int32} (h_v1 : CVn c v1 v1') : RF 0 o VE c u (fb_Te_size_128 N G u 43 (some v1) v4 v5 v6 v7 v8 v9) (hb_Te_size_128 N G' m v1' v4 v5 v6 v7 v8 v9) := by
  unfold fb_Te_size_128 hb_Te_size_128
  exact (hG2 _ _ _ _ _ _ _ _ _ _ _ R h_v1)
theorem yb_Te_size_111 {N : Nat} {o : Option Nat} {c : Nat → Nat} {m : MS} {u : CS} {G : (CS → Nat → Option Nat → Int32 → Int32 → Int32 → Option (CS × Int32)) × (CS → Nat → Option Nat → Int32 → Int32 → Int32 → Int32 → Int32 → Int32 → Option (CS × Int32))} {G' : (MS → Nat → Int32 → Int32 → Int32 → Option (MS × Int32)) × (MS → Nat → Int32 → Int32 → Int32 → Int32 → Int32 → Int32 → Option (MS × Int32))} (hG1 : ∀ (c : Nat → Nat) (m : MS) (u : CS) (v1 : Nat) (v1' : Nat) (v4 : Int32) (v5 : Int32) (v6 : Int32), RP o c m u → CVn c v1 v1' → RF 0 o VE c u (G.1 u 43 (some v1) v4 v5 v6) (G'.1 m v1' v4 v5 v6)) (hG2 : ∀ (c : Nat → Nat) (m : MS) (u : CS) (v1 : Nat) (v1' : Nat) (v4 : Int32) (v5 : Int32) (v6 : Int32) (v7 : Int32) (v8 : Int32) (v9 : Int32), RP o c m u → CVn c v1 v1' → RF 0 o VE c u (G.2 u 43 (some v1) v4 v5 v6 v7 v8 v9) (G'.2 m v1' v4 v5 v6 v7 v8 v9)) (R : RP o c m u) {v1 : Nat} {v1' : Nat} {v4 : Int32} {v5 : Int32} {v6 : Int32} {v7 : Int32} {v8 : Int32} {v9 : Int32} (h_v1 : CVn c v1 v1') : RF 0 o VE c u (fb_Te_size_111 N G u 43 (some v1) v4 v5 v6 v7 v8 v9) (hb_Te_size_111 N G' m v1' v4 v5 v6 v7 v8 v9) := by
  unfold fb_Te_size_111 hb_Te_size_111
  refine rf_bo (rx_43_1 R) ?_
  refine rf_so ?_
  refine rf_ai (aq_C R h_v1) ?_
  refine rf_so ?_
  refine rf_wk (sx_45 R) (fun w5' w5 R_w5 => ?_)
  exact (yb_Te_size_128 hG1 hG2 R_w5 h_v1)
theorem yb_Te_size_64 {N : Nat} {o : Option Nat} {c : Nat → Nat} {m : MS} {u : CS} {G : (CS → Nat → Option Nat → Int32 → Int32 → Int32 → Option (CS × Int32)) × (CS → Nat → Option Nat → Int32 → Int32 → Int32 → Int32 → Int32 → Int32 → Option (CS × Int32))} {G' : (MS → Nat → Int32 → Int32 → Int32 → Option (MS × Int32)) × (MS → Nat → Int32 → Int32 → Int32 → Int32 → Int32 → Int32 → Option (MS × Int32))} (hG1 : ∀ (c : Nat → Nat) (m : MS) (u : CS) (v1 : Nat) (v1' : Nat) (v4 : Int32) (v5 : Int32) (v6 : Int32), RP o c m u → CVn c v1 v1' → RF 0 o VE c u (G.1 u 43 (some v1) v4 v5 v6) (G'.1 m v1' v4 v5 v6)) (hG2 : ∀ (c : Nat → Nat) (m : MS) (u : CS) (v1 : Nat) (v1' : Nat) (v4 : Int32) (v5 : Int32) (v6 : Int32) (v7 : Int32) (v8 : Int32) (v9 : Int32), RP o c m u → CVn c v1 v1' → RF 0 o VE c u (G.2 u 43 (some v1) v4 v5 v6 v7 v8 v9) (G'.2 m v1' v4 v5 v6 v7 v8 v9)) (R : RP o c m u) {v1 : Nat} {v1' : Nat} {v4 : Int32} {v5 : Int32} {v6 : Int32} {v7 : Int32} {v8 : Int32} {v9 : Int32} (h_v1 : CVn c v1 v1') : RF 0 o VE c u (fb_Te_size_64 N G u 43 (some v1) v4 v5 v6 v7 v8 v9) (hb_Te_size_64 N G' m v1' v4 v5 v6 v7 v8 v9) := by
  unfold fb_Te_size_64 hb_Te_size_64
  refine rf_br ?_ ?_
  · exact (yb_Te_size_134 hG1 hG2 R h_v1)
  · refine rf_br ?_ ?_
    · exact (yb_Te_size_134 hG1 hG2 R h_v1)
    · refine rf_so ?_
      refine rf_ai (aq_C R h_v1) ?_
      refine rf_lt ?_
      refine rf_br ?_ ?_
      · exact (yb_Te_size_111 hG1 hG2 R h_v1)
      · refine rf_br ?_ ?_
        · exact (yb_Te_size_111 hG1 hG2 R h_v1)
        · refine rf_br ?_ ?_
          · exact (yb_Te_size_111 hG1 hG2 R h_v1)
          · exact (yb_Te_size_128 hG1 hG2 R h_v1)
theorem yb_Te_size_16 {N : Nat} {o : Option Nat} {c : Nat → Nat} {m : MS} {u : CS} {G : (CS → Nat → Option Nat → Int32 → Int32 → Int32 → Option (CS × Int32)) × (CS → Nat → Option Nat → Int32 → Int32 → Int32 → Int32 → Int32 → Int32 → Option (CS × Int32))} {G' : (MS → Nat → Int32 → Int32 → Int32 → Option (MS × Int32)) × (MS → Nat → Int32 → Int32 → Int32 → Int32 → Int32 → Int32 → Option (MS × Int32))} (hG1 : ∀ (c : Nat → Nat) (m : MS) (u : CS) (v1 : Nat) (v1' : Nat) (v4 : Int32) (v5 : Int32) (v6 : Int32), RP o c m u → CVn c v1 v1' → RF 0 o VE c u (G.1 u 43 (some v1) v4 v5 v6) (G'.1 m v1' v4 v5 v6)) (hG2 : ∀ (c : Nat → Nat) (m : MS) (u : CS) (v1 : Nat) (v1' : Nat) (v4 : Int32) (v5 : Int32) (v6 : Int32) (v7 : Int32) (v8 : Int32) (v9 : Int32), RP o c m u → CVn c v1 v1' → RF 0 o VE c u (G.2 u 43 (some v1) v4 v5 v6 v7 v8 v9) (G'.2 m v1' v4 v5 v6 v7 v8 v9)) (R : RP o c m u) {v1 : Nat} {v1' : Nat} {v4 : Int32} {v5 : Int32} {v6 : Int32} (h_v1 : CVn c v1 v1') : RF 0 o VE c u (fb_Te_size_16 N G u 43 (some v1) v4 v5 v6) (hb_Te_size_16 N G' m v1' v4 v5 v6) := by
  unfold fb_Te_size_16 hb_Te_size_16
  refine rf_br ?_ ?_
  · exact (yb_Te_size_140 hG1 hG2 R)
  · refine rf_br ?_ ?_
    · exact (yb_Te_size_140 hG1 hG2 R)
    · refine rf_bo (rx_43_1 R) ?_
      refine rf_so ?_
      refine rf_ai (ax_45 R) ?_
      refine rf_bo (rx_43_1 R) ?_
      refine rf_so ?_
      refine rf_ai (ax_45 R) ?_
      refine rf_bx0 (ym_Te_cellsAt R h_v1) (fun u15' u15 r15 R_u15 => ?_)
      exact (hG2 _ _ _ _ _ _ _ _ _ _ _ R_u15 h_v1)
theorem yb_Te_size_0 {N : Nat} {o : Option Nat} {c : Nat → Nat} {m : MS} {u : CS} {G : (CS → Nat → Option Nat → Int32 → Int32 → Int32 → Option (CS × Int32)) × (CS → Nat → Option Nat → Int32 → Int32 → Int32 → Int32 → Int32 → Int32 → Option (CS × Int32))} {G' : (MS → Nat → Int32 → Int32 → Int32 → Option (MS × Int32)) × (MS → Nat → Int32 → Int32 → Int32 → Int32 → Int32 → Int32 → Option (MS × Int32))} (hG1 : ∀ (c : Nat → Nat) (m : MS) (u : CS) (v1 : Nat) (v1' : Nat) (v4 : Int32) (v5 : Int32) (v6 : Int32), RP o c m u → CVn c v1 v1' → RF 0 o VE c u (G.1 u 43 (some v1) v4 v5 v6) (G'.1 m v1' v4 v5 v6)) (hG2 : ∀ (c : Nat → Nat) (m : MS) (u : CS) (v1 : Nat) (v1' : Nat) (v4 : Int32) (v5 : Int32) (v6 : Int32) (v7 : Int32) (v8 : Int32) (v9 : Int32), RP o c m u → CVn c v1 v1' → RF 0 o VE c u (G.2 u 43 (some v1) v4 v5 v6 v7 v8 v9) (G'.2 m v1' v4 v5 v6 v7 v8 v9)) (R : RP o c m u) {v1 : Nat} {v1' : Nat} {v2 : Int64} (h_v1 : CVn c v1 v1') : RF 0 o VE c u (fb_Te_size_0 N G u 43 (some v1) v2) (hb_Te_size_0 N G' m v1' v2) := by
  unfold fb_Te_size_0 hb_Te_size_0
  refine rf_bo (rx_43_1 R) ?_
  refine rf_so ?_
  refine rf_wk (sx_45 R) (fun w18' w18 R_w18 => ?_)
  exact (hG1 _ _ _ _ _ _ _ _ R_w18 h_v1)
theorem yg_Te_size {N : Nat} {o : Option Nat} : ∀ n, (∀ (c : Nat → Nat) (m : MS) (u : CS) (v1 : Nat) (v1' : Nat) (v4 : Int32) (v5 : Int32) (v6 : Int32), RP o c m u → CVn c v1 v1' → RF 0 o VE c u ((gg_Te_size N n).1 u 43 (some v1) v4 v5 v6) ((hg_Te_size N n).1 m v1' v4 v5 v6)) ∧ (∀ (c : Nat → Nat) (m : MS) (u : CS) (v1 : Nat) (v1' : Nat) (v4 : Int32) (v5 : Int32) (v6 : Int32) (v7 : Int32) (v8 : Int32) (v9 : Int32), RP o c m u → CVn c v1 v1' → RF 0 o VE c u ((gg_Te_size N n).2 u 43 (some v1) v4 v5 v6 v7 v8 v9) ((hg_Te_size N n).2 m v1' v4 v5 v6 v7 v8 v9)) := by
  intro n
  induction n with
  | zero => exact ⟨fun c m u v1 v1' v4 v5 v6 R h_v1 => rf_none, fun c m u v1 v1' v4 v5 v6 v7 v8 v9 R h_v1 => rf_none⟩
  | succ n ih => exact ⟨fun c m u v1 v1' v4 v5 v6 R h_v1 => yb_Te_size_16 (N := N) ih.1 ih.2 R h_v1, fun c m u v1 v1' v4 v5 v6 v7 v8 v9 R h_v1 => yb_Te_size_64 (N := N) ih.1 ih.2 R h_v1⟩
theorem ym_Te_size {N : Nat} {o : Option Nat} {c : Nat → Nat} {m : MS} {u : CS} (R : RP o c m u) {v1 : Nat} {v1' : Nat} {v2 : Int64} (h_v1 : CVn c v1 v1') : RF 0 o VE c u (fm_Te_size N u 43 (some v1) v2) (hm_Te_size N m v1' v2) := yb_Te_size_0 (N := N) (yg_Te_size (N := N) N).1 (yg_Te_size (N := N) N).2 R h_v1
theorem yb_Wl_endsWith_17 {N : Nat} {o : Option Nat} {c : Nat → Nat} {m : MS} {u : CS} (R : RP o c m u) : RF 0 o VE c u (fb_Wl_endsWith_17 N () u) (hb_Wl_endsWith_17 N () m) := by
  unfold fb_Wl_endsWith_17 hb_Wl_endsWith_17
  exact rf_ret R rfl
theorem yb_Wl_endsWith_0 {N : Nat} {o : Option Nat} {c : Nat → Nat} {m : MS} {u : CS} (R : RP o c m u) {v1 : Nat} {v1' : Nat} {v2 : Int64} {v4 : Nat} {v4' : Nat} (h_v1 : PVn c v1 v1') (h_v4 : PVn c v4 v4') : RF 0 o VE c u (fb_Wl_endsWith_0 N () u 47 (some v1) v2 (some v4)) (hb_Wl_endsWith_0 N () m v1' v2 v4') := by
  unfold fb_Wl_endsWith_0 hb_Wl_endsWith_0
  refine rf_so ?_
  refine rf_bo (gq_9 R h_v1) ?_
  refine rf_br ?_ ?_
  · exact (yb_Wl_endsWith_17 R)
  · refine rf_bo (gx_47_15 R) ?_
    refine rf_br ?_ ?_
    · refine rf_so ?_
      refine rf_w (wq_9 R h_v1) (fun w5' w5 R_w5 => ?_)
      refine rf_so ?_
      refine rf_w (lq_16 R_w5 h_v1) (fun w7' w7 R_w7 => ?_)
      refine rf_so ?_
      refine rf_w (RP_qH R_w7 h_v1 (PV_j h_v4)) (fun w9' w9 R_w9 => ?_)
      refine rf_bo (rx_47_14 R_w9) ?_
      refine rf_bo (gx_47_15 R_w9) ?_
      refine rf_so ?_
      refine rf_bo (gI_P0 R_w9 h_v1) ?_
      refine rf_so ?_
      refine rf_wk (sx_54 R_w9) (fun w15' w15 R_w15 => ?_)
      refine rf_bo (gx_47_15 R_w15) ?_
      refine rf_w (px_47_15 R_w15) (fun w17' w17 R_w17 => ?_)
      exact rf_ret R_w17 rfl
    · exact (yb_Wl_endsWith_17 R)
theorem ym_Wl_endsWith {N : Nat} {o : Option Nat} {c : Nat → Nat} {m : MS} {u : CS} (R : RP o c m u) {v1 : Nat} {v1' : Nat} {v2 : Int64} {v4 : Nat} {v4' : Nat} (h_v1 : PVn c v1 v1') (h_v4 : PVn c v4 v4') : RF 0 o VE c u (fm_Wl_endsWith N u 47 (some v1) v2 (some v4)) (hm_Wl_endsWith N m v1' v2 v4') := yb_Wl_endsWith_0 (N := N) R h_v1 h_v4
theorem yb_Wl_endsBy_0 {N : Nat} {o : Option Nat} {c : Nat → Nat} {m : MS} {u : CS} (R : RP o c m u) {v1 : Nat} {v1' : Nat} {v2 : Int32} (h_v1 : PVn c v1 v1') : RF 0 o VE c u (fb_Wl_endsBy_0 N () u 47 (some v1) v2) (hb_Wl_endsBy_0 N () m v1' v2) := by
  unfold fb_Wl_endsBy_0 hb_Wl_endsBy_0
  refine rf_bx0 (ym_Te_make R) (fun u1' u1 r1 R_u1 => ?_)
  refine rf_ck (ox_47 R_u1) ?_
  refine rf_bx0 (ym_Wl_endsWith R_u1 h_v1 h_v1) (fun u2' u2 r2 R_u2 => ?_)
  exact rf_ret R_u2 rfl
theorem ym_Wl_endsBy {N : Nat} {o : Option Nat} {c : Nat → Nat} {m : MS} {u : CS} (R : RP o c m u) {v1 : Nat} {v1' : Nat} {v2 : Int32} (h_v1 : PVn c v1 v1') : RF 0 o VE c u (fm_Wl_endsBy N u 47 (some v1) v2) (hm_Wl_endsBy N m v1' v2) := yb_Wl_endsBy_0 (N := N) R h_v1
theorem yb_Te_push_0 {N : Nat} {o : Option Nat} {c : Nat → Nat} {m : MS} {u : CS} (R : RP o c m u) {v1 : Int32} {v2 : Int64} : RF 0 o VE c u (fb_Te_push_0 N () u 43 v1 v2) (hb_Te_push_0 N () m v1 v2) := by
  unfold fb_Te_push_0 hb_Te_push_0
  refine rf_br ?_ ?_
  · refine rf_bo (rx_43_1 R) ?_
    refine rf_so ?_
    refine rf_wk (sx_45 R) (fun w3' w3 R_w3 => ?_)
    exact rf_ret R_w3 rfl
  · exact rf_ret R rfl
theorem ym_Te_push {N : Nat} {o : Option Nat} {c : Nat → Nat} {m : MS} {u : CS} (R : RP o c m u) {v1 : Int32} {v2 : Int64} : RF 0 o VE c u (fm_Te_push N u 43 v1 v2) (hm_Te_push N m v1 v2) := yb_Te_push_0 (N := N) R
theorem yb_Te_toWriteTuple_60 {N : Nat} {o : Option Nat} {c : Nat → Nat} {m : MS} {u : CS} {G : (CS → Nat → Option Nat → Int32 → Int32 → Int32 → Option (CS × Int32))} {G' : (MS → Nat → Int32 → Int32 → Int32 → Option (MS × Int32))} (hG : ∀ (c : Nat → Nat) (m : MS) (u : CS) (v1 : Nat) (v1' : Nat) (v2 : Int32) (v4 : Int32) (v5 : Int32), RP o c m u → CVn c v1 v1' → RF 0 o VE c u (G u 43 (some v1) v2 v4 v5) (G' m v1' v2 v4 v5)) (R : RP o c m u) {v1 : Nat} {v1' : Nat} {v2 : Int32} {v4 : Int32} {v5 : Int32} (h_v1 : CVn c v1 v1') : RF 0 o VE c u (fb_Te_toWriteTuple_60 N G u 43 (some v1) v2 v4 v5) (hb_Te_toWriteTuple_60 N G' m v1' v2 v4 v5) := by
  unfold fb_Te_toWriteTuple_60 hb_Te_toWriteTuple_60
  exact (hG _ _ _ _ _ _ _ _ R h_v1)
theorem yb_Te_toWriteTuple_20 {N : Nat} {o : Option Nat} {c : Nat → Nat} {m : MS} {u : CS} {G : (CS → Nat → Option Nat → Int32 → Int32 → Int32 → Option (CS × Int32))} {G' : (MS → Nat → Int32 → Int32 → Int32 → Option (MS × Int32))} (hG : ∀ (c : Nat → Nat) (m : MS) (u : CS) (v1 : Nat) (v1' : Nat) (v2 : Int32) (v4 : Int32) (v5 : Int32), RP o c m u → CVn c v1 v1' → RF 0 o VE c u (G u 43 (some v1) v2 v4 v5) (G' m v1' v2 v4 v5)) (R : RP o c m u) {v1 : Nat} {v1' : Nat} {v2 : Int32} {v4 : Int32} {v5 : Int32} (h_v1 : CVn c v1 v1') : RF 0 o VE c u (fb_Te_toWriteTuple_20 N G u 43 (some v1) v2 v4 v5) (hb_Te_toWriteTuple_20 N G' m v1' v2 v4 v5) := by
  unfold fb_Te_toWriteTuple_20 hb_Te_toWriteTuple_20
  refine rf_br ?_ ?_
  · exact rf_ret R rfl
  · refine rf_so ?_
    refine rf_ai (aq_C R h_v1) ?_
    refine rf_ck (ox_43 R) ?_
    refine rf_bx0 (ym_Te_push R) (fun u3' u3 r3 R_u3 => ?_)
    refine rf_br ?_ ?_
    · exact (yb_Te_toWriteTuple_60 hG R_u3 h_v1)
    · refine rf_bx0 (ym_Te_make R_u3) (fun u4' u4 r4 R_u4 => ?_)
      refine rf_ck (ox_43 R_u4) ?_
      refine rf_bx0 (ym_Te_push R_u4) (fun u5' u5 r5 R_u5 => ?_)
      exact (yb_Te_toWriteTuple_60 hG R_u5 h_v1)
theorem yb_Te_toWriteTuple_0 {N : Nat} {o : Option Nat} {c : Nat → Nat} {m : MS} {u : CS} {G : (CS → Nat → Option Nat → Int32 → Int32 → Int32 → Option (CS × Int32))} {G' : (MS → Nat → Int32 → Int32 → Int32 → Option (MS × Int32))} (hG : ∀ (c : Nat → Nat) (m : MS) (u : CS) (v1 : Nat) (v1' : Nat) (v2 : Int32) (v4 : Int32) (v5 : Int32), RP o c m u → CVn c v1 v1' → RF 0 o VE c u (G u 43 (some v1) v2 v4 v5) (G' m v1' v2 v4 v5)) (R : RP o c m u) {v1 : Nat} {v1' : Nat} {v2 : Int32} {v3 : Int32} (h_v1 : CVn c v1 v1') : RF 0 o VE c u (fb_Te_toWriteTuple_0 N G u 43 (some v1) v2 v3) (hb_Te_toWriteTuple_0 N G' m v1' v2 v3) := by
  unfold fb_Te_toWriteTuple_0 hb_Te_toWriteTuple_0
  refine rf_bx0 (ym_Te_make R) (fun u6' u6 r6 R_u6 => ?_)
  refine rf_ck (ox_43 R_u6) ?_
  refine rf_bx0 (ym_Te_push R_u6) (fun u7' u7 r7 R_u7 => ?_)
  refine rf_so ?_
  refine rf_ai (aq_C R_u7 h_v1) ?_
  exact (hG _ _ _ _ _ _ _ _ R_u7 h_v1)
theorem yg_Te_toWriteTuple {N : Nat} {o : Option Nat} : ∀ n, (∀ (c : Nat → Nat) (m : MS) (u : CS) (v1 : Nat) (v1' : Nat) (v2 : Int32) (v4 : Int32) (v5 : Int32), RP o c m u → CVn c v1 v1' → RF 0 o VE c u ((gg_Te_toWriteTuple N n) u 43 (some v1) v2 v4 v5) ((hg_Te_toWriteTuple N n) m v1' v2 v4 v5)) := by
  intro n
  induction n with
  | zero => exact fun c m u v1 v1' v2 v4 v5 R h_v1 => rf_none
  | succ n ih => exact fun c m u v1 v1' v2 v4 v5 R h_v1 => yb_Te_toWriteTuple_20 (N := N) ih R h_v1
theorem ym_Te_toWriteTuple {N : Nat} {o : Option Nat} {c : Nat → Nat} {m : MS} {u : CS} (R : RP o c m u) {v1 : Nat} {v1' : Nat} {v2 : Int32} {v3 : Int32} (h_v1 : CVn c v1 v1') : RF 0 o VE c u (fm_Te_toWriteTuple N u 43 (some v1) v2 v3) (hm_Te_toWriteTuple N m v1' v2 v3) := yb_Te_toWriteTuple_0 (N := N) (yg_Te_toWriteTuple (N := N) N) R h_v1
theorem yb_Te_toWritePair_0 {N : Nat} {o : Option Nat} {c : Nat → Nat} {m : MS} {u : CS} (R : RP o c m u) {v1 : Nat} {v1' : Nat} {v2 : Int32} {v3 : Int32} (h_v1 : CVn c v1 v1') : RF 0 o VE c u (fb_Te_toWritePair_0 N () u 43 (some v1) v2 v3) (hb_Te_toWritePair_0 N () m v1' v2 v3) := by
  unfold fb_Te_toWritePair_0 hb_Te_toWritePair_0
  refine rf_so ?_
  refine rf_ai (aq_C R h_v1) ?_
  refine rf_ck (ox_43 R) ?_
  refine rf_bx0 (ym_Te_push R) (fun u3' u3 r3 R_u3 => ?_)
  refine rf_bx0 (ym_Te_make R_u3) (fun u4' u4 r4 R_u4 => ?_)
  refine rf_ck (ox_43 R_u4) ?_
  refine rf_bx0 (ym_Te_push R_u4) (fun u5' u5 r5 R_u5 => ?_)
  refine rf_so ?_
  refine rf_ai (aq_C R_u5 h_v1) ?_
  refine rf_ck (ox_43 R_u5) ?_
  refine rf_bx0 (ym_Te_push R_u5) (fun u8' u8 r8 R_u8 => ?_)
  exact rf_ret R_u8 rfl
theorem ym_Te_toWritePair {N : Nat} {o : Option Nat} {c : Nat → Nat} {m : MS} {u : CS} (R : RP o c m u) {v1 : Nat} {v1' : Nat} {v2 : Int32} {v3 : Int32} (h_v1 : CVn c v1 v1') : RF 0 o VE c u (fm_Te_toWritePair N u 43 (some v1) v2 v3) (hm_Te_toWritePair N m v1' v2 v3) := yb_Te_toWritePair_0 (N := N) R h_v1
theorem yb_Wo_length_31 {N : Nat} {o : Option Nat} {c : Nat → Nat} {m : MS} {u : CS} (R : RP o c m u) {t0 : Int32} : RF 0 o VE c u (fb_Wo_length_31 N () u t0) (hb_Wo_length_31 N () m t0) := by
  unfold fb_Wo_length_31 hb_Wo_length_31
  exact rf_ret R rfl
theorem yb_Wo_length_12 {N : Nat} {o : Option Nat} {c : Nat → Nat} {m : MS} {u : CS} (R : RP o c m u) : RF 0 o VE c u (fb_Wo_length_12 N () u) (hb_Wo_length_12 N () m) := by
  unfold fb_Wo_length_12 hb_Wo_length_12
  exact (yb_Wo_length_31 R)
theorem yb_Wo_length_0 {N : Nat} {o : Option Nat} {c : Nat → Nat} {m : MS} {u : CS} (R : RP o c m u) {v0 : Nat} {v1 : Int32} (h_v0 : isWd v0) : RF 0 o VE c u (fb_Wo_length_0 N () u v0 v1) (hb_Wo_length_0 N () m v0 v1) := by
  unfold fb_Wo_length_0 hb_Wo_length_0
  refine rf_br ?_ ?_
  · exact (yb_Wo_length_12 R)
  · refine rf_bo (gi_W2 R h_v0) ?_
    refine rf_br ?_ ?_
    · refine rf_bo (gr_W1 R h_v0) ?_
      refine rf_so ?_
      refine rf_ai (ai_W R h_v0) ?_
      refine rf_bo (gr_W1 R h_v0) ?_
      refine rf_so ?_
      refine rf_ai (ai_W R h_v0) ?_
      exact (yb_Wo_length_31 R)
    · exact (yb_Wo_length_12 R)
theorem ym_Wo_length {N : Nat} {o : Option Nat} {c : Nat → Nat} {m : MS} {u : CS} (R : RP o c m u) {v0 : Nat} {v1 : Int32} (h_v0 : isWd v0) : RF 0 o VE c u (fm_Wo_length N u v0 v1) (hm_Wo_length N m v0 v1) := yb_Wo_length_0 (N := N) R h_v0
theorem yb_Ma_truth_9 {N : Nat} {o : Option Nat} {c : Nat → Nat} {m : MS} {u : CS} (R : RP o c m u) {t0 : Int32} : RF 0 o VE c u (fb_Ma_truth_9 N () u t0) (hb_Ma_truth_9 N () m t0) := by
  unfold fb_Ma_truth_9 hb_Ma_truth_9
  refine rf_bx0 (ym_Ma_atom R) (fun u1' u1 r1 R_u1 => ?_)
  exact rf_ret R_u1 rfl
theorem yb_Ma_truth_0 {N : Nat} {o : Option Nat} {c : Nat → Nat} {m : MS} {u : CS} (R : RP o c m u) {v0 : Int32} : RF 0 o VE c u (fb_Ma_truth_0 N () u v0) (hb_Ma_truth_0 N () m v0) := by
  unfold fb_Ma_truth_0 hb_Ma_truth_0
  refine rf_br ?_ ?_
  · exact (yb_Ma_truth_9 R)
  · exact (yb_Ma_truth_9 R)
theorem ym_Ma_truth {N : Nat} {o : Option Nat} {c : Nat → Nat} {m : MS} {u : CS} (R : RP o c m u) {v0 : Int32} : RF 0 o VE c u (fm_Ma_truth N u v0) (hm_Ma_truth N m v0) := yb_Ma_truth_0 (N := N) R
theorem yb_Te_listLength_54 {N : Nat} {o : Option Nat} {c : Nat → Nat} {m : MS} {u : CS} {G : (CS → Option Nat → Int64 → Int32 → Option (CS × Int32))} {G' : (MS → Nat → Int64 → Int32 → Option (MS × Int32))} (hG : ∀ (c : Nat → Nat) (m : MS) (u : CS) (v1 : Nat) (v1' : Nat) (v4 : Int64) (v6 : Int32), RP o c m u → CVn c v1 v1' → RF 0 o VE c u (G u (some v1) v4 v6) (G' m v1' v4 v6)) (R : RP o c m u) {t0 : Int32} : RF 0 o VE c u (fb_Te_listLength_54 N G u t0) (hb_Te_listLength_54 N G' m t0) := by
  unfold fb_Te_listLength_54 hb_Te_listLength_54
  exact rf_ret R rfl
theorem yb_Te_listLength_38 {N : Nat} {o : Option Nat} {c : Nat → Nat} {m : MS} {u : CS} {G : (CS → Option Nat → Int64 → Int32 → Option (CS × Int32))} {G' : (MS → Nat → Int64 → Int32 → Option (MS × Int32))} (hG : ∀ (c : Nat → Nat) (m : MS) (u : CS) (v1 : Nat) (v1' : Nat) (v4 : Int64) (v6 : Int32), RP o c m u → CVn c v1 v1' → RF 0 o VE c u (G u (some v1) v4 v6) (G' m v1' v4 v6)) (R : RP o c m u) {v4 : Int64} {v6 : Int32} : RF 0 o VE c u (fb_Te_listLength_38 N G u v4 v6) (hb_Te_listLength_38 N G' m v4 v6) := by
  unfold fb_Te_listLength_38 hb_Te_listLength_38
  refine rf_bx0 (ym_Te_tag R) (fun u1' u1 r1 R_u1 => ?_)
  refine rf_br ?_ ?_
  · exact (yb_Te_listLength_54 hG R_u1)
  · exact (yb_Te_listLength_54 hG R_u1)
theorem yb_Te_listLength_6 {N : Nat} {o : Option Nat} {c : Nat → Nat} {m : MS} {u : CS} {G : (CS → Option Nat → Int64 → Int32 → Option (CS × Int32))} {G' : (MS → Nat → Int64 → Int32 → Option (MS × Int32))} (hG : ∀ (c : Nat → Nat) (m : MS) (u : CS) (v1 : Nat) (v1' : Nat) (v4 : Int64) (v6 : Int32), RP o c m u → CVn c v1 v1' → RF 0 o VE c u (G u (some v1) v4 v6) (G' m v1' v4 v6)) (R : RP o c m u) {v1 : Nat} {v1' : Nat} {v4 : Int64} {v6 : Int32} (h_v1 : CVn c v1 v1') : RF 0 o VE c u (fb_Te_listLength_6 N G u (some v1) v4 v6) (hb_Te_listLength_6 N G' m v1' v4 v6) := by
  unfold fb_Te_listLength_6 hb_Te_listLength_6
  refine rf_br ?_ ?_
  · exact (yb_Te_listLength_38 hG R)
  · refine rf_bx0 (ym_Te_tag R) (fun u2' u2 r2 R_u2 => ?_)
    refine rf_br ?_ ?_
    · refine rf_so ?_
      refine rf_ai (aq_C R_u2 h_v1) ?_
      exact (hG _ _ _ _ _ _ _ R_u2 h_v1)
    · exact (yb_Te_listLength_38 hG R_u2)
theorem yb_Te_listLength_0 {N : Nat} {o : Option Nat} {c : Nat → Nat} {m : MS} {u : CS} {G : (CS → Option Nat → Int64 → Int32 → Option (CS × Int32))} {G' : (MS → Nat → Int64 → Int32 → Option (MS × Int32))} (hG : ∀ (c : Nat → Nat) (m : MS) (u : CS) (v1 : Nat) (v1' : Nat) (v4 : Int64) (v6 : Int32), RP o c m u → CVn c v1 v1' → RF 0 o VE c u (G u (some v1) v4 v6) (G' m v1' v4 v6)) (R : RP o c m u) {v1 : Nat} {v1' : Nat} {v2 : Int64} (h_v1 : CVn c v1 v1') : RF 0 o VE c u (fb_Te_listLength_0 N G u (some v1) v2) (hb_Te_listLength_0 N G' m v1' v2) := by
  unfold fb_Te_listLength_0 hb_Te_listLength_0
  exact (hG _ _ _ _ _ _ _ R h_v1)
theorem yg_Te_listLength {N : Nat} {o : Option Nat} : ∀ n, (∀ (c : Nat → Nat) (m : MS) (u : CS) (v1 : Nat) (v1' : Nat) (v4 : Int64) (v6 : Int32), RP o c m u → CVn c v1 v1' → RF 0 o VE c u ((gg_Te_listLength N n) u (some v1) v4 v6) ((hg_Te_listLength N n) m v1' v4 v6)) := by
  intro n
  induction n with
  | zero => exact fun c m u v1 v1' v4 v6 R h_v1 => rf_none
  | succ n ih => exact fun c m u v1 v1' v4 v6 R h_v1 => yb_Te_listLength_6 (N := N) ih R h_v1
theorem ym_Te_listLength {N : Nat} {o : Option Nat} {c : Nat → Nat} {m : MS} {u : CS} (R : RP o c m u) {v1 : Nat} {v1' : Nat} {v2 : Int64} (h_v1 : CVn c v1 v1') : RF 0 o VE c u (fm_Te_listLength N u 43 (some v1) v2) (hm_Te_listLength N m v1' v2) := yb_Te_listLength_0 (N := N) (yg_Te_listLength (N := N) N) R h_v1
end
