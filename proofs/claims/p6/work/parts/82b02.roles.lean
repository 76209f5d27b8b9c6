set_option maxRecDepth 100000
theorem RP_role {o : Option Nat} {c : Nat → Nat} {m m2 : MS} {u : CS} (h : RP o c m u) {q k : Nat} {x : LC} (hq : MD c q) (hk : isR k) (hx : ROL c m2 q k x) (hy : okC u.1.1 x = true)
    (a1 : ∀ j, j < 2000 → m2.1 j = m.1 j) (a2 : ∀ j, j < 2000 → m2.2.1 j = m.2.1 j) (a3 : ∀ j, j < 2000 → m2.2.2.1 j = m.2.2.1 j) (a4 : ∀ j, j < 2000 → m2.2.2.2 j = m.2.2.2 j)
    (b1 : ∀ r l, MD c r → isR l → ¬ (r = q ∧ l = k) → SMR c m m2 r l) (b2 : ∀ r r2, MD c r → rf (m2.1 (pq r 17)) = some r2 → MD c r2) (b3 : ∀ r l, MD c r → isL l → m2.1 (pq r l) = m.1 (pq r l)) : RP o c m2 (cup u (c (pq q k)) x) := by
  obtain ⟨⟨s1, s2, s3, s4, s5, s6, s7⟩, r2, r3, ⟨q1, q2⟩, ⟨d1, d2⟩, ⟨p1, p2⟩, t1, t2, t3⟩ := h
  have hb := d2 q k hq hk
  have hn : ∀ i, i < 57 → (cup u (c (pq q k)) x).2 i = u.2 i := fun i hi => cup_ne (by omega)
  refine ⟨⟨sk_cup57 s1 hb.1, fun i l hi hl => ?_, ?_, fun i hi => ?_, fun i hi => ?_, ?_, ?_⟩, wf_cup r2 (fun _ => hy), fun r hr => ?_, ⟨fun r hr => ?_, fun r hr => ?_⟩, ⟨d1, d2⟩, ⟨fun r l hr hl => ?_, b2⟩, ?_, t2, fun r l hr hl => ?_⟩
  · rw [FI_at (hn i hi), s2 i l hi hl, a1 _ (by omega)]
  · rw [FJ_at (hn 55 (by omega)), s3, a2 _ (by omega)]
  · rw [AI_at (hn i hi), s4 i hi, a3 _ (by omega)]
  · rw [AJ_at (hn i hi), s5 i hi, a4 _ (by omega)]
  · rw [FR_at (hn 43 (by omega)), s6, a1 _ (by omega)]
  · rw [a1 _ (by omega)]; exact s7
  · rw [FR_at (hn 55 (by omega)), FR_at (hn 55 (by omega))]; exact r3 r hr
  · rw [AP_at (hn 48 (by omega))]; exact q1 r hr
  · rw [a3 _ (by omega)]; exact q2 r hr
  · by_cases e : r = q ∧ l = k
    · obtain ⟨rfl, rfl⟩ := e
      rw [cup_eq]; exact hx
    · rw [cup_ne (fun z => e (d1 r l q k hr hq hl hk z))]
      exact ROL_same (p1 r l hr hl) (b1 r l hr hl e)
  · rw [cup_1, t1]
    refine congrArg _ (slT_eq (fun r hr => ?_)).symm
    by_cases e : c (pq r 0) = 0
    · unfold slQ; rw [if_pos e, if_pos e]
    · exact slQ_eq (fun l hl => b3 r l ⟨hr, e⟩ hl)
  · rw [b3 r l hr hl]; exact t3 r l hr hl
def PVn (c : Nat → Nat) (j q : Nat) : Prop := MD c q ∧ j = c (pq q 0)
def FVn (c : Nat → Nat) (j q : Nat) : Prop := MD c q ∧ j = c (pq q 20)
def CVn (c : Nat → Nat) (j b : Nat) : Prop := ∃ q, MD c q ∧ b = pq q 2 ∧ j = c (pq q 2)
def PVo (c : Nat → Nat) (a b : Option Nat) : Prop := (a = none ∧ b = none) ∨ ∃ j q, a = some j ∧ b = some q ∧ PVn c j q
def FVo (c : Nat → Nat) (a b : Option Nat) : Prop := (a = none ∧ b = none) ∨ ∃ j q, a = some j ∧ b = some q ∧ FVn c j q
def CVo (c : Nat → Nat) (a b : Option Nat) : Prop := (a = none ∧ b = none) ∨ ∃ j q, a = some j ∧ b = some q ∧ CVn c j q
def XVn (c : Nat → Nat) (q j b : Nat) : Prop := MD c q ∧ ∃ k, (k = 33 ∨ k = 35 ∨ k = 6 ∨ k = 3) ∧ b = pq q k ∧ j = c (pq q k)
def fr (b : Option Nat) : Int32 := match b with
  | none => -1
  | some r => Int32.ofNat r
theorem rf_ofNat {r : Nat} (h : r < 2147483648) : rf (Int32.ofNat r) = some r := by
  have e : Int32.ofNat r = I (r : Int) := rfl
  unfold rf
  have h1 : ¬ (Int32.ofNat r < 0) := by
    rw [e, I_lit (n := 0), I_lt (by omega) (by omega) (by decide) (by decide)]
    have : (OfNat.ofNat 0 : Int) = 0 := rfl
    omega
  rw [if_neg h1, e, I_tn (by omega) (by omega)]
  rfl
theorem rf_fr {b : Option Nat} (h : ∀ r, b = some r → r < 24) : rf (fr b) = b := by
  cases b with
  | none => rfl
  | some r => exact rf_ofNat (by have := h r rfl; omega)
theorem PVo.lt {c : Nat → Nat} {a b : Option Nat} (h : PVo c a b) : ∀ r, b = some r → r < 24 := by
  intro r e
  rcases h with h | ⟨j, q, h1, h2, h3⟩
  · rw [h.2] at e; cases e
  · rw [h2] at e; cases e; exact h3.1.1
theorem PVo.map {c : Nat → Nat} {a b : Option Nat} (h : PVo c a b) : a = b.map (fun r => c (pq r 0)) := by
  rcases h with h | ⟨j, q, h1, h2, h3⟩
  · rw [h.1, h.2]; rfl
  · rw [h1, h2, h3.2]; rfl
section
variable {o : Option Nat} {c : Nat → Nat} {m : MS} {u : CS} {j q k : Nat}
theorem RP.lt (h : RP o c m u) (hq : MD c q) (hk : isR k) : c (pq q k) < u.1.1 := (h.2.2.2.2.1.2 q k hq hk).2
theorem RP.rol (h : RP o c m u) (hq : MD c q) (hk : isR k) : ROL c m q k (u.2 (c (pq q k))) := h.2.2.2.2.2.1.1 q k hq hk
theorem RP.sk (h : RP o c m u) : skB u = true := h.1.1
theorem isR0 : isR 0 := Or.inl rfl
theorem isR20 : isR 20 := Or.inr (Or.inl rfl)
theorem oF_P (h : RP o c m u) (hj : PVn c j q) : ∃ f, oF u j 7 = some f ∧ u.2 j = .inl (7, f) ∧ j < u.1.1 ∧ roP c m q (.inl (7, f)) := by
  obtain ⟨hq, rfl⟩ := hj
  have hr := (h.rol hq isR0).1 rfl
  obtain ⟨f, e, r⟩ := hr
  refine ⟨f, ?_, e, h.lt hq isR0, f, rfl, r⟩
  unfold oF
  rw [if_pos (h.lt hq isR0), e]
  exact if_pos rfl
theorem oF_F (h : RP o c m u) (hj : FVn c j q) : ∃ f, oF u j 4 = some f ∧ u.2 j = .inl (4, f) ∧ j < u.1.1 ∧ roF c m q (.inl (4, f)) := by
  obtain ⟨hq, rfl⟩ := hj
  have hr := (h.rol hq isR20).2.1 rfl
  obtain ⟨f, e, r⟩ := hr
  refine ⟨f, ?_, e, h.lt hq isR20, f, rfl, r⟩
  unfold oF
  rw [if_pos (h.lt hq isR20), e]
  exact if_pos rfl
theorem io_P (h : RP o c m u) (hj : PVn c j q) : isO u j 7 = true := by
  obtain ⟨f, e, -⟩ := oF_P h hj
  unfold isO; rw [e]; rfl
theorem io_F (h : RP o c m u) (hj : FVn c j q) : isO u j 4 = true := by
  obtain ⟨f, e, -⟩ := oF_F h hj
  unfold isO; rw [e]; rfl
theorem gI_P0 (h : RP o c m u) (hj : PVn c j q) : gI u j 7 0 = some (Int32.ofNat q) := by
  obtain ⟨f, e, -, -, g, e2, r⟩ := oF_P h hj
  cases e2
  unfold gI; rw [e]; simp only [r.1]
theorem gI_P (h : RP o c m u) (hj : PVn c j q) (hk : KI k) : gI u j 7 k = some (m.1 (pq q k)) := by
  obtain ⟨f, e, -, -, g, e2, r⟩ := oF_P h hj
  cases e2
  unfold gI; rw [e]; simp only [r.2.2.2.2.2.2.2.1 k hk]
theorem gJ_P10 (h : RP o c m u) (hj : PVn c j q) : gJ u j 7 10 = some (m.2.1 (pq q 10)) := by
  obtain ⟨f, e, -, -, g, e2, r⟩ := oF_P h hj
  cases e2
  unfold gJ; rw [e]; simp only [r.2.2.2.2.2.2.2.2.1]
theorem gJ_P16 (h : RP o c m u) (hj : PVn c j q) : gJ u j 7 16 = some (m.2.1 (pq q 16)) := by
  obtain ⟨f, e, -, -, g, e2, r⟩ := oF_P h hj
  cases e2
  unfold gJ; rw [e]; simp only [r.2.2.2.2.2.2.2.2.2]
theorem gR_P1 (h : RP o c m u) (hj : PVn c j q) : gR u j 7 1 = some (some (c (pq q 20))) := by
  obtain ⟨f, e, -, -, g, e2, r⟩ := oF_P h hj
  cases e2
  unfold gR; rw [e]; simp only [r.2.1, rfv]
theorem gR_P2 (h : RP o c m u) (hj : PVn c j q) : gR u j 7 2 = some (some (c (pq q 2))) := by
  obtain ⟨f, e, -, -, g, e2, r⟩ := oF_P h hj
  cases e2
  unfold gR; rw [e]; simp only [r.2.2.1, rfv]
theorem gR_P3 (h : RP o c m u) (hj : PVn c j q) : gR u j 7 3 = some (some (c (pq q 3))) := by
  obtain ⟨f, e, -, -, g, e2, r⟩ := oF_P h hj
  cases e2
  unfold gR; rw [e]; simp only [r.2.2.2.1, rfv]
theorem gR_P6 (h : RP o c m u) (hj : PVn c j q) : gR u j 7 6 = some (some (c (pq q 6))) := by
  obtain ⟨f, e, -, -, g, e2, r⟩ := oF_P h hj
  cases e2
  unfold gR; rw [e]; simp only [r.2.2.2.2.1, rfv]
theorem gR_P14 (h : RP o c m u) (hj : PVn c j q) : gR u j 7 14 = some (some (c (pq q 14))) := by
  obtain ⟨f, e, -, -, g, e2, r⟩ := oF_P h hj
  cases e2
  unfold gR; rw [e]; simp only [r.2.2.2.2.2.1, rfv]
theorem gR_P17 (h : RP o c m u) (hj : PVn c j q) : gR u j 7 17 = some (hmR c m q) := by
  obtain ⟨f, e, -, -, g, e2, r⟩ := oF_P h hj
  cases e2
  unfold gR; rw [e]; simp only [r.2.2.2.2.2.2.1]
theorem PV_home (h : RP o c m u) (hj : PVn c j q) : PVo c (hmR c m q) (rf (m.1 (pq q 17))) := by
  have := h.2.2.2.2.2.1.2 q
  unfold hmR
  cases e : rf (m.1 (pq q 17)) with
  | none => exact Or.inl ⟨rfl, rfl⟩
  | some r => exact Or.inr ⟨_, r, rfl, rfl, this r hj.1 e, rfl⟩
theorem gI_F (h : RP o c m u) (hj : FVn c j q) (hk : KG k) : gI u j 4 k = some (m.1 (pq q (20 + k))) := by
  obtain ⟨f, e, -, -, g, e2, r⟩ := oF_F h hj
  cases e2
  unfold gI; rw [e]; simp only [r.2.2.2.2.2 k hk]
theorem gR_F0 (h : RP o c m u) (hj : FVn c j q) : gR u j 4 0 = some (some (c (pq q 30))) := by
  obtain ⟨f, e, -, -, g, e2, r⟩ := oF_F h hj
  cases e2
  unfold gR; rw [e]; simp only [r.1, rfv]
theorem gR_F2 (h : RP o c m u) (hj : FVn c j q) : gR u j 4 2 = some (some (c (pq q 32))) := by
  obtain ⟨f, e, -, -, g, e2, r⟩ := oF_F h hj
  cases e2
  unfold gR; rw [e]; simp only [r.2.1, rfv]
theorem gR_F3 (h : RP o c m u) (hj : FVn c j q) : gR u j 4 3 = some (some (c (pq q 33))) := by
  obtain ⟨f, e, -, -, g, e2, r⟩ := oF_F h hj
  cases e2
  unfold gR; rw [e]; simp only [r.2.2.1, rfv]
theorem gR_F5 (h : RP o c m u) (hj : FVn c j q) : gR u j 4 5 = some (some (c (pq q 35))) := by
  obtain ⟨f, e, -, -, g, e2, r⟩ := oF_F h hj
  cases e2
  unfold gR; rw [e]; simp only [r.2.2.2.1, rfv]
theorem gR_F7 (h : RP o c m u) (hj : FVn c j q) : gR u j 4 7 = some (some (c (pq q 37))) := by
  obtain ⟨f, e, -, -, g, e2, r⟩ := oF_F h hj
  cases e2
  unfold gR; rw [e]; simp only [r.2.2.2.2.1, rfv]
theorem oL_ar {n : Nat} {f : Nat → Int64} {i : Nat} (hi : i < u.1.1) (h : arJ n f (u.2 i)) : ∃ g, oL u i = some (n, g) ∧ u.2 i = .inr (.inr (.inl (n, g))) ∧ ∀ z, z < n → g z = f z := by
  obtain ⟨g, e, h2⟩ := h
  refine ⟨g, ?_, e, h2⟩
  unfold oL
  rw [if_pos hi, e]
theorem oA_ar {n : Nat} {f : Nat → Int32} {i : Nat} (hi : i < u.1.1) (h : arI n f (u.2 i)) : ∃ g, oA u i 4 = some (n, g) ∧ u.2 i = .inr (.inl (4, n, g)) ∧ ∀ z, z < n → g z = f z := by
  obtain ⟨g, e, h2⟩ := h
  refine ⟨g, ?_, e, h2⟩
  unfold oA
  rw [if_pos hi, e]
  exact if_pos rfl
theorem inb_lt {i : Int32} {n : Nat} (h : inb i n = true) : i.toNatClampNeg < n := by
  unfold inb at h
  have := of_decide_eq_true h
  omega
theorem aJ_ar {n : Nat} {f : Nat → Int64} {i : Nat} {z : Int32} (hi : i < u.1.1) (h : arJ n f (u.2 i)) : aJ u i z = if inb z n = true then some (f z.toNatClampNeg) else none := by
  obtain ⟨g, e, -, h2⟩ := oL_ar hi h
  unfold aJ
  rw [e]
  show (if inb z n = true then some (g z.toNatClampNeg) else none) = _
  by_cases b : inb z n = true
  · rw [if_pos b, if_pos b, h2 _ (inb_lt b)]
  · rw [if_neg b, if_neg b]
theorem aI_ar {n : Nat} {f : Nat → Int32} {i : Nat} {z : Int32} (hi : i < u.1.1) (h : arI n f (u.2 i)) : aI u i 4 z = if inb z n = true then some (f z.toNatClampNeg) else none := by
  obtain ⟨g, e, -, h2⟩ := oA_ar hi h
  unfold aI
  rw [e]
  show (if inb z n = true then some (g z.toNatClampNeg) else none) = _
  by_cases b : inb z n = true
  · rw [if_pos b, if_pos b, h2 _ (inb_lt b)]
  · rw [if_neg b, if_neg b]
def lnJ (m : MS) (q k : Nat) : Nat := if k = 2 ∨ k = 3 then 512 else if k = 6 then 30 else if k = 33 then lnQ m q 43 else lnQ m q 45
def lnI (m : MS) (q k : Nat) : Nat := if k = 14 then 24 else if k = 30 then 300 else if k = 32 then lnQ m q 42 else lnQ m q 47
def isJ (k : Nat) : Prop := k = 2 ∨ k = 3 ∨ k = 6 ∨ k = 33 ∨ k = 35
def isI (k : Nat) : Prop := k = 14 ∨ k = 30 ∨ k = 32 ∨ k = 37
theorem isJR {k : Nat} (h : isJ k) : isR k := by unfold isJ at h; unfold isR; omega
theorem isIR {k : Nat} (h : isI k) : isR k := by unfold isI at h; unfold isR; omega
theorem ROL_J {x : LC} (hk : isJ k) : ROL c m q k x ↔ arJ (lnJ m q k) (m.2.2.2 (pq q k)) x := by
  unfold isJ at hk
  unfold ROL lnJ
  rcases hk with rfl | rfl | rfl | rfl | rfl <;> simp
theorem ROL_I {x : LC} (hk : isI k) : ROL c m q k x ↔ arI (lnI m q k) (m.2.2.1 (pq q k)) x := by
  unfold isI at hk
  unfold ROL lnI
  rcases hk with rfl | rfl | rfl | rfl <;> simp
theorem aJ_R (h : RP o c m u) (hq : MD c q) (hk : isJ k) {z : Int32} : aJ u (c (pq q k)) z = if inb z (lnJ m q k) = true then some (m.2.2.2 (pq q k) z.toNatClampNeg) else none :=
  aJ_ar (h.lt hq (isJR hk)) ((ROL_J hk).mp (h.rol hq (isJR hk)))
theorem aI_R (h : RP o c m u) (hq : MD c q) (hk : isI k) {z : Int32} : aI u (c (pq q k)) 4 z = if inb z (lnI m q k) = true then some (m.2.2.1 (pq q k) z.toNatClampNeg) else none :=
  aI_ar (h.lt hq (isIR hk)) ((ROL_I hk).mp (h.rol hq (isIR hk)))
theorem ofNat_cl {x : Int32} (h : ¬ x < 0) : Int32.ofNat x.toNatClampNeg = x := by
  rw [I_of x] at h ⊢
  have hr := ti_rng x
  rw [I_lit (n := 0), I_lt hr.1 hr.2 (by decide) (by decide)] at h
  have z : (OfNat.ofNat 0 : Int) = 0 := rfl
  rw [I_tn hr.1 hr.2]
  show I ((x.toInt.toNat : Nat) : Int) = _
  congr 1
  omega
theorem nJ_R (h : RP o c m u) (hq : MD c q) {l : Nat} (hk : (k = 33 ∧ l = 43) ∨ (k = 35 ∧ l = 45)) : nJ u (c (pq q k)) = some (m.1 (pq q l)) := by
  have hj : isJ k := by unfold isJ; omega
  obtain ⟨g, e, -⟩ := oL_ar (h.lt hq (isJR hj)) ((ROL_J hj).mp (h.rol hq (isJR hj)))
  unfold nJ
  rw [e]
  show some (Int32.ofNat (lnJ m q k)) = _
  have hn := h.2.2.2.2.2.2.2.2 q l hq (by unfold isL; omega)
  rcases hk with ⟨rfl, rfl⟩ | ⟨rfl, rfl⟩
  · show some (Int32.ofNat (lnQ m q 43)) = _
    unfold lnQ; rw [ofNat_cl hn]
  · show some (Int32.ofNat (lnQ m q 45)) = _
    unfold lnQ; rw [ofNat_cl hn]
theorem nA_R (h : RP o c m u) (hq : MD c q) {l : Nat} (hk : (k = 32 ∧ l = 42) ∨ (k = 37 ∧ l = 47)) : nA u (c (pq q k)) 4 = some (m.1 (pq q l)) := by
  have hj : isI k := by unfold isI; omega
  obtain ⟨g, e, -⟩ := oA_ar (h.lt hq (isIR hj)) ((ROL_I hj).mp (h.rol hq (isIR hj)))
  unfold nA
  rw [e]
  show some (Int32.ofNat (lnI m q k)) = _
  have hn := h.2.2.2.2.2.2.2.2 q l hq (by unfold isL; omega)
  rcases hk with ⟨rfl, rfl⟩ | ⟨rfl, rfl⟩
  · show some (Int32.ofNat (lnQ m q 42)) = _
    unfold lnQ; rw [ofNat_cl hn]
  · show some (Int32.ofNat (lnQ m q 47)) = _
    unfold lnQ; rw [ofNat_cl hn]
end
