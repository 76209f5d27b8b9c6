set_option maxRecDepth 100000
theorem skp_le {g : Nat → Int32} {k : Nat} : ∀ m p l cm, p ≤ k → p ≤ (skp g k m p l cm).1 ∧ (skp g k m p l cm).1 ≤ k ∧ (skp g k m p l cm).2 + p ≤ l + (skp g k m p l cm).1 := by
  intro m
  induction m with
  | zero => intro p l cm h; exact ⟨Nat.le_refl _, h, Nat.le_refl _⟩
  | succ m ih =>
    intro p l cm h
    have e : skp g k (m + 1) p l cm = if k ≤ p then (p, l) else if (!decide (g p = 10) && (cm || decide (g p = 37))) = false ∧ g p ≠ 9 ∧ g p ≠ 10 ∧ g p ≠ 32 then (p, l) else skp g k m (p + 1) (if g p = 10 then l + 1 else l) (!decide (g p = 10) && (cm || decide (g p = 37))) := rfl
    rw [e]
    by_cases h1 : k ≤ p
    · rw [if_pos h1]; exact ⟨Nat.le_refl _, h, Nat.le_refl _⟩
    · rw [if_neg h1]
      by_cases h2 : (!decide (g p = 10) && (cm || decide (g p = 37))) = false ∧ g p ≠ 9 ∧ g p ≠ 10 ∧ g p ≠ 32
      · rw [if_pos h2]; exact ⟨Nat.le_refl _, h, Nat.le_refl _⟩
      · rw [if_neg h2]
        obtain ⟨a, b, c⟩ := ih (p + 1) (if g p = 10 then l + 1 else l) (!decide (g p = 10) && (cm || decide (g p = 37))) (by omega)
        refine ⟨by omega, b, ?_⟩
        split at c <;> simp_all <;> omega
theorem skp_end {g : Nat → Int32} {k : Nat} : ∀ m p l cm, p + m = k + 1 → p ≤ k → (skp g k m p l cm).1 = k ∨ (g (skp g k m p l cm).1 ≠ 10 ∧ g (skp g k m p l cm).1 ≠ 9 ∧ g (skp g k m p l cm).1 ≠ 32 ∧ g (skp g k m p l cm).1 ≠ 37) := by
  intro m
  induction m with
  | zero => intro p l cm h h9; omega
  | succ m ih =>
    intro p l cm h h9
    have e : skp g k (m + 1) p l cm = if k ≤ p then (p, l) else if (!decide (g p = 10) && (cm || decide (g p = 37))) = false ∧ g p ≠ 9 ∧ g p ≠ 10 ∧ g p ≠ 32 then (p, l) else skp g k m (p + 1) (if g p = 10 then l + 1 else l) (!decide (g p = 10) && (cm || decide (g p = 37))) := rfl
    rw [e]
    by_cases h1 : k ≤ p
    · rw [if_pos h1]; exact Or.inl (by show p = k; omega)
    · rw [if_neg h1]
      by_cases h2 : (!decide (g p = 10) && (cm || decide (g p = 37))) = false ∧ g p ≠ 9 ∧ g p ≠ 10 ∧ g p ≠ 32
      · rw [if_pos h2]
        obtain ⟨a, b, c, d⟩ := h2
        refine Or.inr ⟨c, b, d, fun z => ?_⟩
        have z : g p = 37 := z
        rw [decide_eq_false c, decide_eq_true z, Bool.or_true] at a
        cases a
      · rw [if_neg h2]
        exact ih (p + 1) _ _ (by omega) (by omega)
theorem skp_eq {f g : Nat → Int32} {k : Nat} (h : ∀ j, j < k → f j = g j) : ∀ m p l cm, skp f k m p l cm = skp g k m p l cm := by
  intro m
  induction m with
  | zero => intro p l cm; rfl
  | succ m ih =>
    intro p l cm
    have e : ∀ g : Nat → Int32, skp g k (m + 1) p l cm = if k ≤ p then (p, l) else if (!decide (g p = 10) && (cm || decide (g p = 37))) = false ∧ g p ≠ 9 ∧ g p ≠ 10 ∧ g p ≠ 32 then (p, l) else skp g k m (p + 1) (if g p = 10 then l + 1 else l) (!decide (g p = 10) && (cm || decide (g p = 37))) := fun _ => rfl
    rw [e, e]
    by_cases h1 : k ≤ p
    · rw [if_pos h1, if_pos h1]
    · rw [if_neg h1, if_neg h1, h p (by omega), ih]
section ALL
variable {u : CS} {w : MS} {n : TN} {N : Nat}
theorem opn_TK (h : TK u w n) : opn w := by
  have hk := h.k4
  have hi := h.ik
  by_cases e : n.i = 0
  · refine Or.inl ?_
    rw [h.iw, e]; rfl
  · have e1 : w.1 9 - 1 = Int32.ofNat (n.i - 1) := by rw [h.iw]; exact q_sub (m := 1) (by omega)
    refine Or.inr ⟨?_, ?_, ?_⟩
    · rw [h.iw]; exact fun z => e (q_inj (by omega) (by decide) z)
    · rw [e1]; exact q_inb (by show n.i - 1 < 4002; omega) (by decide)
    · rw [e1, q_nat (by omega)]
      rcases (h.tk (n.i - 1) (by omega)).1 with ⟨-, a, -⟩ | ⟨-, a, -⟩ | ⟨-, a, -⟩ | ⟨-, a, -⟩ | ⟨a, -⟩ | ⟨a, -⟩ <;> rw [a] <;> decide
theorem TK_skip {u1 : CS} {p2 l2 : Nat} (h : TK u w n) (hs : skB u1 = true) (f : Fr4 S90 u u1) (p9 : FI u1 4 9 = Int32.ofNat p2) (l9 : FI u1 4 10 = Int32.ofNat l2) (hp : n.p ≤ p2) (hk : p2 ≤ n.k) (hl : l2 + n.p ≤ n.l + p2) : TK u1 (sPL w p2 l2) ⟨n.k, n.i, p2, l2, n.na, n.fa, n.nn, n.fc, n.fr, n.q, n.ns, n.fs⟩ := by
  have a : ∀ j, j ≠ 4 → AI u1 j = AI u j := fun j x => fr4_AI f x
  have g : ∀ i j, i ≠ 4 → FI u1 i j = FI u i j := fun i j x => fr4_FI f x
  have g4 : ∀ j, j ≠ 9 → j ≠ 10 → FI u1 4 j = FI u 4 j := fun j x y => f.2.2 j (fun z => by rcases z with z | z; exact x z; exact y z)
  obtain ⟨c1, c2, c3, c4⟩ := h.co
  have h1 := h.b1
  have hlk := h.lk
  have hip := h.ip
  have hb3 := h.b3
  have hb4 := h.b4
  have hb5 := h.b5
  have hs2 := h.s2
  have hs3 := h.s3
  have hb2 : 2 * (n.na - 22 + n.nn) = p2 + 1 → p2 = n.k ∨ isW (AI u1 5 p2) = false := fun z => by
    have e : p2 = n.p := by omega
    rw [a 5 (by decide), e]
    exact h.b2 (by omega)
  exact (TK.mk1 (sk := hs) (k4 := h.k4) (cu := by rw [g4 1 (by decide) (by decide)]; exact h.cu) (cw := h.cw) (ta := fun j hj => by rw [a 5 (by decide)]; exact h.ta j hj) (bu := by rw [a 5 (by decide)]; exact h.bu) (bw := h.bw) (co := ⟨by rw [g 9 2 (by decide)]; exact c1, fun j hj => by rw [a 10 (by decide)]; exact c2 j hj, fun j hj => by rw [a 11 (by decide)]; exact c3 j hj, c4⟩) (ik := h.ik) (iu := by rw [g4 5 (by decide) (by decide)]; exact h.iu) (atm := AT_fr h.atm (g 1 2 (by decide)) (a 3 (by decide)) (a 2 (by decide)) rfl rfl rfl) (nmm := NM_fr h.nmm (g 12 2 (by decide)) (a 14 (by decide)) (a 13 (by decide)) rfl rfl rfl) (a22 := h.a22) (sw := h.sw) (sf := h.sf) (sm := h.sm) (f22 := h.f22) (s22 := fun j hj => (congrFun (a 2 (by decide)) j).trans (h.s22 j hj)) (r00 := h.r00) (z00 := h.z00) (tk := fun j hj => by rw [a 5 (by decide), a 6 (by decide), a 7 (by decide), a 8 (by decide)]; exact h.tk j hj) (pk := hk) (pu := p9) (pw := rfl) (lk := by show l2 ≤ p2 + 1; omega) (lu := l9) (lw := rfl) (ip := by show n.i ≤ p2; omega) (iw := h.iw) (b1 := by show 2 * (n.na - 22 + n.nn) ≤ p2 + 1; omega) (b2 := hb2) (b3 := by show n.fa n.na ≤ 139 + p2; omega) (b4 := by show n.fc (ncQ n.q n.nn) ≤ 1 + p2; omega) (b5 := by show n.fr n.nn ≤ p2; omega) (s2 := by show 2 * n.ns ≤ p2; omega) (s3 := by show n.fs n.ns ≤ p2; omega))
def uLV (u : CS) (i : Nat) (x : Int32) : CS := uA (uA u 8 (upd (AI u 8) i x)) 7 (upd (AI u 7) i 0)
theorem uLV_sk {i : Nat} {x : Int32} (h : skB u = true) : skB (uLV u i x) = true := sa_7 (sa_8 h)
theorem uLV_A {i j : Nat} {x : Int32} (h7 : j ≠ 7) (h8 : j ≠ 8) : AI (uLV u i x) j = AI u j := by unfold uLV; rw [AI_A h7, AI_A h8]
theorem uLV_F {i a b : Nat} {x : Int32} : FI (uLV u i x) a b = FI u a b := by unfold uLV; rw [FI_A, FI_A]
theorem uLV_7 {i : Nat} {x : Int32} (h : skB u = true) : AI (uLV u i x) 7 = upd (AI u 7) i 0 := fa_7 (sa_8 h)
theorem uLV_8 {i : Nat} {x : Int32} (h : skB u = true) : AI (uLV u i x) 8 = upd (AI u 8) i x := by unfold uLV; rw [AI_A (by decide), fa_8 h]
theorem uLV_fr {i : Nat} {x : Int32} : FrC AX FX u (uLV u i x) := (FrC.ai (by decide) (by show 8 < 15; decide)).tr FrC.a7
theorem TK_wr {x : Int32} (h : TK u w n) : TK (uLV u n.i x) w n := by
  have a : ∀ j, j ≠ 7 → j ≠ 8 → AI (uLV u n.i x) j = AI u j := fun j x y => uLV_A x y
  obtain ⟨c1, c2, c3, c4⟩ := h.co
  have htk : ∀ j, j < n.i → KV (AI (uLV u n.i x) 5) n.k (w.2.2.1 18) n.q n.na n.nn n.ns n.fs (AI (uLV u n.i x) 6 j) (AI (uLV u n.i x) 7 j) (w.2.2.1 6 j) (w.2.2.1 7 j) ∧ AI (uLV u n.i x) 8 j = w.2.2.1 8 j := fun j hj => by
    rw [a 5 (by decide) (by decide), a 6 (by decide) (by decide), uLV_7 h.sk, uLV_8 h.sk, upd_ne (by omega), upd_ne (by omega)]
    exact h.tk j hj
  exact (TK.mk1 (sk := uLV_sk h.sk) (k4 := h.k4) (cu := by rw [uLV_F]; exact h.cu) (cw := h.cw) (ta := fun j hj => by rw [a 5 (by decide) (by decide)]; exact h.ta j hj) (bu := by rw [a 5 (by decide) (by decide)]; exact h.bu) (bw := h.bw) (co := ⟨by rw [uLV_F]; exact c1, fun j hj => by rw [a 10 (by decide) (by decide)]; exact c2 j hj, fun j hj => by rw [a 11 (by decide) (by decide)]; exact c3 j hj, c4⟩) (ik := h.ik) (iu := by rw [uLV_F]; exact h.iu) (atm := AT_fr h.atm uLV_F (a 3 (by decide) (by decide)) (a 2 (by decide) (by decide)) rfl rfl rfl) (nmm := NM_fr h.nmm uLV_F (a 14 (by decide) (by decide)) (a 13 (by decide) (by decide)) rfl rfl rfl) (a22 := h.a22) (sw := h.sw) (sf := h.sf) (sm := h.sm) (f22 := h.f22) (s22 := fun j hj => (congrFun (a 2 (by decide) (by decide)) j).trans (h.s22 j hj)) (r00 := h.r00) (z00 := h.z00) (tk := htk) (pk := h.pk) (pu := by rw [uLV_F]; exact h.pu) (pw := h.pw) (lk := h.lk) (lu := by rw [uLV_F]; exact h.lu) (lw := h.lw) (ip := h.ip) (iw := h.iw) (b1 := h.b1) (b2 := fun z => by rw [a 5 (by decide) (by decide)]; exact h.b2 z) (b3 := h.b3) (b4 := h.b4) (b5 := h.b5) (s2 := h.s2) (s3 := h.s3))
end ALL
def TOKS (u : CS) (w : MS) (n : TN) (bad : Bool) : Prop := (TB u w n) ∧ (AI u 6 n.i = if bad = true then 45 else 0) ∧ (AI u 8 n.i = w.2.2.1 8 n.i) ∧ (w.2.2.1 6 n.i = if bad = true then 7 else 0) ∧ (w.1 9 = Int32.ofNat (n.i + if bad = true then 1 else 0)) ∧ (bad = true → w.2.2.1 6 (n.i + 1) = 0)
theorem TOKS.toTB {u : CS} {w : MS} {n : TN} {bad : Bool} (h : TOKS u w n bad) : TB u w n := h.1
theorem TOKS.sk {u : CS} {w : MS} {n : TN} {bad : Bool} (h : TOKS u w n bad) : skB u = true := (TOKS.toTB h).sk
theorem TOKS.k4 {u : CS} {w : MS} {n : TN} {bad : Bool} (h : TOKS u w n bad) : n.k ≤ 4000 := (TOKS.toTB h).k4
theorem TOKS.cu {u : CS} {w : MS} {n : TN} {bad : Bool} (h : TOKS u w n bad) : FI u 4 1 = Int32.ofNat n.k := (TOKS.toTB h).cu
theorem TOKS.cw {u : CS} {w : MS} {n : TN} {bad : Bool} (h : TOKS u w n bad) : w.1 5 = Int32.ofNat n.k := (TOKS.toTB h).cw
theorem TOKS.ta {u : CS} {w : MS} {n : TN} {bad : Bool} (h : TOKS u w n bad) : ∀ j, j < n.k → AI u 5 j = w.2.2.1 4 j := (TOKS.toTB h).ta
theorem TOKS.bu {u : CS} {w : MS} {n : TN} {bad : Bool} (h : TOKS u w n bad) : bytB (AI u 5) := (TOKS.toTB h).bu
theorem TOKS.bw {u : CS} {w : MS} {n : TN} {bad : Bool} (h : TOKS u w n bad) : bytB (w.2.2.1 4) := (TOKS.toTB h).bw
theorem TOKS.co {u : CS} {w : MS} {n : TN} {bad : Bool} (h : TOKS u w n bad) : CON u w := (TOKS.toTB h).co
theorem TOKS.ik {u : CS} {w : MS} {n : TN} {bad : Bool} (h : TOKS u w n bad) : n.i ≤ n.k := (TOKS.toTB h).ik
theorem TOKS.iu {u : CS} {w : MS} {n : TN} {bad : Bool} (h : TOKS u w n bad) : FI u 4 5 = Int32.ofNat n.i := (TOKS.toTB h).iu
theorem TOKS.atm {u : CS} {w : MS} {n : TN} {bad : Bool} (h : TOKS u w n bad) : AT u w n.fa n.na := (TOKS.toTB h).atm
theorem TOKS.nmm {u : CS} {w : MS} {n : TN} {bad : Bool} (h : TOKS u w n bad) : NMz u w n.fc n.fr n.q n.nn := (TOKS.toTB h).nmm
theorem TOKS.a22 {u : CS} {w : MS} {n : TN} {bad : Bool} (h : TOKS u w n bad) : 22 ≤ n.na := (TOKS.toTB h).a22
theorem TOKS.sw {u : CS} {w : MS} {n : TN} {bad : Bool} (h : TOKS u w n bad) : w.1 20 = Int32.ofNat n.ns := (TOKS.toTB h).sw
theorem TOKS.sf {u : CS} {w : MS} {n : TN} {bad : Bool} (h : TOKS u w n bad) : ∀ j, j ≤ n.ns → w.2.2.1 19 j = Int32.ofNat (n.fs j) := (TOKS.toTB h).sf
theorem TOKS.sm {u : CS} {w : MS} {n : TN} {bad : Bool} (h : TOKS u w n bad) : ∀ r, r < n.ns → n.fs (r + 1) ≤ n.fs n.ns := (TOKS.toTB h).sm
theorem TOKS.f22 {u : CS} {w : MS} {n : TN} {bad : Bool} (h : TOKS u w n bad) : ∀ j, j ≤ 22 → n.fa j = fa0 j := (TOKS.toTB h).f22
theorem TOKS.s22 {u : CS} {w : MS} {n : TN} {bad : Bool} (h : TOKS u w n bad) : ∀ j, j < 139 → AI u 2 j = sa0 j := (TOKS.toTB h).s22
theorem TOKS.r00 {u : CS} {w : MS} {n : TN} {bad : Bool} (h : TOKS u w n bad) : n.fr 0 = 0 := (TOKS.toTB h).r00
theorem TOKS.z00 {u : CS} {w : MS} {n : TN} {bad : Bool} (h : TOKS u w n bad) : n.fs 0 = 0 := (TOKS.toTB h).z00
theorem TOKS.tk {u : CS} {w : MS} {n : TN} {bad : Bool} (h : TOKS u w n bad) : ∀ j, j < n.i → KV (AI u 5) n.k (w.2.2.1 18) n.q n.na n.nn n.ns n.fs (AI u 6 j) (AI u 7 j) (w.2.2.1 6 j) (w.2.2.1 7 j) ∧ AI u 8 j = w.2.2.1 8 j := (TOKS.toTB h).tk
theorem TOKS.e6 {u : CS} {w : MS} {n : TN} {bad : Bool} (h : TOKS u w n bad) : AI u 6 n.i = if bad = true then 45 else 0 := h.2.1
theorem TOKS.e8 {u : CS} {w : MS} {n : TN} {bad : Bool} (h : TOKS u w n bad) : AI u 8 n.i = w.2.2.1 8 n.i := h.2.2.1
theorem TOKS.m6 {u : CS} {w : MS} {n : TN} {bad : Bool} (h : TOKS u w n bad) : w.2.2.1 6 n.i = if bad = true then 7 else 0 := h.2.2.2.1
theorem TOKS.m9 {u : CS} {w : MS} {n : TN} {bad : Bool} (h : TOKS u w n bad) : w.1 9 = Int32.ofNat (n.i + if bad = true then 1 else 0) := h.2.2.2.2.1
theorem TOKS.m7 {u : CS} {w : MS} {n : TN} {bad : Bool} (h : TOKS u w n bad) : bad = true → w.2.2.1 6 (n.i + 1) = 0 := h.2.2.2.2.2
theorem TOKS.mk1 {u : CS} {w : MS} {n : TN} {bad : Bool} (sk : skB u = true) (k4 : n.k ≤ 4000) (cu : FI u 4 1 = Int32.ofNat n.k) (cw : w.1 5 = Int32.ofNat n.k) (ta : ∀ j, j < n.k → AI u 5 j = w.2.2.1 4 j) (bu : bytB (AI u 5)) (bw : bytB (w.2.2.1 4)) (co : CON u w) (ik : n.i ≤ n.k) (iu : FI u 4 5 = Int32.ofNat n.i) (atm : AT u w n.fa n.na) (nmm : NMz u w n.fc n.fr n.q n.nn) (a22 : 22 ≤ n.na) (sw : w.1 20 = Int32.ofNat n.ns) (sf : ∀ j, j ≤ n.ns → w.2.2.1 19 j = Int32.ofNat (n.fs j)) (sm : ∀ r, r < n.ns → n.fs (r + 1) ≤ n.fs n.ns) (f22 : ∀ j, j ≤ 22 → n.fa j = fa0 j) (s22 : ∀ j, j < 139 → AI u 2 j = sa0 j) (r00 : n.fr 0 = 0) (z00 : n.fs 0 = 0) (tk : ∀ j, j < n.i → KV (AI u 5) n.k (w.2.2.1 18) n.q n.na n.nn n.ns n.fs (AI u 6 j) (AI u 7 j) (w.2.2.1 6 j) (w.2.2.1 7 j) ∧ AI u 8 j = w.2.2.1 8 j) (e6 : AI u 6 n.i = if bad = true then 45 else 0) (e8 : AI u 8 n.i = w.2.2.1 8 n.i) (m6 : w.2.2.1 6 n.i = if bad = true then 7 else 0) (m9 : w.1 9 = Int32.ofNat (n.i + if bad = true then 1 else 0)) (m7 : bad = true → w.2.2.1 6 (n.i + 1) = 0) : TOKS u w n bad := ⟨⟨sk, k4, cu, cw, ta, bu, bw, co, ik, iu, atm, nmm, a22, sw, sf, sm, f22, s22, r00, z00, tk⟩, e6, e8, m6, m9, m7⟩
theorem TOKS.mk2 {u : CS} {w : MS} {n : TN} {bad : Bool} (toTB : TB u w n) (e6 : AI u 6 n.i = if bad = true then 45 else 0) (e8 : AI u 8 n.i = w.2.2.1 8 n.i) (m6 : w.2.2.1 6 n.i = if bad = true then 7 else 0) (m9 : w.1 9 = Int32.ofNat (n.i + if bad = true then 1 else 0)) (m7 : bad = true → w.2.2.1 6 (n.i + 1) = 0) : TOKS u w n bad := ⟨toTB, e6, e8, m6, m9, m7⟩
