def PB (P : Int64 → Prop) (PR : Nat) : Prop := (∀ a : Int, 0 ≤ a → a < 22 → P (mk 1 a)) ∧ (∀ p : Nat, p < PR → P (mk 4 p)) ∧ (∀ r : Int, -2147483648 ≤ r → r < 2147483648 → P (mk 2 r)) ∧ (∀ r : Int, -2147483648 ≤ r → r < 2147483648 → P (mk 0 r)) ∧ P (mk 6 0)
theorem A_ne {u : MS} {k i k2 i2 : Nat} {x : Int} (h : k2 ≠ k) : A (wa u k i x) k2 i2 = A u k2 i2 := by unfold A wa upA; simp only [if_neg h]
theorem A_eq {u : MS} {k i i2 : Nat} {x : Int} (h1 : -2147483648 ≤ x) (h2 : x < 2147483648) : A (wa u k i x) k i2 = if i2 = i then x else A u k i2 := by rw [A_wa h1 h2, if_pos rfl]
theorem nh_mk {s v : Int} (h : s = 0 ∨ s = 1 ∨ s = 2 ∨ s = 4 ∨ s = 6) : ¬ isH (mk s v) := by
  unfold isH
  rw [so_mk (by omega) (by omega)]
  omega
section
variable {Fv : Int64 → Int64 → Prop} {P : Int64 → Prop} {w0 w w2 : MS} {PR N q n n2 opM bnM bxM : Nat} {ow kd ow2 kd2 : Nat → Nat}
theorem willEnd_ok {p o : Nat} {wr : Int} {t : Int64} (d : DW Fv P PR w) (hp1 : p < PR) (hw : 0 ≤ wr ∧ wr ≤ 2) (ho : o ≤ 24) (ht : (¬ isH t ∧ P t) ∨ (isH t ∧ (o = 24 ∨ (o < PR ∧ (A w 109 o = 3 ∨ o = p))) ∧ GTP Fv P w o t)) :
    OK (fun w2 _ => DW Fv P PR w2 ∧ FR [150] [] [109, 145, 146, 147] [148] w w2 ∧ A w2 109 p = 3 ∧ ∀ z, z ≠ p → A w2 109 z = A w 109 z) (fm_M_willEnd N w (I p) (I wr) (I o) t) := by
  obtain ⟨⟨d1, d1'⟩, d2, d3, d4, ⟨eF, eM, e1, e2, e3, e4, e5⟩, d6⟩ := id d
  have hc := cE_le w PR
  unfold fm_M_willEnd fb_M_willEnd_0 fb_M_willEnd_68
  have hr := A_r w 109 p
  rw [inb_at (k := 109) (n := 24) rfl (by omega) (by omega) (by decide), ck_t, I_tn (by omega) (by omega), Int.toNat_natCast, I_A, show (3 : Int32) = I 3 from rfl, decE hr.1 hr.2 (by omega) (by omega)]
  by_cases e : A w 109 p = 3
  · rw [decide_eq_true e, br_tq]
    exact ok_some.mpr ⟨d, FR.rf, e, fun _ _ => rfl⟩
  rw [decide_eq_false e, br_fq, ck_t, lt_e, wa_e]
  rw [show (wa w 109 p 3).1 150 = I eM from I_F' e2, inb_at (k := 145) (n := 4000) rfl (by omega) (by omega) (by decide), ck_t, lt_e, I_tn (by omega) (by omega), Int.toNat_natCast, wa_e]
  rw [show (wa (wa w 109 p 3) 145 eM p).1 150 = I eM from I_F' e2, inb_at (k := 146) (n := 4000) rfl (by omega) (by omega) (by decide), ck_t, lt_e, I_tn (by omega) (by omega), Int.toNat_natCast, wa_e]
  rw [show (wa (wa (wa w 109 p 3) 145 eM p) 146 eM wr).1 150 = I eM from I_F' e2, inb_at (k := 147) (n := 4000) rfl (by omega) (by omega) (by decide), ck_t, lt_e, I_tn (by omega) (by omega), Int.toNat_natCast, wa_e]
  rw [show (wa (wa (wa (wa w 109 p 3) 145 eM p) 146 eM wr) 147 eM o).1 150 = I eM from I_F' e2, inb_at (k := 148) (n := 4000) rfl (by omega) (by omega) (by decide), ck_t, lt_e, I_tn (by omega) (by omega), Int.toNat_natCast, wj_e]
  rw [show (wj (wa (wa (wa (wa w 109 p 3) 145 eM p) 146 eM wr) 147 eM o) 148 eM t).1 150 = I eM from I_F' e2, lt_e, lit1q, I_add, wi_e]
  generalize hz : wi (wj (wa (wa (wa (wa w 109 p 3) 145 eM p) 146 eM wr) 147 eM o) 148 eM t) 150 ((eM : Int) + 1) = z
  have fz : FR [150] [] [109, 145, 146, 147] [148] w z := by rw [← hz]; exact FR.wi (FR.wj (FR.wa (FR.wa (FR.wa (FR.wa FR.rf (by decide)) (by decide)) (by decide)) (by decide)) (by decide)) (by decide)
  have a109 : ∀ i, A z 109 i = if i = p then 3 else A w 109 i := fun i => by
    rw [← hz, A_wi, A_wj, A_ne (by decide), A_ne (by decide), A_ne (by decide), A_eq (by omega) (by omega)]
  have a145 : ∀ i, A z 145 i = if i = eM then (p : Int) else A w 145 i := fun i => by
    rw [← hz, A_wi, A_wj, A_ne (by decide), A_ne (by decide), A_eq (by omega) (by omega), A_ne (by decide)]
  have a146 : ∀ i, A z 146 i = if i = eM then wr else A w 146 i := fun i => by
    rw [← hz, A_wi, A_wj, A_ne (by decide), A_eq (by omega) (by omega), A_ne (by decide), A_ne (by decide)]
  have a147 : ∀ i, A z 147 i = if i = eM then (o : Int) else A w 147 i := fun i => by
    rw [← hz, A_wi, A_wj, A_eq (by omega) (by omega), A_ne (by decide), A_ne (by decide), A_ne (by decide)]
  have j148 : ∀ i, z.2.2.2 148 i = if i = eM then t else w.2.2.2 148 i := fun i => by
    rw [← hz, J_wi, J_wj, if_pos rfl]; rfl
  have f150 : F z 150 = (eM : Int) + 1 := by rw [← hz, F_wi (by omega) (by omega), if_pos rfl]
  have hpz : ∀ x, hp z x = hp w x := fun x => by unfold hp; rw [fz.2.2.2 88 (by decide)]
  have gtp : ∀ x y, GTP Fv P w x y → GTP Fv P z x y := fun x y g => GTP_same g (FR.A fz (by decide)) (hpz x)
  refine ok_some.mpr ⟨⟨⟨by rw [FR.F fz (by decide)]; exact d1, d1'⟩, fun x hx => ?_, ?_, by rw [FR.F fz (by decide)]; exact d4, ?_, fun x hx => ?_⟩, fz, by rw [a109, if_pos rfl], fun x hx => by rw [a109, if_neg hx]⟩
  · refine PRC_same (d2 x hx) (FR.A fz (by decide)) (hpz x) (FR.A fz (by decide)) (FR.A fz (by decide)) (FR.A fz (by decide)) (fun i _ => by rw [fz.2.2.2 91 (by decide)]) (fun i _ => by rw [fz.2.2.2 93 (by decide)]) (fun i _ => by rw [fz.2.2.2 107 (by decide)]) ?_
    rw [FR.F fz (by decide), d4]; omega
  · obtain ⟨n4, ow4, kd4, a, b, c⟩ := d3
    exact ⟨n4, ow4, kd4, by rw [FR.A fz (by decide)]; exact a, b, by rw [hpz]; exact c⟩
  · refine ⟨eF, eM + 1, by rw [FR.F fz (by decide)]; exact e1, by rw [f150]; omega, by omega, ?_, fun i h1 h2 => ?_⟩
    · rw [cE_up (w := w) e (by rw [a109, if_pos rfl]) (fun x hx => by rw [a109, if_neg hx]) PR hp1]; omega
    · rw [a145, a146, a147, j148]
      by_cases ei : i = eM
      · rw [if_pos ei, if_pos ei, if_pos ei, if_pos ei]
        refine ⟨by omega, hw, by omega, ?_⟩
        rw [Int.toNat_natCast]
        rcases ht with ht | ⟨ht, h2', h3⟩
        · exact Or.inl ht
        · refine Or.inr ⟨ht, ?_, gtp _ _ h3⟩
          rcases h2' with h2' | ⟨h2', h4⟩
          · exact Or.inl h2'
          · refine Or.inr ⟨h2', ?_⟩
            rw [a109]
            by_cases e9 : o = p
            · rw [if_pos e9]
            · rw [if_neg e9]; rcases h4 with h4 | h4; exact h4; exact absurd h4 e9
      · rw [if_neg ei, if_neg ei, if_neg ei, if_neg ei]
        obtain ⟨q1, q2, q3, q4⟩ := e5 i h1 (by omega)
        refine ⟨q1, q2, q3, ?_⟩
        rcases q4 with q4 | ⟨q4, q5, q6⟩
        · exact Or.inl q4
        · refine Or.inr ⟨q4, ?_, gtp _ _ q6⟩
          rcases q5 with q5 | ⟨q5, q7⟩
          · exact Or.inl q5
          · refine Or.inr ⟨q5, ?_⟩
            rw [a109]
            split
            · rfl
            · exact q7
  · rw [a109]
    split
    · exact Or.inr (Or.inr (Or.inl rfl))
    · exact d6 x hx
def MQq (Fv : Int64 → Int64 → Prop) (P : Int64 → Prop) (w0 w : MS) (q n : Nat) (ow kd : Nat → Nat) (opM bnM bxM : Nat) : Prop :=
  A w 89 q = ((n : Nat) : Int) ∧ CX w q (hp w q) n ow kd Fv P opM bnM bxM ∧ FR [136, 138, 140] [139] [89, 90, 135, 142] [88, 91, 93, 107, 134, 137, 141] w0 w ∧ F w 140 = -1 ∧ (∀ p, p ≠ q → A w 89 p = A w0 89 p) ∧ (∀ i, ¬ (500 * q ≤ i ∧ i < 500 * q + 500) → w.2.2.2 88 i = w0.2.2.2 88 i) ∧ (∀ i, ¬ (46000 * q ≤ i ∧ i < 46000 * q + 46000) → w.2.2.2 91 i = w0.2.2.2 91 i) ∧ (∀ i, ¬ (2500 * q ≤ i ∧ i < 2500 * q + 2500) → w.2.2.2 93 i = w0.2.2.2 93 i) ∧ (∀ i, ¬ (30 * q ≤ i ∧ i < 30 * q + 30) → w.2.2.2 107 i = w0.2.2.2 107 i)
theorem MQ_dw (m : MQq Fv P w0 w q n ow kd opM bnM bxM) (d : DW Fv P PR w0) (hq : q < PR) (hal : A w0 109 q ≠ 3) : DW Fv P PR w := by
  obtain ⟨m1, m2, m3, m4, m5, m6, m7, m8, m9⟩ := m
  exact DW_q d hq hal ⟨n, ow, kd, opM, bnM, bxM, m1, m2⟩ (FR.mo m3 (fun _ z => z) (fun _ z => z) (by decide) (fun _ z => z)) m4 m5 (fun p _ => FR.A m3 (by decide)) (fun p _ => FR.A m3 (by decide)) (fun p _ => FR.A m3 (by decide)) m6 m7 m8 m9
theorem MQ_heap (m : MQq Fv P w0 w q n ow kd opM bnM bxM) (f : FR [] [] [89, 142] [88, 141] w w2) (h89 : A w2 89 q = ((n2 : Nat) : Int)) (h5 : n2 ≤ 500) (ho : ∀ p, p ≠ q → A w2 89 p = A w 89 p) (h88 : ∀ i, ¬ (500 * q ≤ i ∧ i < 500 * q + 500) → w2.2.2.2 88 i = w.2.2.2 88 i) (g : HP (hp w2 q) n2 ow2 kd2 Fv P) (hg : ∀ t, GT n ow kd P t → GT n2 ow2 kd2 P t) : MQq Fv P w0 w2 q n2 ow2 kd2 opM bnM bxM := by
  obtain ⟨m1, ⟨x1, x2, x3, x4, x5, x6, x7, x8, x9, x10, x11⟩, m3, m4, m5, m6, m7, m8, m9⟩ := m
  have f140 : F w2 140 = -1 := by rw [FR.F f (by decide)]; exact m4
  refine ⟨h89, ⟨rfl, g, h5, x4, by rw [FR.A f (by decide)]; exact x5, by rw [FR.A f (by decide)]; exact x6, by rw [FR.A f (by decide)]; exact x7, fun i hi => by rw [f.2.2.2 91 (by decide)]; exact hg _ (x8 i hi), fun i hi => by rw [f.2.2.2 93 (by decide)]; exact hg _ (x9 i hi), fun i hi => by rw [f.2.2.2 107 (by decide)]; exact hg _ (x10 i hi), fun z => by omega⟩, FR.tr m3 (FR.mo f (by decide) (by decide) (by decide) (by decide)), f140, fun p hp1 => by rw [ho p hp1]; exact m5 p hp1, fun i hi => by rw [h88 i hi]; exact m6 i hi, fun i hi => by rw [f.2.2.2 91 (by decide)]; exact m7 i hi, fun i hi => by rw [f.2.2.2 93 (by decide)]; exact m8 i hi, fun i hi => by rw [f.2.2.2 107 (by decide)]; exact m9 i hi⟩
theorem MQ_cell (m : MQq Fv P w0 w q n ow kd opM bnM bxM) {i : Nat} {t : Int64} (hi : i < n) (hn : i < ow i) : MQq Fv P w0 (wj w 88 (500 * q + i) t) q n ow kd opM bnM bxM := by
  have m' := m
  obtain ⟨m1, ⟨x1, x2, x3, x4, -⟩, -⟩ := m
  refine MQ_heap m' (FR.wj FR.rf (by decide)) m1 x3 (fun _ _ => rfl) (fun j hj => by rw [J_wj, if_pos rfl, if_neg (by omega)]) ?_ (fun _ z => z)
  refine HP_own x2 (Nat.le_refl _) (fun j hj ho => ?_) (fun _ _ _ => rfl) (fun _ _ _ => rfl) (fun j hj e => ⟨hj, e⟩)
  unfold hp
  rw [J_wj, if_pos rfl, if_neg (fun z => by have : j = i := by omega
                                            subst this; omega)]
theorem MQ_hole (m : MQq Fv P w0 w q n ow kd opM bnM bxM) (k : Nat) (hk : n + k ≤ 500) : MQq Fv P w0 (wa w 89 q ((n : Int) + k)) q (n + k) (owH n ow) kd opM bnM bxM := by
  have m' := m
  obtain ⟨m1, ⟨x1, x2, x3, x4, -⟩, -⟩ := m
  refine MQ_heap m' (FR.wa FR.rf (by decide)) (by rw [A_wa (by omega) (by omega), if_pos rfl, if_pos rfl]; omega) hk (fun p hp1 => by rw [A_wa (by omega) (by omega), if_pos rfl, if_neg hp1]) (fun _ _ => rfl) (HP_hole k x2 (fun _ _ => rfl)) (fun t z => GT_hole k z)
end
