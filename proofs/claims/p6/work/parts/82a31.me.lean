def MEI (Fv : Int64 → Int64 → Prop) (P : Int64 → Prop) (PR : Nat) (w : MS) (p n : Nat) (ow kd : Nat → Nat) (opM bnM bxM : Nat) : Prop :=
  DW Fv P PR w ∧ p < PR ∧ F w 133 = p ∧ A w 109 p ≠ 3 ∧ A w 89 p = ((n : Nat) : Int) ∧ CX w p (hp w p) n ow kd Fv P opM bnM bxM
section
variable {Fv : Int64 → Int64 → Prop} {P : Int64 → Prop} {w w2 : MS} {PR N p n opM bnM bxM n2 opM2 bnM2 bxM2 : Nat} {ow kd ow2 kd2 : Nat → Nat}
theorem MEI_upd (m : MEI Fv P PR w p n ow kd opM bnM bxM) (f : FR [136, 138, 140] [139] [89, 90, 92, 94, 108, 135, 142] [88, 91, 93, 107, 134, 137, 141] w w2) (f140 : F w2 140 = -1) (h89 : ∀ q, q ≠ p → A w2 89 q = A w 89 q) (h92 : ∀ q, q ≠ p → A w2 92 q = A w 92 q) (h94 : ∀ q, q ≠ p → A w2 94 q = A w 94 q) (h108 : ∀ q, q ≠ p → A w2 108 q = A w 108 q)
    (h88 : ∀ i, ¬ (500 * p ≤ i ∧ i < 500 * p + 500) → w2.2.2.2 88 i = w.2.2.2 88 i) (h91 : ∀ i, ¬ (46000 * p ≤ i ∧ i < 46000 * p + 46000) → w2.2.2.2 91 i = w.2.2.2 91 i) (h93 : ∀ i, ¬ (2500 * p ≤ i ∧ i < 2500 * p + 2500) → w2.2.2.2 93 i = w.2.2.2 93 i) (h107 : ∀ i, ¬ (30 * p ≤ i ∧ i < 30 * p + 30) → w2.2.2.2 107 i = w.2.2.2 107 i)
    (c89 : A w2 89 p = ((n2 : Nat) : Int)) (cx : CX w2 p (hp w2 p) n2 ow2 kd2 Fv P opM2 bnM2 bxM2) : MEI Fv P PR w2 p n2 ow2 kd2 opM2 bnM2 bxM2 := by
  obtain ⟨m1, m2, m3, m4, m5, m6⟩ := m
  exact ⟨DW_q m1 m2 m4 ⟨n2, ow2, kd2, opM2, bnM2, bxM2, c89, cx⟩ f f140 h89 h92 h94 h108 h88 h91 h93 h107, m2, by rw [FR.F f (by decide)]; exact m3, by rw [FR.A f (by decide)]; exact m4, c89, cx⟩
theorem MEI_p (m : MEI Fv P PR w p n ow kd opM bnM bxM) : p < 24 := m.2.2.2.2.2.2.2.2.1
theorem put_ok {t : Int64} (m : MEI Fv P PR w p n ow kd opM bnM bxM) (g : GT n ow kd P t) (ho : opM < 46000) : OK (fun w2 _ => w2 = wa (wj w 91 (46000 * p + opM) t) 92 p ((opM : Int) + 1) ∧ MEI Fv P PR w2 p n ow kd (opM + 1) bnM bxM) (fm_M_put N w t) := by
  have m' := m
  obtain ⟨m1, m2, m3, m4, m5, ⟨x1, x2, x3, x4, x5, x6, x7, x8, x9, x10, x11⟩⟩ := m
  have f140 := m1.2.2.2.1
  unfold fm_M_put fb_M_put_0
  rw [I_F' m3, inb_at (k := 92) (n := 24) rfl (by omega) (by omega) (by decide), ck_t, I_tn (x := (p : Int)) (by omega) (by omega), Int.toNat_natCast, I_A' x5.1, show (46000 : Int32) = I 46000 from rfl, I_mul, I_add, inb_at (k := 91) (n := 1104000) rfl (by omega) (by omega) (by decide), ck_t, lt_e, I_tn (by omega) (by omega), show ((p : Int) * 46000 + (opM : Int)).toNat = 46000 * p + opM from by omega, wj_e]
  rw [show (wj w 91 (46000 * p + opM) t).1 133 = I p from I_F' m3, inb_at (k := 92) (n := 24) rfl (by omega) (by omega) (by decide), ck_t, ck_t, lt_e, I_tn (by omega) (by omega), Int.toNat_natCast, show (wj w 91 (46000 * p + opM) t).2.2.1 92 p = I opM from I_A' x5.1, lit1q, I_add, wa_e]
  generalize hz : wa (wj w 91 (46000 * p + opM) t) 92 p ((opM : Int) + 1) = z
  have fz : FR [] [] [92] [91] w z := by rw [← hz]; exact FR.wa (FR.wj FR.rf (by decide)) (by decide)
  have a92 : ∀ i, A z 92 i = if i = p then (opM : Int) + 1 else A w 92 i := fun i => by rw [← hz, A_eq (by omega) (by omega)]; rfl
  have j91 : ∀ i, z.2.2.2 91 i = if i = 46000 * p + opM then t else w.2.2.2 91 i := fun i => by rw [← hz, J_wa, J_wj, if_pos rfl]
  have hpz : hp z p = hp w p := by unfold hp; rw [fz.2.2.2 88 (by decide)]
  have z140 : F z 140 = -1 := by rw [FR.F fz (by decide)]; exact f140
  refine ok_some.mpr ⟨rfl, MEI_upd m' (FR.mo fz (by decide) (by decide) (by decide) (by decide)) z140 (fun q _ => FR.A fz (by decide)) (fun q hq => by rw [a92, if_neg hq]) (fun q _ => FR.A fz (by decide)) (fun q _ => FR.A fz (by decide)) (fun i _ => by rw [fz.2.2.2 88 (by decide)]) (fun i hi => by rw [j91, if_neg (by omega)]) (fun i _ => by rw [fz.2.2.2 93 (by decide)]) (fun i _ => by rw [fz.2.2.2 107 (by decide)]) (by rw [FR.A fz (by decide)]; exact m5) ⟨rfl, by rw [hpz]; exact x2, x3, x4, ⟨by rw [a92, if_pos rfl]; omega, by omega⟩, by rw [FR.A fz (by decide)]; exact x6, by rw [FR.A fz (by decide)]; exact x7, fun i hi => ?_, fun i hi => by rw [fz.2.2.2 93 (by decide)]; exact x9 i hi, fun i hi => by rw [fz.2.2.2 107 (by decide)]; exact x10 i hi, fun e => by omega⟩⟩
  rw [j91]
  by_cases e : i = opM
  · subst e; rw [if_pos rfl]; exact g
  · rw [if_neg (by omega)]; exact x8 i (by omega)
theorem ops_less (m : MEI Fv P PR w p n ow kd opM bnM bxM) {k : Nat} (hk : k ≤ opM) : MEI Fv P PR (wa w 92 p k) p n ow kd k bnM bxM := by
  have m' := m
  obtain ⟨m1, m2, m3, m4, m5, ⟨x1, x2, x3, x4, x5, x6, x7, x8, x9, x10, x11⟩⟩ := m
  have fz : FR [] [] [92] [] w (wa w 92 p k) := FR.wa FR.rf (by decide)
  exact MEI_upd m' (FR.mo fz (by decide) (by decide) (by decide) (by decide)) m1.2.2.2.1 (fun q _ => FR.A fz (by decide)) (fun q hq => by rw [A_eq (by omega) (by omega), if_neg hq]) (fun q _ => FR.A fz (by decide)) (fun q _ => FR.A fz (by decide)) (fun _ _ => rfl) (fun _ _ => rfl) (fun _ _ => rfl) (fun _ _ => rfl) (by rw [FR.A fz (by decide)]; exact m5) ⟨rfl, x2, x3, x4, ⟨by rw [A_eq (by omega) (by omega), if_pos rfl], by omega⟩, by rw [FR.A fz (by decide)]; exact x6, by rw [FR.A fz (by decide)]; exact x7, fun i hi => x8 i (by omega), x9, x10, fun e => by have : F w 140 = p := e; have := m1.2.2.2.1; omega⟩
theorem names_less (m : MEI Fv P PR w p n ow kd opM bnM bxM) {k : Nat} (hk : k ≤ bnM) : MEI Fv P PR (wa w 94 p k) p n ow kd opM k bxM := by
  have m' := m
  obtain ⟨m1, m2, m3, m4, m5, ⟨x1, x2, x3, x4, x5, x6, x7, x8, x9, x10, x11⟩⟩ := m
  have fz : FR [] [] [94] [] w (wa w 94 p k) := FR.wa FR.rf (by decide)
  exact MEI_upd m' (FR.mo fz (by decide) (by decide) (by decide) (by decide)) m1.2.2.2.1 (fun q _ => FR.A fz (by decide)) (fun q _ => FR.A fz (by decide)) (fun q hq => by rw [A_eq (by omega) (by omega), if_neg hq]) (fun q _ => FR.A fz (by decide)) (fun _ _ => rfl) (fun _ _ => rfl) (fun _ _ => rfl) (fun _ _ => rfl) (by rw [FR.A fz (by decide)]; exact m5) ⟨rfl, x2, x3, x4, by rw [FR.A fz (by decide)]; exact x5, ⟨by rw [A_eq (by omega) (by omega), if_pos rfl], by omega⟩, by rw [FR.A fz (by decide)]; exact x7, x8, fun i hi => x9 i (by omega), x10, fun e => by have : F w 140 = p := e; have := m1.2.2.2.1; omega⟩
theorem take_ok (m : MEI Fv P PR w p n ow kd (opM + 1) bnM bxM) : OK (fun w2 r => w2 = wa w 92 p opM ∧ r = w.2.2.2 91 (46000 * p + opM) ∧ GT n ow kd P r ∧ MEI Fv P PR w2 p n ow kd opM bnM bxM) (fm_M_take N w) := by
  have m' := m
  obtain ⟨m1, m2, m3, m4, m5, ⟨x1, x2, x3, x4, x5, x6, x7, x8, x9, x10, x11⟩⟩ := m
  unfold fm_M_take fb_M_take_0
  rw [I_F' m3, inb_at (k := 92) (n := 24) rfl (by omega) (by omega) (by decide), ck_t, ck_t, lt_e, I_tn (x := (p : Int)) (by omega) (by omega), Int.toNat_natCast, I_A' x5.1, lit1q, I_sub, show ((opM + 1 : Nat) : Int) - 1 = (opM : Int) from by omega, wa_e]
  rw [show (wa w 92 p opM).1 133 = I p from I_F' m3, inb_at (k := 92) (n := 24) rfl (by omega) (by omega) (by decide), ck_t, I_tn (x := (p : Int)) (by omega) (by omega), Int.toNat_natCast, I_A' (show A (wa w 92 p opM) 92 p = opM by rw [A_eq (by omega) (by omega), if_pos rfl]), show (46000 : Int32) = I 46000 from rfl, I_mul, I_add, inb_at (k := 91) (n := 1104000) rfl (by omega) (by omega) (by decide), ck_t, I_tn (by omega) (by omega), show ((p : Int) * 46000 + (opM : Int)).toNat = 46000 * p + opM from by omega]
  exact ok_some.mpr ⟨rfl, rfl, x8 opM (by omega), ops_less m' (by omega)⟩
theorem top_ok {k : Nat} (m : MEI Fv P PR w p n ow kd opM bnM bxM) (hk : k < opM) : fm_M_top N w (I k) = some (w, w.2.2.2 91 (46000 * p + (opM - 1 - k))) ∧ GT n ow kd P (w.2.2.2 91 (46000 * p + (opM - 1 - k))) := by
  obtain ⟨m1, m2, m3, m4, m5, ⟨x1, x2, x3, x4, x5, x6, x7, x8, x9, x10, x11⟩⟩ := m
  refine ⟨?_, x8 _ (by omega)⟩
  unfold fm_M_top fb_M_top_0
  rw [I_F' m3, inb_at (k := 92) (n := 24) rfl (by omega) (by omega) (by decide), ck_t, I_tn (x := (p : Int)) (by omega) (by omega), Int.toNat_natCast, I_A' x5.1, show (46000 : Int32) = I 46000 from rfl, I_mul, I_add, lit1q, I_sub, I_sub, inb_at (k := 91) (n := 1104000) rfl (by omega) (by omega) (by decide), ck_t, I_tn (by omega) (by omega), show ((p : Int) * 46000 + (opM : Int) - 1 - (k : Int)).toNat = 46000 * p + (opM - 1 - k) from by omega]
theorem MEI_fr {is ls as js : List Nat} (m : MEI Fv P PR w p n ow kd opM bnM bxM) (f : FR is ls as js w w2) (i0 : 133 ∉ is) (i1 : 118 ∉ is) (i2 : 140 ∉ is) (i3 : 149 ∉ is) (i4 : 150 ∉ is) (a1 : 89 ∉ as) (a2 : 92 ∉ as) (a3 : 94 ∉ as) (a4 : 108 ∉ as) (a5 : 109 ∉ as) (a6 : 145 ∉ as) (a7 : 146 ∉ as) (a8 : 147 ∉ as) (j1 : 88 ∉ js) (j2 : 91 ∉ js) (j3 : 93 ∉ js) (j4 : 107 ∉ js) (j5 : 148 ∉ js) : MEI Fv P PR w2 p n ow kd opM bnM bxM := by
  obtain ⟨m1, m2, m3, m4, m5, ⟨x1, x2, x3, x4, x5, x6, x7, x8, x9, x10, x11⟩⟩ := m
  have hpz : hp w2 p = hp w p := by unfold hp; rw [f.2.2.2 88 j1]
  have f140 : F w2 140 = -1 := by rw [FR.F f i2]; exact m1.2.2.2.1
  exact ⟨DW_fr m1 f i1 i2 i3 i4 a1 a2 a3 a4 a5 a6 a7 a8 j1 j2 j3 j4 j5, m2, by rw [FR.F f i0]; exact m3, by rw [FR.A f a5]; exact m4, by rw [FR.A f a1]; exact m5, rfl, by rw [hpz]; exact x2, x3, x4, by rw [FR.A f a2]; exact x5, by rw [FR.A f a3]; exact x6, by rw [FR.A f a4]; exact x7, fun i hi => by rw [f.2.2.2 91 j2]; exact x8 i hi, fun i hi => by rw [f.2.2.2 93 j3]; exact x9 i hi, fun i hi => by rw [f.2.2.2 107 j4]; exact x10 i hi, fun e => by omega⟩
end
