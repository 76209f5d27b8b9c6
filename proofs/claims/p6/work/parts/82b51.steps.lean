set_option maxRecDepth 100000
def FNc (q : Nat) (u w : MS) : Prop := FC q [] [] [] [4, 5, 24, 26, 42, 43, 45] [] [32] [2, 3, 33, 35, 6] u w
def FMc (q : Nat) (u w : MS) : Prop := FC q [1105] [] [] [4, 5, 24, 26, 42, 43, 45] [] [32] [2, 3, 33, 35, 6] u w
section
variable {T : Nat → Option (Nat × Nat × List Nat × Nat × Nat)} {Fv : Int64 → Int64 → Prop} {P : Int64 → Prop} {u v w : MS} {PR N q r n B W Y i h m g x j wb nb cb rk c f i2 h2 m2 k : Nat} {L : List Nat} {ow kd : Nat → Nat} {t : Int64} {gi gl ga ki kl ka kj : List Nat}
theorem FMc.rf : FMc q u u := FC.rf
theorem FMc.tr (a : FMc q u v) (b : FMc q v w) : FMc q u w := FC.tr a b
theorem FMc.of (a : FC q gi gl ga ki kl ka kj u w) (h1 : ∀ k, k ∈ gi → k ∈ [1105]) (h2 : ∀ k, k ∈ gl → False) (h3 : ∀ k, k ∈ ga → False) (h4 : ∀ k, k ∈ ki → k ∈ [4, 5, 24, 26, 42, 43, 45]) (h5 : ∀ k, k ∈ kl → False) (h6 : ∀ k, k ∈ ka → k ∈ [32]) (h7 : ∀ k, k ∈ kj → k ∈ [2, 3, 33, 35, 6]) : FMc q u w := FC.mo a h1 (fun k z => (h2 k z).elim) (fun k z => (h3 k z).elim) h4 (fun k z => (h5 k z).elim) h6 h7
theorem FNc.toM (a : FNc q u w) : FMc q u w := FC.mo a (by simp) (by simp) (by simp) (by simp) (by simp) (by simp) (by simp)
theorem FNc.rf : FNc q u u := FC.rf
theorem FNc.tr (a : FNc q u v) (b : FNc q v w) : FNc q u w := FC.tr a b
theorem FNc.of (a : FC q gi gl ga ki kl ka kj u w) (h1 : ∀ k, k ∈ gi → False) (h2 : ∀ k, k ∈ gl → False) (h3 : ∀ k, k ∈ ga → False) (h4 : ∀ k, k ∈ ki → k ∈ [4, 5, 24, 26, 42, 43, 45]) (h5 : ∀ k, k ∈ kl → False) (h6 : ∀ k, k ∈ ka → k ∈ [32]) (h7 : ∀ k, k ∈ kj → k ∈ [2, 3, 33, 35, 6]) : FNc q u w := FC.mo a (fun k z => (h1 k z).elim) (fun k z => (h2 k z).elim) (fun k z => (h3 k z).elim) h4 (fun k z => (h5 k z).elim) h6 h7
theorem FMc.at (a : FMc q u w) {y : Int} : FMc q u (wi w 1105 y) := FC.wi_g a (by omega) (by simp)
theorem DWc_m (d : DWc Fv P PR u) (hq : q < PR) (h9 : F u (pq q 9) ≠ 3) (f : FMc q u w) (p : PTQ w q n ow kd Fv P B W Y) : DWc Fv P PR w := by
  have e9 := f.Fq (k := 9) (by omega) (by simp)
  refine DWc_fc d f hq h9 (by rw [e9]; exact h9) ?_ ⟨n, ow, kd, B, W, Y, p⟩ (by simp) (by simp)
  exact SMQ_up (d.2 q hq).1 (f.Fq (by omega) (by simp)) (f.Fq (by omega) (by simp)) (by rw [f.Fq (by omega) (by simp)]; exact Int.le_refl _) h9
theorem MI_p (M : MIc T Fv P PR q u i h m L g x j wb nb cb rk) : ∃ n ow kd Y, PTQ u q n ow kd Fv P (nb + m) (wb + h) Y := by
  obtain ⟨G, s9, s, ⟨t1, t2⟩, ⟨b1, b2⟩, gd, xx⟩ := M
  obtain ⟨n, ow, kd, B, W, Y, p⟩ := (G.1.2 q G.2.2.2.2.2.2.1).2.2 (by rw [s9]; decide)
  have e1 : B = nb + m := by have := p.2.1.1; omega
  have e2 : W = wb + h := by have := p.2.2.1.1; omega
  exact ⟨n, ow, kd, Y, e1 ▸ e2 ▸ p⟩
theorem MI_ln (M : MIc T Fv P PR q u i h m L g x j wb nb cb rk) : LNB u q := GEN_ln M.1 M.1.2.2.2.2.2.2.1
theorem MI_f (M : MIc T Fv P PR q u i h m L g x j wb nb cb rk) (hx : x < i) (f : FMc q u w) (p : PTQ w q n ow kd Fv P (nb + m2) (wb + h2) Y) (ln : LNB w q) (t2 : T i2 = some (h2, m2, L, g, x)) (e : F w 1105 = ((i2 : Nat) : Int)) : MIc T Fv P PR q w i2 h2 m2 L g x j wb nb cb rk ∧ PHc T w q i2 x rk = rk + potc T i2 x (F u (pq q 8)).toNat + (F u 1107 - F u 1106).toNat * 768001 := by
  obtain ⟨G, s9, s, ⟨t1, -⟩, -, gd, xx, un⟩ := M
  have d := DWc_m G.1 G.2.2.2.2.2.2.1 (by rw [s9]; decide) f p
  refine ⟨⟨GEN_f G f d (by simp) (by simp) ln, by rw [f.Fq (by omega) (by simp)]; exact s9, STc_s s (f.2.2.2.2.2.2.1 q 30 (by omega) (by simp)) (f.2.2.2.2.2.2.1 q 37 (by omega) (by simp)) (f.2.2.2.2.1 q 21 (by omega) (by simp)) (f.2.2.2.2.1 q 28 (by omega) (by simp)), ⟨t2, e⟩, ⟨p.2.2.1.1, p.2.1.1⟩, GDS_s gd (fun k hk => f.1 k (by simp at hk; omega) (by simp at hk ⊢; omega)) (f.2.2.1 23 (by omega) (by simp)), fun h1 h2 => ?_, UN_k un (f.2.2.2.2.2.1 q 10 (by omega) (by simp)) (f.2.2.1 23 (by omega) (by simp))⟩, ?_⟩
  · rw [f.Fq (by omega) (by simp), f.Fq (by omega) (by simp)]
    exact xx h1 (by omega)
  · unfold PHc
    rw [f.Fq (by omega) (by simp), f.Fg (by omega) (by simp), f.Fg (by omega) (by simp)]
theorem NRM_f (M : MIc T Fv P PR q u i h m L g x j wb nb cb rk) (t9 : F u 1109 = 0) (t8 : F u 1108 = 0) (hf : PHc T u q i x rk ≤ c) (hx : x < i) (f : FMc q u w) (p : PTQ w q n ow kd Fv P (nb + m2) (wb + h2) Y) (ln : LNB w q) (t2 : T i2 = some (h2, m2, L, g, x)) (e : F w 1105 = ((i2 : Nat) : Int)) (hi : i < i2) : OPQ T Fv P PR q c w := by
  obtain ⟨a, b⟩ := MI_f M hx f p ln t2 e
  refine Or.inl ⟨⟨i2, h2, m2, L, g, x, j, wb, nb, cb, rk, a, ?_⟩, by rw [f.Fg (by omega) (by simp)]; exact t9, by rw [f.Fg (by omega) (by simp)]; exact t8⟩
  have := pot_x (t := (F u (pq q 8)).toNat) M.2.2.2.1.1 (MI_b M).1.2 hi
  unfold PHc at hf
  rw [b]; omega
theorem tell_e {a b : Int} : hm_Ma_tell N u q (I a) (I b) t = some (wl (wi (wi u 1109 a) 1111 b) 1110 t, ()) := rfl
theorem atom_e {a : Int} : hm_Ma_atom N u (I a) = some (u, mk 1 a) := rfl
theorem wrong_e {a : Int} : hm_Ma_wrong N u q (I a) = some (wl (wi (wi u 1109 1) 1111 (-1)) 1110 (mk 1 a), ()) := rfl
theorem ERR_t {how ar : Int} (M : MIc T Fv P PR q u i h m L g x j wb nb cb rk) (t9 : F u 1109 = 0) (t8 : F u 1108 = 0) (hf : PHc T u q i x rk ≤ c) (gt : GTQ Fv P u q t) (h1 : how = 1 ∨ how = 2 ∨ how = 3) (h2 : ar = -1 ∨ (0 ≤ ar ∧ ar < 22)) : OPQ T Fv P PR q c (wl (wi (wi u 1109 how) 1111 ar) 1110 t) := Or.inr (Or.inl ⟨u, how, ar, t, ⟨i, h, m, L, g, x, j, wb, nb, cb, rk, M, hf⟩, t9, t8, gt, h1, h2, rfl⟩)
theorem GTQ_at {a : Nat} (M : MIc T Fv P PR q u i h m L g x j wb nb cb rk) (ha : a < 22) : GTQ Fv P u q (mk 1 ((a : Nat) : Int)) := by
  obtain ⟨n, ow, kd, Y, p⟩ := MI_p M
  exact ⟨n, ow, kd, _, _, Y, p, GT_at M.1.2.1 ha⟩
theorem ERR_w {a : Nat} (M : MIc T Fv P PR q u i h m L g x j wb nb cb rk) (t9 : F u 1109 = 0) (t8 : F u 1108 = 0) (hf : PHc T u q i x rk ≤ c) (ha : a < 22) : OK (fun w _ => OPQ T Fv P PR q c w) (hm_Ma_wrong N u q (I ((a : Nat) : Int))) := by
  rw [wrong_e]
  exact ok_some.mpr (ERR_t M t9 t8 hf (GTQ_at M ha) (Or.inl rfl) (Or.inl rfl))
theorem M21 (M : MIc T Fv P PR q u i h m L g x j wb nb cb rk) : 0 ≤ F u (pq q 21) ∧ F u (pq q 21) ≤ 60 := by have := M.2.2.1.2.1; omega
theorem END_w (G : GEN T Fv P PR q u) (k : WQ Fv P PR u w) (h9 : F w (pq q 9) = 3) (t9 : F u 1109 = 0) (h21 : 0 ≤ F u (pq q 21) ∧ F u (pq q 21) ≤ 60) : ENDc T Fv P PR q w := ⟨GEN_w G k, h9, by rw [k.2.1.G (by omega) (by simp)]; exact t9, by rw [k.2.1.F (by omega) (by simp)]; exact h21⟩
theorem endsBy_w {a : Nat} (G : GEN T Fv P PR q u) (hal : F u (pq q 9) ≠ 3) (ha : a < 22) : OK (fun w _ => WQ Fv P PR u w ∧ F w (pq q 9) = 3) (hm_Wl_endsBy N u q (I ((a : Nat) : Int))) :=
  ok_mono (endsBy_ok G.1 G.2.1 G.2.2.2.2.2.2.1 hal ha) (fun w _ hw => ⟨⟨hw.1, hw.2.1, ST3.ends hw.2.2.1 hw.2.2.2.1 hw.2.2.2.2.2.2⟩, hw.2.2.1⟩)
theorem push_t (p : PTQ u q n ow kd Fv P B W Y) (ln : LNB u q) (hW : W < 65536) (gt : GT n ow kd P t) : OK (fun w _ => FNc q u w ∧ PTQ w q n ow kd Fv P B (W + 1) Y ∧ LNB w q ∧ (∀ i, i < W → w.2.2.2 (pq q 35) i = u.2.2.2 (pq q 35) i) ∧ w.2.2.2 (pq q 35) W = t ∧ (∀ k, k ≠ pq q 35 → w.2.2.2 k = u.2.2.2 k)) (hm_Fr_push N u q t) := by
  obtain ⟨⟨p1, p2, p3⟩, ⟨p4, p5⟩, ⟨p6, p7⟩, ⟨p8, p9⟩, ⟨l, a1, a2⟩, ⟨l2, b1, b2⟩, c⟩ := p
  refine ok_mono (push_n (N := N) (t := t) p6 ln (by omega) hW) (fun w _ hw => ?_)
  obtain ⟨f, e, l3, l4, r, o⟩ := hw
  obtain ⟨l5, l6, l7, l8⟩ := LNB_45 l3
  refine ⟨FNc.of f (by simp) (by simp) (by simp) (by simp) (by simp) (by simp) (by simp), ⟨⟨by rw [f.Fq (by omega) (by simp)]; exact p1, p2, by rw [f.jq (by omega) (by simp)]; exact p3⟩, ⟨by rw [f.Fq (by omega) (by simp)]; exact p4, by rw [f.jq (by omega) (by simp)]; exact p5⟩, ⟨e, fun i hi => ?_⟩, ⟨by rw [f.Fq (by omega) (by simp)]; exact p8, by rw [f.jq (by omega) (by simp)]; exact p9⟩, ⟨l, by rw [f.Fq (by omega) (by simp)]; exact a1, a2⟩, ⟨l5, l6, by omega, by omega⟩, c⟩, l3, fun i hi => by rw [r i (by omega), if_neg (by omega)], by rw [r W (by omega), if_pos rfl], o⟩
  rw [r i (by omega)]
  by_cases z : i = W
  · rw [if_pos z]; exact gt
  · rw [if_neg z]; exact p7 i (by omega)
theorem drop_t (p : PTQ u q n ow kd Fv P B W Y) (hk : k ≤ W) : FNc q u (wi u (pq q 26) ((W - k : Nat) : Int)) ∧ PTQ (wi u (pq q 26) ((W - k : Nat) : Int)) q n ow kd Fv P B (W - k) Y := by
  have r := F_r u (pq q 26)
  obtain ⟨⟨p1, p2, p3⟩, ⟨p4, p5⟩, ⟨p6, p7⟩, ⟨p8, p9⟩, ⟨l, a1, a2⟩, ⟨l2, b1, b2⟩, c⟩ := p
  have f : FC q [] [] [] [26] [] [] [] u (wi u (pq q 26) ((W - k : Nat) : Int)) := FC.wi_q FC.rf (by omega) (by simp)
  refine ⟨FNc.of f (by simp) (by simp) (by simp) (by simp) (by simp) (by simp) (by simp), ⟨by rw [f.Fq (by omega) (by simp)]; exact p1, p2, p3⟩, ⟨by rw [f.Fq (by omega) (by simp)]; exact p4, p5⟩, ⟨by rw [F_wi (by omega) (by omega), if_pos rfl], fun i hi => p7 i (by omega)⟩, ⟨by rw [f.Fq (by omega) (by simp)]; exact p8, p9⟩, ⟨l, by rw [f.Fq (by omega) (by simp)]; exact a1, a2⟩, ⟨l2, by rw [f.Fq (by omega) (by simp)]; exact b1, by omega⟩, c⟩
theorem forget_t (p : PTQ u q n ow kd Fv P B W Y) (hk : k ≤ B) : FNc q u (wi u (pq q 24) ((B - k : Nat) : Int)) ∧ PTQ (wi u (pq q 24) ((B - k : Nat) : Int)) q n ow kd Fv P (B - k) W Y := by
  have r := F_r u (pq q 24)
  obtain ⟨⟨p1, p2, p3⟩, ⟨p4, p5⟩, ⟨p6, p7⟩, ⟨p8, p9⟩, ⟨l, a1, a2⟩, ⟨l2, b1, b2⟩, c⟩ := p
  have f : FC q [] [] [] [24] [] [] [] u (wi u (pq q 24) ((B - k : Nat) : Int)) := FC.wi_q FC.rf (by omega) (by simp)
  refine ⟨FNc.of f (by simp) (by simp) (by simp) (by simp) (by simp) (by simp) (by simp), ⟨by rw [f.Fq (by omega) (by simp)]; exact p1, p2, p3⟩, ⟨by rw [F_wi (by omega) (by omega), if_pos rfl], fun i hi => p5 i (by omega)⟩, ⟨by rw [f.Fq (by omega) (by simp)]; exact p6, p7⟩, ⟨by rw [f.Fq (by omega) (by simp)]; exact p8, p9⟩, ⟨l, by rw [f.Fq (by omega) (by simp)]; exact a1, by omega⟩, ⟨l2, by rw [f.Fq (by omega) (by simp)]; exact b1, b2⟩, c⟩
theorem LNB_m (ln : LNB u q) {y : Int} (hk : k ∉ [42, 43, 45, 47, 28]) (hk2 : k < 100) : LNB (wi u (pq q k) y) q := LNB_fc ln (fun l hl => if_neg (fun z => hk (by rw [← (pq_e (by simp at hl; omega) hk2 z).2]; exact hl)))
theorem LNB_g (ln : LNB u q) {y : Int} (hk : k < 2000) : LNB (wi u k y) q := LNB_fc ln (fun l hl => if_neg (by unfold pq; omega))
theorem answer_t {y : Int} (p : PTQ u q n ow kd Fv P B W Y) (ln : LNB u q) (hy : y = ((k : Nat) : Int)) (hk : k ≤ W) (hW : W - k < 65536) (gt : GT n ow kd P t) : OK (fun w _ => FNc q u w ∧ PTQ w q n ow kd Fv P B (W - k + 1) Y ∧ LNB w q) (hm_Ma_answer N u q (I y) t) := by
  unfold hm_Ma_answer hb_Ma_answer_0
  rw [drop_e p.2.2.1.1 hy hk, bnd_so]
  obtain ⟨a, b⟩ := drop_t p hk
  refine ok_bnd.mpr (ok_mono (push_t (N := N) b (LNB_m ln (by simp) (by omega)) hW gt) (fun w _ hw => ok_some.mpr ⟨FNc.tr a hw.1, hw.2.1, hw.2.2.1⟩))
theorem at_t {y : Int} (p : PTQ u q n ow kd Fv P B W Y) : PTQ (wi u 1105 y) q n ow kd Fv P B W Y := PTQ_same p (fun k hk => if_neg (by unfold pq; omega)) (fun k hk => rfl)
theorem at_e {y : Int} (e : F u 1105 = ((i : Nat) : Int)) : upI u 1105 ((u.1 1105) + I y) = wi u 1105 (((i : Nat) : Int) + y) := by rw [I_F (k := 1105), e, I_add]; rfl
theorem at_F {y : Int} (h1 : 0 ≤ y ∧ y < 2147483648) : F (wi u 1105 y) 1105 = y := by rw [F_wi (by omega) (by omega), if_pos rfl]
theorem fin_t {y : Int} (M : MIc T Fv P PR q u i h m L g x j wb nb cb rk) (t9 : F u 1109 = 0) (t8 : F u 1108 = 0) (hf : PHc T u q i x rk ≤ c) (hx : x < i) (f : FNc q u w) (p : PTQ w q n ow kd Fv P (nb + m2) (wb + h2) Y) (ln : LNB w q) (t2 : T i2 = some (h2, m2, L, g, x))  (hy : ((i : Nat) : Int) + y = ((i2 : Nat) : Int)) (hi : i < i2) (hi2 : i2 < 30000) : OPQ T Fv P PR q c (upI w 1105 ((w.1 1105) + I y)) := by
  rw [at_e (by rw [f.Fg (by omega) (by simp)]; exact M.2.2.2.1.2), hy]
  exact NRM_f M t9 t8 hf hx (FMc.at f.toM) (at_t p) (LNB_g ln (by omega)) t2 (at_F (by omega)) hi
theorem Co_e {y : Int} (hy : y = ((k : Nat) : Int)) (hk : k < 24000) : hm_Co_at N u (I y) = some (u, I (A u 23 k)) := by
  unfold hm_Co_at hb_Co_at_0 hb_Co_at_21
  rw [hy, lit0q, I_lit (n := 24000), decL (by omega) (by omega) (by decide) (by decide), decide_eq_false (by omega), br_fq, decL (by omega) (by omega) (by decide) (by decide), decide_eq_true (show ((k : Nat) : Int) < 24000 by omega), br_tq, (I_inb (by omega) (by omega)).mpr ⟨by omega, by omega⟩, ck_t, tnI (n := k) rfl (by omega), I_A]
theorem Co_any (y : Int32) : ∃ r, hm_Co_at N u y = some (u, r) := by
  unfold hm_Co_at hb_Co_at_0 hb_Co_at_21 hb_Co_at_11 hb_Co_at_21
  by_cases h1 : y < 0
  · rw [decide_eq_true h1, br_tq]; exact ⟨_, rfl⟩
  · rw [decide_eq_false h1, br_fq]
    by_cases h2 : y < 24000
    · rw [decide_eq_true h2, br_tq]
      rw [I_of y] at h1 h2 ⊢
      have r := ti_rng y
      have a : 0 ≤ y.toInt := by
        rcases Int.lt_or_le y.toInt 0 with z | z
        · exact absurd ((I_lt r.1 r.2 (by decide) (by decide)).mpr z) h1
        · exact z
      have b : y.toInt < 24000 := by rw [I_lit (n := 24000)] at h2; exact (I_lt r.1 r.2 (by decide) (by decide)).mp h2
      rw [(I_inb (by omega) (by omega)).mpr ⟨by omega, by omega⟩, ck_t]
      exact ⟨_, rfl⟩
    · rw [decide_eq_false h2, br_fq]; exact ⟨_, rfl⟩
end
