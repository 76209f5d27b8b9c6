def REST (Fv : Int64 → Int64 → Prop) (AN : Nat) (T : TY) (ND UN FN PR : Nat) (w : MS) : Prop := DW Fv (PQ AN PR) PR w ∧ WLD w T ND UN FN PR 24 ∧ F w 149 = 0 ∧ F w 150 = 0
def GOI (Fv : Int64 → Int64 → Prop) (AN : Nat) (T : TY) (C : CY) (ND CN UN FN p mu : Nat) (w : MS) : Prop := ∃ PR, p < PR ∧ ALT Fv (PQ AN PR) PR T C ND CN p mu w ∧ WLD w T ND UN FN PR p ∧ (A w 109 p = 0 → F w 151 = 0 → F w 149 = F w 150)
section
variable {Fv : Int64 → Int64 → Prop} {P P2 : Int64 → Prop} {u v w w2 x y : MS} {PR PR2 N p n n2 opM bnM bxM bx2 ND fr k tp mu CN PN SN UN FN rq q m h mm AN z j : Nat} {ow kd ow2 kd2 ro rn rh cb pc ct pM pE : Nat → Nat} {T : TY} {C : CY}
theorem ATQ_frz (a : ATQ Fv P PR T ND p w fr ro rn rh cb pc ct q n ow kd bxM) (hG : tG T q = 0) (hs : A w 109 p = 0 ∨ (A w 109 p = 1 ∧ A w 23 q = 27 ∧ (A w 31 q = -1 → w.2.2.2 111 p = -1) ∧ 0 ≤ A w 110 p)) : FRZ w T ND p := by
  obtain ⟨i, h, a3, a4, a5, a6⟩ := a
  exact ⟨fr, ro, rn, rh, cb, pc, ct, q, h, a3, a4, a5, a6, i.2.2.2.2.2.2.2.2.2.1.1, i.2.2.2.2.2.2.2.2.2.2.1.1, hG, hs⟩
theorem ALT_psx (a : ALT Fv P PR T C ND CN p mu w) (h : A w 109 p = 0 → F w 151 ≠ 0) : PSX w T ND UN FN p := by
  rcases a with a | ⟨fr, ro, rn, rh, cb, pc, ct, q, n, ow, kd, bx, a, b1, b2, b3, b4, b5⟩ | ⟨fr, ro, rn, rh, cb, pc, ct, q, n, ow, kd, bx, a, b1, b2, b3⟩ | ⟨m, hm, fr, ro, rn, rh, cb, pc, ct, q, n, ow, kd, bx, a, b1, b2⟩
  · exact Or.inl a.2
  · exact Or.inr (Or.inl (ATQ_frz a b2 (Or.inr ⟨b1, b3, b4, b5⟩)))
  · exact Or.inr (Or.inl (ATQ_frz a b2 (Or.inl b1)))
  · rcases b2 with ⟨y1, y2, y3⟩ | ⟨y1, c, s, many, hg, hb', mm', r, t1, -⟩
    · exact Or.inr (Or.inl (ATQ_frz a y1 (Or.inl b1)))
    · exact absurd t1.2.2.2.2.2.2 (h b1)
theorem WLD_rest (hw : WLD w T ND UN FN PR p) (hp : PSX w T ND UN FN p) : WLD w T ND UN FN PR 24 := by
  obtain ⟨h1, h2, h3, h4, h5, h6, h7⟩ := hw
  refine ⟨h1, h2, h3, h4, h5, h6, fun z hz _ => ?_⟩
  by_cases e : z = p
  · rw [e]; exact hp
  · exact h7 z hz e
theorem WLD_p (hw : WLD w T ND UN FN PR 24) (hpr : PR ≤ 24) : WLD w T ND UN FN PR p := by
  obtain ⟨h1, h2, h3, h4, h5, h6, h7⟩ := hw
  exact ⟨h1, h2, h3, h4, h5, h6, fun z hz _ => h7 z hz (by omega)⟩
theorem FRZ_atq (f : FRZ w T ND p) (d : DW Fv P PR w) (hp : p < PR) (h133 : F w 133 = p) (h3 : A w 109 p ≠ 3) : ∃ fr ro rn rh cb pc ct q n ow kd bx, ATQ Fv P PR T ND p w fr ro rn rh cb pc ct q n ow kd bx ∧ tG T q = 0 ∧ (A w 109 p = 0 ∨ (A w 109 p = 1 ∧ A w 23 q = 27 ∧ (A w 31 q = -1 → w.2.2.2 111 p = -1) ∧ 0 ≤ A w 110 p)) := by
  obtain ⟨fr, ro, rn, rh, cb, pc, ct, q, h1, h2, h3', h4, h5, h6, h7, h8, h9⟩ := f
  obtain ⟨n, ow, kd, bx, ix⟩ := MEX_of d hp h133 h6 h7
  exact ⟨fr, ro, rn, rh, cb, pc, ct, q, n, ow, kd, bx, ⟨MEX_i ix h3, h1, h2, h3', h4, h5⟩, h8, h9⟩
theorem GGR.tr {u v w : MS} (a : GGR u v) (b : GGR v w) : GGR u w := FR.tr a b
theorem go_243 {G : MS → Int32 → Option (MS × Int32)} (r : PER Fv AN T C pM pE ND CN PN SN UN FN w) (hp : p < PR) (a : ALT Fv (PQ AN PR) PR T C ND CN p mu w) (hw : WLD w T ND UN FN PR p) (hs : F w 151 ≠ 0 ∨ A w 109 p ≠ 0) (hN : 11000000 ≤ N) : OK (fun v _ => (∃ PR, REST Fv AN T ND UN FN PR v) ∧ GGR w v) (fb_M_go_243 N G w) := by
  unfold fb_M_go_243
  refine ok_bnd.mpr (ok_mono (ae_step (N := N) r a hw hN) (fun v _ hv => ok_some.mpr ?_))
  obtain ⟨v1, v2, v3, v4, v5, v6, v7⟩ := hv
  refine ⟨⟨PR, ALT_dw v1, WLD_rest v2 (ALT_psx v1 (fun z => ?_)), v3, v4⟩, v7⟩
  rcases hs with hs | hs
  · rw [v5]; exact hs
  · omega
set_option maxRecDepth 100000 in
theorem go_loop (hN : 11000000 ≤ N) : ∀ (M mu : Nat) (w : MS), GOI Fv AN T C ND CN UN FN p mu w → PER Fv AN T C pM pE ND CN PN SN UN FN w → mu < M → OK (fun v _ => (∃ PR, REST Fv AN T ND UN FN PR v) ∧ GGR w v) (gg_M_go N M w (I p)) := by
  intro M
  induction M with
  | zero => intro mu w _ _ h; omega
  | succ M ih =>
    intro mu w g r hM
    obtain ⟨PR, hp, a, hw, hE⟩ := g
    have d := ALT_dw a
    have pr := d.1.2
    show OK _ (fb_M_go_199 N (gg_M_go N M) w (I p))
    unfold fb_M_go_199
    have r151 := F_r w 151
    have r109 := A_r w 109 p
    rw [I_F (k := 151), lit0q, decE r151.1 r151.2 (by omega) (by omega)]
    refine ok_br.mpr ⟨fun z1 => ok_ck.mpr ⟨inb_at (k := 109) (n := 24) rfl (by omega) (by omega) (by decide), ?_⟩, fun z1 => go_243 r hp a hw (Or.inl (of_decide_eq_false z1)) hN⟩
    have e151 := of_decide_eq_true z1
    rw [I_tn (x := (p : Int)) (by omega) (by omega), Int.toNat_natCast, I_A (k := 109), decE r109.1 r109.2 (by omega) (by omega)]
    refine ok_br.mpr ⟨fun z9 => ?_, fun z9 => go_243 r hp a hw (Or.inr (of_decide_eq_false z9)) hN⟩
    have e109 := of_decide_eq_true z9
    obtain ⟨m, hm, fr, ro, rn, rh, cb, pc, ct, q, n, ow, kd, bx, aq, b1, b2⟩ : ∃ m, m < mu ∧ STE Fv (PQ AN PR) PR T C ND CN p m w := by
      rcases a with a | ⟨_, _, _, _, _, _, _, _, _, _, _, _, -, b1, -⟩ | ⟨_, _, _, _, _, _, _, _, _, _, _, _, -, -, -, b3⟩ | a
      · have := a.2; omega
      · omega
      · omega
      · exact a
    have hf := aq.2.1.1
    have q98 := aq.2.2.1
    have q4 := aq.2.2.2.1
    have nd := r.1.1.1
    have an : AN ≤ 3000 := by have := r.2.2.1.2.1; have := r.2.2.2.1; omega
    rw [frame0_x (fr := fr) aq.1.2.2.1 (by omega) hf.2.2 ⟨hf.1, hf.2.1⟩, bnd_so]
    refine ok_ck.mpr ⟨inb_at (k := 98) (n := 1440) rfl (by omega) (by omega) (by decide), ?_⟩
    rw [I_tn (x := ((60 * p + (fr - 1) : Nat) : Int)) (by omega) (by omega), Int.toNat_natCast, I_A' q98]
    refine ok_ck.mpr ⟨inb_at (k := 23) (n := 16000) rfl (by omega) (by omega) (by decide), ?_⟩
    rw [I_tn (x := (q : Int)) (by omega) (by omega), Int.toNat_natCast, I_A (k := 23)]
    refine ok_bnd.mpr (ok_mono (one_ok (N := N) (mu := m) aq b1 b2 r.2.2.2.2.1 an r.2.2.2.1 (PER_pgm r pr) r.2.2.2.2.2 hw ⟨hE e109 e151, e151⟩ rfl hN) (fun v _ hv => ?_))
    obtain ⟨PR2, h1, h2, h3, h4⟩ := hv
    have g1 : GGR w v := FR.mo h4 (by decide) (by decide) (by decide) (by decide)
    refine ok_bnd.mpr (ok_mono (ae_step (N := N) (mu := m) (PER_g r g1) h2 h3 hN) (fun y _ hy => ?_))
    obtain ⟨y1, y2, y3, y4, y5, y6, y7⟩ := hy
    exact ok_mono (ih m y ⟨PR2, h1, y1, y2, fun _ _ => by rw [y3, y4]⟩ (PER_g (PER_g r g1) y7) (by omega)) (fun s _ hs => ⟨hs.1, GGR.tr g1 (GGR.tr y7 hs.2)⟩)
end
