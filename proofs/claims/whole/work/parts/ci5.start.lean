/-! a run begins, here -/
set_option maxRecDepth 100000
/-- numbers of a run, here -/
def gwR (w : MS) (p b : Nat) : MS := wi (wi (wi (wi (wi (wi w 3 0) 133 ((p : Nat) : Int)) 164 ((b : Nat) : Int)) 165 0) 151 0) 152 0
/-- its line is none -/
def gwA (w : MS) (p b : Nat) : MS := wa (gwR w p b) 115 p 0
/-- it goes -/
def gwN (w : MS) (p b : Nat) : MS := wa (gwA w p b) 109 p 0
section
variable {α : Type} {Fv : Int64 → Int64 → Prop} {AN : Nat} {T : TY} {C : CY} {pM pE : Nat → Nat} {ND CN PN SN UN FN N PR p mu M2 b : Nat} {w u : MS} {Q : MS → α → MS → Int32 → Prop} {D : Option (MS × α)} {G : MS → Int32 → Option (MS × Int32)}
theorem go_3 (hp : p < 24) (h3 : A u 109 p = 3) : fb_M_go_199 N G u (I ((p : Nat) : Int)) = fb_M_go_243 N G u := by
  unfold fb_M_go_199
  rw [(I_inb (by omega) (by omega)).mpr ⟨by omega, by show ((p : Nat) : Int) < ((24 : Nat) : Int); omega⟩, ck_t, tnI (n := p) rfl (by omega), I_A' h3, show decide (I 3 = 0) = false from rfl, br_f]
  cases decide (u.1 151 = 0) <;> rfl
/-- what is left of a beginning, then go: allEnds ahead of it changes nothing -/
theorem go_kr {Z : Option (MS × Unit)} (hX : PK (fun u (_ : Unit) => RSW Fv AN T C ND CN UN FN p mu w u ∧ ((F u 149 = 0 ∧ F u 150 = 0) ∨ A u 109 p = 3)) Z) (per : PER Fv AN T C pM pE ND CN PN SN UN FN w) (hN : 11000000 ≤ N) (hp : p < 24) (h : PP Q D (bnd Z (fun u _ => KRs Fv AN T C ND CN UN FN N p mu (M2 + 1) w u))) : PP Q D (bnd Z (fun u _ => gg_M_go N (M2 + 1) u (I ((p : Nat) : Int)))) := by
  intro m z w2 r e1 e2
  cases Z with
  | none => cases e2
  | some y =>
  obtain ⟨u, y⟩ := y
  obtain ⟨rs, c⟩ := hX u y rfl
  have e3 : gg_M_go N (M2 + 1) u (I ((p : Nat) : Int)) = some (w2, r) := e2
  refine h m z w2 r e1 ?_
  show KRs Fv AN T C ND CN UN FN N p mu (M2 + 1) w u = some (w2, r)
  unfold KRs
  rw [rsc_t rs]
  rcases c with ⟨c1, c2⟩ | c
  · rw [ends_id c1 c2, bnd_so]
    exact e3
  · have e4 : fb_M_go_243 N (gg_M_go N M2) u = some (w2, r) := (go_3 hp c).symm.trans e3
    unfold fb_M_go_243 at e4
    obtain ⟨PR', hp', al, wd, gf⟩ := rs
    have per3 : PER Fv AN T C pM pE ND CN PN SN UN FN u := PER_fr per gf (by decide) (by decide)
    have al2 : ALT Fv (PQ AN PR') PR' T C ND CN p mu u := al
    have ae := pk_ok (ae_step (N := N) per3 al2 wd hN)
    cases hE : fm_M_allEnds N u with
    | none =>
      rw [hE] at e4
      cases e4
    | some y2 =>
      obtain ⟨u1, y3⟩ := y2
      rw [hE] at e4
      obtain ⟨-, -, a1, a2, -, a3, -⟩ := ae u1 y3 hE
      have c3 : A u1 109 p = 3 := by omega
      have e5 : some (u1, u1.1 165) = some (w2, r) := e4
      show gg_M_go N (M2 + 1) u1 (I ((p : Nat) : Int)) = some (w2, r)
      show fb_M_go_199 N (gg_M_go N M2) u1 (I ((p : Nat) : Int)) = some (w2, r)
      rw [go_3 hp c3]
      unfold fb_M_go_243
      rw [ends_id a1 a2, bnd_so]
      exact e5
theorem gwR_v (hp : p < 24) (hb : b ≤ 500) : FR [3, 133, 151, 152, 164, 165] [] [] [] w (gwR w p b) ∧ F (gwR w p b) 133 = ((p : Nat) : Int) ∧ F (gwR w p b) 164 = ((b : Nat) : Int) ∧ F (gwR w p b) 165 = 0 ∧ F (gwR w p b) 151 = 0 ∧ F (gwR w p b) 152 = 0 := by
  unfold gwR
  refine ⟨FR.wi (FR.wi (FR.wi (FR.wi (FR.wi (FR.wi FR.rf (by decide)) (by decide)) (by decide)) (by decide)) (by decide)) (by decide), ?_, ?_, ?_, ?_, ?_⟩
  · rw [wi_ne (by omega), wi_ne (by omega), wi_ne (by omega), wi_ne (by omega), wi_sm (by omega) (by omega)]
  · rw [wi_ne (by omega), wi_ne (by omega), wi_ne (by omega), wi_sm (by omega) (by omega)]
  · rw [wi_ne (by omega), wi_ne (by omega), wi_sm (by omega) (by omega)]
  · rw [wi_ne (by omega), wi_sm (by omega) (by omega)]
  · rw [wi_sm (by omega) (by omega)]
/-- what is known when it begins: it goes on, it looks at its messages, its first CLAUSES -/
theorem go_wst (hp : p < PR) (hb : b ≤ 500) (rest : REST Fv AN T ND UN FN PR w) (r : PER Fv AN T C pM pE ND CN PN SN UN FN w) (h3 : A w 109 p ≠ 3) (hN : 700000000000000 < N)
    (k0 : A w 109 p = 0 → (∃ mm, mm ≤ 600000000000000 ∧ ALT Fv (PQ AN PR) PR T C ND CN p mm (gwA w p b)) → WLD (gwA w p b) T ND UN FN PR p → PER Fv AN T C pM pE ND CN PN SN UN FN (gwA w p b) → PP Q D (gg_M_go N N (gwA w p b) (I ((p : Nat) : Int))))
    (k1 : A w 109 p = 1 → ∀ q j : Nat, A w 95 p = ((j + 1 : Nat) : Int) → A w 98 (60 * p + j) = ((q : Nat) : Int) → q < ND → PER Fv AN T C pM pE ND CN PN SN UN FN (gwN w p b) → PK (fun u (_ : Unit) => RSW Fv AN T C ND CN UN FN p 600000000000000 (gwN w p b) u ∧ ((F u 149 = 0 ∧ F u 150 = 0) ∨ A u 109 p = 3)) (fm_M_goOnWith N (gwN w p b) (I ((q : Nat) : Int))) → PP Q D (bnd (fm_M_goOnWith N (gwN w p b) (I ((q : Nat) : Int))) (fun u _ => gg_M_go N N u (I ((p : Nat) : Int)))))
    (k5 : A w 109 p = 5 → ∀ c : Nat, ((0 ≤ A w 96 (60 * p) ∧ A w 50 (A w 96 (60 * p)).toNat = ((c : Nat) : Int)) ∨ (A w 96 (60 * p) = -1 ∧ ∃ u : Nat, A w 170 p = ((u : Nat) : Int) ∧ A w 53 u = ((c : Nat) : Int))) → PER Fv AN T C pM pE ND CN PN SN UN FN (gwN w p b) → PK (fun u (_ : Unit) => RSW Fv AN T C ND CN UN FN p 600000000000000 (gwN w p b) u ∧ ((F u 149 = 0 ∧ F u 150 = 0) ∨ A u 109 p = 3)) (fm_M_clausesOf N (gwN w p b) (I ((c : Nat) : Int))) → PP Q D (bnd (fm_M_clausesOf N (gwN w p b) (I ((c : Nat) : Int))) (fun u _ => gg_M_go N N u (I ((p : Nat) : Int))))) :
    PP Q D (fb_M_go_61 N (gg_M_go N N) w (I ((p : Nat) : Int)) (I ((b : Nat) : Int)) 0) := by
  obtain ⟨d, hw, h149, h150⟩ := rest
  have pr := d.1.2
  have hT := PRG_26 r.1
  have nd := r.1.1.1
  have un := r.1.1.2.2.2.1
  have fn := r.1.1.2.2.2.2.1
  have cn := r.1.1.2.1
  obtain ⟨f1, e133, e164, e165, e151, e152⟩ := gwR_v (w := w) (p := p) (b := b) (by omega) hb
  have f12 : FR [] [] [115] [] (gwR w p b) (gwA w p b) := FR.wa FR.rf (by decide)
  have f9 : FR [] [] [109] [] (gwA w p b) (gwN w p b) := FR.wa FR.rf (by decide)
  have a9 : ∀ y, A (gwN w p b) 109 y = if y = p then 0 else A (gwA w p b) 109 y := fun y => by
    unfold gwN
    exact A_eq (by omega) (by omega)
  have un0 : fb_M_go_61 N (gg_M_go N N) w (I ((p : Nat) : Int)) (I ((b : Nat) : Int)) 0 = ck (inb (I ((p : Nat) : Int)) (ln 115)) (lt (gwA w p b) (fun w12 => ck (inb (I ((p : Nat) : Int)) (ln 109)) (br (decide ((w12.2.2.1 109 (I ((p : Nat) : Int)).toNatClampNeg) = 5)) (ck (inb (I ((p : Nat) : Int)) (ln 109)) (lt (upA w12 109 (upd (w12.2.2.1 109) (I ((p : Nat) : Int)).toNatClampNeg 0)) (fun w16 => bnd (fm_M_frame0 N w16) (fun u17 r17 => ck (inb r17 (ln 96)) (br (decide ((u17.2.2.1 96 r17.toNatClampNeg) = (-1))) (ck (inb (I ((p : Nat) : Int)) (ln 170)) (ck (inb (u17.2.2.1 170 (I ((p : Nat) : Int)).toNatClampNeg) (ln 53)) (fb_M_go_163 N (gg_M_go N N) u17 (I ((p : Nat) : Int)) ((u17.2.2.1 53 (u17.2.2.1 170 (I ((p : Nat) : Int)).toNatClampNeg).toNatClampNeg))))) (ck (inb r17 (ln 96)) (ck (inb (u17.2.2.1 96 r17.toNatClampNeg) (ln 50)) (fb_M_go_163 N (gg_M_go N N) u17 (I ((p : Nat) : Int)) ((u17.2.2.1 50 (u17.2.2.1 96 r17.toNatClampNeg).toNatClampNeg)))))))))) (ck (inb (I ((p : Nat) : Int)) (ln 109)) (br (decide ((w12.2.2.1 109 (I ((p : Nat) : Int)).toNatClampNeg) = 1)) (ck (inb (I ((p : Nat) : Int)) (ln 109)) (lt (upA w12 109 (upd (w12.2.2.1 109) (I ((p : Nat) : Int)).toNatClampNeg 0)) (fun w13 => bnd (fm_M_frame0 N w13) (fun u14 r14 => ck (inb r14 (ln 98)) (bnd (fm_M_goOnWith N u14 (u14.2.2.1 98 r14.toNatClampNeg)) (fun u15 _ => gg_M_go N N u15 (I ((p : Nat) : Int)))))))) (gg_M_go N N w12 (I ((p : Nat) : Int)))))))) := by
    unfold fb_M_go_61
    rw [lt_e, show upI w 3 0 = wi w 3 0 from rfl, show decide ((wi w 3 0).1 3 = 0) = true from rfl, br_t, lt_e, lt_e, lt_e, lt_e, lt_e, wi_e (k := 133), wi_e (k := 164), show ∀ s : MS, upI s 165 0 = wi s 165 0 from fun _ => rfl, show ∀ s : MS, upI s 151 0 = wi s 151 0 from fun _ => rfl, show ∀ s : MS, upI s 152 0 = wi s 152 0 from fun _ => rfl]
    rw [show wi (wi (wi (wi (wi (wi w 3 0) 133 ((p : Nat) : Int)) 164 ((b : Nat) : Int)) 165 0) 151 0) 152 0 = gwR w p b from rfl, show upA (gwR w p b) 115 (upd ((gwR w p b).2.2.1 115) (I ((p : Nat) : Int)).toNatClampNeg 0) = gwA w p b from by
      rw [tnI (n := p) rfl (by omega), show (0 : Int32) = I 0 from rfl, wa_e]
      rfl]
  rw [un0]
  clear un0
  have f2 : FR [3, 133, 151, 152, 164, 165] [] [115] [] w (gwA w p b) := FR.tr (FR.mo f1 (by decide) (by decide) (by decide) (by decide)) (FR.mo f12 (by decide) (by decide) (by decide) (by decide))
  have c133 : F (gwA w p b) 133 = ((p : Nat) : Int) := by rw [FR.F f12 (by decide)]; exact e133
  have c164 : F (gwA w p b) 164 = ((b : Nat) : Int) := by rw [FR.F f12 (by decide)]; exact e164
  have c165 : F (gwA w p b) 165 = 0 := by rw [FR.F f12 (by decide)]; exact e165
  have c151 : F (gwA w p b) 151 = 0 := by rw [FR.F f12 (by decide)]; exact e151
  have c152 : F (gwA w p b) 152 = 0 := by rw [FR.F f12 (by decide)]; exact e152
  clear e133 e164 e165 e151 e152 f1 f12
  have up9 : upA (gwA w p b) 109 (upd ((gwA w p b).2.2.1 109) (I ((p : Nat) : Int)).toNatClampNeg 0) = gwN w p b := by
    rw [tnI (n := p) rfl (by omega), show (0 : Int32) = I 0 from rfl, wa_e]
    rfl
  generalize gwN w p b = w9 at *
  generalize gwA w p b = w2 at *
  have d2 : DW Fv (PQ AN PR) PR w2 := DW_fr d f2 (by decide) (by decide) (by decide) (by decide) (by decide) (by decide) (by decide) (by decide) (by decide) (by decide) (by decide) (by decide) (by decide) (by decide) (by decide) (by decide) (by decide)
  have r2 : PER Fv AN T C pM pE ND CN PN SN UN FN w2 := PER_fr r f2 (by decide) (by decide)
  have wl24 : WLD w2 T ND UN FN PR 24 := WLD_fr hw hT (OTF_fr f2 (by decide)) f2 (by decide) (by decide) (fun z _ => Or.inl (FR.A f2 (by decide)))
  have wl2 : WLD w2 T ND UN FN PR p := WLD_p wl24 pr
  have ps := wl24.2.2.2.2.2.2 p hp (by omega)
  have g149 : F w2 149 = 0 := by rw [FR.F f2 (by decide)]; exact h149
  have g150 : F w2 150 = 0 := by rw [FR.F f2 (by decide)]; exact h150
  have n3 : A w2 109 p ≠ 3 := by rw [FR.A f2 (by decide)]; exact h3
  have s9 : A w2 109 p = A w 109 p := FR.A f2 (by decide)
  have r109 := A_r w2 109 p
  have d9 : DW Fv (PQ AN PR) PR w9 := DW_109 d2 f9 (fun z hz => by rw [a9, if_neg hz]) n3 (Or.inl (by rw [a9, if_pos rfl]))
  have p9 : A w9 109 p = 0 := by rw [a9, if_pos rfl]
  have o9 : OTF p w2 w9 := OTF_fr f9 (by decide)
  have wl9 : WLD w9 T ND UN FN PR p := WLD_fr wl2 hT o9 f9 (by decide) (by decide) (fun z hz => Or.inl (by rw [a9, if_neg hz]))
  have in9 : inb (I ((p : Nat) : Int)) (ln 109) = true := (I_inb (by omega) (by omega)).mpr ⟨by omega, by show ((p : Nat) : Int) < ((24 : Nat) : Int); omega⟩
  refine r_ck (fun _ => r_lt ?_)
  have tnp : (I ((p : Nat) : Int)).toNatClampNeg = p := tnI (n := p) rfl (by omega)
  rw [in9, ck_t, ck_t, tnp, I_A (k := 109), show (5 : Int32) = I 5 from rfl, decE r109.1 r109.2 (by omega) (by omega), show (1 : Int32) = I 1 from rfl, decE r109.1 r109.2 (by omega) (by omega), ck_t, ck_t, lt_e, lt_e]
  rw [tnp] at up9
  rw [up9]
  have r9 : PER Fv AN T C pM pE ND CN PN SN UN FN w9 := PER_fr r2 f9 (by decide) (by decide)
  have pgm9 := PER_pgm r9 pr
  have k133 : F w9 133 = p := by rw [FR.F f9 (by decide)]; exact c133
  have k152 : F w9 152 = 0 := by rw [FR.F f9 (by decide)]; exact c152
  have kE : F w9 149 = F w9 150 ∧ F w9 151 = 0 := by rw [FR.F f9 (by decide), FR.F f9 (by decide), FR.F f9 (by decide), g149, g150]; exact ⟨rfl, c151⟩
  have k149 : F w9 149 = 0 := by rw [FR.F f9 (by decide)]; exact g149
  have k150 : F w9 150 = 0 := by rw [FR.F f9 (by decide)]; exact g150
  have k165 : F w9 165 = 0 := by rw [FR.F f9 (by decide)]; exact c165
  have k164 : F w9 164 = ((b : Nat) : Int) := by rw [FR.F f9 (by decide)]; exact c164
  have res : ∀ {Z : Option (MS × Unit)}, OK (fun x (_ : Unit) => RES Fv (PQ AN PR) PR T C ND CN p 600000000000000 w9 x) Z → PK (fun u (_ : Unit) => RSW Fv AN T C ND CN UN FN p 600000000000000 w9 u ∧ ((F u 149 = 0 ∧ F u 150 = 0) ∨ A u 109 p = 3)) Z := fun ok => pk_mo (pk_ok ok) (fun x _ hx => ⟨RES_rsw hx wl9 hT hp, by
    rcases hx.2.1 with c | c
    · exact Or.inl ⟨by rw [FR.F c (by decide)]; exact k149, by rw [FR.F c (by decide)]; exact k150⟩
    · exact Or.inr c.2⟩)
  refine r_br (fun z5 => ?_) (fun z5 => r_br (fun z1 => ?_) (fun z1 => ?_))
  · have e5 := of_decide_eq_true z5
    obtain ⟨-, q2, q3, q4, q5, q6, hh, q7, q8, q9, q10⟩ : FRH w2 UN FN p := by
      rcases ps with ps | ⟨fr, ro, rn, rh, cb, pc, ct, q, -, -, -, -, -, -, -, -, h9⟩ | ps
      · omega
      · rcases h9 with h9 | ⟨h9, -⟩ <;> omega
      · exact ps
    obtain ⟨n, ow, kd, bx, ix⟩ := MEX_of (opM := 0) (bnM := hh) d9 hp k133 (by rw [FR.A f9 (by decide)]; exact q3) (by rw [FR.A f9 (by decide)]; exact q8)
    have i9 := MEX_i ix (by omega)
    have F9 : FRS w9 T ND p 1 (fun _ => 0) (fun _ => 0) (fun _ => hh) (fun _ => 0) (fun _ => 0) (fun _ => 0) 0 0 := ⟨⟨by omega, by omega, by rw [FR.A f9 (by decide)]; exact q2⟩, ⟨rfl, rfl, rfl⟩, fun i hi => by
      have i0 : i = 0 := by omega
      subst i0
      rw [FR.A f9 (by decide), FR.A f9 (by decide), FR.A f9 (by decide)]
      exact ⟨q6, q5, q9, q7, Nat.zero_le _, Nat.zero_le _, Nat.zero_le _⟩, fun i hi => by omega, fun j hj => absurd hj (Nat.not_lt_zero j)⟩
    rw [frame0_x (fr := 1) k133 (by omega) (by rw [FR.A f9 (by decide)]; exact q2) (by omega), bnd_so, show (60 * p + (1 - 1) : Nat) = 60 * p from by omega]
    have in96 : inb (I ((60 * p : Nat) : Int)) (ln 96) = true := (I_inb (by omega) (by omega)).mpr ⟨by omega, by show ((60 * p : Nat) : Int) < ((1440 : Nat) : Int); omega⟩
    have t96 : (I ((60 * p : Nat) : Int)).toNatClampNeg = 60 * p := by rw [I_tn (by omega) (by omega), Int.toNat_natCast]
    rw [in96, ck_t, ck_t, t96]
    have run : ∀ (c rr : Nat), CLS C w9 CN 0 0 0 0 hh 0 0 rr ((c : Nat) : Int) → ((0 ≤ A w 96 (60 * p) ∧ A w 50 (A w 96 (60 * p)).toNat = ((c : Nat) : Int)) ∨ (A w 96 (60 * p) = -1 ∧ ∃ u : Nat, A w 170 p = ((u : Nat) : Int) ∧ A w 53 u = ((c : Nat) : Int))) → PP Q D (fb_M_go_163 N (gg_M_go N N) w9 (I ((p : Nat) : Int)) (I ((c : Nat) : Int))) := fun c rr hc hw => by
      have rr' : rr < 16000 := by
        obtain ⟨c', d1, d2, d3, d4, d5, d6, d7, d8, d9', d10⟩ := hc
        have := (r9.1.2.2.2.1 c' d2).2.1
        omega
      unfold fb_M_go_163
      refine k5 (by omega) c hw r9 (res ?_)
      exact clausesOf_ok (N := N) (mu := 600000000000000) (b := 0) (c := c) (r := rr) (bn := 0) (h2 := 0) (fr := 1) (ro := fun _ => 0) (rn := fun _ => 0) (rh := fun _ => hh) (cb := fun _ => 0) (pc := fun _ => 0) (ct := fun _ => 0) pgm9 F9 (by rw [FR.A f9 (by decide)]; exact q4) p9 k152 (by rw [Nat.zero_add]; show MEI Fv (PQ AN PR) PR w9 p n ow kd 0 (0 + hh) bx; rw [Nat.zero_add]; exact i9) (by omega) hc (CLG_new (b := b) (e := 16002) k165 k164 hb (by show 0 + rr ≤ _; omega) (by omega)) kE (by omega)
    have u2 : ∀ K i, K ≠ 115 → A w2 K i = A w K i := fun K i h => FR.A f2 (by simp; omega)
    rcases q10 with ⟨y1, xx, y2, y3, y4, c, y5, y6⟩ | ⟨y1, ff, y2, y3, y4⟩
    · obtain ⟨aa, hd, rr, v1, v2, v3, v4, v5, c3⟩ := r9.1.2.2.2.2.2 xx y2
      have c3' := c3
      obtain ⟨c', d1, d2', d3, -⟩ := c3'
      have e53 : A w9 53 xx = ((c : Nat) : Int) := by rw [FR.A f9 (by decide)]; exact y5
      obtain rfl : c' = c := by omega
      have e41 : A w9 41 c' = 0 := by rw [FR.A f9 (by decide)]; exact y6
      have e54 : A w9 54 xx = ((hh : Nat) : Int) := by rw [FR.A f9 (by decide)]; exact y4
      obtain rfl : aa = 0 := by omega
      obtain rfl : hd = hh := by omega
      rw [I_A' (show A w9 96 (60 * p) = -1 by rw [FR.A f9 (by decide)]; exact y1)]
      refine r_br (fun _ => ?_) (fun z => absurd rfl (of_decide_eq_false z))
      refine r_ck (fun _ => ?_)
      rw [I_A' (show A w9 170 p = ((xx : Nat) : Int) by rw [FR.A f9 (by decide)]; exact y3)]
      refine r_ck (fun _ => ?_)
      rw [I_tn (x := (xx : Int)) (by omega) (by omega), Int.toNat_natCast, I_A' e53]
      exact run c' rr (by rw [← e53]; exact c3) (Or.inr ⟨by rw [← u2 96 _ (by omega)]; exact y1, xx, by rw [← u2 170 _ (by omega)]; exact y3, by rw [← u2 53 _ (by omega)]; exact y5⟩)
    · obtain ⟨aa, rr, v1, v2, c3⟩ := r9.1.2.2.2.2.1 ff y2
      have c3' := c3
      obtain ⟨c', d1, d2', d3, -⟩ := c3'
      have e48 : A w9 48 ff = 0 := by rw [FR.A f9 (by decide)]; exact y4
      obtain rfl : aa = 0 := by omega
      subst y1
      rw [I_A' (show A w9 96 (60 * p) = ((ff : Nat) : Int) by rw [FR.A f9 (by decide)]; exact y3), show (-(I 1) : Int32) = I (-1) from rfl, decE (by omega) (by omega) (by omega) (by omega), decide_eq_false (by omega), br_f]
      refine r_ck (fun _ => ?_)
      rw [I_tn (x := (ff : Int)) (by omega) (by omega), Int.toNat_natCast, I_A' d1]
      have y3' : A w 96 (60 * p) = ((ff : Nat) : Int) := by rw [← u2 96 _ (by omega)]; exact y3
      exact run c' rr (by rw [← d1]; exact c3) (Or.inl ⟨by rw [y3']; omega, by rw [y3', Int.toNat_natCast, ← u2 50 _ (by omega), ← FR.A f9 (by decide)]; exact d1⟩)
  · have e1 := of_decide_eq_true z1
    have fz : FRZ w2 T ND p := by
      rcases ps with ps | ps | ⟨ps, -⟩
      · omega
      · exact ps
      · omega
    obtain ⟨fr, ro, rn, rh, cb, pc, ct, q, n, ow, kd, bx, aq, hG, hs⟩ := FRZ_atq fz d2 hp c133 n3
    obtain ⟨s1, s2, s3, s4⟩ : A w2 109 p = 1 ∧ A w2 23 q = 27 ∧ (A w2 31 q = -1 → w2.2.2.2 111 p = -1) ∧ 0 ≤ A w2 110 p := by
      rcases hs with hs | hs
      · omega
      · exact hs
    obtain ⟨i, hF, a98, a4, a5, a6⟩ := aq
    have hf := hF.1
    obtain ⟨n', ow', kd', bx', ix⟩ := MEX_of (opM := ro (fr - 1) + tH T q) (bnM := rn (fr - 1) + rh (fr - 1) + tM T q) d9 hp k133 (by rw [FR.A f9 (by decide)]; exact i.2.2.2.2.2.2.2.2.2.1.1) (by rw [FR.A f9 (by decide)]; exact i.2.2.2.2.2.2.2.2.2.2.1.1)
    have aq9 : ATQ Fv (PQ AN PR) PR T ND p w9 fr ro rn rh cb pc ct q n' ow' kd' bx' := ⟨MEX_i ix (by omega), FRS_fr hF f9 (by decide) (by decide) (by decide) (by decide) (by decide) (by decide) (by decide) (by decide) (by decide) (by decide), by rw [FR.A f9 (by decide)]; exact a98, a4, a5, by rw [FR.A f9 (by decide)]; exact a6⟩
    have sRb : sR T pc (fr - 1) ≤ 16000 * (fr - 1) := sR_le (fr - 1) (fun j hj => (r2.1.2.2.1 _ (hF.2.2.2.1 j (by omega)).2.1).1.2.2.2.2.2.1.2)
    have tRb := (r2.1.2.2.1 q a4).1.2.2.2.2.2.1.2
    rw [frame0_x (fr := fr) k133 (by omega) (by rw [FR.A f9 (by decide)]; exact hf.2.2) ⟨hf.1, hf.2.1⟩, bnd_so]
    refine r_ck (fun _ => ?_)
    rw [I_tn (x := ((60 * p + (fr - 1) : Nat) : Int)) (by omega) (by omega), Int.toNat_natCast, I_A' aq9.2.2.1]
    refine k1 (by omega) q (fr - 1) ?_ ?_ a4 r9 (res ?_)
    · rw [show fr - 1 + 1 = fr by omega, ← FR.A f2 (by decide)]
      exact hf.2.2
    · rw [← FR.A f2 (by decide)]
      exact a98
    · exact goOnWith_ok (N := N) (mu := 600000000000000) (C := C) (CN := CN) aq9 p9 k152 (CLG_new (b := b) (e := 0) k165 k164 hb (by omega) (by omega)) pgm9 hG (by rw [FR.A f9 (by decide)]; exact s2) (fun z => by rw [FR.A f9 (by decide)] at z; rw [f9.2.2.2 111 (by decide)]; exact s3 z) (by rw [FR.A f9 (by decide)]; exact s4) kE (by omega)
  · have e5 := of_decide_eq_false z5
    have e1 := of_decide_eq_false z1
    have fz : FRZ w2 T ND p := by
      rcases ps with ps | ps | ⟨ps, -⟩
      · omega
      · exact ps
      · omega
    obtain ⟨fr, ro, rn, rh, cb, pc, ct, q, n, ow, kd, bx, aq, hG, hs⟩ := FRZ_atq fz d2 hp c133 n3
    have s1 : A w2 109 p = 0 := by
      rcases hs with hs | ⟨hs, -⟩
      · exact hs
      · omega
    have hF := aq.2.1
    have hf := hF.1
    have a4 := aq.2.2.2.1
    have sRb : sR T pc (fr - 1) ≤ 16000 * (fr - 1) := sR_le (fr - 1) (fun j hj => (r2.1.2.2.1 _ (hF.2.2.2.1 j (by omega)).2.1).1.2.2.2.2.2.1.2)
    have tRb := (r2.1.2.2.1 q a4).1.2.2.2.2.2.1.2
    refine k0 (by omega) ⟨600000000000000, Nat.le_refl _, Or.inr (Or.inr (Or.inr ⟨599999999999999, by omega, fr, ro, rn, rh, cb, pc, ct, q, n, ow, kd, bx, aq, s1, Or.inl ⟨hG, c152, ?_⟩⟩))⟩ wl2 r2
    refine ⟨by omega, by omega, by omega, ?_⟩
    rw [c164, c165]
    omega
end
