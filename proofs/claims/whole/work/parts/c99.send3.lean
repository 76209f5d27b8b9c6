/-! a message is sent, both sides: the step -/
set_option maxRecDepth 100000
section
variable {b : Int → Nat → Nat → Prop} {Fv Fv' : Int64 → Int64 → Prop} {P P' : Int64 → Prop} {N PR q r p i j U B W Y : Nat} {m w m2 w2 : MS} {cur : Option Nat}
theorem WL_ownt (wl : WLs (RRt p) PR Fv P Fv' P' cur i j m w) (hp : p < PR) (hal : F m (pq p 9) ≠ 3) (h9 : A w 109 p ≠ 3) (s2 : SFs Fv P Fv' P' PR m2 w2) (f : GGm p m m2) (g : GGw p w w2) (pl : PLs b p m2 w2 U B W Y) (sc2 : SCs p m2 w2) (al2 : F m2 (pq p 9) ≠ 3 ∧ A w2 109 p ≠ 3) : WLs (RRt p) PR Fv P Fv' P' cur i j m2 w2 := by
  have p24 := wl.1.2.1.1.1.2
  have D : ∀ d, d ≠ p → LOCm d m m2 ∧ LOCw d w w2 := fun d hd => ⟨f.1 d hd, g.1 d hd⟩
  have pg : PG0 m w m2 w2 := PG0_gg f g
  have dq : ∀ d, F m (pq d 9) = 3 → d ≠ p := fun d hd c => hal (by rw [← c]; exact hd)
  have dq2 : ∀ d, d = 24 ∨ A w 109 d = 3 → d ≠ p := fun d hd c => by
    rcases hd with hd | hd
    · omega
    · exact h9 (by rw [← c]; exact hd)
  have f9 : ∀ d, d ≠ p → F m2 (pq d 9) = F m (pq d 9) := fun d hd => congrArg Int32.toInt ((D d hd).1 9 (by omega)).1
  have a9 : ∀ d, d ≠ p → A w2 109 d = A w 109 d := fun d hd => congrArg Int32.toInt ((D d hd).2.1 109 d (Or.inl ⟨by omega, rfl⟩))
  have dm : ∀ d, F m (pq d 9) = 3 → F m2 (pq d 9) = 3 ∧ m2.2.2.2 (pq d 2) = m.2.2.2 (pq d 2) ∧ m2.1 (pq d 17) = m.1 (pq d 17) ∧ m2.2.1 (pq d 16) = m.2.1 (pq d 16) := fun d hd => ⟨by rw [f9 d (dq d hd)]; exact hd, ((D d (dq d hd)).1 2 (by omega)).2.2.2, ((D d (dq d hd)).1 17 (by omega)).1, ((D d (dq d hd)).1 16 (by omega)).2.1⟩
  refine WL_gen wl s2 dm (fun d hd => ⟨fun i hi => (D d (dq2 d hd)).2.2.2.2.2.1 _ (by omega) (by omega), congrArg Int32.toInt ((D d (dq2 d hd)).2.2.1 89 (by omega))⟩) (fun d hd => by rw [a9 d (dq2 d (Or.inr hd))]; exact hd) (fun r _ hr _ h => QEs_st h (D r (dq r hr)).1 (D r (dq r hr)).2) (fun r _ _ h => DEs_st h pg (D r (dq r h.1)).1 (D r (dq r h.1)).2 (fun d hd => ⟨(dm d hd).1, (dm d hd).2.1⟩)) (fun r hr x1 x2 x3 => ?_) ?_
  · by_cases rq : r = p
    · subst rq
      exact Or.inl ⟨al2.1, al2.2, b, U, B, W, Y, pl, sc2, Or.inl rfl⟩
    · obtain ⟨b, U, B, W, Y, pl, sc, rr⟩ := x3
      obtain ⟨-, -, ⟨b1, b2, b3⟩, b4⟩ := SF_al wl.1 hr x1 pl
      have hU := pl.1.1.2.2
      obtain ⟨l1, l2⟩ := D r rq
      refine Or.inl ⟨by rw [f9 r rq]; exact x1, by rw [a9 r rq]; exact x2, b, U, B, W, Y, PLs_cg pl (fun k hk => (l1 k (by simp at hk; omega)).1) (fun i _ => by rw [(l1 2 (by omega)).2.2.2]) (fun i _ => by rw [(l1 33 (by omega)).2.2.2]) (fun i _ => by rw [(l1 35 (by omega)).2.2.2]) (fun i _ => by rw [(l1 6 (by omega)).2.2.2]) (fun k hk => ?_) (fun i hi => l2.2.2.2.2.1 _ (by omega) (by omega)) (fun i hi => l2.2.2.2.2.2.2.1 _ (by omega) (by omega)) (fun i hi => l2.2.2.2.2.2.1 _ (by omega) (by omega)) (fun i hi => l2.2.2.2.2.2.2.2 _ (by omega) (by omega)), SC_eq sc b4.2 (EQm_loc pg l1) (EQw_loc pg l2), RRt_st rr (EQm_loc pg l1).n (EQw_loc pg l2).v⟩
      simp only [List.mem_cons, List.not_mem_nil, or_false] at hk
      rcases hk with rfl | rfl | rfl | rfl | rfl
      · exact l2.2.1 89 (by omega)
      · exact l2.2.1 90 (by omega)
      · exact l2.1 92 r (Or.inl ⟨by omega, rfl⟩)
      · exact l2.1 94 r (Or.inl ⟨by omega, rfl⟩)
      · exact l2.2.1 108 (by omega)
  · obtain ⟨n, q1, q2, -⟩ := wl.2.1
    refine ⟨i + n, j + n, q1, q2, fun k _ => ?_, fun k _ => ⟨fun K hK => ?_, by rw [g.2.2.2.2.1]⟩, Or.inl ⟨?_, ?_⟩⟩
    · show (m2.2.2.1 54 k).toInt = _
      rw [f.2.2.2.1]
      rfl
    · show (w2.2.2.1 K k).toInt = _
      rw [g.2.2.2.1 K hK]
      rfl
    · show (m2.1 955).toInt = _
      rw [f.2.2.1]
      exact q1
    · show (w2.1 150).toInt = _
      rw [g.2.2.1]
      exact q2
end
section
variable {p j a n : Nat} {m w m2 w2 : MS} {nb : Nat → Nat} {Hs Os : Nat → List Nat} {y : Option (Nat × Nat × Nat)}
theorem RUb_st (h : RUb m w p j nb Hs Os y) (h1 : EQn p m m2) (h2 : EQv p w w2) (pg : PGs m w m2 w2) : RUb m2 w2 p j nb Hs Os y := by
  obtain ⟨r1, ⟨r5, r6⟩, r7, ⟨r8, r9, r10⟩, r11, r12, r13⟩ := h
  have hj : j < 60 := r1.1.1.2.2
  obtain ⟨⟨⟨g1, -, -⟩, g4, g5, -⟩, g7, g8⟩ := pg
  have h23 : A m2 23 = A m 23 := by funext i; show (m2.2.2.1 23 i).toInt = _; rw [g1]; rfl
  have hRO := ROs_eq g4
  have hP : ∀ K, PRr K → A w2 K = A w K := fun K c => by funext i; show (w2.2.2.1 K i).toInt = _; rw [g4 K c]; rfl
  have fm : ∀ k, 1100 ≤ k → k < 1120 → F m2 k = F m k := fun k c1 c2 => congrArg Int32.toInt (g7 k c1 c2).1
  have fw : ∀ k, k = 133 ∨ (151 ≤ k ∧ k ≤ 165) → F w2 k = F w k := fun k c => congrArg Int32.toInt (g8 k c)
  have f8 : F m2 (pq p 8) = F m (pq p 8) := congrArg Int32.toInt (h1.1 8 (by omega) (by simp))
  refine ⟨FC_eq r1 h1 h2, ⟨?_, ?_⟩, ?_, ⟨by rw [fm 1108 (by omega) (by omega)]; exact r8, by rw [fm 1109 (by omega) (by omega)]; exact r9, by rw [fw 151 (by omega)]; exact r10⟩, by rw [fw 133 (by omega)]; exact r11, by rw [(g7 1106 (by omega) (by omega)).1, g8 165 (by omega)]; exact r12, by rw [(g7 1107 (by omega) (by omega)).1, g8 164 (by omega)]; exact r13⟩
  · show (m2.1 (pq p 9)).toInt = _
    rw [h1.1 9 (by omega) (by simp)]
    exact r5
  · show (w2.2.2.1 109 p).toInt = _
    rw [h2.1 109 p (Or.inl ⟨by omega, rfl⟩) (by omega) (by omega)]
    exact r6
  · rcases r7 with ⟨c1, c2, c3⟩ | ⟨kd, k, sc, c1, fl, W0, O0, X, c2, ⟨c3, c4, c5, c6⟩, ⟨c7, c8, c9, c10, c11⟩, c12, f2, g, c13⟩
    · exact Or.inl ⟨c1, by rw [fm 1112 (by omega) (by omega)]; exact c2, by rw [fw 152 (by omega)]; exact c3⟩
    · refine Or.inr ⟨kd, k, sc, c1, fl, W0, O0, X, c2, ⟨by rw [fm 1112 (by omega) (by omega)]; exact c3, c4, by rw [fm 1113 (by omega) (by omega)]; exact c5, by rw [fm 1114 (by omega) (by omega)]; exact c6⟩, ⟨by rw [fw 152 (by omega)]; exact c7, by rw [fw 153 (by omega)]; exact c8, by rw [fw 154 (by omega)]; exact c9, by rw [fw 156 (by omega)]; exact c10, by rw [fw 157 (by omega)]; exact c11⟩, fun e3 => ?_, f2, g, by rw [h23, hRO, g5, hP 45 (by unfold PRr; omega)]; exact c13⟩
      obtain ⟨d1, n2, d2, d3, d4, d5, g2, d6⟩ := c12 e3
      exact ⟨⟨by rw [fw 158 (by omega), f8]; exact d1.1, by rw [h1.2.1 10 (by omega) (by omega), h2.2.1]; exact d1.2⟩, n2, by rw [fw 159 (by omega)]; exact d2, by rw [fw 155 (by omega), hP 25 (by unfold PRr; omega)]; exact d3, by rw [hP 23 (by unfold PRr; omega)]; exact d4, by rw [hP 27 (by unfold PRr; omega)]; exact d5, g2, by rw [h23, hRO, g5]; exact d6⟩
end
/-- of the one that goes, in the midst of a step -/
def RUv (p j : Nat) (nb : Nat → Nat) (Hs Os : Nat → List Nat) (y : Option (Nat × Nat × Nat)) (a n B W l : Nat) (m w : MS) : Prop := RUb m w p j nb Hs Os y ∧ (F m 1105 = ((a : Nat) : Int) ∧ A w 98 (60 * p + j) = ((n : Nat) : Int)) ∧ F m (pq p 24) = ((B : Nat) : Int) ∧ F m (pq p 26) = ((W : Nat) : Int) ∧ F m (pq p 45) = ((l : Nat) : Int)
section
variable {b : Int → Nat → Nat → Prop} {Fv Fv' : Int64 → Int64 → Prop} {P P' : Int64 → Prop} {N PR q r p i j0 j U B W Y a n l : Nat} {m w m2 w2 : MS} {t x : Int64} {cur : Option Nat} {nb : Nat → Nat} {Hs Os : Nat → List Nat} {y : Option (Nat × Nat × Nat)} {v : Int}
theorem RUv_st (h : RUv p j nb Hs Os y a n B W l m w) (h1 : EQn p m m2) (h2 : EQv p w w2) (pg : PGs m w m2 w2) : RUv p j nb Hs Os y a n B W l m2 w2 := by
  have hj : j < 60 := h.1.1.1.1.2.2
  have f : ∀ k, k = 24 ∨ k = 26 ∨ k = 45 → F m2 (pq p k) = F m (pq p k) := fun k hk => congrArg Int32.toInt (h1.1 k (by omega) (by simp; omega))
  refine ⟨RUb_st h.1 h1 h2 pg, ⟨(congrArg Int32.toInt (pg.2.1 1105 (by omega) (by omega)).1).trans h.2.1.1, ?_⟩, by rw [f 24 (by omega)]; exact h.2.2.1, by rw [f 26 (by omega)]; exact h.2.2.2.1, by rw [f 45 (by omega)]; exact h.2.2.2.2⟩
  show (w2.2.2.1 98 (60 * p + j)).toInt = _
  rw [h2.1 98 _ (Or.inr (Or.inl ⟨⟨by omega, by omega⟩, by omega, by omega⟩)) (by omega) (by omega)]
  exact h.2.1.2
theorem WL_tv (wl : WLs (RRt p) PR Fv P Fv' P' cur i j0 m w) (h : RUv p j nb Hs Os y a n B W l m w) : WLs (RRx p (RUv p j nb Hs Os y a n B W l)) PR Fv P Fv' P' cur i j0 m w := WL_mono wl (fun q c => by
  by_cases e : q = p
  · exact Or.inl ⟨e, h⟩
  · rcases c with c | c
    · exact absurd c e
    · exact Or.inr ⟨e, c⟩) (RRx_stb (fun _ _ _ _ h h1 h2 pg => RUv_st h h1 h2 pg))
theorem WL_vt {S : MS → MS → Prop} (wl : WLs (RRx p S) PR Fv P Fv' P' cur i j0 m w) : WLs (RRt p) PR Fv P Fv' P' cur i j0 m w := WL_mono wl (fun q c => by
  rcases c with ⟨e, -⟩ | c
  · exact Or.inl e
  · exact Or.inr c.2) RRt_stb
/-- the place of a FRAME changes, here -/
theorem SFs_98 (sf : SFs Fv P Fv' P' PR m w) {k : Nat} {z : Int} : SFs Fv P Fv' P' PR m (wa w 98 k z) := by
  have g : FR [] [] [98] [] w (wa w 98 k z) := FR.wa FR.rf (by simp)
  obtain ⟨a, ⟨dw, lk, wt⟩, pb⟩ := sf
  exact ⟨a, ⟨DW_fr dw g (by simp) (by simp) (by simp) (by simp) (by simp) (by simp) (by simp) (by simp) (by simp) (by simp) (by simp) (by simp) (by simp) (by simp) (by simp) (by simp) (by simp), LK_fr lk g (by simp) (by simp), WTQ_fr wt g (by simp) (by simp) (by simp)⟩, pb⟩
theorem one_11 : fm_M_one N w (I v) (I 11) = bnd (fm_M_goTo N w (I v + 1)) (fun u7 _ => bnd (fm_M_otherRun N u7 (I v) (I 11)) (fun u8 _ => some (u8, ()))) := rfl
theorem oth_11 {z : Int32} : fm_M_otherRun N w z (I 11) = bnd (fm_M_sendRun N w) (fun u8 _ => some (u8, ())) := rfl
end
/-- what of the world stays where messages come and processes END -/
def WOs (m w m2 w2 : MS) : Prop := Kwac m m2 ∧ Kwbc w w2 ∧ ((∀ k, k = 49 ∨ k = 50 ∨ k = 51 → m2.2.2.1 k = m.2.2.1 k) ∧ m2.1 950 = m.1 950 ∧ m2.1 956 = m.1 956) ∧ (∀ k, k = 122 ∨ k = 123 ∨ k = 124 → w2.2.2.1 k = w.2.2.1 k) ∧ w2.1 125 = w.1 125 ∧ m2.1 1106 = m.1 1106 ∧ w2.1 165 = w.1 165
section
variable {m w m2 w2 m3 w3 : MS} {p j N : Nat} {v1 v3 v4 v4' v5 v6 : Int32} {v7 : Int64}
theorem WOs.tr (h1 : WOs m w m2 w2) (h2 : WOs m2 w2 m3 w3) : WOs m w m3 w3 := by
  obtain ⟨a1, a2, ⟨a3, a4, a5⟩, a6, a7, a8, a9⟩ := h1
  obtain ⟨c1, c2, ⟨c3, c4, c5⟩, c6, c7, c8, c9⟩ := h2
  exact ⟨⟨fun k h => (c1.1 k h).trans (a1.1 k h), fun K h => (c1.2 K h).trans (a1.2 K h)⟩, ⟨fun k h => (c2.1 k h).trans (a2.1 k h), fun K h => (c2.2 K h).trans (a2.2 K h)⟩, ⟨fun k h => (c3 k h).trans (a3 k h), c4.trans a4, c5.trans a5⟩, fun k h => (c6 k h).trans (a6 k h), c7.trans a7, c8.trans a8, c9.trans a9⟩
theorem WOs_gg (f : GGm p m m2) (g : GGw p w w2) : WOs m w m2 w2 := ⟨⟨fun k h => f.2.2.2.2.2.2 k (by omega), fun K h => f.2.2.2.2.2.1 K (by omega)⟩, ⟨fun k h => g.2.2.2.2.2.2 k (by omega), fun K h => g.2.2.2.2.2.1 K (by omega)⟩, ⟨fun k h => f.2.2.2.2.2.1 k (by omega), f.2.2.2.2.2.2 950 (by omega), f.2.2.2.2.1⟩, fun k h => g.2.2.2.2.2.1 k (by omega), g.2.2.2.2.2.2 125 (by omega), f.2.2.2.2.2.2 1106 (by omega), g.2.2.2.2.2.2 165 (by omega)⟩
theorem msg2_50 {t0 t1 : Int32} : fb_M_message_50 N () w v1 2 v3 v4 v5 v6 v7 t0 t1 = fb_M_message_50 N () w v1 2 v3 v4' v5 v6 v7 t0 t1 := by
  have d2 : decide ((2 : Int32) ≤ 2) = true := by decide
  have bt : ∀ (p q : Option (MS × Unit)), br true p q = p := fun p q => by rw [br_t]
  unfold fb_M_message_50
  simp only [d2, bt]
theorem msg2_40 {t0 : Int32} : fb_M_message_40 N () w v1 2 v3 v4 v5 v6 v7 t0 = fb_M_message_40 N () w v1 2 v3 v4' v5 v6 v7 t0 := by
  unfold fb_M_message_40
  rw [msg2_50 (v4 := v4) (v4' := v4') (t1 := 0), msg2_50 (v4 := v4) (v4' := v4') (t1 := 3)]
theorem msg2_0 : fm_M_message N w v1 2 v3 v4 v5 v6 v7 = ck (inb v1 (ln 109)) (br (decide ((w.2.2.1 109 v1.toNatClampNeg) = 3)) (fb_M_message_21 N () w) (ck (inb v1 (ln 108)) (br (decide ((w.2.2.1 108 v1.toNatClampNeg) = 30)) (fb_M_message_21 N () w) (fb_M_message_40 N () w v1 2 v3 v4 v5 v6 v7 0)))) := by
  have d0 : decide ((2 : Int32) = 0) = false := by decide
  have d1 : decide ((2 : Int32) = 1) = false := by decide
  unfold fm_M_message fb_M_message_0
  rw [d0, d1, br_f, br_f]
theorem msg2 : fm_M_message N w v1 2 v3 v4 v5 v6 v7 = fm_M_message N w v1 2 v3 v4' v5 v6 v7 := by
  rw [msg2_0, msg2_0, msg2_40 (v4 := v4) (v4' := v4')]
end
section
variable {α β : Type} {b : Int → Nat → Nat → Prop} {Fv Fv' : Int64 → Int64 → Prop} {P P' : Int64 → Prop} {N PR q p i j0 j U B W Y a n l : Nat} {m w : MS} {nb : Nat → Nat} {Hs Os : Nat → List Nat} {y : Option (Nat × Nat × Nat)} {Q : MS → α → MS → β → Prop} {K1 : MS → Option (MS × α)} {K2 : MS → Option (MS × β)}
/-- a message is sent -/
theorem op_send (hpp : p < PR) (wl : WLs (RRp p) PR Fv P Fv' P' none i j0 m w) (pl : PLs b p m w U B (W + 2) Y) (ru : RUs m w p j nb Hs Os y a n) (hP4 : so (m.2.2.2 (pq p 35) W) = 4 → 0 ≤ va (m.2.2.2 (pq p 35) W) ∧ va (m.2.2.2 (pq p 35) W) < ((PR : Nat) : Int)) (cr : ∃ f, CRs (A m 23) (ROs w) (w.2.2.2 34) f y (a + 1) (n + 1) (Hs j) (Os j)) (hN : 3000000 ≤ N)
    (kX : PP Q (K1 (tld m 1 (-1) (mk 1 11))) (bnd (fr_M_error N (wa w 98 (60 * p + j) ((n + 1 : Nat) : Int)) 11) (fun u _ => K2 u)))
    (kA : ∀ b3 U3 Y3 m3 w3, (SFs Fv P Fv' P' PR m3 w3 → WLs (RRp p) PR Fv P Fv' P' none i j0 m3 w3) → PLs b3 p m3 w3 U3 B (W + 1) Y3 → RUs m3 w3 p j nb Hs Os y (a + 1) (n + 1) → WOs m w m3 w3 → PP Q (K1 m3) (K2 w3))
    (kD : ∀ m3 w3, (SFs Fv P Fv' P' PR m3 w3 → WLs (RRt p) PR Fv P Fv' P' none i j0 m3 w3) → F m3 (pq p 9) = 3 → A w3 109 p = 3 → WOs m w m3 w3 → (F m3 1109 = 0 ∧ F w3 133 = ((p : Nat) : Int)) → PP Q (K1 m3) (K2 w3)) : PP Q (bnd (hm_Ma_value N m p (I 17)) (fun u _ => K1 u)) (bnd (fm_M_one N w (I ((n : Nat) : Int)) (I 11)) (fun u _ => K2 u)) := by
  obtain ⟨⟨fa, ct⟩, ⟨r2, r3⟩, ⟨f0, cr0⟩, ⟨r5, r6⟩, r7, ⟨r8, r9, r10⟩, r11, r12, r13⟩ := id ru
  have cb := CR_b cr0
  have hj : j < 60 := fa.1.2.2
  have sf := wl.1
  have p24 : PR ≤ 24 := sf.2.1.1.1.2
  have hp24 : p < 24 := by omega
  have hal : F m (pq p 9) ≠ 3 := by rw [r5]; omega
  have hal' : A w 109 p ≠ 3 := by rw [r6]; omega
  obtain ⟨⟨ow, kd, pt⟩, ⟨ow', kd', cw⟩, ⟨bW, bB, bY⟩, b15⟩ := SF_al sf hpp hal pl
  obtain ⟨l, e45, lw, lm⟩ := pt.2.2.2.2.2.1
  have sc : SCs p m w := by
    rcases wl.2.2.1 p hpp with ⟨-, -, _, _, _, _, _, _, sc, -⟩ | ⟨x, -⟩
    · exact sc
    · exact absurd x hal
  rw [val17, one_11, I_F' r2, show I ((a : Nat) : Int) + 1 = I ((a + 1 : Nat) : Int) from addN, Co_e (k := a + 1) rfl (by omega), bnd_so, show I ((n : Nat) : Int) + 1 = I ((n + 1 : Nat) : Int) from addN]
  refine l_bb (r_bb ?_)
  refine r_bnd (pk_mo (goto_r (N := N) (n := ((n + 1 : Nat) : Int)) hp24 r11 fa.1.2.1 hj) (fun w1 _ e => ?_))
  subst e
  rw [oth_11]
  refine r_bb (r_bb ?_)
  have g1 : FGw p j w (wa w 98 (60 * p + j) ((n + 1 : Nat) : Int)) := FGw.goto
  generalize hw1 : wa w 98 (60 * p + j) ((n + 1 : Nat) : Int) = w1 at g1 kX
  have pl1 : PLs b p m w1 U B (W + 2) Y := by rw [← hw1]; exact PLs_98 pl
  have x33 : F w1 133 = ((p : Nat) : Int) := by rw [← hw1]; exact r11
  have x98 : A w1 98 (60 * p + j) = ((n + 1 : Nat) : Int) := by rw [← hw1, wa_sm (by omega) (by omega)]
  have x92 : A w1 92 p = ((W + 2 : Nat) : Int) := pl1.2.2.1.2.1
  have sf1 : SFs Fv P Fv' P' PR m w1 := by rw [← hw1]; exact SFs_98 sf
  have a9 : A w1 109 p ≠ 3 := by rw [← hw1, wa_rne (by omega)]; exact hal'
  have W1 : WLs (RRt p) PR Fv P Fv' P' none i j0 m w1 := WL_ownt (WL_t wl) hpp hal hal' sf1 GGm.rf (GGw_fg g1 hj) pl1 (SC_fg sc FGm.rf g1) ⟨hal, a9⟩
  have rb1 : RUb m w1 p j nb Hs Os y := RUb_fg (RUs_b ru) FGm.rf g1
  have Wv := WL_tv (l := l) W1 (⟨rb1, ⟨r2, x98⟩, pl.2.1.1, pl.2.2.1.1, e45⟩ : RUv p j nb Hs Os y a (n + 1) B (W + 2) l m w1)
  have be : ∀ k, k < 2 → hm_Fr_below N m p (I ((k : Nat) : Int)) = some (m, m.2.2.2 (pq p 35) (W + 2 - 1 - k)) := fun k hk => below_e (N := N) (k := k) (W := W + 2) (l := l) pl.2.2.1.1 e45 lw lm rfl (by omega)
  have be0 : hm_Fr_below N m p 0 = some (m, m.2.2.2 (pq p 35) (W + 1)) := be 0 (by omega)
  have be1 : hm_Fr_below N m p 1 = some (m, m.2.2.2 (pq p 35) W) := be 1 (by omega)
  -- to whom it is known
  have go : ∀ q, q < PR → PP Q (bnd (hb_Ma_sendTo_34 N () m p (some q)) (fun u r => bnd (some (u, ())) (fun u _ => K1 u))) (bnd (fb_M_sendRun_41 N () w1 (I ((q : Nat) : Int))) (fun u r => bnd (some (u, ())) (fun u r => bnd (some (u, ())) (fun u _ => K2 u)))) := fun q hq => by
    unfold hb_Ma_sendTo_34 fb_M_sendRun_41
    rw [show decide ((some q : Option Nat) = none) = false from rfl, br_f, show (-1 : Int32) = I (-1) from rfl, decE (by omega) (by omega) (by omega) (by omega), show decide (((q : Nat) : Int) = -1) = false from decide_eq_false (by omega), br_f, be0, bnd_so]
    refine rb_bnd (pk_mo (top_r (N := N) (k := 0) hp24 x33 x92 (by omega) (by omega)) (fun w2 r e => ?_))
    obtain ⟨rfl, rfl⟩ := e
    have ws := wl_send (N := N) (a := 0) (sort := 2) (v4 := 0) (Wt := W + 1) (q := q) (Or.inl ⟨rfl, rfl⟩) Wv (fun c h => by cases h) hq hpp hal pl1 ⟨by omega, by omega⟩ hN
    have ws' : PP (fun m2 (_ : Unit) w3 (_ : Unit) => WLs (RRx p (RUv p j nb Hs Os y a (n + 1) B (W + 2) l)) PR Fv P Fv' P' none i j0 m2 w3 ∧ MVs m w2 m2 w3 ∧ ∀ d, d ≠ q → LOCm d m m2 ∧ LOCw d w2 w3) (hm_Wl_post N m q 0 (Int32.ofNat p) 0 (m.2.2.2 (pq p 35) (W + 1)) (some p)) (fm_M_message N w2 (I ((q : Nat) : Int)) 2 0 0 0 (w2.1 133) (w2.2.2.2 91 (46000 * p + (W + 2 - 1 - 0)))) := by
      rw [oI, I_F' x33, msg2 (v4' := I ((p : Nat) : Int))]
      exact ws
    show PP Q (bnd (bnd (hm_Wl_post N m q 0 (Int32.ofNat p) 0 (m.2.2.2 (pq p 35) (W + 1)) (some p)) (fun u9 _ => bnd (hm_Fr_below N u9 p 0) (fun u12 r12 => bnd (hm_Ma_answer N u12 p 2 r12) (fun u14 _ => lt (upI u14 1105 ((u14.1 1105) + 1)) (fun w16 => some (w16, ())))))) (fun u r => bnd (some (u, ())) (fun u _ => K1 u))) _
    refine l_bb (r_bb ?_)
    refine pp_bb (fun m2 _ w3 _ e1 e2 => ?_)
    obtain ⟨W2, mv, loc⟩ := ws' m2 _ w3 _ e1 e2
    have ka : Kwac m m2 := ywa_hm_Wl_post Kwa_rf m2 () e1
    have kb : Kwbc w2 w3 := ywb_fm_M_message Kwb_rf w3 () e2
    have kc : Kwcc m m2 := ywc_hm_Wl_post Kwc_rf m2 () e1
    have kd2 : Kwdc w2 w3 := ywd_fm_M_message Kwd_rf w3 () e2
    have f26 : F m2 (pq p 26) = ((W + 2 : Nat) : Int) := (congrArg Int32.toInt (kc (pq p 26) ⟨by unfold pq; omega, by unfold pq; omega⟩)).trans pl.2.2.1.1
    have f45 : F m2 (pq p 45) = ((l : Nat) : Int) := (congrArg Int32.toInt (kc (pq p 45) ⟨by unfold pq; omega, by unfold pq; omega⟩)).trans e45
    have g33 : F w3 133 = ((p : Nat) : Int) := (congrArg Int32.toInt (mv.1.2.2 133 (by omega))).trans x33
    have g92 : A w3 92 p = ((W + 1 + 1 : Nat) : Int) := by
      show (w3.2.2.1 92 p).toInt = _
      rw [kd2 92 (by omega)]
      exact x92
    have f05 : F m2 1105 = ((a : Nat) : Int) := (congrArg Int32.toInt (mv.1.2.1 1105 (by omega) (by omega)).1).trans r2
    have f09 : F m2 1109 = 0 := (congrArg Int32.toInt (mv.1.2.1 1109 (by omega) (by omega)).1).trans r9
    have be2 : hm_Fr_below N m2 p 0 = some (m2, m2.2.2.2 (pq p 35) (W + 1)) := below_e (N := N) (x := 0) (k := 0) (W := W + 2) (l := l) f26 f45 lw lm rfl (by omega)
    rw [be2, bnd_so]
    unfold hm_Ma_answer hb_Ma_answer_0
    rw [show (2 : Int32) = I 2 from rfl, drop_e (W := W + 2) (k := 2) (x := 2) f26 rfl (by omega), bnd_so, Nat.add_sub_cancel]
    refine l_bb (l_bb ?_)
    have e26' : F (wi m2 (pq p 26) ((W : Nat) : Int)) (pq p 26) = ((W : Nat) : Int) := wi_sm (by omega) (by omega)
    have e45' : F (wi m2 (pq p 26) ((W : Nat) : Int)) (pq p 45) = ((l : Nat) : Int) := by rw [wi_ne (pq_inj (by omega))]; exact f45
    refine l_bnd (pk_mo (push_m (N := N) (t := m2.2.2.2 (pq p 35) (W + 1)) e26' e45' (by omega) lm) (fun m8 _ h => ?_))
    obtain ⟨z1, z2, z3⟩ := h
    have h05 : F m8 1105 = ((a : Nat) : Int) := by rw [FR.F z1 (by simp [pq_n]), wi_ne (pq_n (by omega))]; exact f05
    rw [bnd_so, I_F' h05, show I ((a : Nat) : Int) + 1 = I ((a + 1 : Nat) : Int) from addN, wi_e]
    refine r_bb ?_
    refine r_bnd (pk_mo (take_r (N := N) (W := W + 1) hp24 g33 g92 (by omega)) (fun w4 r e => ?_))
    obtain ⟨rfl, rfl⟩ := e
    refine r_bb ?_
    have g33' : F (wa w3 92 p ((W + 1 : Nat) : Int)) 133 = ((p : Nat) : Int) := g33
    refine r_bnd (pk_mo (take_r (N := N) (W := W) hp24 g33' (wa_sm (by omega) (by omega)) (by omega)) (fun w5 r e => ?_))
    obtain ⟨rfl, rfl⟩ := e
    refine r_bb ?_
    have g33'' : F (wa (wa w3 92 p ((W + 1 : Nat) : Int)) 92 p ((W : Nat) : Int)) 133 = ((p : Nat) : Int) := g33
    refine r_bnd (pk_mo (put_r (N := N) (W := W) (x := w3.2.2.2 91 (46000 * p + (W + 1))) hp24 g33'' (wa_sm (by omega) (by omega)) (by omega)) (fun w6 _ e => ?_))
    subst e
    show PP Q (K1 (wi m8 1105 ((a + 1 : Nat) : Int))) (K2 (wa (wj (wa (wa w3 92 p ((W + 1 : Nat) : Int)) 92 p ((W : Nat) : Int)) 91 (46000 * p + W) (w3.2.2.2 91 (46000 * p + (W + 1)))) 92 p ((W + 1 : Nat) : Int)))
    have fm3 : FGm p m2 (wi m8 1105 ((a + 1 : Nat) : Int)) := FGm.tr (FGm.tr FGm.drop (FGm.push z1)) FGm.pc
    have fw3 : FGw p j w3 (wa (wj (wa (wa w3 92 p ((W + 1 : Nat) : Int)) 92 p ((W : Nat) : Int)) 91 (46000 * p + W) (w3.2.2.2 91 (46000 * p + (W + 1)))) 92 p ((W + 1 : Nat) : Int)) := FGw.tr (FGw.tr FGw.w92 FGw.w92) (FGw.put (by omega))
    have wo1 : WOs m w m w2 := WOs_gg GGm.rf (GGw_fg g1 hj)
    have wo2 : WOs m w2 m2 w3 := ⟨ka, kb, mv.2.2.2.1, mv.2.2.2.2.1, mv.2.2.2.2.2.1, (mv.1.2.1 1106 (by omega) (by omega)).1, mv.1.2.2 165 (by omega)⟩
    have wo3 : WOs m w (wi m8 1105 ((a + 1 : Nat) : Int)) (wa (wj (wa (wa w3 92 p ((W + 1 : Nat) : Int)) 92 p ((W : Nat) : Int)) 91 (46000 * p + W) (w3.2.2.2 91 (46000 * p + (W + 1)))) 92 p ((W + 1 : Nat) : Int)) := WOs.tr (WOs.tr wo1 wo2) (WOs_gg (GGm_fg fm3) (GGw_fg fw3 hj))
    rcases W2.2.2.1 p hpp with ⟨x1, x2, b', U', B', W', Y', pl', sc', rr⟩ | ⟨x1, x2, -⟩
    · have rv : RUv p j nb Hs Os y a (n + 1) B (W + 2) l m2 w3 := by
        rcases rr with ⟨-, rr⟩ | ⟨c, -⟩
        · exact rr
        · exact absurd rfl c
      have eW : W' = W + 2 := by
        have h1 := pl'.2.2.1.1
        rw [f26] at h1
        omega
      have eB : B' = B := by
        have h1 := pl'.2.1.1
        have h2 := rv.2.2.1
        omega
      subst eW eB
      have pd := PLs_drop (k := 2) (W := W) pl' (by omega)
      have pd2 : PLs b' p (wi m2 (pq p 26) ((W : Nat) : Int)) (wa (wa w3 92 p ((W + 1 : Nat) : Int)) 92 p ((W : Nat) : Int)) U' B' W Y' := PLs_cg pd (fun _ _ => rfl) (fun _ _ => rfl) (fun _ _ => rfl) (fun _ _ => rfl) (fun _ _ => rfl) (fun k hk => by
        by_cases c : k = 92
        · subst c
          rw [wa_s1, wa_s1]
        · rw [wa_at (by omega), wa_at (by omega), wa_at (by omega)]) (fun _ _ => rfl) (fun _ _ => rfl) (fun _ _ => rfl) (fun _ _ => rfl)
      have pl3 := PLs_pc (z := ((a + 1 : Nat) : Int)) (PLs_push (x := w3.2.2.2 91 (46000 * p + (W + 1))) pd2 (pl'.2.2.1.2.2 (W + 1) (by omega)) z1 z2 z3)
      obtain ⟨q1, ⟨q5, q6⟩, q7, ⟨q8, q9, q10⟩, q11, q12, q13⟩ := rv.1
      have h23 : A m2 23 = A m 23 := by funext k; show (m2.2.2.1 23 k).toInt = _; rw [mv.1.1.1.1]; rfl
      have hRO : ROs w3 = ROs w := (ROs_eq mv.1.1.2.1).trans (ROs_eq (GGw_fg g1 hj).2.1.1)
      have h34 : w3.2.2.2 34 = w.2.2.2 34 := mv.1.1.2.2.1.trans (GGw_fg g1 hj).2.1.2.1
      have ru3 := RUs_mk (a2 := a + 1) (n2 := n + 1) q1 q5 q6 q7 q8 q9 q10 q11 q12 q13 fm3 fw3 (wi_sm (by omega) (by omega)) (by rw [wa_rne (by omega), A_wj, wa_rne (by omega), wa_rne (by omega)]; exact rv.2.1.2) (by rw [h23, hRO, h34]; exact cr)
      exact kA b' U' Y' _ _ (fun s3 => WL_own (WL_vt W2) hpp x1 x2 s3 (GGm_fg fm3) (GGw_fg fw3 hj) pl3 (SC_fg sc' fm3 fw3) ru3) pl3 ru3 wo3
    · refine kD _ _ (fun s3 => WL_gone (fun _ _ _ _ _ h h1 h2 => RRt_st h h1 h2) (WL_vt W2) s3 x1 x2 hp24 (FR.wi (FR.tr (FR.wi FR.rf (by simp)) (FR.mo z1 (by simp) (by simp) (by simp) (by simp))) (by simp)) (FR.wa (FR.wj (FR.wa (FR.wa FR.rf (by simp)) (by simp)) (by simp)) (by simp)) (fun k hk => ?_) (fun k _ => ?_) (fun k hk => ?_)) ?_ ?_ wo3 ⟨?_, g33⟩
      · exact (fw3.2.1 k hk).2.2
      · rw [wa_rne (by omega), A_wj, wa_rne (by omega), wa_rne (by omega)]
      · exact fw3.2.2.2.2.1 k hk
      · show ((wi m8 1105 ((a + 1 : Nat) : Int)).1 (pq p 9)).toInt = _
        rw [wi_1 (fun c => pq_n (by omega) c.symm), z1.1 _ (by simp; exact ⟨pq_inj (by omega), pq_inj (by omega)⟩), wi_1 (pq_inj (by omega))]
        exact x1
      · rw [FR.A fw3.1 (by simp)]
        exact x2
      · rw [wi_ne (by omega), FR.F z1 (by simp [pq_n]), wi_ne (pq_n (by omega))]
        exact f09
  have no : PP Q (bnd (hb_Ma_sendTo_34 N () m p none) (fun u r => bnd (some (u, ())) (fun u _ => K1 u))) (bnd (fb_M_sendRun_41 N () w1 (I (-1))) (fun u r => bnd (some (u, ())) (fun u r => bnd (some (u, ())) (fun u _ => K2 u)))) := by
    unfold hb_Ma_sendTo_34 fb_M_sendRun_41
    rw [show decide ((none : Option Nat) = none) = true from rfl, br_t, show decide (I (-1) = -1) = true from rfl, br_t]
    refine r_bb ?_
    exact kX
  -- to whom
  unfold hm_Ma_sendTo hb_Ma_sendTo_0 fm_M_sendRun fb_M_sendRun_0
  rw [be1, bnd_so, e_tag, bnd_so]
  refine rb_bnd (pk_mo (top_r (N := N) (k := 1) hp24 x33 x92 (by omega) (by omega)) (fun w2 r e => ?_))
  obtain ⟨rfl, rfl⟩ := e
  have rt : RTb b (m.2.2.2 (pq p 35) W) (w2.2.2.2 91 (46000 * p + (W + 2 - 1 - 1))) := pl1.2.2.1.2.2 W (by omega)
  have gx : GT U ow' kd' P' (w2.2.2.2 91 (46000 * p + (W + 2 - 1 - 1))) := by
    have h34 : w2.2.2.2 91 = w.2.2.2 91 := by rw [← hw1]; rfl
    rw [h34]
    exact cw.2.2.2.2.2.2.2.1 W (by omega)
  generalize hx : w2.2.2.2 91 (46000 * p + (W + 2 - 1 - 1)) = x at rt gx ⊢
  generalize ht : m.2.2.2 (pq p 35) W = t at rt be1 hP4 ⊢
  have sx := RTb_so rt
  rw [sortOf_e, bnd_so, sx, show (1 : Int32) = I 1 from rfl, show (4 : Int32) = I 4 from rfl, decE (so_r _).1 (so_r _).2 (by omega) (by omega), decE (so_r _).1 (so_r _).2 (by omega) (by omega)]
  by_cases c1 : so t = 1
  · have xt : x = t := RTb_n rt (by unfold isH; omega)
    rw [show decide (so t = 1) = true from decide_eq_true c1, br_t, show decide (so t = 4) = false from decide_eq_false (by omega), br_f, sortOf_e, bnd_so, sx, decE (so_r _).1 (so_r _).2 (by omega) (by omega), show decide (so t = 1) = true from decide_eq_true c1, br_t, valueOf_e, bnd_so, xt, valI]
    refine l_bb (r_bb ?_)
    refine pp_bb (pp_mo (named_pp (N := N) (v := I (va t)) W1) (fun m3 o w3 r h => ?_))
    obtain ⟨⟨rfl, rfl⟩, ⟨rfl, rfl⟩ | ⟨q, hq, rfl, rfl, -⟩⟩ := h
    · exact no
    · exact go q hq
  · rw [show decide (so t = 1) = false from decide_eq_false c1, br_f]
    unfold hm_Ma_processAt hb_Ma_processAt_0 hb_Ma_processAt_30
    rw [show hm_Fr_below N m p (I 1) = hm_Fr_below N m p 1 from rfl, be1, bnd_so, e_tag, bnd_so, show (4 : Int32) = I 4 from rfl, decE (so_r _).1 (so_r _).2 (by omega) (by omega)]
    by_cases c4 : so t = 4
    · have xt : x = t := RTb_n rt (by unfold isH; omega)
      have hP : P' t := by
        rcases gx with ⟨-, h⟩ | ⟨h, -⟩
        · rw [← xt]; exact h
        · unfold isH at h; rw [xt] at h; omega
      obtain ⟨v1, v2⟩ := hP4 c4
      obtain ⟨q, hq⟩ : ∃ q : Nat, va t = ((q : Nat) : Int) := ⟨(va t).toNat, by omega⟩
      rw [show decide (so t = 4) = true from decide_eq_true c4, br_t, br_t, valI, hq, find_e (q := q) sf.1.1 (by omega), bnd_so, bnd_so, valueOf_e, bnd_so, xt, hq]
      exact go q (by omega)
    · rw [show decide (so t = 4) = false from decide_eq_false c4, br_f, br_f, bnd_so, sortOf_e, bnd_so, sx, decE (so_r _).1 (so_r _).2 (by omega) (by omega), show decide (so t = 1) = false from decide_eq_false c1, br_f]
      exact no
end
