set_option maxRecDepth 100000
abbrev FDT := Nat × Nat × Nat × Nat × CLT × List CLT
def FCF (N : Nat) (K nm : Nat → Nat) (m0 m : MS) (T n f : Nat) (d : FDT) : Prop := ((∀ b, b ∈ d.2.2.2.2.1 :: d.2.2.2.2.2 → CLOb N K nm m d.2.1 d.2.2.1 b) ∧ d.2.2.1 ≤ n ∧ NXT m ((d.2.2.2.2.1 :: d.2.2.2.2.2).map (fun b => b.1)) ∧ d.2.2.2.2.1.2.1 = d.1 ∧ d.2.2.2.2.1.2.2.1 = d.2.2.2.1 ∧ d.2.2.2.1 ≤ 6 ∧ K d.1 = 2 ∧ d.1 < T) ∧ (m.2.2.1 24 f = m0.2.2.1 7 d.1 ∧ m.2.2.1 25 f = I (d.2.2.2.1 : Nat) ∧ m.2.2.1 26 f = m0.2.2.1 8 d.1 ∧ m.2.2.1 27 f = I (d.2.2.2.2.1.1 : Nat) ∧ m.2.2.1 28 f = I ((d.2.2.2.2.2.length + 1 : Nat) : Int))
def FNR (m0 w0 : MS) (pd : Int32 → Int32 → Nat) (w : MS) (f : Nat) (d : FDT) : Prop := (∀ b, b ∈ d.2.2.2.2.1 :: d.2.2.2.2.2 → b.2.2.2.2.1 = false ∧ NMt m0 d.1 d.2.2.2.1 b) ∧ pd (w0.2.2.1 7 d.1) (I (d.2.2.2.1 : Nat)) = 0 ∧ ∀ i, i < f → ¬ DUP w f i
def PGI (N : Nat) (m0 w0 : MS) (K : Nat → Nat) (T : Nat) (nm : Nat → Nat) (pd : Int32 → Int32 → Nat) (mI wI : MS) (g p n : Nat) (D : Nat → FDT) (m w : MS) : Prop := (RLP m0 w0 T p m w ∧ 6 * g ≤ p ∧ m.1 306 = I (n : Nat) ∧ n ≤ 2 * p) ∧ (PCT 0 mI m ∧ m.1 442 = I (g : Nat) ∧ w.1 52 = I (g : Nat) ∧ ∀ f, f < g → FCF N K nm m0 m T n f (D f)) ∧ FWE wI w ∧ (w.1 66 = 0 ↔ wI.1 66 = 0 ∧ ∀ f, f < g → ∀ b, b ∈ (D f).2.2.2.2.1 :: (D f).2.2.2.2.2 → b.2.2.2.1 ≤ 40 ∧ b.2.2.2.2.2.1 = false) ∧ (w.1 72 = 0 ↔ wI.1 72 = 0 ∧ ∀ f, f < g → FNR m0 w0 pd w f (D f)) ∧ CSZ wI w (fun x => ∃ f, f < g ∧ ∃ b, b ∈ (D f).2.2.2.2.1 :: (D f).2.2.2.2.2 ∧ b.2.2.2.2.2.2 x) ∧ ∀ f, f < g → w.2.2.1 47 f = w0.2.2.1 7 (D f).1 ∧ w.2.2.1 48 f = I ((D f).2.2.2.1 : Nat) ∧ w.2.2.1 49 f = I ((D f).1 : Nat) ∧ w.2.2.1 51 f = I (((D f).2.2.2.2.2.length + 1 : Nat) : Int)
section
variable {α β γ δ : Type} {R : MS → α → MS → β → Prop} {m0 w0 m w v u m2 m3 w2 w' mI wI : MS} {K nm Nk W : Nat → Nat} {T p n N g n2 f k M bq : Nat} {D : Nat → FDT} {d : FDT} {pd : Int32 → Int32 → Nat}
theorem pp_bH {Q : MS → γ ⊕ Nat → MS → δ → Prop} {o : Option (MS × (γ ⊕ Nat))} {f : MS → γ → Option (MS × α)} {g : MS → Option (MS × α)} {t : Option (MS × δ)} {h : MS → δ → Option (MS × β)} (hq : PP Q o t) (h1 : ∀ m v w r, Q m (.inl v) w r → PP R (f m v) (h w r)) (h2 : ∀ m k w r, o = some (m, .inr k) → Q m (.inr k) w r → PP R (g m) (h w r)) : PP R (bHm o f g) (bnd t h) := by
  cases o with
  | none => exact pp_nl
  | some x =>
    obtain ⟨m, z⟩ := x
    cases t with
    | none => exact pp_nr
    | some y =>
      obtain ⟨w, r⟩ := y
      cases z with
      | inl v => exact h1 m v w r (hq m _ w r rfl rfl)
      | inr k =>
        show PP R (if k = 3 then g m else none) (h w r)
        split
        · exact h2 m k w r rfl (hq m _ w r rfl rfl)
        · exact pp_nl
theorem FCF_k (h : FCF N K nm m0 m T n f d) (ko : KPO n m m2) (kc : Kcc m m2) (hn : n ≤ n2) (e : ∀ k, 24 ≤ k → k ≤ 28 → m2.2.2.1 k f = m.2.2.1 k f) : FCF N K nm m0 m2 T n2 f d := by
  obtain ⟨⟨a1, a2, a3, a4⟩, a5⟩ := h
  refine ⟨⟨fun b hb => CLOb_k (a1 b hb) (fun j j1 j2 => ⟨(ko j (by omega)).1, fun _ => (ko j (by omega)).2⟩) kc (Nat.le_refl _) (Nat.le_refl _), by omega, NXT_k a3 (fun x hx => ?_), a4⟩, ?_⟩
  · obtain ⟨b, hb, rfl⟩ := List.mem_map.mp hx
    have := CLOb_b (a1 b hb)
    exact (ko _ (by omega)).2
  · rw [e 24 (by decide) (by decide), e 25 (by decide) (by decide), e 26 (by decide) (by decide), e 27 (by decide) (by decide), e 28 (by decide) (by decide)]
    exact a5
theorem PCT_tr {f g : Nat} (h : PCT f m v) (k : PCT g v u) (hf : f ≤ g) : PCT f m u := ⟨fun j hj => (k.1 j hj).trans (h.1 j hj), fun j hj => (k.2.1 j hj).trans (h.2.1 j hj), fun j j1 j2 i hi => (k.2.2 j j1 j2 i (by omega)).trans (h.2.2 j j1 j2 i hi)⟩
theorem PCT_k {f : Nat} (h : PCT f m v) : Kcc m v := ⟨fun k hk => h.1 k (by simp only [List.mem_cons, List.not_mem_nil, or_false]; omega), fun k hk => h.2.1 k (by omega)⟩
theorem PGI_s {z : Unit} {r : Unit} (h : PGI N m0 w0 K T nm pd mI wI g p n D m w) (q : FNZ N m0 w0 K T nm pd g p n m w m2 (.inl z) w2 r) : ∃ p2 n2 D2, PGI N m0 w0 K T nm pd mI wI (g + 1) p2 n2 D2 m2 w2 := by
  obtain ⟨⟨a1, a2, a3, a4⟩, ⟨b1, b2, b3, b4⟩, c1, c2, c3, c4, c5⟩ := h
  obtain ⟨p2, n2, ar, a, l, ⟨q1, q2, q3, q4, q5⟩, q6, q7, q8, q9, q10, q11, q12, q13, q14, q15, q16⟩ := q
  have kc := PCT_k q7
  let D2 : Nat → FDT := fun j => if j = g then (p, n, n2, ar, a, l) else D j
  have dg : D2 g = (p, n, n2, ar, a, l) := if_pos rfl
  have dj : ∀ f, f < g → D2 f = D f := fun f hf => if_neg (by omega)
  have all : ∀ {P : Nat → Prop}, (∀ f, f < g + 1 → P f) ↔ (∀ f, f < g → P f) ∧ P g := fun {P} => ⟨fun z => ⟨fun f hf => z f (by omega), z g (by omega)⟩, fun z f hf => by
    by_cases e : f = g
    · rw [e]; exact z.2
    · exact z.1 f (by omega)⟩
  have tb : ∀ k, 47 ≤ k → k ≤ 51 → ∀ j, j < g → w2.2.2.1 k j = w.2.2.1 k j := q16
  refine ⟨p2, n2, D2, ⟨q1, by omega, q3, q4⟩, ⟨PCT_tr b1 q7 (Nat.zero_le _), q9.1, q14, all.mpr ⟨fun f hf => ?_, ?_⟩⟩, fun k hk => (q10 k hk).trans (c1 k hk), ?_, ?_, ?_, all.mpr ⟨fun f hf => ?_, ?_⟩⟩
  · rw [dj f hf]
    exact FCF_k (b4 f hf) q6 kc q5 (fun k k1 k2 => q7.2.2 k k1 k2 f hf)
  · rw [dg]
    exact ⟨⟨q8.1, Nat.le_refl _, q8.2.1, q8.2.2.1, q8.2.2.2.1, q8.2.2.2.2⟩, q9.2⟩
  · rw [q11, c2, all (P := fun f => ∀ b, b ∈ (D2 f).2.2.2.2.1 :: (D2 f).2.2.2.2.2 → b.2.2.2.1 ≤ 40 ∧ b.2.2.2.2.2.1 = false), dg]
    exact ⟨fun z => ⟨z.1.1, fun f hf => by rw [dj f hf]; exact z.1.2 f hf, z.2⟩, fun z => ⟨⟨z.1, fun f hf => by have := z.2.1 f hf; rw [dj f hf] at this; exact this⟩, z.2.2⟩⟩
  · have dup : ∀ f, f < g → ∀ i, i < f → (DUP w2 f i ↔ DUP w f i) := fun f hf i hi => by
      unfold DUP
      rw [tb 47 (by decide) (by decide) f hf, tb 47 (by decide) (by decide) i (by omega), tb 48 (by decide) (by decide) f hf, tb 48 (by decide) (by decide) i (by omega)]
    have fe : ∀ f, f < g → (FNR m0 w0 pd w2 f (D2 f) ↔ FNR m0 w0 pd w f (D f)) := fun f hf => by
      rw [dj f hf]
      unfold FNR
      exact ⟨fun z => ⟨z.1, z.2.1, fun i hi y => z.2.2 i hi ((dup f hf i hi).mpr y)⟩, fun z => ⟨z.1, z.2.1, fun i hi y => z.2.2 i hi ((dup f hf i hi).mp y)⟩⟩
    rw [q12, c3, all (P := fun f => FNR m0 w0 pd w2 f (D2 f)), dg]
    exact ⟨fun z => ⟨z.1.1, fun f hf => (fe f hf).mpr (z.1.2 f hf), z.2⟩, fun z => ⟨⟨z.1, fun f hf => (fe f hf).mp (z.2.1 f hf)⟩, z.2.2⟩⟩
  · refine CSZ_q (CSZ_tr c4 q13) (fun x => ⟨fun z => ?_, fun z => ?_⟩)
    · rcases z with ⟨f, hf, b, b1, b2⟩ | ⟨b, b1, b2⟩
      · exact ⟨f, by omega, b, by rw [dj f hf]; exact b1, b2⟩
      · exact ⟨g, by omega, b, by rw [dg]; exact b1, b2⟩
    · obtain ⟨f, hf, b, b1, b2⟩ := z
      by_cases e : f = g
      · rw [e, dg] at b1
        exact Or.inr ⟨b, b1, b2⟩
      · rw [dj f (by omega)] at b1
        exact Or.inl ⟨f, by omega, b, b1, b2⟩
  · rw [dj f hf, tb 47 (by decide) (by decide) f hf, tb 48 (by decide) (by decide) f hf, tb 49 (by decide) (by decide) f hf, tb 51 (by decide) (by decide) f hf]
    exact c5 f hf
  · rw [dg]
    exact q15
def PRZ (N : Nat) (m0 w0 : MS) (K : Nat → Nat) (T : Nat) (nm : Nat → Nat) (pd : Int32 → Int32 → Nat) (mI wI : MS) (m2 : MS) (z : Int32) (w2 : MS) (_ : Unit) : Prop := (z ≠ 0 ∧ FLW w2) ∨ (z = 0 ∧ w2.1 67 = 0 ∧ ∃ g p n D, PGI N m0 w0 K T nm pd mI wI g p n D m2 w2)
theorem sr_0 {k : Nat} (hk : k < 46) : decide (I (srK k : Nat) = 0) = decide (k = 0) := by
  revert k
  decide
theorem pg_f {t0 : Int32} (h : FLW w) : ∀ M, PK (fun w2 (_ : Unit) => FLW w2) (gg_M_program N M w t0) := fun M => by
  have hz : Kfc w w := h
  exact Kf_pk (u0 := w) (yf_gg_M_program (N := N) M w t0 hz)
theorem pg_lp (c : CTZ m0 w0 K T nm Nk) (cA : CTA m0 w0 K T) (c45 : ∀ p, p ≤ T → K p ≠ 45) (cP : CTP N m0 w0 K T pd) (h70 : wI.1 70 = 0) (h73 : wI.1 73 = 0) (h75 : wI.1 75 = I (bq : Nat)) (hbq : bq ≤ 400) : ∀ (M M' g : Nat) (m w : MS) (p n : Nat) (D : Nat → FDT), PGI N m0 w0 K T nm pd mI wI g p n D m w → (g = 0 ∨ K p ≠ 0) → PP (PRZ N m0 w0 K T nm pd mI wI) (hb_Pa_parse_54 N (hg_Pa_parse N M) m (I (g : Nat))) (gg_M_program N M' w 1)
  | _, 0, _, _, _, _, _, _, _, _ => pp_nr
  | M, M' + 1, g, m, w, p, n, D, h, hg => by
    have T4 := c.1.1.1
    have hb := h.1
    have h0 := hb.1.2.2.2.2.2.2
    have pT := hb.1.2.2.2.2.1
    show PP _ _ (fb_M_program_52 N (gg_M_program N M') w 1)
    unfold hb_Pa_parse_54 fb_M_program_52
    rw [show decide ((1 : Int32) = 0) = false from rfl, br_fq, decide_eq_true h0, br_tq]
    refine pp_bH (fn_pp (N := N) (pd := pd) (bq := bq) c cA c45 cP hb.1 hb.2.2.1 hb.2.2.2 (CSZ_nd h.2.2.2.2.2.1) h.2.1.2.1 h.2.1.2.2.1 hb.2.1 (by rw [h.2.2.1 70 (by decide)]; exact h70) (by rw [h.2.2.1 73 (by decide)]; exact h73) (by rw [h.2.2.1 75 (by decide)]; exact h75) hbq) (fun m2 z w2 r q => ?_) (fun m2 k w2 r e q => ?_)
    · obtain ⟨p2, n2, D2, h2⟩ := PGI_s h q
      have hb2 := h2.1
      have h02 := hb2.1.2.2.2.2.2.2
      have pT2 := hb2.1.2.2.2.2.1
      have hc2 := RLP_c c hb2.1
      have hw2 := RLP_w c hb2.1
      have k46 := hc2.1.1.k46 hc2.2.2
      rw [decide_eq_true h02, br_tq, hw2.2.1, tnI (n := p2) rfl (by omega), hw2.1.2.1 p2 pT2, sr_0 k46]
      refine r_ck (fun _ => ?_)
      cases M with
      | zero => exact pp_nl
      | succ M =>
      rw [i_suc]
      show PP _ (hb_Pa_parse_36 N (hg_Pa_parse N M) m2 (I ((g + 1 : Nat) : Int))) _
      unfold hb_Pa_parse_36
      rw [show decide ((4000 : Int32) < I ((g + 1 : Nat) : Int)) = false from decide_eq_false (fun z => absurd ((I_lt (x := (4000 : Int)) (y := ((g + 1 : Nat) : Int)) (by omega) (by omega) (by omega) (by omega)).mp z) (by omega)), br_fq, show decide (I ((g + 1 : Nat) : Int) = (0 : Int32)) = false from decide_eq_false (fun z => absurd ((I_eq (x := ((g + 1 : Nat) : Int)) (y := (0 : Int)) (by omega) (by omega) (by omega) (by omega)).mp z) (by omega)), br_fq, look_e hc2 (c45 _ pT2)]
      show PP _ (br (decide (I (K p2 : Nat) = (0 : Int32))) _ _) _
      rw [I_dn (a := K p2) (b := 0) (s := 0) (by omega) (by decide) rfl]
      by_cases z0 : K p2 = 0
      · rw [decide_eq_true z0, br_tq, br_tq]
        unfold hb_Pa_parse_64 fb_M_program_90 fb_M_program_91
        cases M' with
        | zero => exact pp_nr
        | succ M' =>
        show PP _ _ (fb_M_program_52 N (gg_M_program N M') w2 0)
        unfold fb_M_program_52 fb_M_program_95
        rw [show decide ((0 : Int32) = 0) = true from rfl, br_tq]
        exact pp_end (Or.inr ⟨rfl, h02, g + 1, p2, n2, D2, h2⟩)
      · rw [decide_eq_false z0, br_fq, br_fq]
        unfold fb_M_program_91
        exact pg_lp c cA c45 cP h70 h73 h75 hbq M M' (g + 1) m2 w2 p2 n2 D2 h2 (Or.inr z0)
    · have e667 : m2.1 667 ≠ 0 := fun z => zr_Pa_oneFunction m2 k e (by unfold F; rw [z]; rfl)
      have q : FLW w2 := q
      unfold hb_Pa_parse_68
      rw [decide_eq_false q, br_fq]
      unfold fb_M_program_90 fb_M_program_91
      exact pp_l (pk_mo (pg_f q M') (fun v _ z => Or.inl ⟨e667, z⟩))
end
