section
set_option maxRecDepth 100000
section
variable {m0 w0 mP wP mI wI m w v u X : MS} {K nm Nk : Nat → Nat} {T p n N g : Nat} {D : Nat → FDT} {pd : Int32 → Int32 → Nat} {x y r : Int32}
theorem PGI_t (cA : CTA m0 w0 K T) (h : PGI N m0 w0 K T nm pd mI wI g p n D mP wP) : ∀ f, f < g → mP.2.2.1 24 f = wP.2.2.1 47 f ∧ mP.2.2.1 25 f = wP.2.2.1 48 f ∧ wP.2.2.1 47 f = w0.2.2.1 7 (D f).1 ∧ wP.2.2.1 48 f = I ((D f).2.2.2.1 : Nat) := fun f hf => by
  obtain ⟨-, ⟨-, -, -, b4⟩, -, -, -, -, c5⟩ := h
  obtain ⟨⟨a1, a2, a3, a4, a5, a6, a7⟩, d1, d2, d3, d4, d5⟩ := b4 f hf
  obtain ⟨e1, e2, e3, e4⟩ := c5 f hf
  exact ⟨by rw [d1, e1]; exact cA _ a7.2 (Or.inr a7.1), by rw [d2, e2], e1, e2⟩
theorem seek_e (hN : 1000 ≤ N) (h442 : mP.1 442 = I (g : Nat)) (hg : g ≤ 666) (ht : ∀ f, f < g → mP.2.2.1 24 f = wP.2.2.1 47 f ∧ mP.2.2.1 25 f = wP.2.2.1 48 f) : hm_Co_seek N mP x y = some (mP, -1) ↔ noF wP g x y := by
  have F442 : F mP 442 = ((g : Nat) : Int) := by unfold F; rw [h442]; exact I_ti (by omega) (by omega)
  have ok := seekF_ok (u := mP) (N := N) (a := x.toInt) (k := y.toInt) (by omega) (ti_rng x) (ti_rng y) hN
  rw [← I_of, ← I_of] at ok
  obtain ⟨w', r', e, -⟩ := ok
  have pk := seek_p (N := N) (x := x) (y := y) h442 (by omega) N 0 (Nat.zero_le _) (fun i hi => absurd hi (by omega)) w' r' e
  obtain ⟨rfl, hr⟩ := pk
  have nf : noF wP g x y ↔ ∀ i, i < g → ¬ (w'.2.2.1 24 i = x ∧ w'.2.2.1 25 i = y) := by
    unfold noF
    exact ⟨fun z i hi q => z i hi (by rw [← (ht i hi).1, ← (ht i hi).2]; exact q), fun z i hi q => z i hi (by rw [(ht i hi).1, (ht i hi).2]; exact q)⟩
  rw [e, nf]
  constructor
  · intro z
    injection z with z
    injection z with _ z
    rcases hr with hr | ⟨i, hi, hr, _⟩
    · exact hr.2
    · exfalso
      have := (I_eq (x := (i : Nat)) (y := (-1 : Int)) (by omega) (by omega) (by omega) (by omega)).mp (hr.symm.trans (z.trans (show (-1 : Int32) = I (-1) from rfl)))
      omega
  · intro z
    rcases hr with hr | ⟨i, hi, hr, hm, _⟩
    · rw [hr.1]
    · exact absurd hm (z i hi)
theorem bad_e {x : Int32 × Int32 × Int32} (hN : 1000 ≤ N) (h442 : mP.1 442 = I (g : Nat)) (hg : g ≤ 666) (ht : ∀ f, f < g → mP.2.2.1 24 f = wP.2.2.1 47 f ∧ mP.2.2.1 25 f = wP.2.2.1 48 f) (hn : ∀ f, f < g → pd (wP.2.2.1 47 f) (wP.2.2.1 48 f) = 0) (hP : PDK m0 mP) (hp : x.2.2 ≠ 2 → PDF N m0 w0 x.1 x.2.1 (pd x.1 x.2.1)) : BADc N mP x ↔ RBD wP g pd x := by
  unfold BADc RBD
  by_cases z : x.2.2 = 2
  · rw [if_pos z, seek_e hN h442 hg ht]
    exact ⟨fun q => Or.inl ⟨z, q⟩, fun q => q.elim (fun q => q.2) (fun q => absurd z q.1)⟩
  · rw [if_neg z, seek_e hN h442 hg ht]
    obtain ⟨id, p1, p2, p3⟩ := (hp z).2 mP hP
    have e1 : hm_Cm_predefinedOf N mP x.1 x.2.1 = some (mP, -1) ↔ pd x.1 x.2.1 = 0 := by
      rw [p1, ← p2]
      exact ⟨fun q => by injection q with q; injection q with _ q, fun q => by rw [q]⟩
    have e2 : (∃ id, hm_Cm_predefinedOf N mP x.1 x.2.1 = some (mP, id) ∧ (id < 17 ∨ ¬ id ≤ 28)) ↔ pd x.1 x.2.1 ≠ 2 := by
      constructor
      · rintro ⟨id2, q1, q2⟩ q3
        rw [p1] at q1
        injection q1 with q1
        injection q1 with _ q1
        rw [← q1] at q2
        have := p3.mpr q3
        rcases q2 with q2 | q2
        · exact this.1 q2
        · exact q2 this.2
      · intro q
        refine ⟨id, p1, ?_⟩
        by_cases a : id < 17
        · exact Or.inl a
        · by_cases b : id ≤ 28
          · exact absurd (p3.mp ⟨a, b⟩) q
          · exact Or.inr b
    have e3 : pd x.1 x.2.1 = 2 → noF wP g x.1 x.2.1 := fun q f hf hh => by
      have := hn f hf
      rw [hh.1, hh.2, q] at this
      exact absurd this (by decide)
    rw [e1, e2]
    constructor
    · rintro (q | q)
      · exact Or.inr ⟨z, Or.inl ⟨q.2, q.1⟩⟩
      · exact Or.inr ⟨z, Or.inr ⟨q.1, fun y => q.2 y.2⟩⟩
    · rintro (q | q)
      · exact absurd q.1 z
      · rcases q.2 with q | q
        · exact Or.inl ⟨q.2, q.1⟩
        · exact Or.inr ⟨q.1, fun y => q.2 ⟨e3 y, y⟩⟩
theorem rules_e (cA : CTA m0 w0 K T) (hN : 1000 ≤ N) (hg : g ≤ 666) (h : PGI N m0 w0 K T nm pd mI wI g p n D mP wP) (hP : PDK m0 mP) (hp : ∀ x, (∃ f, f < g ∧ ∃ b, b ∈ (D f).2.2.2.2.1 :: (D f).2.2.2.2.2 ∧ b.2.2.2.2.2.2 x) → x.2.2 ≠ 2 → PDF N m0 w0 x.1 x.2.1 (pd x.1 x.2.1)) : (¬ ∃ i, i < g ∧ FBD N m0 w0 pd mP i (D i)) ↔ (∀ f, f < g → FNR m0 w0 pd wP f (D f)) ∧ ∀ x, (∃ f, f < g ∧ ∃ b, b ∈ (D f).2.2.2.2.1 :: (D f).2.2.2.2.2 ∧ b.2.2.2.2.2.2 x) → ¬ RBD wP g pd x := by
  have t4 := PGI_t cA h
  have ht : ∀ f, f < g → mP.2.2.1 24 f = wP.2.2.1 47 f ∧ mP.2.2.1 25 f = wP.2.2.1 48 f := fun f hf => ⟨(t4 f hf).1, (t4 f hf).2.1⟩
  have h442 := h.2.1.2.1
  have dup : ∀ f, f < g → ∀ i, i < f → (DUP wP f i ↔ mP.2.2.1 24 i = mP.2.2.1 24 f ∧ mP.2.2.1 25 i = mP.2.2.1 25 f) := fun f hf i hi => by
    unfold DUP
    rw [(ht f hf).1, (ht f hf).2, (ht i (by omega)).1, (ht i (by omega)).2]
  have hn : (∀ f, f < g → FNR m0 w0 pd wP f (D f)) → ∀ f, f < g → pd (wP.2.2.1 47 f) (wP.2.2.1 48 f) = 0 := fun z f hf => by
    rw [(t4 f hf).2.2.1, (t4 f hf).2.2.2]
    exact (z f hf).2.1
  constructor
  · intro z
    have zf : ∀ f, f < g → ¬ FBD N m0 w0 pd mP f (D f) := fun f hf q => z ⟨f, hf, q⟩
    have fn : ∀ f, f < g → FNR m0 w0 pd wP f (D f) := fun f hf => by
      have := zf f hf
      refine ⟨fun b hb => ⟨?_, ?_⟩, ?_, fun i hi q => this (Or.inl ⟨i, hi, (dup f hf i hi).mp q⟩)⟩
      · cases e : b.2.2.2.2.1 with
        | false => rfl
        | true => exact absurd (Or.inr (Or.inr ⟨b, hb, Or.inl e⟩)) this
      · refine Classical.byContradiction (fun e => this (Or.inr (Or.inr ⟨b, hb, Or.inr (Or.inr e)⟩)))
      · refine Classical.byContradiction (fun e => this (Or.inr (Or.inl e)))
    refine ⟨fn, fun x hx hr => ?_⟩
    have be := (bad_e (w0 := w0) hN h442 hg ht (hn fn) hP (hp x hx)).mpr hr
    obtain ⟨f, hf, b, hb, hc⟩ := hx
    exact zf f hf (Or.inr (Or.inr ⟨b, hb, Or.inr (Or.inl ⟨x, hc, be⟩)⟩))
  · rintro ⟨fn, nb⟩ ⟨f, hf, q⟩
    have ff := fn f hf
    rcases q with ⟨i, hi, q⟩ | q | ⟨b, hb, q⟩
    · exact ff.2.2 i hi ((dup f hf i hi).mpr q)
    · exact q ff.2.1
    · rcases q with q | ⟨x, hc, q⟩ | q
      · rw [(ff.1 b hb).1] at q; exact absurd q (by decide)
      · have hx : ∃ f, f < g ∧ ∃ b, b ∈ (D f).2.2.2.2.1 :: (D f).2.2.2.2.2 ∧ b.2.2.2.2.2.2 x := ⟨f, hf, b, hb, hc⟩
        exact nb x hx ((bad_e (w0 := w0) hN h442 hg ht (hn fn) hP (hp x hx)).mp q)
      · exact q (ff.1 b hb).2
def CAC (v : MS) (r : Int32) : Prop := r = 0 → v.1 714 = 1000000000 ∧ v.1 711 = 0 ∧ ¬ 60 < v.1 442 ∧ ¬ 200 < v.1 22 ∧ v.1 85 ≤ 1500 ∧ v.1 441 < 24000
theorem acc_e {Y : MS} (cA : CTA m0 w0 K T) (hN : 1000 ≤ N) (hg : g ≤ 666) (h : PGI N m0 w0 K T nm pd mI wI g p n D mP wP) (hP : PDK m0 mP) (hp : ∀ x, (∃ f, f < g ∧ ∃ b, b ∈ (D f).2.2.2.2.1 :: (D f).2.2.2.2.2 ∧ b.2.2.2.2.2.2 x) → x.2.2 ≠ 2 → PDF N m0 w0 x.1 x.2.1 (pd x.1 x.2.1)) (i66 : wI.1 66 = 0) (i72 : wI.1 72 = 0) (ce : CEQ (upI mP 711 0) v r (∃ i, i < g ∧ FBD N m0 w0 pd mP i (D i)) (∀ i, i < g → FSMd (D i))) (ca : CAC v r) (y72 : Y.1 72 = 0 ↔ wP.1 72 = 0 ∧ ∀ x, (∃ f, f < g ∧ ∃ b, b ∈ (D f).2.2.2.2.1 :: (D f).2.2.2.2.2 ∧ b.2.2.2.2.2.2 x) → ¬ RBD wP g pd x) (y66 : Y.1 66 = wP.1 66) (y52 : Y.1 52 = wP.1 52) (y14 : Y.1 14 = v.1 22) (y9 : v.1 85 ≤ 1500 ↔ Y.1 9 ≤ 1500) : r = 0 ↔ Y.1 72 = 0 ∧ Y.1 66 = 0 ∧ ¬ 60 < Y.1 52 ∧ ¬ 200 < Y.1 14 ∧ Y.1 9 ≤ 1500 := by
  have re := rules_e cA hN hg h hP hp
  obtain ⟨fr, -, cb, c0⟩ := ce
  have v442 : v.1 442 = wP.1 52 := by rw [fr.1 442 (by omega), upI_ne (by decide), h.2.1.2.1, h.2.1.2.2.1]
  have e72 : Y.1 72 = 0 ↔ ¬ ∃ i, i < g ∧ FBD N m0 w0 pd mP i (D i) := by
    rw [y72, re, h.2.2.2.2.1]
    exact ⟨fun z => ⟨z.1.2, z.2⟩, fun z => ⟨⟨i72, z.1⟩, z.2⟩⟩
  have e66 : Y.1 66 = 0 ↔ ∀ i, i < g → FSMd (D i) := by
    rw [y66, h.2.2.2.1]
    exact ⟨fun z => z.2, fun z => ⟨i66, z⟩⟩
  rw [e72, e66, y52, ← v442, y14, ← y9]
  constructor
  · intro z
    obtain ⟨a1, a2, a3, a4, a5, a6⟩ := ca z
    rcases cb with ⟨-, cb⟩ | ⟨b1, b2, b3⟩
    · rw [a1] at cb
      exact absurd cb (by decide)
    · exact ⟨b1, ((b3.2.1 a6).mp a2).1, a3, a4, a5⟩
  · rintro ⟨a1, a2, a3, a4, a5⟩
    rcases cb with ⟨cb, -⟩ | ⟨b1, b2, b3⟩
    · exact absurd cb a1
    · exact c0 b2 (b3.2.2 a2 upI_at) a3 a4 a5
end
end
section
set_option maxRecDepth 100000
def TKH (N : Nat) (m w : MS) (K : Nat → Nat) (T : Nat) (nm Nk : Nat → Nat) (pd : Int32 → Int32 → Nat) : Prop := CTZ m w K T nm Nk ∧ CTA m w K T ∧ CTP N m w K T pd ∧ (∀ a : Nat, ((a : Nat) : Int) < F w 14 → ∀ y, PDF N m w (I (a : Nat)) y (pd (I (a : Nat)) y)) ∧ m.1 22 = w.1 14 ∧ (K T = 0 → (m.1 85 ≤ 1500 ↔ w.1 9 ≤ 1500)) ∧ m.1 85 = I (T : Nat)
def pS0 (m : MS) : MS := upI (upI (upI (upI (upI (upI (upI (upI m 306 0) 441 1) 442 0) 449 0) 664 0) 665 0) 666 0) 667 0
def pW0 (w : MS) : MS := upI (upI (upI (upI (upI (upI (upI (upI (upI (upI w 69 0) 70 0) 32 0) 39 0) 46 0) 52 0) 56 0) 58 0) 66 0) 73 0
section
variable {m w m9 w13 : MS} {K nm Nk : Nat → Nat} {T N k : Nat} {pd : Int32 → Int32 → Nat}
theorem pS0_i (h : k ∉ [306, 441, 442, 449, 664, 665, 666, 667]) : (pS0 m).1 k = m.1 k := by
  simp only [List.mem_cons, List.not_mem_nil, or_false, not_or] at h
  obtain ⟨h1, h2, h3, h4, h5, h6, h7, h8⟩ := h
  unfold pS0
  rw [upI_ne h8, upI_ne h7, upI_ne h6, upI_ne h5, upI_ne h4, upI_ne h3, upI_ne h2, upI_ne h1]
theorem pS0_0 (h : k ∈ [306, 442, 449, 664, 665, 666, 667]) : (pS0 m).1 k = 0 := by
  simp only [List.mem_cons, List.not_mem_nil, or_false] at h
  rcases h with rfl | rfl | rfl | rfl | rfl | rfl | rfl <;> rfl
theorem pW0_i (h : k ∉ [69, 70, 32, 39, 46, 52, 56, 58, 66, 73]) : (pW0 w).1 k = w.1 k := by
  simp only [List.mem_cons, List.not_mem_nil, or_false, not_or] at h
  obtain ⟨h1, h2, h3, h4, h5, h6, h7, h8, h9, h10⟩ := h
  unfold pW0
  rw [upI_ne h10, upI_ne h9, upI_ne h8, upI_ne h7, upI_ne h6, upI_ne h5, upI_ne h4, upI_ne h3, upI_ne h2, upI_ne h1]
theorem pW0_0 (h : k ∈ [69, 70, 32, 39, 46, 52, 56, 58, 66, 73]) : (pW0 w).1 k = 0 := by
  simp only [List.mem_cons, List.not_mem_nil, or_false] at h
  rcases h with rfl | rfl | rfl | rfl | rfl | rfl | rfl | rfl | rfl | rfl <;> rfl
theorem prs_pp (th : TKH N m w K T nm Nk pd) (kT : K T = 0) (h67 : w.1 67 = 0) (h72 : w.1 72 = 0) (h75 : w.1 75 = 0) : PP (PRZ N m w K T nm pd (pS0 m) (pW0 w)) (hm_Pa_parse N m) (fm_M_program N w) := by
  obtain ⟨c, cA, cP, -⟩ := th
  have c45 : ∀ p, p ≤ T → K p ≠ 45 := fun p hp => by
    by_cases e : p = T
    · rw [e, kT]; decide
    · have := (c.1.1.2.1 p (by omega)).2
      omega
  show PP _ (hb_Pa_parse_0 N (hg_Pa_parse N N) m) (fb_M_program_0 N (gg_M_program N N) w)
  have e1 : hb_Pa_parse_0 N (hg_Pa_parse N N) m = hg_Pa_parse N N (pS0 m) 0 := rfl
  have e2 : fb_M_program_0 N (gg_M_program N N) w = gg_M_program N N (pW0 w) 1 := rfl
  rw [e1, e2]
  have kc : Kcc m (pS0 m) := ⟨fun k hk => pS0_i (by simp only [List.mem_cons, List.not_mem_nil, or_false, not_or]; omega), fun _ _ => rfl⟩
  have kt : Ktc w (pW0 w) := ⟨fun k hk => pW0_i (by
    have : ∀ k, k ∈ TIN → k ∉ [69, 70, 32, 39, 46, 52, 56, 58, 66, 73] := by decide
    exact this k hk), fun _ _ => rfl⟩
  have nd : ND (pW0 w) := ⟨0, pW0_0 (by decide), by decide⟩
  have pg : PGI N m w K T nm pd (pS0 m) (pW0 w) 0 0 0 (fun _ => (0, 0, 0, 0, (0, 0, 0, 0, false, false, fun _ => False), [])) (pS0 m) (pW0 w) := by
    refine ⟨⟨⟨kc, kt, pS0_0 (by decide), pW0_0 (by decide), Nat.zero_le _, ?_, ?_⟩, Nat.zero_le _, pS0_0 (by decide), Nat.zero_le _⟩, ⟨⟨fun _ _ => rfl, fun _ _ => rfl, fun _ _ _ _ _ => rfl⟩, pS0_0 (by decide), pW0_0 (by decide), fun f hf => absurd hf (by omega)⟩, fun _ _ => rfl, ⟨fun z => ⟨z, fun f hf => absurd hf (by omega)⟩, fun z => z.1⟩, ⟨fun z => ⟨z, fun f hf => absurd hf (by omega)⟩, fun z => z.1⟩, CSZ_q (CSZ_rf nd) (fun x => ⟨False.elim, fun ⟨f, hf, _⟩ => absurd hf (by omega)⟩), fun f hf => absurd hf (by omega)⟩
    · rw [pS0_0 (by decide), pW0_0 (by decide)]
    · rw [pW0_i (by decide)]; exact h67
  cases N with
  | zero => exact pp_nl
  | succ N =>
  show PP _ (hb_Pa_parse_36 (N + 1) (hg_Pa_parse (N + 1) N) (pS0 m) 0) _
  unfold hb_Pa_parse_36
  rw [show decide ((4000 : Int32) < 0) = false from rfl, br_fq, show decide ((0 : Int32) = 0) = true from rfl, br_tq, show (0 : Int32) = I ((0 : Nat) : Int) from rfl]
  exact pg_lp (bq := 0) c cA c45 cP (pW0_0 (by decide)) (pW0_0 (by decide)) (by rw [pW0_i (by decide)]; exact h75) (by decide) N (N + 1) 0 (pS0 m) (pW0 w) 0 0 _ pg (Or.inl rfl)
end
end
section
set_option maxRecDepth 100000
theorem q_le {a b : Nat} (ha : a < 2147483648) (hb : b < 2147483648) : (Int32.ofNat a ≤ Int32.ofNat b) ↔ a ≤ b := Int32.ofNat_le_ofNat ha hb
theorem q_lt {a b : Nat} (ha : a < 2147483648) (hb : b < 2147483648) : (Int32.ofNat a < Int32.ofNat b) ↔ a < b := by
  have h := q_le hb ha
  constructor
  · intro h9
    have : ¬ b ≤ a := fun z => absurd (h.mpr z) (Int32.not_le.mpr h9)
    omega
  · intro h9
    exact Int32.not_le.mp (fun z => absurd (h.mp z) (by omega))
theorem q_nat {k : Nat} (h : k < 2147483648) : (Int32.ofNat k).toNatClampNeg = k := Int32.toNatClampNeg_ofNat_of_lt h
theorem q_suc (k : Nat) : Int32.ofNat k + 1 = Int32.ofNat (k + 1) := (Int32.ofNat_add k 1).symm
theorem q_inb {k n : Nat} (h : k < n) (hn : n < 2147483648) : inb (Int32.ofNat k) n = true := by
  unfold inb
  refine decide_eq_true (fun h9 => ?_)
  rcases h9 with h9 | h9
  · exact absurd ((q_lt (a := k) (b := 0) (by omega) (by decide)).mp h9) (by omega)
  · rw [q_nat (by omega)] at h9
    omega
theorem q_bt {α : Type} {x y : α} {b : Bool} (h : b = true) : br b x y = x := by unfold br; rw [if_pos h]
theorem q_bf {α : Type} {x y : α} {b : Bool} (h : b = false) : br b x y = y := by unfold br; rw [h]; rfl
theorem q_bo {α β : Type} {x : α} {f : α → Option β} : bo (some x) f = f x := rfl
theorem q_bx {α β : Type} {x : CS × α} {f : CS → α → Option β} : bx (some x) f = f x.1 x.2 := rfl
theorem q_bn {α β : Type} {x : MS × α} {f : MS → α → Option β} : bnd (some x) f = f x.1 x.2 := rfl
theorem q_ck {α : Type} {x : Option α} {b : Bool} (h : b = true) : ck b x = x := by unfold ck; rw [if_pos h]
theorem q_ls {α β : Type} {x : α} {k : α → Option β} : lt x k = k x := rfl
def byH (v s : Int32) : Int32 := vp_nar .byte ((v >>> (s &&& 31)).toInt8.toInt32)
def apH (u : CS) (v s : Int32) : CS := uF (uA u 5 (upd (AI u 5) (FI u 4 1).toNatClampNeg (byH v s))) 4 1 (.inl (FI u 4 1 + 1))
theorem apH_sk {u : CS} (h : skB u = true) {v s : Int32} : skB (apH u v s) = true := sf_4_1 (sa_5 h)
theorem apH_n {u : CS} (h : skB u = true) {v s : Int32} {k : Nat} (hk : FI u 4 1 = Int32.ofNat k) : FI (apH u v s) 4 1 = Int32.ofNat (k + 1) := by
  unfold apH
  rw [fi_4_1 (sa_5 h), hk, q_suc]
theorem ap_step {u : CS} {N k : Nat} {G : CS → Nat → Int32 → Int32 → Option (CS × Unit)} {v s : Int32} (h : skB u = true) (hs : ¬ s < 0) (hk : FI u 4 1 = Int32.ofNat k) (hk4 : k < 4000) : fb_To_append_3 N G u 4 v s = G (apH u v s) 4 v (s + (-8)) := by
  have e1 : decide (s < 0) = false := decide_eq_false hs
  have e2 : decide (4000 ≤ FI u 4 1) = false := by
    rw [hk]
    exact decide_eq_false (fun z => absurd ((q_le (a := 4000) (b := k) (by decide) (by omega)).mp z) (by omega))
  have e3 : inb (FI u 4 1) 4000 = true := by rw [hk]; exact q_inb hk4 (by decide)
  unfold fb_To_append_3
  rw [q_bf e1, gi_4_1 h, q_bo, q_bf e2, gr_4_0 h, q_bo, q_bo, q_bo, si_5 h, if_pos e3, q_bo, gi_4_1 (sa_5 h), q_bo, pf_4_1 (sa_5 h), q_bo, FI_A]
  rfl
def ap4 (u : CS) (v : Int32) : CS := apH (apH (apH (apH u v 24) v 16) v 8) v 0
theorem ap4_ok {u : CS} {N k : Nat} {v : Int32} (h : skB u = true) (hk : FI u 4 1 = Int32.ofNat k) (hk4 : k + 4 ≤ 4000) : fm_To_append (N + 5) u 4 v = some (ap4 u v, ()) ∧ skB (ap4 u v) = true ∧ FI (ap4 u v) 4 1 = Int32.ofNat (k + 4) := by
  have h1 := apH_sk (v := v) (s := 24) h
  have h2 := apH_sk (v := v) (s := 16) h1
  have h3 := apH_sk (v := v) (s := 8) h2
  have h4 := apH_sk (v := v) (s := 0) h3
  have k1 := apH_n (v := v) (s := 24) h hk
  have k2 := apH_n (v := v) (s := 16) h1 k1
  have k3 := apH_n (v := v) (s := 8) h2 k2
  have k4 := apH_n (v := v) (s := 0) h3 k3
  refine ⟨?_, h4, k4⟩
  show fb_To_append_3 (N + 5) (gg_To_append (N + 5) (N + 4)) u 4 v 24 = _
  rw [ap_step h (by decide) hk (by omega), show (24 : Int32) + (-8) = 16 from by decide]
  show fb_To_append_3 (N + 5) (gg_To_append (N + 5) (N + 3)) _ 4 v 16 = _
  rw [ap_step h1 (by decide) k1 (by omega), show (16 : Int32) + (-8) = 8 from by decide]
  show fb_To_append_3 (N + 5) (gg_To_append (N + 5) (N + 2)) _ 4 v 8 = _
  rw [ap_step h2 (by decide) k2 (by omega), show (8 : Int32) + (-8) = 0 from by decide]
  show fb_To_append_3 (N + 5) (gg_To_append (N + 5) (N + 1)) _ 4 v 0 = _
  rw [ap_step h3 (by decide) k3 (by omega), show (0 : Int32) + (-8) = -8 from by decide]
  show fb_To_append_3 (N + 5) (gg_To_append (N + 5) N) _ 4 v (-8) = _
  unfold fb_To_append_3
  rw [q_bt (by decide)]
  rfl
def fdH (u : CS) (a b c d e : Int32) : CS := ap4 (ap4 (ap4 (ap4 (ap4 u a) b) c) d) e
theorem fdH_ok {u : CS} {N k : Nat} {a b c d e : Int32} (h : skB u = true) (hk : FI u 4 1 = Int32.ofNat k) (hk4 : k + 20 ≤ 4000) : fm_H_feed (N + 5) u 0 a b c d e = some (fdH u a b c d e, Int32.ofNat (k + 20)) ∧ skB (fdH u a b c d e) = true ∧ FI (fdH u a b c d e) 4 1 = Int32.ofNat (k + 20) := by
  obtain ⟨f1, h1, k1⟩ := ap4_ok (N := N) (v := a) h hk (by omega)
  obtain ⟨f2, h2, k2⟩ := ap4_ok (N := N) (v := b) h1 k1 (by omega)
  obtain ⟨f3, h3, k3⟩ := ap4_ok (N := N) (v := c) h2 k2 (by omega)
  obtain ⟨f4, h4, k4⟩ := ap4_ok (N := N) (v := d) h3 k3 (by omega)
  obtain ⟨f5, h5, k5⟩ := ap4_ok (N := N) (v := e) h4 k4 (by omega)
  refine ⟨?_, h5, k5⟩
  have e1 : decide ((FI u 4 1 + 20) ≤ 4000) = true := by
    rw [hk, show (20 : Int32) = Int32.ofNat 20 from rfl, ← Int32.ofNat_add]
    exact decide_eq_true ((q_le (a := k + 20) (b := 4000) (by omega) (by decide)).mpr hk4)
  unfold fm_H_feed fb_H_feed_0
  rw [gr_0_1 h, q_bo, q_bo, gi_4_1 h, q_bo, q_bt e1, q_bo, q_bo, q_ck (io_4 h), f1, q_bx, gr_0_1 h1, q_bo, q_bo, q_ck (io_4 h1), f2, q_bx, gr_0_1 h2, q_bo, q_bo, q_ck (io_4 h2), f3, q_bx, gr_0_1 h3, q_bo, q_bo, q_ck (io_4 h3), f4, q_bx, gr_0_1 h4, q_bo, q_bo, q_ck (io_4 h4), f5, q_bx, gr_0_1 h5, q_bo, q_bo, gi_4_1 h5, q_bo, k5]
  rfl
def byM (v j : Int32) : Int32 := vp_nar .byte (((v.toUInt32 >>> ((24 - (8 * (j - j / 4 * 4))).toUInt32 &&& Int32.toUInt32 31)).toInt32).toInt8.toInt32)
def apM (u : MS) (t j : Int32) : MS := upI (upA u 4 (upd (u.2.2.1 4) (u.1 5).toNatClampNeg (byM t j))) 5 (u.1 5 + 1)
def seM (a b c d e j : Int32) : Int32 := if 4 ≤ j then (if 8 ≤ j then (if 12 ≤ j then (if 16 ≤ j then e else d) else c) else b) else a
theorem apM_n {u : MS} {t j : Int32} {k : Nat} (hk : u.1 5 = Int32.ofNat k) : (apM u t j).1 5 = Int32.ofNat (k + 1) := by
  show u.1 5 + 1 = _
  rw [hk, q_suc]
theorem fm_step {u : MS} {N k : Nat} {G : MS → Int32 → Int32 → Int32 → Int32 → Int32 → Int32 → Option (MS × Int32)} {a b c d e j : Int32} (hj : ¬ 20 ≤ j) (hk : u.1 5 = Int32.ofNat k) (hk4 : k < 4000) : fb_M_feed_23 N G u a b c d e j = G (apM u (seM a b c d e j) j) a b c d e (j + 1) := by
  have e3 : inb (u.1 5) (ln 4) = true := by rw [hk]; exact q_inb hk4 (by decide)
  have h6 : ∀ t, fb_M_feed_76 N G u a b c d e j t = G (apM u t j) a b c d e (j + 1) := fun t => by
    unfold fb_M_feed_76
    rw [q_ck e3]
    rfl
  unfold fb_M_feed_23 seM
  rw [show br (decide (20 ≤ j)) = br false from by rw [decide_eq_false hj]]
  show br _ _ _ = _
  simp only [br, h6, decide_eq_true_eq]
  by_cases h1 : 4 ≤ j
  · by_cases h2 : 8 ≤ j
    · by_cases h3 : 12 ≤ j
      · by_cases h4 : 16 ≤ j <;> simp [h1, h2, h3, h4]
      · simp [h1, h2, h3]
    · simp [h1, h2]
  · simp [h1]
def fdL (a b c d e : Int32) : Nat → MS → MS
  | 0, u => u
  | n + 1, u => fdL a b c d e n (apM u (seM a b c d e (Int32.ofNat (20 - (n + 1)))) (Int32.ofNat (20 - (n + 1))))
theorem fm_loop {N : Nat} {a b c d e : Int32} : ∀ (j : Nat) (u : MS) (k m : Nat), j ≤ 20 → u.1 5 = Int32.ofNat k → k + j ≤ 4000 → gg_M_feed N (m + j + 1) u a b c d e (Int32.ofNat (20 - j)) = some (fdL a b c d e j u, Int32.ofNat (k + j)) ∧ (fdL a b c d e j u).1 5 = Int32.ofNat (k + j) := by
  intro j
  induction j with
  | zero =>
    intro u k m _ hk _
    refine ⟨?_, hk⟩
    show fb_M_feed_23 N _ u a b c d e (Int32.ofNat 20) = _
    unfold fb_M_feed_23
    rw [show br (decide (20 ≤ Int32.ofNat 20)) = br true from by rw [show decide ((20 : Int32) ≤ Int32.ofNat 20) = true from by decide]]
    show some (u, u.1 5) = _
    rw [hk]
    rfl
  | succ j ih =>
    intro u k m hj hk hk4
    have h9 : ¬ (20 : Int32) ≤ Int32.ofNat (20 - (j + 1)) := fun z => absurd ((q_le (a := 20) (b := 20 - (j + 1)) (by decide) (by omega)).mp z) (by omega)
    have e1 : Int32.ofNat (20 - (j + 1)) + 1 = Int32.ofNat (20 - j) := by rw [q_suc]; congr 1; omega
    obtain ⟨i1, i2⟩ := ih (apM u (seM a b c d e (Int32.ofNat (20 - (j + 1)))) (Int32.ofNat (20 - (j + 1)))) (k + 1) m (by omega) (apM_n hk) (by omega)
    rw [show k + 1 + j = k + (j + 1) from by omega] at i1 i2
    refine ⟨?_, i2⟩
    show fb_M_feed_23 N (gg_M_feed N (m + j + 1)) u a b c d e (Int32.ofNat (20 - (j + 1))) = _
    rw [fm_step h9 hk (by omega), e1]
    exact i1
def fdM (u : MS) (a b c d e : Int32) : MS := fdL a b c d e 20 (upI u 3 0)
theorem fdM_ok {u : MS} {N k : Nat} {a b c d e : Int32} (hk : u.1 5 = Int32.ofNat k) (hk4 : k + 20 ≤ 4000) : fm_M_feed (N + 21) u a b c d e = some (fdM u a b c d e, Int32.ofNat (k + 20)) ∧ (fdM u a b c d e).1 5 = Int32.ofNat (k + 20) := by
  have e0 : (upI u 3 0).1 5 = Int32.ofNat k := hk
  have e1 : decide (((upI u 3 0).1 5 + 20) ≤ 4000) = true := by
    rw [e0, show (20 : Int32) = Int32.ofNat 20 from rfl, ← Int32.ofNat_add]
    exact decide_eq_true ((q_le (a := k + 20) (b := 4000) (by omega) (by decide)).mpr hk4)
  obtain ⟨h1, h2⟩ := fm_loop (N := N + 21) (a := a) (b := b) (c := c) (d := d) (e := e) 20 (upI u 3 0) k N (Nat.le_refl _) e0 hk4
  refine ⟨?_, h2⟩
  unfold fm_M_feed fb_M_feed_0
  rw [q_ls]
  show br _ _ _ = _
  rw [show br (decide (((upI u 3 0).1 5 + 20) ≤ 4000)) = br true from by rw [e1]]
  exact h1
end
section
set_option maxRecDepth 100000
section IDL
variable {N k : Nat} {u : CS} {w : MS} {a b c d e : Int32}
end IDL
theorem q_pos {a : Int32} (h : ¬ a < 0) : ∃ m : Nat, m < 2147483648 ∧ a = Int32.ofNat m := by
  have h0 : (0 : Int32) ≤ a := Int32.not_lt.mp h
  have h1 : 0 ≤ a.toInt := by
    have := Int32.le_iff_toInt_le.mp h0
    simpa using this
  refine ⟨a.toInt.toNat, ?_, ?_⟩
  · have := Int32.toInt_lt a
    omega
  · apply Int32.toInt_inj.mp
    rw [Int32.toInt_ofNat_of_lt]
    · omega
    · have := Int32.toInt_lt a
      omega
theorem q_sub {k m : Nat} (h : m ≤ k) : Int32.ofNat k - Int32.ofNat m = Int32.ofNat (k - m) := by
  have e : Int32.ofNat k = Int32.ofNat (k - m) + Int32.ofNat m := by rw [← Int32.ofNat_add]; congr 1; omega
  rw [e, Int32.add_sub_cancel]
def bkN (k : Nat) (a : Int32) : Option Nat := if a < 0 then none else if a.toNatClampNeg ≤ k then some (k - a.toNatClampNeg) else none
def bkA (k : Nat) (a : Int32) : Int32 := match bkN k a with
  | some n => Int32.ofNat n
  | none => -1
end
section
set_option maxRecDepth 100000
theorem bv8 (x : BitVec 32) (n : Nat) (hn : n ≤ 24) : (x.sshiftRight n).setWidth 8 = (x >>> n).setWidth 8 := by
  apply BitVec.eq_of_getLsbD_eq
  intro i hi
  simp only [BitVec.getLsbD_setWidth, BitVec.getLsbD_sshiftRight, BitVec.getLsbD_ushiftRight]
  have h1 : ¬ 32 ≤ i := by omega
  have h2 : n + i < 32 := by omega
  simp [h1, h2]
theorem by_bv {v : Int32} {s : Int32} {n : Nat} (hs : s = Int32.ofNat n) (hn : n = 24 ∨ n = 16 ∨ n = 8 ∨ n = 0) : (v >>> (s &&& 31)).toInt8 = ((v.toUInt32 >>> (s.toUInt32 &&& Int32.toUInt32 31)).toInt32).toInt8 := by
  apply Int8.toBitVec_inj.mp
  have e1 : ∀ x : Int32, x.toInt8.toBitVec = x.toBitVec.setWidth 8 := fun x => BitVec.signExtend_eq_setWidth_of_le _ (by decide)
  rw [e1, e1]
  rcases hn with rfl | rfl | rfl | rfl <;> subst hs
  · exact bv8 v.toBitVec 24 (by decide)
  · exact bv8 v.toBitVec 16 (by decide)
  · exact bv8 v.toBitVec 8 (by decide)
  · exact bv8 v.toBitVec 0 (by decide)
theorem by_eq {v j s : Int32} {n : Nat} (hs : s = Int32.ofNat n) (hn : n = 24 ∨ n = 16 ∨ n = 8 ∨ n = 0) (hj : 24 - (8 * (j - j / 4 * 4)) = s) : byH v s = byM v j := by
  unfold byH byM
  rw [hj, by_bv hs hn]
def TT (u : CS) (w : MS) (k : Nat) : Prop := FI u 4 1 = Int32.ofNat k ∧ w.1 5 = Int32.ofNat k ∧ ∀ j, j < k → AI u 5 j = w.2.2.1 4 j
theorem TT_step {u : CS} {w : MS} {k : Nat} {v t s j : Int32} (h : skB u = true) (ht : TT u w k) (hk : k < 4000) (hb : byH v s = byM t j) : TT (apH u v s) (apM w t j) (k + 1) := by
  obtain ⟨h1, h2, h3⟩ := ht
  refine ⟨apH_n h h1, apM_n h2, fun i hi => ?_⟩
  have e1 : AI (apH u v s) 5 = upd (AI u 5) (FI u 4 1).toNatClampNeg (byH v s) := by unfold apH; rw [AI_F, fa_5 h]
  have e2 : (apM w t j).2.2.1 4 = upd (w.2.2.1 4) (w.1 5).toNatClampNeg (byM t j) := rfl
  rw [e1, e2, h1, h2, q_nat (by omega), hb]
  by_cases e : i = k
  · subst e; simp [upd]
  · have := h3 i (by omega)
    simp [upd, e, this]
set_option maxHeartbeats 4000000 in
theorem TT_feed {u : CS} {w : MS} {k : Nat} {a b c d e : Int32} (h : skB u = true) (ht : TT u w k) (hk : k + 20 ≤ 4000) : TT (fdH u a b c d e) (fdM w a b c d e) (k + 20) := by
  have h0 := h
  have t0 : TT u (upI w 3 0) k := ht
  have t1 := TT_step (v := a) (t := seM a b c d e (Int32.ofNat 0)) (s := 24) (j := Int32.ofNat 0) h0 t0 (by omega) (by rw [show seM a b c d e (Int32.ofNat 0) = a from rfl]; exact by_eq (n := 24) rfl (by decide) (by decide))
  have h1 := apH_sk (v := a) (s := 24) h0
  have t2 := TT_step (v := a) (t := seM a b c d e (Int32.ofNat 1)) (s := 16) (j := Int32.ofNat 1) h1 t1 (by omega) (by rw [show seM a b c d e (Int32.ofNat 1) = a from rfl]; exact by_eq (n := 16) rfl (by decide) (by decide))
  have h2 := apH_sk (v := a) (s := 16) h1
  have t3 := TT_step (v := a) (t := seM a b c d e (Int32.ofNat 2)) (s := 8) (j := Int32.ofNat 2) h2 t2 (by omega) (by rw [show seM a b c d e (Int32.ofNat 2) = a from rfl]; exact by_eq (n := 8) rfl (by decide) (by decide))
  have h3 := apH_sk (v := a) (s := 8) h2
  have t4 := TT_step (v := a) (t := seM a b c d e (Int32.ofNat 3)) (s := 0) (j := Int32.ofNat 3) h3 t3 (by omega) (by rw [show seM a b c d e (Int32.ofNat 3) = a from rfl]; exact by_eq (n := 0) rfl (by decide) (by decide))
  have h4 := apH_sk (v := a) (s := 0) h3
  have t5 := TT_step (v := b) (t := seM a b c d e (Int32.ofNat 4)) (s := 24) (j := Int32.ofNat 4) h4 t4 (by omega) (by rw [show seM a b c d e (Int32.ofNat 4) = b from rfl]; exact by_eq (n := 24) rfl (by decide) (by decide))
  have h5 := apH_sk (v := b) (s := 24) h4
  have t6 := TT_step (v := b) (t := seM a b c d e (Int32.ofNat 5)) (s := 16) (j := Int32.ofNat 5) h5 t5 (by omega) (by rw [show seM a b c d e (Int32.ofNat 5) = b from rfl]; exact by_eq (n := 16) rfl (by decide) (by decide))
  have h6 := apH_sk (v := b) (s := 16) h5
  have t7 := TT_step (v := b) (t := seM a b c d e (Int32.ofNat 6)) (s := 8) (j := Int32.ofNat 6) h6 t6 (by omega) (by rw [show seM a b c d e (Int32.ofNat 6) = b from rfl]; exact by_eq (n := 8) rfl (by decide) (by decide))
  have h7 := apH_sk (v := b) (s := 8) h6
  have t8 := TT_step (v := b) (t := seM a b c d e (Int32.ofNat 7)) (s := 0) (j := Int32.ofNat 7) h7 t7 (by omega) (by rw [show seM a b c d e (Int32.ofNat 7) = b from rfl]; exact by_eq (n := 0) rfl (by decide) (by decide))
  have h8 := apH_sk (v := b) (s := 0) h7
  have t9 := TT_step (v := c) (t := seM a b c d e (Int32.ofNat 8)) (s := 24) (j := Int32.ofNat 8) h8 t8 (by omega) (by rw [show seM a b c d e (Int32.ofNat 8) = c from rfl]; exact by_eq (n := 24) rfl (by decide) (by decide))
  have h9 := apH_sk (v := c) (s := 24) h8
  have t10 := TT_step (v := c) (t := seM a b c d e (Int32.ofNat 9)) (s := 16) (j := Int32.ofNat 9) h9 t9 (by omega) (by rw [show seM a b c d e (Int32.ofNat 9) = c from rfl]; exact by_eq (n := 16) rfl (by decide) (by decide))
  have h10 := apH_sk (v := c) (s := 16) h9
  have t11 := TT_step (v := c) (t := seM a b c d e (Int32.ofNat 10)) (s := 8) (j := Int32.ofNat 10) h10 t10 (by omega) (by rw [show seM a b c d e (Int32.ofNat 10) = c from rfl]; exact by_eq (n := 8) rfl (by decide) (by decide))
  have h11 := apH_sk (v := c) (s := 8) h10
  have t12 := TT_step (v := c) (t := seM a b c d e (Int32.ofNat 11)) (s := 0) (j := Int32.ofNat 11) h11 t11 (by omega) (by rw [show seM a b c d e (Int32.ofNat 11) = c from rfl]; exact by_eq (n := 0) rfl (by decide) (by decide))
  have h12 := apH_sk (v := c) (s := 0) h11
  have t13 := TT_step (v := d) (t := seM a b c d e (Int32.ofNat 12)) (s := 24) (j := Int32.ofNat 12) h12 t12 (by omega) (by rw [show seM a b c d e (Int32.ofNat 12) = d from rfl]; exact by_eq (n := 24) rfl (by decide) (by decide))
  have h13 := apH_sk (v := d) (s := 24) h12
  have t14 := TT_step (v := d) (t := seM a b c d e (Int32.ofNat 13)) (s := 16) (j := Int32.ofNat 13) h13 t13 (by omega) (by rw [show seM a b c d e (Int32.ofNat 13) = d from rfl]; exact by_eq (n := 16) rfl (by decide) (by decide))
  have h14 := apH_sk (v := d) (s := 16) h13
  have t15 := TT_step (v := d) (t := seM a b c d e (Int32.ofNat 14)) (s := 8) (j := Int32.ofNat 14) h14 t14 (by omega) (by rw [show seM a b c d e (Int32.ofNat 14) = d from rfl]; exact by_eq (n := 8) rfl (by decide) (by decide))
  have h15 := apH_sk (v := d) (s := 8) h14
  have t16 := TT_step (v := d) (t := seM a b c d e (Int32.ofNat 15)) (s := 0) (j := Int32.ofNat 15) h15 t15 (by omega) (by rw [show seM a b c d e (Int32.ofNat 15) = d from rfl]; exact by_eq (n := 0) rfl (by decide) (by decide))
  have h16 := apH_sk (v := d) (s := 0) h15
  have t17 := TT_step (v := e) (t := seM a b c d e (Int32.ofNat 16)) (s := 24) (j := Int32.ofNat 16) h16 t16 (by omega) (by rw [show seM a b c d e (Int32.ofNat 16) = e from rfl]; exact by_eq (n := 24) rfl (by decide) (by decide))
  have h17 := apH_sk (v := e) (s := 24) h16
  have t18 := TT_step (v := e) (t := seM a b c d e (Int32.ofNat 17)) (s := 16) (j := Int32.ofNat 17) h17 t17 (by omega) (by rw [show seM a b c d e (Int32.ofNat 17) = e from rfl]; exact by_eq (n := 16) rfl (by decide) (by decide))
  have h18 := apH_sk (v := e) (s := 16) h17
  have t19 := TT_step (v := e) (t := seM a b c d e (Int32.ofNat 18)) (s := 8) (j := Int32.ofNat 18) h18 t18 (by omega) (by rw [show seM a b c d e (Int32.ofNat 18) = e from rfl]; exact by_eq (n := 8) rfl (by decide) (by decide))
  have h19 := apH_sk (v := e) (s := 8) h18
  have t20 := TT_step (v := e) (t := seM a b c d e (Int32.ofNat 19)) (s := 0) (j := Int32.ofNat 19) h19 t19 (by omega) (by rw [show seM a b c d e (Int32.ofNat 19) = e from rfl]; exact by_eq (n := 0) rfl (by decide) (by decide))
  have h20 := apH_sk (v := e) (s := 0) h19
  exact t20
end
section
set_option maxRecDepth 100000
def eqN (sg tx : Nat → Int32) : Nat → Nat → Nat → Bool
  | _, _, 0 => true
  | a, b, m + 1 => decide (sg a = tx b) && eqN sg tx (a + 1) (b + 1) m
def skN (sg tx : Nat → Int32) (fr : Nat → Nat) (b len : Nat) : Nat → Nat → Option Nat
  | _, 0 => none
  | w, m + 1 => if fr (w + 1) - fr w = len ∧ eqN sg tx (fr w) b len = true then some w else skN sg tx fr b len (w + 1) m
def noI (r : Option Nat) : Int32 := match r with
  | some w => Int32.ofNat w
  | none => -1
def WD (u : CS) (v0 s f ns nf : Nat) (sg : Nat → Int32) (fr : Nat → Nat) (n : Nat) : Prop :=
  isO u v0 11 = true ∧ gI u v0 11 2 = some (Int32.ofNat n) ∧ gR u v0 11 0 = some (some s) ∧ gR u v0 11 1 = some (some f) ∧ (∀ j, j < nf → aI u f 4 (Int32.ofNat j) = some (Int32.ofNat (fr j))) ∧ (∀ j, j < ns → aI u s 3 (Int32.ofNat j) = some (sg j)) ∧ (∀ j, j < n → fr j ≤ fr (j + 1)) ∧ (∀ j, j ≤ n → fr j ≤ ns) ∧ n < nf ∧ ns < 100000 ∧ nf < 100000
def TX (u : CS) (t nt : Nat) (tx : Nat → Int32) : Prop := (∀ j, j < nt → aI u t 3 (Int32.ofNat j) = some (tx j)) ∧ nt < 100000
theorem q_add {a b : Nat} : Int32.ofNat a + Int32.ofNat b = Int32.ofNat (a + b) := (Int32.ofNat_add a b).symm
theorem isS_loop {u : CS} {v0 s f ns nf n t nt N w b : Nat} {sg tx : Nat → Int32} {fr : Nat → Nat} (hw : WD u v0 s f ns nf sg fr n) (ht : TX u t nt tx) (hwn : w < n) (hb : b + (fr (w + 1) - fr w) ≤ nt) : ∀ (m p k : Nat), p + m = fr (w + 1) → fr w ≤ p → gg_Wo_isSame N (k + m + 1) u v0 (Int32.ofNat w) (some t) (Int32.ofNat b) (Int32.ofNat (fr w)) (Int32.ofNat p) = some (u, if eqN sg tx p (b + (p - fr w)) m = true then 1 else 0) := by
  obtain ⟨h1, h2, h3, h4, h5, h6, h7, h8, h9, h10, h11⟩ := hw
  obtain ⟨t1, t2⟩ := ht
  have hf := h8 (w + 1) (by omega)
  have e1 : Int32.ofNat w + 1 = Int32.ofNat (w + 1) := q_suc w
  intro m
  induction m with
  | zero =>
    intro p k hp hq
    have e2 : decide (Int32.ofNat (fr (w + 1)) ≤ Int32.ofNat p) = true := decide_eq_true ((q_le (by omega) (by omega)).mpr (by omega))
    show fb_Wo_isSame_12 N (gg_Wo_isSame N (k + 0)) u v0 _ _ _ _ _ = _
    unfold fb_Wo_isSame_12
    rw [h4, q_bo, q_bo, e1, h5 (w + 1) (by omega), q_bo, e2]
    rfl
  | succ m ih =>
    intro p k hp hq
    have e2 : decide (Int32.ofNat (fr (w + 1)) ≤ Int32.ofNat p) = false := decide_eq_false (fun z => absurd ((q_le (by omega) (by omega)).mp z) (by omega))
    have e3 : Int32.ofNat b + Int32.ofNat p - Int32.ofNat (fr w) = Int32.ofNat (b + (p - fr w)) := by
      rw [q_add, q_sub (by omega)]
      congr 1
      omega
    show fb_Wo_isSame_12 N (gg_Wo_isSame N (k + (m + 1))) u v0 _ _ _ _ _ = _
    unfold fb_Wo_isSame_12
    rw [h4, q_bo, q_bo, e1, h5 (w + 1) (by omega), q_bo, e2, h3, q_bo, q_bo, h6 p (by omega), q_bo, q_bo, e3, t1 _ (by omega), q_bo]
    by_cases h : sg p = tx (b + (p - fr w))
    · have i1 := ih (p + 1) k (by omega) (by omega)
      rw [show b + (p + 1 - fr w) = b + (p - fr w) + 1 from by omega] at i1
      simp only [br, h, decide_true, if_true, eqN, Bool.true_and, q_suc]
      exact i1
    · simp only [br, h, decide_false, eqN, Bool.false_and]
      rfl
theorem isS_ok {u : CS} {v0 s f ns nf n t nt N w b : Nat} {sg tx : Nat → Int32} {fr : Nat → Nat} (hw : WD u v0 s f ns nf sg fr n) (ht : TX u t nt tx) (hwn : w < n) (hb : b + (fr (w + 1) - fr w) ≤ nt) (hN : fr (w + 1) - fr w + 1 ≤ N) : fm_Wo_isSame N u v0 (Int32.ofNat w) (some t) (Int32.ofNat b) = some (u, if eqN sg tx (fr w) b (fr (w + 1) - fr w) = true then 1 else 0) := by
  have h7 := hw.2.2.2.2.2.2.1 w hwn
  have h := isS_loop (N := N) hw ht hwn hb (fr (w + 1) - fr w) (fr w) (N - (fr (w + 1) - fr w + 1)) (by omega) (Nat.le_refl _)
  rw [show N - (fr (w + 1) - fr w + 1) + (fr (w + 1) - fr w) + 1 = N from by omega, Nat.sub_self, Nat.add_zero] at h
  obtain ⟨h1, h2, h3, h4, h5, -, -, -, h9, -⟩ := hw
  unfold fm_Wo_isSame fb_Wo_isSame_0
  rw [h4, q_bo, q_bo, h5 w (by omega), q_bo]
  exact h
theorem seek_loop {u : CS} {v0 s f ns nf n t nt N b len : Nat} {sg tx : Nat → Int32} {fr : Nat → Nat} (hw : WD u v0 s f ns nf sg fr n) (ht : TX u t nt tx) (hb : b + len ≤ nt) (hN : len + 1 ≤ N) : ∀ (m w k : Nat), w + m = n → gg_Wo_seek N (k + m + 1) u v0 (some t) (Int32.ofNat b) (Int32.ofNat len) (Int32.ofNat w) = some (u, noI (skN sg tx fr b len w m)) := by
  have hw0 := hw
  obtain ⟨h1, h2, h3, h4, h5, h6, h7, h8, h9, h10, h11⟩ := hw
  have ht2 := ht.2
  intro m
  induction m with
  | zero =>
    intro w k hp
    have e2 : decide (Int32.ofNat n ≤ Int32.ofNat w) = true := decide_eq_true ((q_le (by omega) (by omega)).mpr (by omega))
    show fb_Wo_seek_3 N (gg_Wo_seek N (k + 0)) u v0 _ _ _ _ = _
    unfold fb_Wo_seek_3
    rw [h2, q_bo, e2]
    rfl
  | succ m ih =>
    intro w k hp
    have e2 : decide (Int32.ofNat n ≤ Int32.ofNat w) = false := decide_eq_false (fun z => absurd ((q_le (by omega) (by omega)).mp z) (by omega))
    have hm := h7 w (by omega)
    have hq := h8 (w + 1) (by omega)
    have i1 := ih (w + 1) k (by omega)
    have e4 : fb_Wo_seek_47 N (gg_Wo_seek N (k + (m + 1))) u v0 (some t) (Int32.ofNat b) (Int32.ofNat len) (Int32.ofNat w) = some (u, noI (skN sg tx fr b len (w + 1) m)) := by
      unfold fb_Wo_seek_47
      rw [q_suc]
      exact i1
    show fb_Wo_seek_3 N (gg_Wo_seek N (k + (m + 1))) u v0 _ _ _ _ = _
    unfold fb_Wo_seek_3
    rw [h2, q_bo, e2, h4, q_bo, q_bo, q_suc, h5 (w + 1) (by omega), q_bo, q_bo, q_bo, h5 w (by omega), q_bo, q_sub hm, q_ck h1, e4]
    by_cases h : fr (w + 1) - fr w = len
    · have i2 := isS_ok (N := N) (b := b) (w := w) hw0 ht (by omega) (by omega) (by omega)
      rw [i2, q_bx]
      have e5 : decide (Int32.ofNat (fr (w + 1) - fr w) = Int32.ofNat len) = true := decide_eq_true (by rw [h])
      rw [e5]
      by_cases h9 : eqN sg tx (fr w) b (fr (w + 1) - fr w) = true
      · have e6 : skN sg tx fr b len w (m + 1) = some w := if_pos ⟨h, by rw [← h]; exact h9⟩
        rw [if_pos h9, e6]
        rfl
      · have e6 : skN sg tx fr b len w (m + 1) = skN sg tx fr b len (w + 1) m := if_neg (fun z => h9 (by rw [h]; exact z.2))
        rw [if_neg h9, e6]
        exact e4
    · have e5 : decide (Int32.ofNat (fr (w + 1) - fr w) = Int32.ofNat len) = false := decide_eq_false (fun z => h (by
        have := congrArg Int32.toNatClampNeg z
        rw [q_nat (by omega), q_nat (by omega)] at this
        exact this))
      have e6 : skN sg tx fr b len w (m + 1) = skN sg tx fr b len (w + 1) m := if_neg (fun z => h z.1)
      rw [e5, e6]
      rfl
theorem seek_ok {u : CS} {v0 s f ns nf n t nt N b len : Nat} {sg tx : Nat → Int32} {fr : Nat → Nat} (hw : WD u v0 s f ns nf sg fr n) (ht : TX u t nt tx) (hb : b + len ≤ nt) (hN : len + 1 ≤ N) (hN2 : n + 1 ≤ N) : fm_Wo_seek N u v0 (some t) (Int32.ofNat b) (Int32.ofNat len) = some (u, noI (skN sg tx fr b len 0 n)) := by
  have h := seek_loop (N := N) hw ht hb hN n 0 (N - (n + 1)) (by omega)
  rw [show N - (n + 1) + n + 1 = N from by omega] at h
  exact h
end
section
set_option maxRecDepth 100000
def WT3 (u : MS) (v0 v1 v3 : Nat) (fr : Nat → Nat) (n : Nat) : Prop :=
  isK v0 3 = true ∧ isK v1 4 = true ∧ isK v3 3 = true ∧ (∀ j, j ≤ n → u.2.2.1 v1 j = Int32.ofNat (fr j)) ∧ (∀ j, j < n → fr j ≤ fr (j + 1)) ∧ (∀ j, j ≤ n → fr j ≤ ln v0) ∧ n + 1 < ln v1 ∧ ln v0 < 100000 ∧ ln v1 < 100000 ∧ ln v3 < 100000
section TXT
variable {u : MS} {v0 v1 v3 n N b len : Nat} {fr : Nat → Nat}
theorem tx_in (h : WT3 u v0 v1 v3 fr n) (hb : b + len ≤ ln v3) {w : Nat} (hw : w < n) (hl : fr (w + 1) - fr w = len) : ∀ (m i k : Nat), i + m = len → (eqN (u.2.2.1 v0) (u.2.2.1 v3) (fr w + i) (b + i) m = true ∧ (gg_M_textOf N (k + m + 1)).2.1 u v0 v1 (Int32.ofNat n) v3 (Int32.ofNat b) (Int32.ofNat len) (Int32.ofNat w) 1 (Int32.ofNat i) = some (u, Int32.ofNat w)) ∨ (eqN (u.2.2.1 v0) (u.2.2.1 v3) (fr w + i) (b + i) m = false ∧ ∃ F, k ≤ F ∧ (gg_M_textOf N (k + m + 1)).2.1 u v0 v1 (Int32.ofNat n) v3 (Int32.ofNat b) (Int32.ofNat len) (Int32.ofNat w) 1 (Int32.ofNat i) = (gg_M_textOf N F).1 u v0 v1 (Int32.ofNat n) v3 (Int32.ofNat b) (Int32.ofNat len) (Int32.ofNat (w + 1))) := by
  obtain ⟨h1, h2, h3, h4, h5, h6, h7, h8, h9, h10⟩ := h
  have hm := h5 w hw
  have hq := h6 (w + 1) (by omega)
  intro m
  induction m with
  | zero =>
    intro i k hi
    refine Or.inl ⟨rfl, ?_⟩
    have e2 : decide (Int32.ofNat len ≤ Int32.ofNat i) = true := decide_eq_true ((q_le (by omega) (by omega)).mpr (by omega))
    show fb_M_textOf_35 N (gg_M_textOf N (k + 0)) u v0 v1 _ v3 _ _ _ _ _ = _
    unfold fb_M_textOf_35
    rw [e2]
    rfl
  | succ m ih =>
    intro i k hi
    have e2 : decide (Int32.ofNat len ≤ Int32.ofNat i) = false := decide_eq_false (fun z => absurd ((q_le (by omega) (by omega)).mp z) (by omega))
    have e3 : (u.2.2.1 v1 (Int32.ofNat w).toNatClampNeg) + Int32.ofNat i = Int32.ofNat (fr w + i) := by rw [q_nat (by omega), h4 w (by omega), q_add]
    have e4 : Int32.ofNat b + Int32.ofNat i = Int32.ofNat (b + i) := q_add
    have e5 : inb (Int32.ofNat w) (ln v1) = true := q_inb (by omega) (by omega)
    have e6 : inb (Int32.ofNat (fr w + i)) (ln v0) = true := q_inb (by omega) (by omega)
    have e7 : inb (Int32.ofNat (b + i)) (ln v3) = true := q_inb (by omega) (by omega)
    have key : ∀ t0, fb_M_textOf_71 N (gg_M_textOf N (k + (m + 1))) u v0 v1 (Int32.ofNat n) v3 (Int32.ofNat b) (Int32.ofNat len) (Int32.ofNat w) (Int32.ofNat i) t0 = (gg_M_textOf N (k + m + 1)).2.1 u v0 v1 (Int32.ofNat n) v3 (Int32.ofNat b) (Int32.ofNat len) (Int32.ofNat w) t0 (Int32.ofNat (i + 1)) := fun t0 => by
      unfold fb_M_textOf_71
      rw [q_suc]
      rfl
    have hd : (gg_M_textOf N (k + (m + 1) + 1)).2.1 u v0 v1 (Int32.ofNat n) v3 (Int32.ofNat b) (Int32.ofNat len) (Int32.ofNat w) 1 (Int32.ofNat i) = if u.2.2.1 v0 (fr w + i) = u.2.2.1 v3 (b + i) then (gg_M_textOf N (k + m + 1)).2.1 u v0 v1 (Int32.ofNat n) v3 (Int32.ofNat b) (Int32.ofNat len) (Int32.ofNat w) 1 (Int32.ofNat (i + 1)) else (gg_M_textOf N (k + m + 1)).2.1 u v0 v1 (Int32.ofNat n) v3 (Int32.ofNat b) (Int32.ofNat len) (Int32.ofNat w) 0 (Int32.ofNat (i + 1)) := by
      show fb_M_textOf_35 N (gg_M_textOf N (k + (m + 1))) u v0 v1 _ v3 _ _ _ _ _ = _
      unfold fb_M_textOf_35
      rw [e2, q_ck h2, q_ck e5, q_ck h1, e3, q_ck e6, q_ck h3, e4, q_ck e7, key, key, q_nat (by omega), q_nat (by omega)]
      by_cases hc : u.2.2.1 v0 (fr w + i) = u.2.2.1 v3 (b + i)
      · rw [if_pos hc, decide_eq_true hc]; rfl
      · rw [if_neg hc, decide_eq_false hc]; rfl
    rw [hd]
    by_cases hc : u.2.2.1 v0 (fr w + i) = u.2.2.1 v3 (b + i)
    · rw [if_pos hc]
      have i1 := ih (i + 1) k (by omega)
      have e8 : eqN (u.2.2.1 v0) (u.2.2.1 v3) (fr w + i) (b + i) (m + 1) = eqN (u.2.2.1 v0) (u.2.2.1 v3) (fr w + (i + 1)) (b + (i + 1)) m := by
        show (decide _ && _) = _
        rw [decide_eq_true hc, Bool.true_and]
        rfl
      rw [e8]
      exact i1
    · rw [if_neg hc]
      refine Or.inr ⟨?_, k + m, by omega, ?_⟩
      · show (decide _ && _) = _
        rw [decide_eq_false hc, Bool.false_and]
      · show fb_M_textOf_35 N (gg_M_textOf N (k + m)) u v0 v1 _ v3 _ _ _ _ _ = _
        have e9 : fb_M_textOf_79 N (gg_M_textOf N (k + m)) u v0 v1 (Int32.ofNat n) v3 (Int32.ofNat b) (Int32.ofNat len) (Int32.ofNat w) 0 = (gg_M_textOf N (k + m)).1 u v0 v1 (Int32.ofNat n) v3 (Int32.ofNat b) (Int32.ofNat len) (Int32.ofNat (w + 1)) := by
          unfold fb_M_textOf_79
          rw [q_suc]
          rfl
        unfold fb_M_textOf_35
        rw [e9]
        cases decide (Int32.ofNat len ≤ Int32.ofNat (i + 1)) <;> rfl
theorem tx_out (h : WT3 u v0 v1 v3 fr n) (hb : b + len ≤ ln v3) : ∀ (m w F : Nat), w + m = n → m * (len + 3) + len + 3 ≤ F → (∃ x, skN (u.2.2.1 v0) (u.2.2.1 v3) fr b len w m = some x ∧ (gg_M_textOf N F).1 u v0 v1 (Int32.ofNat n) v3 (Int32.ofNat b) (Int32.ofNat len) (Int32.ofNat w) = some (u, Int32.ofNat x)) ∨ (skN (u.2.2.1 v0) (u.2.2.1 v3) fr b len w m = none ∧ ∃ F2, len + 1 ≤ F2 ∧ (gg_M_textOf N F).1 u v0 v1 (Int32.ofNat n) v3 (Int32.ofNat b) (Int32.ofNat len) (Int32.ofNat w) = (gg_M_textOf N F2).2.2 u v0 v1 (Int32.ofNat n) v3 (Int32.ofNat b) (Int32.ofNat len) 0) := by
  have h0 := h
  obtain ⟨h1, h2, h3, h4, h5, h6, h7, h8, h9, h10⟩ := h
  intro m
  induction m with
  | zero =>
    intro w F hw hF
    obtain ⟨F1, rfl⟩ : ∃ F1, F = F1 + 1 := ⟨F - 1, by omega⟩
    refine Or.inr ⟨rfl, F1, by omega, ?_⟩
    have e2 : decide (Int32.ofNat n ≤ Int32.ofNat w) = true := decide_eq_true ((q_le (by omega) (by omega)).mpr (by omega))
    show fb_M_textOf_3 N (gg_M_textOf N F1) u v0 v1 _ v3 _ _ _ = _
    unfold fb_M_textOf_3
    rw [e2]
    rfl
  | succ m ih =>
    intro w F hw hF
    rw [Nat.succ_mul] at hF
    have hm := h5 w (by omega)
    have hq := h6 (w + 1) (by omega)
    obtain ⟨F1, rfl⟩ : ∃ F1, F = F1 + len + 1 + 1 := ⟨F - len - 2, by omega⟩
    have e2 : decide (Int32.ofNat n ≤ Int32.ofNat w) = false := decide_eq_false (fun z => absurd ((q_le (by omega) (by omega)).mp z) (by omega))
    have e5 : inb (Int32.ofNat w) (ln v1) = true := q_inb (by omega) (by omega)
    have e6 : inb (Int32.ofNat (w + 1)) (ln v1) = true := q_inb (by omega) (by omega)
    have e7 : u.2.2.1 v1 (Int32.ofNat (w + 1)).toNatClampNeg - u.2.2.1 v1 (Int32.ofNat w).toNatClampNeg = Int32.ofNat (fr (w + 1) - fr w) := by
      rw [q_nat (by omega), q_nat (by omega), h4 (w + 1) (by omega), h4 w (by omega), q_sub hm]
    have hd : (gg_M_textOf N (F1 + len + 1 + 1)).1 u v0 v1 (Int32.ofNat n) v3 (Int32.ofNat b) (Int32.ofNat len) (Int32.ofNat w) = (gg_M_textOf N (F1 + len + 1)).2.1 u v0 v1 (Int32.ofNat n) v3 (Int32.ofNat b) (Int32.ofNat len) (Int32.ofNat w) (if fr (w + 1) - fr w = len then 1 else 0) 0 := by
      show fb_M_textOf_3 N (gg_M_textOf N (F1 + len + 1)) u v0 v1 _ v3 _ _ _ = _
      unfold fb_M_textOf_3
      rw [e2, q_suc, q_ck h2, q_ck e6, q_ck h2, q_ck e5, e7]
      by_cases hc : fr (w + 1) - fr w = len
      · rw [if_pos hc, decide_eq_true (by rw [hc])]; rfl
      · rw [if_neg hc, decide_eq_false (fun z => hc (by
          have := congrArg Int32.toNatClampNeg z
          rw [q_nat (by omega), q_nat (by omega)] at this
          exact this))]; rfl
    rw [hd]
    by_cases hc : fr (w + 1) - fr w = len
    · rw [if_pos hc]
      rcases tx_in (N := N) h0 hb (by omega) hc len 0 F1 (by omega) with ⟨a1, a2⟩ | ⟨a1, F2, a2, a3⟩
      · have e8 : skN (u.2.2.1 v0) (u.2.2.1 v3) fr b len w (m + 1) = some w := if_pos ⟨hc, a1⟩
        exact Or.inl ⟨w, e8, a2⟩
      · have e8 : skN (u.2.2.1 v0) (u.2.2.1 v3) fr b len w (m + 1) = skN (u.2.2.1 v0) (u.2.2.1 v3) fr b len (w + 1) m := if_neg (fun z => by
          have := z.2
          rw [show eqN (u.2.2.1 v0) (u.2.2.1 v3) (fr w) b len = false from a1] at this
          cases this)
        rw [e8]
        have i1 := ih (w + 1) F2 (by omega) (by omega)
        rw [show (gg_M_textOf N (F1 + len + 1)).2.1 u v0 v1 (Int32.ofNat n) v3 (Int32.ofNat b) (Int32.ofNat len) (Int32.ofNat w) 1 0 = _ from a3]
        exact i1
    · rw [if_neg hc]
      have e8 : skN (u.2.2.1 v0) (u.2.2.1 v3) fr b len w (m + 1) = skN (u.2.2.1 v0) (u.2.2.1 v3) fr b len (w + 1) m := if_neg (fun z => hc z.1)
      rw [e8]
      have i1 := ih (w + 1) (F1 + len) (by omega) (by omega)
      have e9 : (gg_M_textOf N (F1 + len + 1)).2.1 u v0 v1 (Int32.ofNat n) v3 (Int32.ofNat b) (Int32.ofNat len) (Int32.ofNat w) 0 0 = (gg_M_textOf N (F1 + len)).1 u v0 v1 (Int32.ofNat n) v3 (Int32.ofNat b) (Int32.ofNat len) (Int32.ofNat (w + 1)) := by
        show fb_M_textOf_35 N (gg_M_textOf N (F1 + len)) u v0 v1 _ v3 _ _ _ _ _ = _
        have e9 : fb_M_textOf_79 N (gg_M_textOf N (F1 + len)) u v0 v1 (Int32.ofNat n) v3 (Int32.ofNat b) (Int32.ofNat len) (Int32.ofNat w) 0 = (gg_M_textOf N (F1 + len)).1 u v0 v1 (Int32.ofNat n) v3 (Int32.ofNat b) (Int32.ofNat len) (Int32.ofNat (w + 1)) := by
          unfold fb_M_textOf_79
          rw [q_suc]
          rfl
        unfold fb_M_textOf_35
        rw [e9]
        cases decide (Int32.ofNat len ≤ 0) <;> rfl
      rw [e9]
      exact i1
end TXT
end
section
set_option maxRecDepth 100000
theorem q_b0 {α : Type} {x y : α} : br false x y = y := rfl
theorem q_b1 {α : Type} {x y : α} : br true x y = x := rfl
theorem upA_self {u : MS} {k : Nat} {g : Nat → Int32} : (upA u k g).2.2.1 k = g := by
  show (if k = k then g else _) = g
  rw [if_pos rfl]
theorem upA_ne {u : MS} {k j : Nat} {g : Nat → Int32} (h : j ≠ k) : (upA u k g).2.2.1 j = u.2.2.1 j := by
  show (if j = k then g else u.2.2.1 j) = _
  rw [if_neg h]
theorem upA_upA {u : MS} {k : Nat} {g g2 : Nat → Int32} : upA (upA u k g) k g2 = upA u k g2 := by
  unfold upA
  congr 3
  funext j
  by_cases h : j = k <;> simp [h]
def put (sg tx : Nat → Int32) (fn b m : Nat) : Nat → Int32 := fun j => if fn ≤ j ∧ j < fn + m then tx (b + (j - fn)) else sg j
theorem put_0 {sg tx : Nat → Int32} {fn b : Nat} : put sg tx fn b 0 = sg := by
  funext j
  unfold put
  rw [if_neg (by omega)]
theorem put_s {sg tx : Nat → Int32} {fn b m : Nat} : upd (put sg tx fn b m) (fn + m) (tx (b + m)) = put sg tx fn b (m + 1) := by
  funext j
  by_cases h : j = fn + m
  · subst h
    simp only [upd, if_true]
    unfold put
    rw [if_pos (by omega), show fn + m - fn = m from by omega]
  · simp only [upd, h, if_false]
    unfold put
    by_cases h2 : fn ≤ j ∧ j < fn + m
    · rw [if_pos h2, if_pos (by omega)]
    · rw [if_neg h2, if_neg (by omega)]
def nrB (x : Int32) : Int32 := vp_nar .byte x
def nwT (u : MS) (v0 v1 v3 fn n b len : Nat) : MS := upA (upA u v0 (put (u.2.2.1 v0) (fun j => nrB (u.2.2.1 v3 j)) fn b len)) v1 (upd (u.2.2.1 v1) (n + 1) (Int32.ofNat (fn + len)))
section TXA
variable {u : MS} {v0 v1 v3 n N b len : Nat} {fr : Nat → Nat}
theorem tx_app (h : WT3 u v0 v1 v3 fr n) (hb : b + len ≤ ln v3) (hf : fr n + len ≤ ln v0) (h01 : v1 ≠ v0) (h03 : v3 ≠ v0) : ∀ (m i k : Nat), i + m = len → (gg_M_textOf N (k + m + 1)).2.2 (upA u v0 (put (u.2.2.1 v0) (fun j => nrB (u.2.2.1 v3 j)) (fr n) b i)) v0 v1 (Int32.ofNat n) v3 (Int32.ofNat b) (Int32.ofNat len) (Int32.ofNat i) = some (nwT u v0 v1 v3 (fr n) n b len, Int32.ofNat n) := by
  obtain ⟨h1, h2, h3, h4, h5, h6, h7, h8, h9, h10⟩ := h
  intro m
  induction m with
  | zero =>
    intro i k hi
    have e2 : decide (Int32.ofNat len ≤ Int32.ofNat i) = true := decide_eq_true ((q_le (by omega) (by omega)).mpr (by omega))
    have e5 : inb (Int32.ofNat n) (ln v1) = true := q_inb (by omega) (by omega)
    have e6 : inb (Int32.ofNat (n + 1)) (ln v1) = true := q_inb (by omega) (by omega)
    show fb_M_textOf_96 N (gg_M_textOf N (k + 0)) _ v0 v1 _ v3 _ _ _ = _
    unfold fb_M_textOf_96
    rw [e2, q_ck h2, q_ck e5, q_ck h2, q_suc, q_ck e6, upA_ne h01, q_nat (by omega), q_nat (by omega), h4 n (Nat.le_refl _), q_add, show i = len from by omega]
    rfl
  | succ m ih =>
    intro i k hi
    have e2 : decide (Int32.ofNat len ≤ Int32.ofNat i) = false := decide_eq_false (fun z => absurd ((q_le (by omega) (by omega)).mp z) (by omega))
    have e5 : inb (Int32.ofNat n) (ln v1) = true := q_inb (by omega) (by omega)
    have e6 : inb (Int32.ofNat (b + i)) (ln v3) = true := q_inb (by omega) (by omega)
    have e7 : inb (Int32.ofNat (fr n + i)) (ln v0) = true := q_inb (by omega) (by omega)
    have i1 := ih (i + 1) k (by omega)
    show fb_M_textOf_96 N (gg_M_textOf N (k + (m + 1))) _ v0 v1 _ v3 _ _ _ = _
    unfold fb_M_textOf_96
    rw [e2, q_b0, q_ck h2, q_ck e5, q_ck h3, q_add, q_ck e6, q_ck h1, upA_ne h01, upA_ne h03, upA_self, q_nat (k := n) (by omega), q_nat (k := b + i) (by omega), h4 n (Nat.le_refl _), q_add, q_ck e7, q_nat (k := fr n + i) (by omega), q_suc, upA_upA]
    have e8 := put_s (sg := u.2.2.1 v0) (tx := fun j => nrB (u.2.2.1 v3 j)) (fn := fr n) (b := b) (m := i)
    rw [← e8] at i1
    exact i1
theorem tx_ok (h : WT3 u v0 v1 v3 fr n) (hb : b + len ≤ ln v3) (hf : fr n + len ≤ ln v0) (h01 : v1 ≠ v0) (h03 : v3 ≠ v0) (hN : n * (len + 3) + len + 3 ≤ N) : fm_M_textOf N u v0 v1 (Int32.ofNat n) v3 (Int32.ofNat b) (Int32.ofNat len) = match skN (u.2.2.1 v0) (u.2.2.1 v3) fr b len 0 n with
    | some x => some (u, Int32.ofNat x)
    | none => some (nwT u v0 v1 v3 (fr n) n b len, Int32.ofNat n) := by
  have e1 : fm_M_textOf N u v0 v1 (Int32.ofNat n) v3 (Int32.ofNat b) (Int32.ofNat len) = (gg_M_textOf N N).1 u v0 v1 (Int32.ofNat n) v3 (Int32.ofNat b) (Int32.ofNat len) (Int32.ofNat 0) := rfl
  rw [e1]
  rcases tx_out (N := N) h hb n 0 N (by omega) hN with ⟨x, a1, a2⟩ | ⟨a1, F, a2, a3⟩
  · rw [a1]; exact a2
  · rw [a1, a3]
    have a4 := tx_app (N := N) h hb hf h01 h03 len 0 (F - (len + 1)) (by omega)
    rw [put_0, show F - (len + 1) + len + 1 = F from by omega] at a4
    have e3 : upA u v0 (u.2.2.1 v0) = u := by
      unfold upA
      have : (fun j => if j = v0 then u.2.2.1 v0 else u.2.2.1 j) = u.2.2.1 := by
        funext j
        by_cases hj : j = v0
        · rw [if_pos hj, hj]
        · rw [if_neg hj]
      rw [this]
    rw [e3] at a4
    exact a4
end TXA
end
section
set_option maxRecDepth 100000
theorem sk_cp {u : CS} (h : skB u = true) {a0 a1 n0 n1 b fn len : Nat} (hi0 : a0 < 57) (hi1 : a1 < 57) (ht0 : tbl.getD a0 (9, []) = (0, [3, n0])) (ht1 : tbl.getD a1 (9, []) = (0, [3, n1])) (hb : b + len ≤ n0) (hf : fn + len ≤ n1) (hn0 : n0 < 100000) (hn1 : n1 < 100000) (hB : ∀ j, j < n0 → fits .byte (.int (AI u a0 j)) = true) : cpI u 3 a0 (Int32.ofNat b) a1 (Int32.ofNat fn) (Int32.ofNat len) = some (uA u a1 (put (AI u a1) (AI u a0) fn b len)) := by
  obtain ⟨c1, c2⟩ := sk_a h hi0 ht0
  obtain ⟨c3, c4⟩ := sk_a h hi1 ht1
  have z : ∀ k : Nat, k < 100000 → ¬ Int32.ofNat k < 0 := fun k hk z => absurd ((q_lt (a := k) (b := 0) (by omega) (by decide)).mp z) (by omega)
  have e1 : oA u a0 3 = some (n0, AI u a0) := by unfold oA; rw [if_pos c1, c2]; simp
  have e2 : oA u a1 3 = some (n1, AI u a1) := by unfold oA; rw [if_pos c3, c4]; simp
  have e3 : cpOk (Int32.ofNat b) (Int32.ofNat fn) (Int32.ofNat len) n0 n1 = true := by
    unfold cpOk
    rw [q_nat (k := b) (by omega), q_nat (k := fn) (by omega), q_nat (k := len) (by omega)]
    exact decide_eq_true ⟨z b (by omega), z fn (by omega), z len (by omega), hb, hf⟩
  have e4 : ftB 3 (AI u a0) b len = true := by
    unfold ftB
    rw [if_pos rfl]
    exact List.all_eq_true.mpr (fun i hi => hB _ (by have := List.mem_range.mp hi; omega))
  unfold cpI
  rw [e1, q_bo, e2, q_bo, q_ck e3, q_nat (k := b) (by omega), q_nat (k := fn) (by omega), q_nat (k := len) (by omega), q_ck e4]
  unfold uA
  rw [c4]
  rfl
def WF (u : CS) (v0 : Nat) (fr : Nat → Nat) (n : Nat) : Prop := FI u v0 2 = Int32.ofNat n ∧ (∀ j, j ≤ n → AI u (v0 + 2) j = Int32.ofNat (fr j)) ∧ (∀ j, j < n → fr j ≤ fr (j + 1)) ∧ (∀ j, j ≤ n → fr j ≤ 4300) ∧ n < 2101
def nwW (u : CS) (v0 fn n b len : Nat) : CS := uF (uA (uA u (v0 + 1) (put (AI u (v0 + 1)) (AI u 5) fn b len)) (v0 + 2) (upd (AI u (v0 + 2)) (n + 1) (Int32.ofNat (fn + len)))) v0 2 (.inl (Int32.ofNat (n + 1)))
theorem WD_at {u : CS} {fr : Nat → Nat} {n : Nat} (h : skB u = true) (hw : WF u 1 fr n) : WD u 1 2 3 4300 (n + 1) (AI u 2) fr n := by
  obtain ⟨h1, h2, h3, h4, h5⟩ := hw
  refine ⟨io_1 h, by rw [gi_1_2 h, h1], gr_1_0 h, gr_1_1 h, fun j hj => ?_, fun j hj => ?_, h3, h4, by omega, by decide, by omega⟩
  · rw [ai_3 h, if_pos (q_inb (by omega) (by decide)), q_nat (by omega), h2 j (by omega)]
  · rw [ai_2 h, if_pos (q_inb hj (by decide)), q_nat (by omega)]
theorem find_at {u : CS} {fr : Nat → Nat} {n N b len : Nat} (h : skB u = true) (hw : WF u 1 fr n) (hb : b + len ≤ 4000) (hB : ∀ j, j < 4000 → fits .byte (.int (AI u 5 j)) = true) (hn : n + 1 < 2101) (hf : fr n + len ≤ 4300) (hN : len + 1 ≤ N) (hN2 : n + 1 ≤ N) : fm_Wo_find N u 1 (some 5) (Int32.ofNat b) (Int32.ofNat len) = match skN (AI u 2) (AI u 5) fr b len 0 n with
    | some x => some (u, Int32.ofNat x)
    | none => some (nwW u 1 (fr n) n b len, Int32.ofNat n) := by
  have ht : TX u 5 4000 (AI u 5) := ⟨fun j hj => by rw [ai_5 h, if_pos (q_inb hj (by decide)), q_nat (by omega)], by decide⟩
  have h1 := seek_ok (N := N) (WD_at h hw) ht hb hN hN2
  obtain ⟨w1, w2, w3, w4, w5⟩ := hw
  have sx : ∀ w m x, skN (AI u 2) (AI u 5) fr b len w m = some x → x < w + m := by
    intro w m
    induction m generalizing w with
    | zero => intro x hx; cases hx
    | succ m ih =>
      intro x hx
      unfold skN at hx
      split at hx
      · cases hx; omega
      · have := ih (w + 1) x hx; omega
  have sx := sx 0 n
  unfold fm_Wo_find fb_Wo_find_0
  rw [q_ck (io_1 h), h1, q_bx]
  cases hs : skN (AI u 2) (AI u 5) fr b len 0 n with
  | some x =>
    have hx := sx x hs
    have e1 : decide (noI (some x) = (-1 : Int32)) = false := decide_eq_false (fun z => by
      have h9 : ¬ Int32.ofNat x < 0 := fun z => absurd ((q_lt (a := x) (b := 0) (by omega) (by decide)).mp z) (by omega)
      exact h9 (by rw [show Int32.ofNat x = -1 from z]; decide))
    show br (decide (noI (some x) = (-1 : Int32))) _ _ = _
    rw [e1]
    rfl
  | none =>
    show br (decide (noI none = (-1 : Int32))) _ _ = _
    rw [show decide (noI none = (-1 : Int32)) = true from by decide, q_b1]
    have a1 := sa_2 (g := put (AI u 2) (AI u 5) (fr n) b len) h
    have a2 := sa_3 (g := upd (AI u 3) (n + 1) (Int32.ofNat (fr n + len))) a1
    have e2 : decide ((2101 : Int32) ≤ Int32.ofNat (n + 1)) = false := decide_eq_false (fun z => absurd ((q_le (a := 2101) (b := n + 1) (by decide) (by omega)).mp z) (by omega))
    have e3 : decide (Int32.ofNat (fr n + len) ≤ (4300 : Int32)) = true := decide_eq_true ((q_le (a := fr n + len) (b := 4300) (by omega) (by decide)).mpr hf)
    have c1 := sk_cp (a0 := 5) (a1 := 2) (b := b) (fn := fr n) (len := len) h (by decide) (by decide) rfl rfl hb hf (by decide) (by decide) hB
    have i1 : inb (Int32.ofNat n) 2101 = true := q_inb (by omega) (by decide)
    have i2 : inb (Int32.ofNat (n + 1)) 2101 = true := q_inb (by omega) (by decide)
    simp only [gi_1_2 h, gr_1_1 h, gr_1_0 h, na_3 h, na_2 h, q_bo, w1, q_suc, e2, q_b0, ai_3 h, i1, if_true, q_nat (k := n) (by omega), w2 n (Nat.le_refl _), q_add, e3, q_b1, c1, gr_1_1 a1, gi_1_2 a1, ai_3 a1, FI_A, AI_A (show 3 ≠ 2 by decide), si_3 a1, q_suc, i2, q_nat (k := n + 1) (by omega), gi_1_2 a2, pf_1_2 a2, gi_1_2 (sf_1_2 a2), fi_1_2 a2]
    show some (_, Int32.ofNat (n + 1) - 1) = _
    rw [← q_suc n, Int32.add_sub_cancel]
    unfold nwW
    rw [q_suc]
theorem WD_na {u : CS} {fr : Nat → Nat} {n : Nat} (h : skB u = true) (hw : WF u 12 fr n) : WD u 12 13 14 4300 (n + 1) (AI u 13) fr n := by
  obtain ⟨h1, h2, h3, h4, h5⟩ := hw
  refine ⟨io_12 h, by rw [gi_12_2 h, h1], gr_12_0 h, gr_12_1 h, fun j hj => ?_, fun j hj => ?_, h3, h4, by omega, by decide, by omega⟩
  · rw [ai_14 h, if_pos (q_inb (by omega) (by decide)), q_nat (by omega), h2 j (by omega)]
  · rw [ai_13 h, if_pos (q_inb hj (by decide)), q_nat (by omega)]
theorem find_na {u : CS} {fr : Nat → Nat} {n N b len : Nat} (h : skB u = true) (hw : WF u 12 fr n) (hb : b + len ≤ 4000) (hB : ∀ j, j < 4000 → fits .byte (.int (AI u 5 j)) = true) (hn : n + 1 < 2101) (hf : fr n + len ≤ 4300) (hN : len + 1 ≤ N) (hN2 : n + 1 ≤ N) : fm_Wo_find N u 12 (some 5) (Int32.ofNat b) (Int32.ofNat len) = match skN (AI u 13) (AI u 5) fr b len 0 n with
    | some x => some (u, Int32.ofNat x)
    | none => some (nwW u 12 (fr n) n b len, Int32.ofNat n) := by
  have ht : TX u 5 4000 (AI u 5) := ⟨fun j hj => by rw [ai_5 h, if_pos (q_inb hj (by decide)), q_nat (by omega)], by decide⟩
  have h1 := seek_ok (N := N) (WD_na h hw) ht hb hN hN2
  obtain ⟨w1, w2, w3, w4, w5⟩ := hw
  have sx : ∀ w m x, skN (AI u 13) (AI u 5) fr b len w m = some x → x < w + m := by
    intro w m
    induction m generalizing w with
    | zero => intro x hx; cases hx
    | succ m ih =>
      intro x hx
      unfold skN at hx
      split at hx
      · cases hx; omega
      · have := ih (w + 1) x hx; omega
  have sx := sx 0 n
  unfold fm_Wo_find fb_Wo_find_0
  rw [q_ck (io_12 h), h1, q_bx]
  cases hs : skN (AI u 13) (AI u 5) fr b len 0 n with
  | some x =>
    have hx := sx x hs
    have e1 : decide (noI (some x) = (-1 : Int32)) = false := decide_eq_false (fun z => by
      have h9 : ¬ Int32.ofNat x < 0 := fun z => absurd ((q_lt (a := x) (b := 0) (by omega) (by decide)).mp z) (by omega)
      exact h9 (by rw [show Int32.ofNat x = -1 from z]; decide))
    show br (decide (noI (some x) = (-1 : Int32))) _ _ = _
    rw [e1]
    rfl
  | none =>
    show br (decide (noI none = (-1 : Int32))) _ _ = _
    rw [show decide (noI none = (-1 : Int32)) = true from by decide, q_b1]
    have a1 := sa_13 (g := put (AI u 13) (AI u 5) (fr n) b len) h
    have a2 := sa_14 (g := upd (AI u 14) (n + 1) (Int32.ofNat (fr n + len))) a1
    have e2 : decide ((2101 : Int32) ≤ Int32.ofNat (n + 1)) = false := decide_eq_false (fun z => absurd ((q_le (a := 2101) (b := n + 1) (by decide) (by omega)).mp z) (by omega))
    have e3 : decide (Int32.ofNat (fr n + len) ≤ (4300 : Int32)) = true := decide_eq_true ((q_le (a := fr n + len) (b := 4300) (by omega) (by decide)).mpr hf)
    have c1 := sk_cp (a0 := 5) (a1 := 13) (b := b) (fn := fr n) (len := len) h (by decide) (by decide) rfl rfl hb hf (by decide) (by decide) hB
    have i1 : inb (Int32.ofNat n) 2101 = true := q_inb (by omega) (by decide)
    have i2 : inb (Int32.ofNat (n + 1)) 2101 = true := q_inb (by omega) (by decide)
    simp only [gi_12_2 h, gr_12_1 h, gr_12_0 h, na_14 h, na_13 h, q_bo, w1, q_suc, e2, q_b0, ai_14 h, i1, if_true, q_nat (k := n) (by omega), w2 n (Nat.le_refl _), q_add, e3, q_b1, c1, gr_12_1 a1, gi_12_2 a1, ai_14 a1, FI_A, AI_A (show 14 ≠ 13 by decide), si_14 a1, q_suc, i2, q_nat (k := n + 1) (by omega), gi_12_2 a2, pf_12_2 a2, gi_12_2 (sf_12_2 a2), fi_12_2 a2]
    show some (_, Int32.ofNat (n + 1) - 1) = _
    rw [← q_suc n, Int32.add_sub_cancel]
    unfold nwW
    rw [q_suc]
end
section
set_option maxRecDepth 100000
theorem eqN_congr {sg sg2 tx tx2 : Nat → Int32} : ∀ (m a b : Nat), (∀ i, i < m → sg (a + i) = sg2 (a + i)) → (∀ i, i < m → tx (b + i) = tx2 (b + i)) → eqN sg tx a b m = eqN sg2 tx2 a b m := by
  intro m
  induction m with
  | zero => intro a b _ _; rfl
  | succ m ih =>
    intro a b h1 h2
    have e1 : sg a = sg2 a := h1 0 (by omega)
    have e2 : tx b = tx2 b := h2 0 (by omega)
    show (decide (sg a = tx b) && _) = (decide (sg2 a = tx2 b) && _)
    rw [e1, e2, ih (a + 1) (b + 1) (fun i hi => by have := h1 (i + 1) (by omega); rw [show a + 1 + i = a + (i + 1) from by omega]; exact this) (fun i hi => by have := h2 (i + 1) (by omega); rw [show b + 1 + i = b + (i + 1) from by omega]; exact this)]
theorem skN_congr {sg sg2 tx tx2 : Nat → Int32} {fr : Nat → Nat} {b len n : Nat} (hm : ∀ j, j < n → fr j ≤ fr (j + 1)) (h1 : ∀ j, j < fr n → sg j = sg2 j) (h2 : ∀ i, i < len → tx (b + i) = tx2 (b + i)) : ∀ (m w : Nat), w + m = n → skN sg tx fr b len w m = skN sg2 tx2 fr b len w m := by
  have mono : ∀ k j, j + k = n → fr j ≤ fr n := by
    intro k
    induction k with
    | zero => intro j hj; rw [show j = n from by omega]; exact Nat.le_refl _
    | succ k ih => intro j hj; exact Nat.le_trans (hm j (by omega)) (ih (j + 1) (by omega))
  intro m
  induction m with
  | zero => intro w _; rfl
  | succ m ih =>
    intro w hw
    show (if fr (w + 1) - fr w = len ∧ eqN sg tx (fr w) b len = true then some w else skN sg tx fr b len (w + 1) m) = (if fr (w + 1) - fr w = len ∧ eqN sg2 tx2 (fr w) b len = true then some w else skN sg2 tx2 fr b len (w + 1) m)
    rw [ih (w + 1) (by omega)]
    by_cases hl : fr (w + 1) - fr w = len
    · have hq := mono m (w + 1) (by omega)
      have h3 := hm w (by omega)
      rw [eqN_congr (sg := sg) (sg2 := sg2) (tx := tx) (tx2 := tx2) len (fr w) b (fun i hi => h1 _ (by omega)) h2]
    · rw [if_neg (fun z => hl z.1), if_neg (fun z => hl z.1)]
def AT (u : CS) (w : MS) (fr : Nat → Nat) (n : Nat) : Prop := WF u 1 fr n ∧ WT3 w 12 13 4 fr n ∧ w.1 14 = Int32.ofNat n ∧ ∀ j, j < fr n → AI u 2 j = w.2.2.1 12 j
def frN (fr : Nat → Nat) (n len : Nat) : Nat → Nat := fun j => if j = n + 1 then fr n + len else fr j
def bytB (g : Nat → Int32) : Prop := ∀ j, j < 4000 → nrB (g j) = g j
theorem nrB_eq (x : Int32) : nrB x = x.toInt8.toInt32 := rfl
theorem fits_B {x : Int32} (h : nrB x = x) : fits .byte (.int x) = true := by
  rw [← h, nrB_eq]
  have h1 := Int8.toInt_lt x.toInt8
  have h2 := Int8.le_toInt x.toInt8
  have e1 : (x.toInt8.toInt32).toInt = x.toInt8.toInt := Int8.toInt_toInt32 _
  have a1 : (-128 : Int32) ≤ x.toInt8.toInt32 := Int32.le_iff_toInt_le.mpr (by rw [e1]; show (-128 : Int) ≤ _; omega)
  have a2 : x.toInt8.toInt32 ≤ (127 : Int32) := Int32.le_iff_toInt_le.mpr (by rw [e1]; show _ ≤ (127 : Int); omega)
  show ((decide (-128 ≤ x.toInt8.toInt32)) && (decide (x.toInt8.toInt32 ≤ 127))) = true
  rw [decide_eq_true a1, decide_eq_true a2]
  rfl
theorem WF_new {u : CS} {fr : Nat → Nat} {n b len : Nat} (h : skB u = true) (hw : WF u 1 fr n) (hn : n + 1 < 2101) (hf : fr n + len ≤ 4300) : WF (nwW u 1 (fr n) n b len) 1 (frN fr n len) (n + 1) := by
  obtain ⟨h1, h2, h3, h4, h5⟩ := hw
  have a1 := sa_2 (g := put (AI u 2) (AI u 5) (fr n) b len) h
  have a2 := sa_3 (g := upd (AI u 3) (n + 1) (Int32.ofNat (fr n + len))) a1
  have e3 : AI (nwW u 1 (fr n) n b len) 3 = upd (AI u 3) (n + 1) (Int32.ofNat (fr n + len)) := by
    show AI (uF (uA (uA u 2 (put (AI u 2) (AI u 5) (fr n) b len)) 3 (upd (AI u 3) (n + 1) (Int32.ofNat (fr n + len)))) 1 2 _) 3 = _
    rw [AI_F, fa_3 a1]
  refine ⟨fi_1_2 a2, fun j hj => ?_, fun j hj => ?_, fun j hj => ?_, hn⟩
  · show AI (nwW u 1 (fr n) n b len) 3 j = _
    rw [e3]
    unfold frN
    by_cases e : j = n + 1
    · simp [upd, e]
    · simp [upd, e, h2 j (by omega)]
  · unfold frN
    by_cases e : j = n
    · subst e; simp
    · rw [if_neg (by omega), if_neg (by omega)]
      exact h3 j (by omega)
  · unfold frN
    by_cases e : j = n + 1
    · rw [if_pos e]; exact hf
    · rw [if_neg e]; exact h4 j (by omega)
theorem AI_2_new {u : CS} {fn n b len : Nat} (h : skB u = true) : AI (nwW u 1 fn n b len) 2 = put (AI u 2) (AI u 5) fn b len := by
  show AI (uF (uA (uA u 2 (put (AI u 2) (AI u 5) fn b len)) 3 _) 1 2 _) 2 = _
  rw [AI_F, AI_A (by decide), fa_2 h]
theorem WT3_new {w : MS} {fr : Nat → Nat} {n b len : Nat} (hw : WT3 w 12 13 4 fr n) (hn : n + 2 < ln 13) (hf : fr n + len ≤ ln 12) : WT3 (nwT w 12 13 4 (fr n) n b len) 12 13 4 (frN fr n len) (n + 1) := by
  obtain ⟨h1, h2, h3, h4, h5, h6, h7, h8, h9, h10⟩ := hw
  refine ⟨h1, h2, h3, fun j hj => ?_, fun j hj => ?_, fun j hj => ?_, by omega, h8, h9, h10⟩
  · show (upA _ 13 _).2.2.1 13 j = _
    rw [upA_self]
    unfold frN
    by_cases e : j = n + 1
    · simp [upd, e]
    · simp [upd, e, h4 j (by omega)]
  · unfold frN
    by_cases e : j = n
    · subst e; simp
    · rw [if_neg (by omega), if_neg (by omega)]
      exact h5 j (by omega)
  · unfold frN
    by_cases e : j = n + 1
    · rw [if_pos e]; exact hf
    · rw [if_neg e]; exact h6 j (by omega)
theorem fr_mono {fr : Nat → Nat} {n : Nat} (hm : ∀ j, j < n → fr j ≤ fr (j + 1)) : ∀ k j, j + k = n → fr j ≤ fr n := by
  intro k
  induction k with
  | zero => intro j hj; rw [show j = n from by omega]; exact Nat.le_refl _
  | succ k ih => intro j hj; exact Nat.le_trans (hm j (by omega)) (ih (j + 1) (by omega))
theorem AT_step {u : CS} {w : MS} {fr : Nat → Nat} {n N b len : Nat} (h : skB u = true) (ha : AT u w fr n) (hb : b + len ≤ 4000) (hB : bytB (AI u 5)) (ht : ∀ i, i < len → AI u 5 (b + i) = w.2.2.1 4 (b + i)) (hn : n + 1 < 2101) (hf : fr n + len ≤ 4300) (hN : n * (len + 3) + len + 3 ≤ N) : ∃ u2 w2 fr2 n2 r, fm_Wo_find N u 1 (some 5) (Int32.ofNat b) (Int32.ofNat len) = some (u2, Int32.ofNat r) ∧ fm_M_atom N w 4 (Int32.ofNat b) (Int32.ofNat len) = some (w2, Int32.ofNat r) ∧ skB u2 = true ∧ AT u2 w2 fr2 n2 ∧ r < n2 ∧ ((u2 = u ∧ w2 = upI w 14 (Int32.ofNat n) ∧ fr2 = fr ∧ n2 = n) ∨ (u2 = nwW u 1 (fr n) n b len ∧ w2 = upI (nwT w 12 13 4 (fr n) n b len) 14 (Int32.ofNat (n + 1)) ∧ fr2 = frN fr n len ∧ n2 = n + 1 ∧ r = n)) := by
  obtain ⟨hw, hw2, h14, hs⟩ := ha
  have hmul : n ≤ n * (len + 3) := Nat.le_mul_of_pos_right n (by omega)
  have f1 := find_at (N := N) h hw hb (fun j hj => fits_B (hB j hj)) hn hf (by omega) (by omega)
  have l13 : ln 13 = 2200 := rfl
  have l12 : ln 12 = 5000 := rfl
  have f2 := tx_ok (N := N) (b := b) (len := len) hw2 hb (by omega) (by decide) (by decide) hN
  have hsk := skN_congr (sg := AI u 2) (sg2 := w.2.2.1 12) (tx := AI u 5) (tx2 := w.2.2.1 4) (fr := fr) (b := b) (len := len) (n := n) hw.2.2.1 hs ht n 0 (by omega)
  have fm : fm_M_atom N w 4 (Int32.ofNat b) (Int32.ofNat len) = bnd (fm_M_textOf N w 12 13 (Int32.ofNat n) 4 (Int32.ofNat b) (Int32.ofNat len)) (fun u2 r2 => br (decide (r2 = (u2.1 14))) (fb_M_atom_43 N () u2 (r2) (((u2.1 14) + 1))) (fb_M_atom_43 N () u2 (r2) ((u2.1 14)))) := by
    unfold fm_M_atom fb_M_atom_0
    rw [h14]
  rw [fm, f2, ← hsk, f1]
  cases hc : skN (AI u 2) (AI u 5) fr b len 0 n with
  | some x =>
    have hx : x < n := by
      have sx : ∀ w m x, skN (AI u 2) (AI u 5) fr b len w m = some x → x < w + m := by
        intro w m
        induction m generalizing w with
        | zero => intro x hx; cases hx
        | succ m ih =>
          intro x hx
          unfold skN at hx
          split at hx
          · cases hx; omega
          · have := ih (w + 1) x hx; omega
      have := sx 0 n x hc
      omega
    have e1 : decide (Int32.ofNat x = w.1 14) = false := by
      rw [h14]
      exact decide_eq_false (fun z => by
        have := congrArg Int32.toNatClampNeg z
        rw [q_nat (by omega), q_nat (by omega)] at this
        omega)
    refine ⟨u, upI w 14 (Int32.ofNat n), fr, n, x, rfl, ?_, h, ⟨hw, hw2, rfl, hs⟩, hx, Or.inl ⟨rfl, rfl, rfl, rfl⟩⟩
    show br (decide (Int32.ofNat x = w.1 14)) _ _ = _
    rw [e1, q_b0, h14]
    rfl
  | none =>
    have e0 : (nwT w 12 13 4 (fr n) n b len).1 14 = Int32.ofNat n := h14
    have s1 : skB (nwW u 1 (fr n) n b len) = true := sf_1_2 (sa_3 (sa_2 h))
    refine ⟨nwW u 1 (fr n) n b len, upI (nwT w 12 13 4 (fr n) n b len) 14 (Int32.ofNat (n + 1)), frN fr n len, n + 1, n, rfl, ?_, s1, ⟨WF_new h hw hn hf, WT3_new hw2 (by omega) (by omega), rfl, fun j hj => ?_⟩, by omega, Or.inr ⟨rfl, rfl, rfl, rfl, rfl⟩⟩
    · show br (decide (Int32.ofNat n = (nwT w 12 13 4 (fr n) n b len).1 14)) _ _ = _
      rw [e0, show decide (Int32.ofNat n = Int32.ofNat n) = true from decide_eq_true rfl, q_b1, q_suc]
      rfl
    · have hj : j < fr n + len := by
        have : frN fr n len (n + 1) = fr n + len := by unfold frN; rw [if_pos rfl]
        rw [this] at hj
        exact hj
      rw [AI_2_new h]
      show put (AI u 2) (AI u 5) (fr n) b len j = (upA (upA w 12 _) 13 _).2.2.1 12 j
      rw [upA_ne (by decide), upA_self]
      unfold put
      by_cases e : fr n ≤ j ∧ j < fr n + len
      · rw [if_pos e, if_pos e]
        have := ht (j - fr n) (by omega)
        show AI u 5 (b + (j - fr n)) = nrB (w.2.2.1 4 (b + (j - fr n)))
        rw [← this]
        exact (hB _ (by omega)).symm
      · rw [if_neg e, if_neg e]
        exact hs j (by omega)
end
section
set_option maxRecDepth 100000
def isDg (c : Int32) : Bool := !decide (c < 48) && !decide (57 < c)
def isSm (c : Int32) : Bool := !decide (c < 97) && !decide (122 < c)
def isGr (c : Int32) : Bool := (!decide (c < 65) && decide (c ≤ 90)) || decide (c = 95)
def isW (c : Int32) : Bool := isDg c || isSm c || isGr c
def b2i (b : Bool) : Int32 := if b = true then 1 else 0
section SGN
variable {N : Nat} {u : CS} {w : MS} {c : Int32}
theorem dgC : fm_To_isDigit N u c = some (u, b2i (isDg c)) := by
  unfold fm_To_isDigit fb_To_isDigit_0 isDg
  cases decide (c < 48) <;> cases decide (57 < c) <;> rfl
theorem dgM : fm_M_isDigit N w c = some (w, b2i (isDg c)) := by
  unfold fm_M_isDigit fb_M_isDigit_0 isDg
  cases decide (c < 48) <;> cases decide (57 < c) <;> rfl
theorem smM : fm_M_isSmall N w c = some (w, b2i (isSm c)) := by
  unfold fm_M_isSmall fb_M_isSmall_0 isSm
  cases decide (c < 97) <;> cases decide (122 < c) <;> rfl
theorem grM : fm_M_isGreat N w c = some (w, b2i (isGr c)) := by
  unfold fm_M_isGreat fb_M_isGreat_0 fb_M_isGreat_12 isGr
  cases decide (c < 65) <;> cases decide (c ≤ 90) <;> cases decide (c = 95) <;> rfl
theorem inM : fm_M_isInner N w c = some (w, b2i (isW c)) := by
  unfold fm_M_isInner fb_M_isInner_0 isW
  rw [smM, q_bn, grM, q_bn, dgM, q_bn]
  cases isSm c <;> cases isGr c <;> cases isDg c <;> rfl
theorem woC : fm_To_isWordly N u c = some (u, b2i (isW c)) := by
  unfold fm_To_isWordly fb_To_isWordly_0 fb_To_isWordly_19 fb_To_isWordly_31 isW isSm isGr
  rw [dgC, q_bx]
  have h1 : decide (c ≤ 122) = !decide (122 < c) := by
    by_cases h : 122 < c
    · rw [decide_eq_true h, decide_eq_false (Int32.not_le.mpr h)]; rfl
    · rw [decide_eq_false h, decide_eq_true (Int32.not_lt.mp h)]; rfl
  rw [h1]
  cases isDg c <;> cases decide (c < 97) <;> cases decide (122 < c) <;> cases decide (c < 65) <;> cases decide (c ≤ 90) <;> cases decide (c = 95) <;> rfl
end SGN
theorem b2i_0 {b : Bool} : decide (b2i b = 0) = !b := by cases b <;> decide
theorem sg_all (P : Int32 → Bool) (h : (List.range 256).all (fun n => P (Int8.ofNat n).toInt32) = true) {x : Int32} (hx : nrB x = x) : P x = true := by
  have e1 : x = (Int8.ofNat x.toInt8.toBitVec.toNat).toInt32 := by
    have e2 : Int8.ofNat x.toInt8.toBitVec.toNat = x.toInt8 := by
      apply Int8.toBitVec_inj.mp
      show BitVec.ofNat 8 _ = _
      simp
    rw [e2]
    exact hx.symm
  rw [e1]
  exact List.all_eq_true.mp h _ (List.mem_range.mpr (BitVec.isLt _))
theorem w_and {x : Int32} (hx : nrB x = x) : isW (x &&& 255) = isW x := eq_of_beq (sg_all (fun x => isW (x &&& 255) == isW x) (by decide +kernel) hx)
theorem d_and {x : Int32} (hx : nrB x = x) : isDg (x &&& 255) = isDg x := eq_of_beq (sg_all (fun x => isDg (x &&& 255) == isDg x) (by decide +kernel) hx)
def sgA (g : Nat → Int32) (k p : Nat) : Int32 := if p < k then g p &&& 255 else -1
theorem atC {u : CS} {N k p : Nat} (h : skB u = true) (hk : FI u 4 1 = Int32.ofNat k) (hk4 : k ≤ 4000) (hp : p < 100000) : fm_To_signAt N u 4 (Int32.ofNat p) = some (u, sgA (AI u 5) k p) := by
  have e1 : decide (Int32.ofNat p < 0) = false := decide_eq_false (fun z => absurd ((q_lt (a := p) (b := 0) (by omega) (by decide)).mp z) (by omega))
  unfold fm_To_signAt fb_To_signAt_0 sgA
  rw [e1, q_b0, gi_4_1 h, q_bo, hk]
  by_cases hc : p < k
  · rw [decide_eq_true ((q_lt (a := p) (b := k) (by omega) (by omega)).mpr hc), q_b1, gr_4_0 h, q_bo, q_bo, ai_5 h, if_pos (q_inb (by omega) (by decide)), q_bo, q_nat (by omega), if_pos hc]
    rfl
  · rw [decide_eq_false (fun z => hc ((q_lt (a := p) (b := k) (by omega) (by omega)).mp z)), q_b0, if_neg hc]
    rfl
theorem atM {w : MS} {N k p : Nat} (hk : w.1 5 = Int32.ofNat k) (hk4 : k ≤ 4000) (hp : p < 100000) : fm_M_byteAt N w (Int32.ofNat p) = some (w, sgA (w.2.2.1 4) k p) := by
  unfold fm_M_byteAt fb_M_byteAt_0 sgA
  rw [hk]
  by_cases hc : p < k
  · rw [decide_eq_false (fun z => absurd ((q_le (a := k) (b := p) (by omega) (by omega)).mp z) (by omega)), q_b0, q_ck (q_inb (by show p < 4000; omega) (by decide)), q_nat (by omega), if_pos hc]
    rfl
  · rw [decide_eq_true ((q_le (a := k) (b := p) (by omega) (by omega)).mpr (by omega)), q_b1, if_neg hc]
    rfl
theorem sgA_eq {f g : Nat → Int32} {k p : Nat} (h : ∀ j, j < k → f j = g j) : sgA f k p = sgA g k p := by
  unfold sgA
  by_cases hc : p < k
  · rw [if_pos hc, if_pos hc, h p hc]
  · rw [if_neg hc, if_neg hc]
end

