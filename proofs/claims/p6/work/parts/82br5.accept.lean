set_option maxRecDepth 100000
section
variable {m0 w0 mP wP mI wI m w v u X : MS} {K nm Nk : Nat → Nat} {T p n N g : Nat} {D : Nat → FDT} {pd : Int32 → Int32 → Nat} {x y r : Int32}
theorem PGI_t (cA : CTA m0 w0 K T) (h : PGI N m0 w0 K T nm pd mI wI g p n D mP wP) : ∀ f, f < g → mP.2.2.1 24 f = wP.2.2.1 47 f ∧ mP.2.2.1 25 f = wP.2.2.1 48 f ∧ wP.2.2.1 47 f = w0.2.2.1 7 (D f).1 ∧ wP.2.2.1 48 f = I ((D f).2.2.2.1 : Nat) := fun f hf => by
  obtain ⟨-, ⟨-, -, -, b4⟩, -, -, -, -, c5⟩ := h
  obtain ⟨⟨a1, a2, a3, a4, a5, a6, a7⟩, d1, d2, d3, d4, d5⟩ := b4 f hf
  obtain ⟨e1, e2, e3, e4⟩ := c5 f hf
  exact ⟨by rw [d1, e1]; exact cA _ a7.2 (Or.inr a7.1), by rw [d2, e2], e1, e2⟩
theorem seek_e (hN : 1000 ≤ N) (h442 : mP.1 442 = I (g : Nat)) (hg : g ≤ 666) (ht : ∀ f, f < g → mP.2.2.1 24 f = wP.2.2.1 47 f ∧ mP.2.2.1 25 f = wP.2.2.1 48 f) : hm_Co_seek N mP x y = some (mP, -1) ↔ noF wP g x y := by
  have F442 : F mP 442 = ((g : Nat) : Int) := by unfold F; rw [h442]; exact I_ti (by omega) (by omega)
  have ok := seekF_ok (u := mP) (N := N) (a := x.toInt) (k := y.toInt) (by omega) (ti_rng x) (ti_rng y) hN
  rw [← I_of, ← I_of] at ok
  obtain ⟨w', r', e, -⟩ := ok
  have pk := seek_p (N := N) (x := x) (y := y) h442 (by omega) N 0 (Nat.zero_le _) (fun i hi => absurd hi (by omega)) w' r' e
  obtain ⟨rfl, hr⟩ := pk
  have nf : noF wP g x y ↔ ∀ i, i < g → ¬ (w'.2.2.1 24 i = x ∧ w'.2.2.1 25 i = y) := by
    unfold noF
    exact ⟨fun z i hi q => z i hi (by rw [← (ht i hi).1, ← (ht i hi).2]; exact q), fun z i hi q => z i hi (by rw [(ht i hi).1, (ht i hi).2]; exact q)⟩
  rw [e, nf]
  constructor
  · intro z
    injection z with z
    injection z with _ z
    rcases hr with hr | ⟨i, hi, hr, _⟩
    · exact hr.2
    · exfalso
      have := (I_eq (x := (i : Nat)) (y := (-1 : Int)) (by omega) (by omega) (by omega) (by omega)).mp (hr.symm.trans (z.trans (show (-1 : Int32) = I (-1) from rfl)))
      omega
  · intro z
    rcases hr with hr | ⟨i, hi, hr, hm, _⟩
    · rw [hr.1]
    · exact absurd hm (z i hi)
theorem bad_e {x : Int32 × Int32 × Int32} (hN : 1000 ≤ N) (h442 : mP.1 442 = I (g : Nat)) (hg : g ≤ 666) (ht : ∀ f, f < g → mP.2.2.1 24 f = wP.2.2.1 47 f ∧ mP.2.2.1 25 f = wP.2.2.1 48 f) (hn : ∀ f, f < g → pd (wP.2.2.1 47 f) (wP.2.2.1 48 f) = 0) (hP : PDK m0 mP) (hp : x.2.2 ≠ 2 → PDF N m0 w0 x.1 x.2.1 (pd x.1 x.2.1)) : BADc N mP x ↔ RBD wP g pd x := by
  unfold BADc RBD
  by_cases z : x.2.2 = 2
  · rw [if_pos z, seek_e hN h442 hg ht]
    exact ⟨fun q => Or.inl ⟨z, q⟩, fun q => q.elim (fun q => q.2) (fun q => absurd z q.1)⟩
  · rw [if_neg z, seek_e hN h442 hg ht]
    obtain ⟨id, p1, p2, p3⟩ := (hp z).2 mP hP
    have e1 : hm_Cm_predefinedOf N mP x.1 x.2.1 = some (mP, -1) ↔ pd x.1 x.2.1 = 0 := by
      rw [p1, ← p2]
      exact ⟨fun q => by injection q with q; injection q with _ q, fun q => by rw [q]⟩
    have e2 : (∃ id, hm_Cm_predefinedOf N mP x.1 x.2.1 = some (mP, id) ∧ (id < 17 ∨ ¬ id ≤ 28)) ↔ pd x.1 x.2.1 ≠ 2 := by
      constructor
      · rintro ⟨id2, q1, q2⟩ q3
        rw [p1] at q1
        injection q1 with q1
        injection q1 with _ q1
        rw [← q1] at q2
        have := p3.mpr q3
        rcases q2 with q2 | q2
        · exact this.1 q2
        · exact q2 this.2
      · intro q
        refine ⟨id, p1, ?_⟩
        by_cases a : id < 17
        · exact Or.inl a
        · by_cases b : id ≤ 28
          · exact absurd (p3.mp ⟨a, b⟩) q
          · exact Or.inr b
    have e3 : pd x.1 x.2.1 = 2 → noF wP g x.1 x.2.1 := fun q f hf hh => by
      have := hn f hf
      rw [hh.1, hh.2, q] at this
      exact absurd this (by decide)
    rw [e1, e2]
    constructor
    · rintro (q | q)
      · exact Or.inr ⟨z, Or.inl ⟨q.2, q.1⟩⟩
      · exact Or.inr ⟨z, Or.inr ⟨q.1, fun y => q.2 y.2⟩⟩
    · rintro (q | q)
      · exact absurd q.1 z
      · rcases q.2 with q | q
        · exact Or.inl ⟨q.2, q.1⟩
        · exact Or.inr ⟨q.1, fun y => q.2 ⟨e3 y, y⟩⟩
theorem rules_e (cA : CTA m0 w0 K T) (hN : 1000 ≤ N) (hg : g ≤ 666) (h : PGI N m0 w0 K T nm pd mI wI g p n D mP wP) (hP : PDK m0 mP) (hp : ∀ x, (∃ f, f < g ∧ ∃ b, b ∈ (D f).2.2.2.2.1 :: (D f).2.2.2.2.2 ∧ b.2.2.2.2.2.2 x) → x.2.2 ≠ 2 → PDF N m0 w0 x.1 x.2.1 (pd x.1 x.2.1)) : (¬ ∃ i, i < g ∧ FBD N m0 w0 pd mP i (D i)) ↔ (∀ f, f < g → FNR m0 w0 pd wP f (D f)) ∧ ∀ x, (∃ f, f < g ∧ ∃ b, b ∈ (D f).2.2.2.2.1 :: (D f).2.2.2.2.2 ∧ b.2.2.2.2.2.2 x) → ¬ RBD wP g pd x := by
  have t4 := PGI_t cA h
  have ht : ∀ f, f < g → mP.2.2.1 24 f = wP.2.2.1 47 f ∧ mP.2.2.1 25 f = wP.2.2.1 48 f := fun f hf => ⟨(t4 f hf).1, (t4 f hf).2.1⟩
  have h442 := h.2.1.2.1
  have dup : ∀ f, f < g → ∀ i, i < f → (DUP wP f i ↔ mP.2.2.1 24 i = mP.2.2.1 24 f ∧ mP.2.2.1 25 i = mP.2.2.1 25 f) := fun f hf i hi => by
    unfold DUP
    rw [(ht f hf).1, (ht f hf).2, (ht i (by omega)).1, (ht i (by omega)).2]
  have hn : (∀ f, f < g → FNR m0 w0 pd wP f (D f)) → ∀ f, f < g → pd (wP.2.2.1 47 f) (wP.2.2.1 48 f) = 0 := fun z f hf => by
    rw [(t4 f hf).2.2.1, (t4 f hf).2.2.2]
    exact (z f hf).2.1
  constructor
  · intro z
    have zf : ∀ f, f < g → ¬ FBD N m0 w0 pd mP f (D f) := fun f hf q => z ⟨f, hf, q⟩
    have fn : ∀ f, f < g → FNR m0 w0 pd wP f (D f) := fun f hf => by
      have := zf f hf
      refine ⟨fun b hb => ⟨?_, ?_⟩, ?_, fun i hi q => this (Or.inl ⟨i, hi, (dup f hf i hi).mp q⟩)⟩
      · cases e : b.2.2.2.2.1 with
        | false => rfl
        | true => exact absurd (Or.inr (Or.inr ⟨b, hb, Or.inl e⟩)) this
      · refine Classical.byContradiction (fun e => this (Or.inr (Or.inr ⟨b, hb, Or.inr (Or.inr e)⟩)))
      · refine Classical.byContradiction (fun e => this (Or.inr (Or.inl e)))
    refine ⟨fn, fun x hx hr => ?_⟩
    have be := (bad_e (w0 := w0) hN h442 hg ht (hn fn) hP (hp x hx)).mpr hr
    obtain ⟨f, hf, b, hb, hc⟩ := hx
    exact zf f hf (Or.inr (Or.inr ⟨b, hb, Or.inr (Or.inl ⟨x, hc, be⟩)⟩))
  · rintro ⟨fn, nb⟩ ⟨f, hf, q⟩
    have ff := fn f hf
    rcases q with ⟨i, hi, q⟩ | q | ⟨b, hb, q⟩
    · exact ff.2.2 i hi ((dup f hf i hi).mpr q)
    · exact q ff.2.1
    · rcases q with q | ⟨x, hc, q⟩ | q
      · rw [(ff.1 b hb).1] at q; exact absurd q (by decide)
      · have hx : ∃ f, f < g ∧ ∃ b, b ∈ (D f).2.2.2.2.1 :: (D f).2.2.2.2.2 ∧ b.2.2.2.2.2.2 x := ⟨f, hf, b, hb, hc⟩
        exact nb x hx ((bad_e (w0 := w0) hN h442 hg ht (hn fn) hP (hp x hx)).mp q)
      · exact q (ff.1 b hb).2
def CAC (v : MS) (r : Int32) : Prop := r = 0 → v.1 714 = 1000000000 ∧ v.1 711 = 0 ∧ ¬ 60 < v.1 442 ∧ ¬ 200 < v.1 22 ∧ v.1 85 ≤ 1500 ∧ v.1 441 < 24000
theorem acc_e {Y : MS} (cA : CTA m0 w0 K T) (hN : 1000 ≤ N) (hg : g ≤ 666) (h : PGI N m0 w0 K T nm pd mI wI g p n D mP wP) (hP : PDK m0 mP) (hp : ∀ x, (∃ f, f < g ∧ ∃ b, b ∈ (D f).2.2.2.2.1 :: (D f).2.2.2.2.2 ∧ b.2.2.2.2.2.2 x) → x.2.2 ≠ 2 → PDF N m0 w0 x.1 x.2.1 (pd x.1 x.2.1)) (i66 : wI.1 66 = 0) (i72 : wI.1 72 = 0) (ce : CEQ (upI mP 711 0) v r (∃ i, i < g ∧ FBD N m0 w0 pd mP i (D i)) (∀ i, i < g → FSMd (D i))) (ca : CAC v r) (y72 : Y.1 72 = 0 ↔ wP.1 72 = 0 ∧ ∀ x, (∃ f, f < g ∧ ∃ b, b ∈ (D f).2.2.2.2.1 :: (D f).2.2.2.2.2 ∧ b.2.2.2.2.2.2 x) → ¬ RBD wP g pd x) (y66 : Y.1 66 = wP.1 66) (y52 : Y.1 52 = wP.1 52) (y14 : Y.1 14 = v.1 22) (y9 : v.1 85 ≤ 1500 ↔ Y.1 9 ≤ 1500) : r = 0 ↔ Y.1 72 = 0 ∧ Y.1 66 = 0 ∧ ¬ 60 < Y.1 52 ∧ ¬ 200 < Y.1 14 ∧ Y.1 9 ≤ 1500 := by
  have re := rules_e cA hN hg h hP hp
  obtain ⟨fr, -, cb, c0⟩ := ce
  have v442 : v.1 442 = wP.1 52 := by rw [fr.1 442 (by omega), upI_ne (by decide), h.2.1.2.1, h.2.1.2.2.1]
  have e72 : Y.1 72 = 0 ↔ ¬ ∃ i, i < g ∧ FBD N m0 w0 pd mP i (D i) := by
    rw [y72, re, h.2.2.2.2.1]
    exact ⟨fun z => ⟨z.1.2, z.2⟩, fun z => ⟨⟨i72, z.1⟩, z.2⟩⟩
  have e66 : Y.1 66 = 0 ↔ ∀ i, i < g → FSMd (D i) := by
    rw [y66, h.2.2.2.1]
    exact ⟨fun z => z.2, fun z => ⟨i66, z⟩⟩
  rw [e72, e66, y52, ← v442, y14, ← y9]
  constructor
  · intro z
    obtain ⟨a1, a2, a3, a4, a5, a6⟩ := ca z
    rcases cb with ⟨-, cb⟩ | ⟨b1, b2, b3⟩
    · rw [a1] at cb
      exact absurd cb (by decide)
    · exact ⟨b1, ((b3.2.1 a6).mp a2).1, a3, a4, a5⟩
  · rintro ⟨a1, a2, a3, a4, a5⟩
    rcases cb with ⟨cb, -⟩ | ⟨b1, b2, b3⟩
    · exact absurd cb a1
    · exact c0 b2 (b3.2.2 a2 upI_at) a3 a4 a5
end
