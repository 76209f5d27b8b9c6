def WTQ (w : MS) (PR : Nat) : Prop := 0 ≤ F w 125 ∧ F w 125 ≤ 200 ∧ ∀ i : Nat, (i : Int) < F w 125 → (0 ≤ A w 123 i ∧ A w 123 i < PR) ∧ (0 ≤ A w 124 i ∧ A w 124 i < PR)
def LK (w : MS) (PR : Nat) : Prop := (∀ p, p < PR → LKR w PR p) ∧ ∀ p q, p < PR → q < PR → inL w p q → inL w q p
section
variable {Fv : Int64 → Int64 → Prop} {P : Int64 → Prop} {u w : MS} {PR N : Nat}
theorem rw_loop {L : Nat} (hL : L ≤ 200) : ∀ (m k : Nat) (w : MS), k ≤ L → L - k < m → F w 125 = L → OK (fun w2 _ => FR [] [] [122, 123, 124] [] w w2 ∧ ∀ X, X = 122 ∨ X = 123 ∨ X = 124 → ∀ i, A w2 X i = if k ≤ i ∧ i < L then A w X (i + 1) else A w X i) (gg_M_removeWatch N m w (I k)) := by
  intro m
  induction m with
  | zero => intro k w _ z; exact absurd z (Nat.not_lt_zero _)
  | succ m ih =>
    intro k w hk hm hF
    show OK _ (fb_M_removeWatch_12 N (gg_M_removeWatch N m) w (I k))
    unfold fb_M_removeWatch_12
    rw [I_F' hF, decI (by omega) (by omega) (by omega) (by omega)]
    by_cases e : L ≤ k
    · rw [decide_eq_true (by omega), br_tq]
      exact ok_some.mpr ⟨FR.rf, fun X _ i => by rw [if_neg (by omega)]⟩
    · have r1 := A_r w 122 (k + 1)
      have r2 := A_r w 123 (k + 1)
      have r3 := A_r w 124 (k + 1)
      rw [decide_eq_false (by omega), br_fq, lit1q, I_add, inb_at (k := 122) (n := 4000) rfl (by omega) (by omega) (by decide), ck_t, inb_at (k := 122) (n := 4000) rfl (by omega) (by omega) (by decide), ck_t, lt_e, I_tn (x := (k : Int)) (by omega) (by omega), I_tn (x := (k : Int) + 1) (by omega) (by omega), Int.toNat_natCast, show ((k : Int) + 1).toNat = k + 1 from by omega, I_A (k := 122), wa_e]
      rw [inb_at (k := 123) (n := 4000) rfl (by omega) (by omega) (by decide), ck_t, inb_at (k := 123) (n := 4000) rfl (by omega) (by omega) (by decide), ck_t, lt_e, I_A' (show A (wa w 122 k (A w 122 (k + 1))) 123 (k + 1) = A w 123 (k + 1) from A_ne (by decide)), wa_e]
      rw [inb_at (k := 124) (n := 4000) rfl (by omega) (by omega) (by decide), ck_t, inb_at (k := 124) (n := 4000) rfl (by omega) (by omega) (by decide), ck_t, lt_e, I_A' (show A (wa (wa w 122 k (A w 122 (k + 1))) 123 k (A w 123 (k + 1))) 124 (k + 1) = A w 124 (k + 1) from by rw [A_ne (by decide), A_ne (by decide)]), wa_e]
      have b : ∀ X, X = 122 ∨ X = 123 ∨ X = 124 → ∀ i, A (wa (wa (wa w 122 k (A w 122 (k + 1))) 123 k (A w 123 (k + 1))) 124 k (A w 124 (k + 1))) X i = if i = k then A w X (k + 1) else A w X i := fun X hX i => by
        rcases hX with hX | hX | hX <;> subst hX
        · rw [A_ne (by decide), A_ne (by decide), A_eq r1.1 r1.2]
        · rw [A_ne (by decide), A_eq r2.1 r2.2, A_ne (by decide)]
        · rw [A_eq r3.1 r3.2, A_ne (by decide), A_ne (by decide)]
      refine ok_mono (ih (k + 1) _ (by omega) (by omega) hF) (fun w2 _ hw => ⟨FR.tr (FR.wa (FR.wa (FR.wa FR.rf (by decide)) (by decide)) (by decide)) hw.1, fun X hX i => ?_⟩)
      rw [hw.2 X hX, b X hX, b X hX]
      by_cases e1 : i = k
      · subst e1; rw [if_neg (by omega), if_pos rfl, if_pos (by omega)]
      · by_cases e2 : k + 1 ≤ i ∧ i < L
        · rw [if_pos e2, if_neg (by omega), if_pos (by omega)]
        · rw [if_neg e2, if_neg e1, if_neg (by omega)]
theorem removeWatch_ok {k : Nat} (h : WTQ w PR) (hk : (k : Int) < F w 125) (hN : 300 ≤ N) : OK (fun w2 _ => FR [125] [] [122, 123, 124] [] w w2 ∧ F w2 125 = F w 125 - 1 ∧ WTQ w2 PR) (fm_M_removeWatch N w (I k)) := by
  obtain ⟨h1, h2, h3⟩ := h
  unfold fm_M_removeWatch fb_M_removeWatch_0
  rw [I_F, lit1q, I_sub, lt_e, wi_e]
  have eL : F (wi w 125 (F w 125 - 1)) 125 = (((F w 125 - 1).toNat : Nat) : Int) := by rw [F_wi (by omega) (by omega), if_pos rfl]; omega
  refine ok_mono (rw_loop (L := (F w 125 - 1).toNat) (by omega) N k _ (by omega) (by omega) eL) (fun w2 _ hw => ?_)
  have e2 : F w2 125 = F w 125 - 1 := by rw [FR.F hw.1 (by decide), F_wi (by omega) (by omega), if_pos rfl]
  refine ⟨FR.tr (FR.wi FR.rf (by decide)) (FR.mo hw.1 (by decide) (by decide) (by decide) (by decide)), e2, by omega, by omega, fun i hi => ?_⟩
  rw [hw.2 123 (by omega), hw.2 124 (by omega)]
  show (0 ≤ (if _ then A w 123 (i + 1) else A w 123 i) ∧ (if _ then A w 123 (i + 1) else A w 123 i) < _) ∧ (0 ≤ (if _ then A w 124 (i + 1) else A w 124 i) ∧ (if _ then A w 124 (i + 1) else A w 124 i) < _)
  by_cases e : k ≤ i ∧ i < (F w 125 - 1).toNat
  · rw [if_pos e, if_pos e]; exact h3 (i + 1) (by omega)
  · rw [if_neg e, if_neg e]; exact h3 i (by omega)
def KEEP (u w : MS) (PR : Nat) : Prop := (∀ o, (o = 24 ∨ (o < PR ∧ A u 109 o = 3)) → A w 89 o = A u 89 o ∧ ∀ i, i < 500 → hp w o i = hp u o i) ∧ ∀ o, o < PR → A u 109 o = 3 → A w 109 o = 3
theorem KEEP.rf : KEEP u u PR := ⟨fun _ _ => ⟨rfl, fun _ _ => rfl⟩, fun _ _ h => h⟩
theorem KEEP.tr {v : MS} (a : KEEP u v PR) (b : KEEP v w PR) : KEEP u w PR := by
  refine ⟨fun o h => ?_, fun o h1 h2 => b.2 o h1 (a.2 o h1 h2)⟩
  have h' : o = 24 ∨ (o < PR ∧ A v 109 o = 3) := by
    rcases h with h | h
    · exact Or.inl h
    · exact Or.inr ⟨h.1, a.2 o h.1 h.2⟩
  obtain ⟨a1, a2⟩ := a.1 o h
  obtain ⟨b1, b2⟩ := b.1 o h'
  exact ⟨b1.trans a1, fun i hi => (b2 i hi).trans (a2 i hi)⟩
theorem KEEP.fr {is ls as js : List Nat} (f : FR is ls as js u w) (h1 : 89 ∉ as) (h2 : 109 ∉ as) (h3 : 88 ∉ js) : KEEP u w PR :=
  ⟨fun o _ => ⟨FR.A f h1, fun i _ => by unfold hp; rw [f.2.2.2 88 h3]⟩, fun o _ h => by rw [FR.A f h2]; exact h⟩
theorem GTP_keep {o : Nat} {t : Int64} (k : KEEP u w PR) (ho : o = 24 ∨ (o < PR ∧ A u 109 o = 3)) (g : GTP Fv P u o t) : GTP Fv P w o t := by
  obtain ⟨n, ow, kd, a, b, c, d⟩ := g
  obtain ⟨k1, k2⟩ := k.1 o ho
  exact ⟨n, ow, kd, by rw [k1]; exact a, b, HP_own c (Nat.le_refl _) (fun i hi _ => k2 i (by omega)) (fun _ _ _ => rfl) (fun _ _ _ => rfl) (fun i hi e => ⟨hi, e⟩), d⟩
theorem TE_keep {o : Nat} {t : Int64} (k : KEEP u w PR) (h : TE Fv P u PR o t) : TE Fv P w PR o t := by
  rcases h with h | ⟨h1, h2, h3⟩
  · exact Or.inl h
  · refine Or.inr ⟨h1, ?_, GTP_keep k h2 h3⟩
    rcases h2 with h2 | h2
    · exact Or.inl h2
    · exact Or.inr ⟨h2.1, k.2 o h2.1 h2.2⟩
theorem MSG_keep {q : Nat} (m : MSG Fv P PR u q w) (hq : q < PR) (pr : PR ≤ 24) (hal : A u 109 q ≠ 3) : KEEP u w PR := by
  obtain ⟨m1, m2, m3, m4, m5, -⟩ := m
  have ne : ∀ o, (o = 24 ∨ (o < PR ∧ A u 109 o = 3)) → o ≠ q := fun o h e => by
    rcases h with h | h
    · omega
    · rw [e] at h; exact hal h.2
  refine ⟨fun o h => ⟨(m3 o (ne o h)).2.2, fun i hi => ?_⟩, fun o h1 h2 => by rw [(m3 o (ne o (Or.inr ⟨h1, h2⟩))).1]; exact h2⟩
  have := ne o h
  unfold hp
  exact m5 _ (by omega)
def EVF (u w : MS) : Prop := FR [136, 138, 140, 150] [139] [89, 90, 108, 109, 135, 142, 145, 146, 147] [88, 91, 93, 107, 134, 137, 141, 148] u w ∧ ∀ p, A w 109 p = A u 109 p ∨ A w 109 p = 3
theorem MSG_evf {q : Nat} (m : MSG Fv P PR u q w) : EVF u w := ⟨m.2.1, fun p => by
  by_cases e : p = q
  · subst e; exact m.2.2.2.1
  · exact Or.inl (m.2.2.1 p e).1⟩
theorem EVF.rf : EVF u u := ⟨FR.rf, fun _ => Or.inl rfl⟩
theorem EVF.tr {v : MS} (a : EVF u v) (b : EVF v w) : EVF u w := ⟨FR.tr a.1 b.1, fun p => by
  rcases b.2 p with h | h
  · rw [h]; exact a.2 p
  · exact Or.inr h⟩
theorem TE_tm {q o : Nat} {t : Int64} (h : TE Fv P u PR o t) (ho : o ≤ 24) (hq : q < PR) (pr : PR ≤ 24) (hal : A u 109 q ≠ 3) : TM Fv P u q o t := by
  rcases h with h | ⟨h1, h2, h3⟩
  · exact Or.inl ⟨by omega, h⟩
  · refine Or.inr (Or.inl ⟨by omega, fun e => ?_, h3⟩)
    rcases h2 with h2 | h2
    · omega
    · rw [e] at h2; exact hal h2.2
theorem message_ev {q o sort p : Nat} {t : Int64} {r wr : Int} (d : DW Fv P PR u) (hq : q < PR) (hPB : PB P PR) (hsort : sort ≤ 2) (hp1 : sort < 2 → p < PR) (hr : -2147483648 ≤ r ∧ r < 2147483648) (hpr : (p : Int) < 2147483648) (hw : 0 ≤ wr ∧ wr ≤ 2) (ho : o ≤ 24) (ht : TE Fv P u PR o t) (hN : 60000 ≤ N) :
    OK (fun w2 _ => DW Fv P PR w2 ∧ EVF u w2 ∧ KEEP u w2 PR) (fm_M_message N u (I q) (I sort) (I r) (I p) (I wr) (I o) t) := by
  have pr := d.1.2
  by_cases e : A u 109 q = 3
  · unfold fm_M_message fb_M_message_0 fb_M_message_21
    rw [inb_at (k := 109) (n := 24) rfl (by omega) (by omega) (by decide), ck_t, I_tn (by omega) (by omega), Int.toNat_natCast, I_A' e, show (3 : Int32) = I 3 from rfl, decE (by omega) (by omega) (by omega) (by omega), decide_eq_true rfl, br_tq]
    exact ok_some.mpr ⟨d, EVF.rf, KEEP.rf⟩
  · exact ok_mono (message_ok d hq hPB hsort hp1 hr hpr hw (fun h => TE_tm ht ho hq pr h) hN) (fun w2 _ m => ⟨m.1, MSG_evf m, MSG_keep m hq pr e⟩)
theorem willEnd_ev {p o : Nat} {wr : Int} {t : Int64} (d : DW Fv P PR u) (hp1 : p < PR) (hw : 0 ≤ wr ∧ wr ≤ 2) (ho : o ≤ 24) (ht : TE Fv P u PR o t) : OK (fun w2 _ => DW Fv P PR w2 ∧ EVF u w2 ∧ KEEP u w2 PR) (fm_M_willEnd N u (I p) (I wr) (I o) t) := by
  refine ok_mono (willEnd_ok d hp1 hw ho ?_) (fun w2 _ h => ⟨h.1, ⟨FR.mo h.2.1 (by decide) (by decide) (by decide) (by decide), fun q => ?_⟩, ⟨fun o _ => ⟨FR.A h.2.1 (by decide), fun i _ => by unfold hp; rw [h.2.1.2.2.2 88 (by decide)]⟩, fun o h1 h2 => ?_⟩⟩)
  · rcases ht with ht | ⟨h1, h2, h3⟩
    · exact Or.inl ht
    · refine Or.inr ⟨h1, ?_, h3⟩
      rcases h2 with h2 | h2
      · exact Or.inl h2
      · exact Or.inr ⟨h2.1, Or.inl h2.2⟩
  · by_cases e : q = p
    · subst e; exact Or.inr h.2.2.1
    · exact Or.inl (h.2.2.2 q e)
  · by_cases e : o = p
    · subst e; exact h.2.2.1
    · rw [h.2.2.2 o e]; exact h2
theorem signal_ok {q p o : Nat} {wr : Int} {t : Int64} (d : DW Fv P PR u) (hq : q < PR) (hp1 : p < PR) (hPB : PB P PR) (hw : 0 ≤ wr ∧ wr ≤ 2) (ho : o ≤ 24) (ht : TE Fv P u PR o t) (hN : 60000 ≤ N) :
    OK (fun w2 _ => DW Fv P PR w2 ∧ EVF u w2 ∧ KEEP u w2 PR) (fm_M_signal N u (I q) (I p) (I wr) (I o) t) := by
  have pr := d.1.2
  unfold fm_M_signal fb_M_signal_0 fb_M_signal_51 fb_M_signal_61
  rw [inb_at (k := 109) (n := 24) rfl (by omega) (by omega) (by decide), ck_t, inb_at (k := 112) (n := 24) rfl (by omega) (by omega) (by decide), ck_t]
  have wE := willEnd_ev (N := N) d hq hw ho ht
  refine ok_br.mpr ⟨fun _ => ok_some.mpr ⟨d, EVF.rf, KEEP.rf⟩, fun _ => ok_br.mpr ⟨fun _ => ok_br.mpr ⟨fun _ => ?_, fun _ => ok_bnd.mpr (ok_mono wE (fun w2 _ h => ok_some.mpr h))⟩, fun _ => ?_⟩⟩
  · rw [lit1q, show (4 : Int32) = I 4 from rfl, term_e, bnd_so]
    exact ok_br.mpr ⟨fun _ => ok_some.mpr ⟨d, EVF.rf, KEEP.rf⟩, fun _ => ok_bnd.mpr (ok_mono wE (fun w2 _ h => ok_some.mpr h))⟩
  · rw [lit0q]
    exact ok_bnd.mpr (ok_mono (message_ev (sort := 0) (r := 0) d hq hPB (by omega) (fun _ => hp1) (by omega) (by omega) hw ho ht hN) (fun w2 _ h => ok_some.mpr h))
end
