/-! the reader of a text: all of it -/
set_option maxRecDepth 100000
section
variable {u v w : MS} {N c p n q g : Nat}
/-- what reading leaves -/
def PRQcK (u : MS) (c : Nat) (w : MS) (r : Int32) : Prop := KPH (wi u 441 1) w ∧ (r = 0 → A w 6 c = 0 ∧ ∃ g n q, 1 ≤ g ∧ PFIK (wi u 441 1) w c g c n q)
theorem parse_okcK (h : TKKc u c) (hN : 10000 ≤ N) : OK (PRQcK u c) (hm_Pa_parse N u) := by
  have hc := h.1
  -- a fault
  have flt : ∀ (w : MS) (G : (MS → Int32 → Option (MS × Int32))), KPH (wi u 441 1) w → F w 667 ≠ 0 → OK (PRQcK u c) (hb_Pa_parse_68 N G w) := fun w G gw hf => by
    unfold hb_Pa_parse_68
    refine ok_some.mpr ⟨gw, fun e => absurd ?_ hf⟩
    show (w.1 667).toInt = 0
    rw [e]; rfl
  have e54 : ∀ (M g p n q : Nat) (w : MS), PFIK (wi u 441 1) w c g p n q → (∀ (g p n q : Nat) (w : MS), PFIK (wi u 441 1) w c g p n q → 1 ≤ g → 4001 < M + g → OK (PRQcK u c) (hg_Pa_parse N M w (I ((g : Nat) : Int)))) → 4001 < M + 1 + g → OK (PRQcK u c) (hb_Pa_parse_54 N (hg_Pa_parse N M) w (I ((g : Nat) : Int))) := fun M g p n q w hw ih hM => by
    unfold hb_Pa_parse_54
    obtain ⟨w2, r, e, h2, h3⟩ := oneFunction_okcK (N := N) hw hN
    refine ok_H ⟨w2, r, e, ?_⟩
    cases r with
    | inr k => exact ⟨h3, flt w2 _ h2 (zr_Pa_oneFunction _ _ e)⟩
    | inl x =>
      obtain ⟨p2, n2, q2, h4, h5⟩ := h3
      show OK _ (hg_Pa_parse N M w2 (I ((g : Nat) : Int) + 1))
      rw [lit1, I_add, show ((g : Nat) : Int) + 1 = ((g + 1 : Nat) : Int) by omega]
      exact ih (g + 1) p2 n2 q2 w2 h4 (by omega) (by omega)
  have gen : ∀ (M g p n q : Nat) (w : MS), PFIK (wi u 441 1) w c g p n q → 1 ≤ g → 4001 < M + g → OK (PRQcK u c) (hg_Pa_parse N M w (I ((g : Nat) : Int))) := by
    intro M
    induction M with
    | zero =>
      intro g p n q w hw _ hM
      have := hw.2.2.2.1
      have := hw.2.1.2.1.2
      omega
    | succ M ih =>
      intro g p n q w hw hg hM
      have h6 := hw.2.2.2.1
      have hp := hw.2.1.2.1.2
      show OK _ (hb_Pa_parse_36 N (hg_Pa_parse N M) w (I ((g : Nat) : Int)))
      unfold hb_Pa_parse_36
      refine k_lt (x := 4000) ⟨by decide, by decide⟩ ⟨by omega, by omega⟩ (fun z => absurd z (by omega)) (fun _ => ?_)
      refine k_c (y := 0) rfl ⟨by omega, by omega⟩ ⟨by decide, by decide⟩ (fun z => absurd z (by omega)) (fun _ => ?_)
      have lk := look_T (N := N) (α := Int32) (f := fun w r => some (w, .inl r)) (Q := fun w2 r => KPG w w2 ∧ match r with
        | .inl r => w2 = w ∧ r = I (A w 6 p)
        | .inr k => k = 3) hw.2.1 (fun w gw => ⟨gw, rfl⟩) (fun _ => ok_some.mpr ⟨KPG.rf, rfl, rfl⟩)
      obtain ⟨w2, r, e, h2, h3⟩ := lk
      obtain ⟨w4, r4, e4⟩ : ∃ w4 r4, hm_Pa_look N w = some (w4, r4) := by
        cases hl : hm_Pa_look N w with
        | none => rw [hl] at e; cases e
        | some y => exact ⟨y.1, y.2, rfl⟩
      rw [e4] at e
      refine ok_H ⟨w4, r4, e4, ?_⟩
      cases r4 with
      | inr k =>
        injection e with e
        injection e with ea eb
        subst ea
        subst eb
        exact ⟨h3, flt w4 _ (hw.1.tr h2.toH) (zr_Pa_look _ _ e4)⟩
      | inl x =>
        injection e with e
        injection e with ea eb
        subst ea
        subst eb
        obtain ⟨rfl, rfl⟩ := h3
        refine k_c (y := 0) rfl (A_r _ 6 p) ⟨by decide, by decide⟩ (fun z => ?_) (fun _ => e54 M g p n q _ hw ih (by omega))
        unfold hb_Pa_parse_64
        have : p = c := by
          rcases Nat.lt_or_ge p c with y | y
          · have := (hw.2.1.1.2.2 p y).1; omega
          · omega
        refine ok_some.mpr ⟨hw.1, fun _ => ⟨by rw [← this]; exact z, g, n, q, hg, ?_⟩⟩
        rw [← this]; rw [← this] at hw; exact hw
  unfold hm_Pa_parse hb_Pa_parse_0 hm_Tr_clear hb_Tr_clear_0 hm_Co_clear hb_Co_clear_0
  simp only [lt_e, bnd_so]
  have ei : ∀ (z : MS) k, upI z k 0 = wi z k 0 := fun _ _ => rfl
  have ei1 : ∀ (z : MS) k, upI z k 1 = wi z k 1 := fun _ _ => rfl
  rw [ei, ei, ei, ei, ei, ei, ei, ei1]
  have cm : wi (wi u 306 0) 441 1 = wi (wi u 441 1) 306 0 := by
    show ((fun j => if j = 441 then I 1 else if j = 306 then I 0 else u.1 j), u.2.1, u.2.2.1, u.2.2.2) = ((fun j => if j = 306 then I 0 else if j = 441 then I 1 else u.1 j), u.2.1, u.2.2.1, u.2.2.2)
    congr 1
    funext j
    by_cases z : j = 441
    · rw [if_pos z, if_neg (by omega), if_pos z]
    · rw [if_neg z, if_neg z]
  rw [cm]
  have kh : KPH (wi u 441 1) (wi (wi (wi (wi (wi (wi (wi (wi u 441 1) 306 0) 442 0) 449 0) 664 0) 665 0) 666 0) 667 0) := FR.wi (FR.wi (FR.wi (FR.wi (FR.wi (FR.wi (FR.wi FR.rf (by simp)) (by simp)) (by simp)) (by simp)) (by simp)) (by simp)) (by simp)
  have tk : TKKc (wi (wi (wi (wi (wi (wi (wi (wi u 441 1) 306 0) 442 0) 449 0) 664 0) 665 0) 666 0) 667 0) c := h
  have f0 : ∀ (z : MS) (a b : Nat), F (wi z a 0) b = if b = a then 0 else F z b := fun z a b => F_wi (by decide) (by decide)
  have f6 : ∀ k, k ∈ [306, 442, 449, 664, 665, 666] → F (wi (wi (wi (wi (wi (wi (wi (wi u 441 1) 306 0) 442 0) 449 0) 664 0) 665 0) 666 0) 667 0) k = 0 := fun k hk => by
    simp only [List.mem_cons, List.not_mem_nil, or_false] at hk
    rw [f0, f0, f0, f0, f0, f0, f0]
    rcases hk with rfl | rfl | rfl | rfl | rfl | rfl <;> rfl
  generalize wi (wi (wi (wi (wi (wi (wi (wi u 441 1) 306 0) 442 0) 449 0) 664 0) 665 0) 666 0) 667 0 = z at kh tk f6
  obtain ⟨M, rfl⟩ : ∃ M, N = M + 1 := ⟨N - 1, by omega⟩
  have nx := e54 M 0 0 0 0 z ⟨kh, ⟨tk, ⟨f6 _ (by simp), by omega⟩, ⟨f6 _ (by simp), by omega⟩, f6 _ (by simp), ⟨f6 _ (by simp), by omega⟩, f6 _ (by simp), by omega⟩, f6 _ (by simp), by omega, rfl, rfl, rfl⟩ (gen M) (by omega)
  show OK _ (hb_Pa_parse_36 (M + 1) (hg_Pa_parse (M + 1) M) z 0)
  unfold hb_Pa_parse_36
  rw [show decide ((4000 : Int32) < 0) = false from rfl, br_f, show decide ((0 : Int32) = 0) = true from rfl, br_t]
  exact nx
end
