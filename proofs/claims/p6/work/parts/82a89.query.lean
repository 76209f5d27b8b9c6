section
variable {Fv : Int64 → Int64 → Prop} {P P2 : Int64 → Prop} {u v w w2 x y : MS} {PR PR2 N p n n2 opM bnM bxM bx2 ND fr k tp mu CN PN SN UN FN rq q m h mm AN z j : Nat} {ow kd ow2 kd2 ro rn rh cb pc ct pM pE : Nat → Nat} {T : TY} {C : CY}
theorem three : upI w 3 0 = wi w 3 0 := rfl
theorem f3 : FR [3] [] [] [] w (wi w 3 0) := FR.wi FR.rf (by decide)
theorem count_ok {a : Int32} : OK (fun v _ => FR [3] [] [] [] w v) (fm_M_count N w a) := by
  unfold fm_M_count fb_M_count_0 fb_M_count_71 fb_M_count_87 fb_M_count_103 fb_M_count_124 fb_M_count_140 fb_M_count_156 fb_M_count_172 fb_M_count_188
  refine ok_lt.mpr ?_
  rw [three]
  have y : ∀ t : Int32, OK (fun v _ => FR [3] [] [] [] w v) (some (wi w 3 0, t)) := fun t => ok_some.mpr f3
  have b : ∀ (c : Bool) (s t : Int32), OK (fun v _ => FR [3] [] [] [] w v) (br c (some (wi w 3 0, s)) (some (wi w 3 0, t))) := fun c s t => ok_br.mpr ⟨fun _ => y s, fun _ => y t⟩
  exact ok_br.mpr ⟨fun _ => b _ _ _, fun _ => ok_br.mpr ⟨fun _ => b _ _ _, fun _ => ok_br.mpr ⟨fun _ => b _ _ _, fun _ => ok_br.mpr ⟨fun _ => y _, fun _ => ok_br.mpr ⟨fun _ => b _ _ _, fun _ => ok_br.mpr ⟨fun _ => b _ _ _, fun _ => ok_br.mpr ⟨fun _ => b _ _ _, fun _ => ok_br.mpr ⟨fun _ => b _ _ _, fun _ => ok_br.mpr ⟨fun _ => b _ _ _, fun _ => y _⟩⟩⟩⟩⟩⟩⟩⟩⟩
theorem letter_ok {a b : Int32} (h : F w 86 ≠ 0 → ATM w) : OK (fun v _ => FR [3] [] [] [] w v) (fm_M_letter N w a b) := by
  unfold fm_M_letter fb_M_letter_0 fb_M_letter_47
  refine ok_lt.mpr ?_
  rw [three]
  have y : ∀ t : Int32, OK (fun v _ => FR [3] [] [] [] w v) (some (wi w 3 0, t)) := fun t => ok_some.mpr f3
  refine ok_br.mpr ⟨fun _ => y _, fun z86 => ok_br.mpr ⟨fun _ => y _, fun z0 => ok_br.mpr ⟨fun _ => y _, fun z1 => ok_br.mpr ⟨fun _ => y _, fun z2 => ?_⟩⟩⟩⟩
  have n86 : F w 86 ≠ 0 := fun e => of_decide_eq_false z86 (by rw [show (wi w 3 0).1 86 = w.1 86 from rfl, I_F' e]; rfl)
  obtain ⟨a1, a2, a3⟩ := h n86
  have ra := ti_rng a
  have rb := ti_rng b
  have ea : a = I a.toInt := I_of a
  have eb : b = I b.toInt := I_of b
  rw [ea, lit0q, decL ra.1 ra.2 (by omega) (by omega)] at z0
  rw [ea, show (wi w 3 0).1 14 = w.1 14 from rfl, I_F (k := 14), decI (by omega) (by omega) ra.1 ra.2] at z1
  rw [eb, lit0q, decL rb.1 rb.2 (by omega) (by omega)] at z2
  have c0 := of_decide_eq_false z0
  have c1 := of_decide_eq_false z1
  have c2 := of_decide_eq_false z2
  obtain ⟨i, hi⟩ : ∃ i : Nat, a.toInt = i := ⟨a.toInt.toNat, by omega⟩
  obtain ⟨j, hj⟩ : ∃ j : Nat, b.toInt = j := ⟨b.toInt.toNat, by omega⟩
  rw [hi] at ea
  rw [hj] at eb
  obtain ⟨d1, d2, d3⟩ := a3 i (by omega)
  rw [ea, eb, lit1q, I_add, show (wi w 3 0).2.2.1 = w.2.2.1 from rfl]
  refine ok_ck.mpr ⟨inb_at (k := 13) (n := 2200) rfl (by omega) (by omega) (by decide), ok_ck.mpr ⟨inb_at (k := 13) (n := 2200) rfl (by omega) (by omega) (by decide), ?_⟩⟩
  rw [I_tn (x := (i : Int) + 1) (by omega) (by omega), I_tn (x := (i : Int)) (by omega) (by omega), Int.toNat_natCast, show ((i : Int) + 1).toNat = i + 1 from by omega, I_A (k := 13) (i := i), I_A (k := 13) (i := i + 1), I_sub, I_add, decL (by omega) (by omega) (by omega) (by omega)]
  refine ok_br.mpr ⟨fun zz => ok_ck.mpr ⟨inb_at (k := 13) (n := 2200) rfl (by omega) (by omega) (by decide), ok_ck.mpr ⟨inb_at (k := 12) (n := 5000) rfl (by omega) (by have := of_decide_eq_true zz; omega) (by decide), y _⟩⟩, fun _ => y _⟩
theorem printed_ok {a b : Int32} (h : F w 87 ≠ 0 → (0 ≤ F w 128 ∧ F w 128 ≤ 200) ∧ ∀ i, 0 ≤ A w 127 i ∧ A w 127 i ≤ 100) : OK (fun v _ => FR [3] [] [] [] w v) (fm_M_printed N w a b) := by
  unfold fm_M_printed fb_M_printed_0 fb_M_printed_38 fb_M_printed_53
  refine ok_lt.mpr ?_
  rw [three]
  have y : ∀ t : Int32, OK (fun v _ => FR [3] [] [] [] w v) (some (wi w 3 0, t)) := fun t => ok_some.mpr f3
  refine ok_br.mpr ⟨fun _ => y _, fun z87 => ok_br.mpr ⟨fun _ => y _, fun z0 => ok_br.mpr ⟨fun _ => y _, fun z1 => ok_br.mpr ⟨fun _ => y _, fun z2 => ?_⟩⟩⟩⟩
  have n87 : F w 87 ≠ 0 := fun e => of_decide_eq_false z87 (by rw [show (wi w 3 0).1 87 = w.1 87 from rfl, I_F' e]; rfl)
  obtain ⟨⟨a1, a2⟩, a3⟩ := h n87
  have ra := ti_rng a
  have rb := ti_rng b
  have ea : a = I a.toInt := I_of a
  have eb : b = I b.toInt := I_of b
  rw [ea, lit0q, decL ra.1 ra.2 (by omega) (by omega)] at z0
  rw [ea, show (wi w 3 0).1 128 = w.1 128 from rfl, I_F (k := 128), decI (by omega) (by omega) ra.1 ra.2] at z1
  rw [eb, lit0q, decL rb.1 rb.2 (by omega) (by omega)] at z2
  have c0 := of_decide_eq_false z0
  have c1 := of_decide_eq_false z1
  have c2 := of_decide_eq_false z2
  obtain ⟨i, hi⟩ : ∃ i : Nat, a.toInt = i := ⟨a.toInt.toNat, by omega⟩
  obtain ⟨j, hj⟩ : ∃ j : Nat, b.toInt = j := ⟨b.toInt.toNat, by omega⟩
  rw [hi] at ea
  rw [hj] at eb
  have d := a3 i
  rw [ea, eb, show (wi w 3 0).2.2.1 = w.2.2.1 from rfl]
  refine ok_ck.mpr ⟨inb_at (k := 127) (n := 200) rfl (by omega) (by omega) (by decide), ?_⟩
  rw [I_tn (x := (i : Int)) (by omega) (by omega), Int.toNat_natCast, I_A (k := 127), decL (by omega) (by omega) (by omega) (by omega), show (100 : Int32) = I 100 from rfl, I_mul, I_add]
  exact ok_br.mpr ⟨fun zz => ok_ck.mpr ⟨inb_at (k := 126) (n := 20000) rfl (by omega) (by have := of_decide_eq_true zz; omega) (by decide), y _⟩, fun _ => y _⟩
theorem shown_ok {a : Int32} (h : 0 ≤ F w 130 ∧ F w 130 ≤ 100) : OK (fun v _ => FR [3] [] [] [] w v) (fm_M_shown N w a) := by
  unfold fm_M_shown fb_M_shown_0 fb_M_shown_17 fb_M_shown_27
  refine ok_lt.mpr ?_
  rw [three]
  have y : ∀ t : Int32, OK (fun v _ => FR [3] [] [] [] w v) (some (wi w 3 0, t)) := fun t => ok_some.mpr f3
  refine ok_br.mpr ⟨fun _ => y _, fun z0 => ok_br.mpr ⟨fun z1 => ?_, fun _ => y _⟩⟩
  have ra := ti_rng a
  have ea : a = I a.toInt := I_of a
  rw [ea, lit0q, decL ra.1 ra.2 (by omega) (by omega)] at z0
  rw [ea, show (wi w 3 0).1 130 = w.1 130 from rfl, I_F (k := 130), decL ra.1 ra.2 (by omega) (by omega)] at z1
  have c0 := of_decide_eq_false z0
  have c1 := of_decide_eq_true z1
  obtain ⟨i, hi⟩ : ∃ i : Nat, a.toInt = i := ⟨a.toInt.toNat, by omega⟩
  rw [hi] at ea
  rw [ea]
  exact ok_ck.mpr ⟨inb_at (k := 129) (n := 100) rfl (by omega) (by omega) (by decide), y _⟩
theorem isP {a : Int32} (h : F w 87 ≠ 0 → F w 118 = ((PR : Nat) : Int) ∧ PR ≤ 24) : OK (fun v r => v = wi w 3 0 ∧ (r = 0 ∨ (r = 1 ∧ F w 87 ≠ 0 ∧ ∃ p : Nat, p < PR ∧ a = I p))) (fm_M_isProcess N (wi w 3 0) a) := by
  have e87 : F (wi w 3 0) 87 = F w 87 := FR.F f3 (by decide)
  refine ok_mono (isProcess_ok (N := N) (w := wi w 3 0) (PR := PR) (a := a) (fun z => ?_)) (fun v r hv => ⟨hv.1, ?_⟩)
  · rw [FR.F f3 (by decide)]; exact h (by rw [← e87]; exact z)
  · rcases hv.2 with z | ⟨z1, z2, z3⟩
    · exact Or.inl z
    · exact Or.inr ⟨z1, by rw [← e87]; exact z2, z3⟩
theorem link_ok {a b : Int32} (h : F w 87 ≠ 0 → (F w 118 = ((PR : Nat) : Int) ∧ PR ≤ 24) ∧ ∀ p, p < PR → LKR w PR p) : OK (fun v _ => FR [3] [] [] [] w v) (fm_M_link N w a b) := by
  unfold fm_M_link fb_M_link_0 fb_M_link_27 fb_M_link_42
  refine ok_lt.mpr ?_
  rw [three]
  have y : ∀ t : Int32, OK (fun v _ => FR [3] [] [] [] w v) (some (wi w 3 0, t)) := fun t => ok_some.mpr f3
  refine ok_bnd.mpr (ok_mono (isP (N := N) (PR := PR) (a := a) (fun z => (h z).1)) (fun v r hv => ?_))
  obtain ⟨v1, v2⟩ := hv
  subst v1
  refine ok_br.mpr ⟨fun _ => y _, fun zr => ok_br.mpr ⟨fun _ => y _, fun z0 => ?_⟩⟩
  obtain ⟨n87, p, hp, ea⟩ : F w 87 ≠ 0 ∧ ∃ p : Nat, p < PR ∧ a = I p := by
    rcases v2 with v2 | ⟨-, v2⟩
    · exact absurd v2 (of_decide_eq_false zr)
    · exact v2
  obtain ⟨⟨-, pr⟩, l⟩ := h n87
  obtain ⟨l1, l2, -⟩ := l p hp
  have rb := ti_rng b
  have eb : b = I b.toInt := I_of b
  rw [eb, lit0q, decL rb.1 rb.2 (by omega) (by omega)] at z0
  have c0 := of_decide_eq_false z0
  obtain ⟨j, hj⟩ : ∃ j : Nat, b.toInt = j := ⟨b.toInt.toNat, by omega⟩
  rw [hj] at eb
  rw [ea, eb, show (wi w 3 0).2.2.1 = w.2.2.1 from rfl]
  refine ok_ck.mpr ⟨inb_at (k := 117) (n := 24) rfl (by omega) (by omega) (by decide), ?_⟩
  rw [I_tn (x := (p : Int)) (by omega) (by omega), Int.toNat_natCast, I_A (k := 117), decL (by omega) (by omega) (by omega) (by omega), show (24 : Int32) = I 24 from rfl, I_mul, I_add]
  exact ok_br.mpr ⟨fun zz => ok_ck.mpr ⟨inb_at (k := 116) (n := 576) rfl (by omega) (by have := of_decide_eq_true zz; omega) (by decide), y _⟩, fun _ => y _⟩
theorem pc_loop {a b : Int32} {L : Nat} (hp : p < 24) (hL : F w 125 = ((L : Nat) : Int)) (h200 : L ≤ 200) : ∀ (m k : Nat) (c : Int32), k ≤ L → L - k < m → OK (fun v _ => v = w) (gg_M_process N m w (I p) a b c (I k)) := by
  intro m
  induction m with
  | zero => intro k c _ h; omega
  | succ m ih =>
    intro k c hk hm
    show OK _ (fb_M_process_146 N (gg_M_process N m) w (I p) a b c (I k))
    unfold fb_M_process_146 fb_M_process_355 fb_M_process_285 fb_M_process_309 fb_M_process_339 fb_M_process_175
    have y : ∀ t : Int32, OK (fun v (_ : Int32) => v = w) (some (w, t)) := fun t => ok_some.mpr rfl
    have i : ∀ k n, ln k = n → 24 ≤ n → n < 2147483648 → inb (I (p : Int)) (ln k) = true := fun k n hk h1 h2 => inb_at hk (by omega) (by omega) h2
    rw [I_F' hL, decI (by omega) (by omega) (by omega) (by omega)]
    have z355 : OK (fun v (_ : Int32) => v = w) (br (decide (b = 0)) (ck (inb (I (p : Int)) (ln 115)) (some (w, w.2.2.1 115 (I (p : Int)).toNatClampNeg))) (some (w, 0))) := ok_br.mpr ⟨fun _ => ok_ck.mpr ⟨i 115 24 rfl (by decide) (by decide), y _⟩, fun _ => y _⟩
    refine ok_br.mpr ⟨fun _ => ok_br.mpr ⟨fun _ => ok_ck.mpr ⟨i 95 24 rfl (by decide) (by decide), y _⟩, fun _ => ok_br.mpr ⟨fun _ => ok_ck.mpr ⟨i 89 25 rfl (by decide) (by decide), y _⟩, fun _ => ok_br.mpr ⟨fun _ => z355, fun _ => ok_br.mpr ⟨fun _ => ok_ck.mpr ⟨i 108 24 rfl (by decide) (by decide), y _⟩, fun _ => ok_br.mpr ⟨fun _ => ok_ck.mpr ⟨i 117 24 rfl (by decide) (by decide), y _⟩, fun _ => ok_br.mpr ⟨fun _ => y _, fun _ => ok_br.mpr ⟨fun _ => ok_ck.mpr ⟨i 112 24 rfl (by decide) (by decide), ok_br.mpr ⟨fun _ => y _, fun _ => y _⟩⟩, fun _ => ok_br.mpr ⟨fun _ => ok_ck.mpr ⟨i 113 24 rfl (by decide) (by decide), y _⟩, fun _ => ok_br.mpr ⟨fun _ => z355, fun _ => ok_br.mpr ⟨fun _ => ok_br.mpr ⟨fun _ => y _, fun _ => ok_ck.mpr ⟨i 111 24 rfl (by decide) (by decide), ok_br.mpr ⟨fun _ => ok_ck.mpr ⟨i 111 24 rfl (by decide) (by decide), ok_br.mpr ⟨fun _ => ok_ck.mpr ⟨i 111 24 rfl (by decide) (by decide), y _⟩, fun _ => y _⟩⟩, fun _ => y _⟩⟩⟩, fun _ => z355⟩⟩⟩⟩⟩⟩⟩⟩⟩⟩, fun zz => ?_⟩
    have zz' := of_decide_eq_false zz
    rw [lit1q, I_add, show (k : Int) + 1 = ((k + 1 : Nat) : Int) from by omega]
    exact ok_ck.mpr ⟨inb_at (k := 123) (n := 4000) rfl (by omega) (by omega) (by decide), ok_br.mpr ⟨fun _ => ih (k + 1) _ (by omega) (by omega), fun _ => ih (k + 1) _ (by omega) (by omega)⟩⟩
theorem process_ok {a b : Int32} (h : F w 87 ≠ 0 → (F w 118 = ((PR : Nat) : Int) ∧ PR ≤ 24) ∧ WTQ w PR) (hN : 1000 ≤ N) : OK (fun v _ => FR [3] [] [] [] w v) (fm_M_process N w a b) := by
  unfold fm_M_process fb_M_process_0 fb_M_process_23
  refine ok_lt.mpr ?_
  rw [three]
  have y : ∀ t : Int32, OK (fun v _ => FR [3] [] [] [] w v) (some (wi w 3 0, t)) := fun t => ok_some.mpr f3
  refine ok_bnd.mpr (ok_mono (isP (N := N) (PR := PR) (a := a) (fun z => (h z).1)) (fun v r hv => ?_))
  obtain ⟨v1, v2⟩ := hv
  subst v1
  refine ok_br.mpr ⟨fun _ => y _, fun zr => ok_br.mpr ⟨fun _ => y _, fun _ => ok_br.mpr ⟨fun _ => ?_, fun _ => y _⟩⟩⟩
  obtain ⟨n87, p, hp, ea⟩ : F w 87 ≠ 0 ∧ ∃ p : Nat, p < PR ∧ a = I p := by
    rcases v2 with v2 | ⟨-, v2⟩
    · exact absurd v2 (of_decide_eq_false zr)
    · exact v2
  obtain ⟨⟨-, pr⟩, w1, w2, -⟩ := h n87
  rw [ea]
  have i : ∀ k n, ln k = n → 24 ≤ n → n < 2147483648 → inb (I (p : Int)) (ln k) = true := fun k n hk h1 h2 => inb_at hk (by omega) (by omega) h2
  obtain ⟨L, hL⟩ : ∃ L : Nat, F w 125 = L := ⟨(F w 125).toNat, by omega⟩
  have y56 : ∀ s t : Int32, OK (fun v _ => FR [3] [] [] [] w v) (fb_M_process_56 N (gg_M_process N N) (wi w 3 0) (I p) b s t) := fun s t => by
    unfold fb_M_process_56 fb_M_process_92 fb_M_process_134 fb_M_process_139
    refine ok_br.mpr ⟨fun _ => ok_br.mpr ⟨fun _ => ok_br.mpr ⟨fun _ => y _, fun _ => ok_bnd.mpr (ok_mono (mayGo_ok (N := N) (by omega)) (fun x r hx => ?_))⟩, fun _ => y _⟩, fun _ => ok_br.mpr ⟨fun _ => ok_ck.mpr ⟨i 90 24 rfl (by decide) (by decide), y _⟩, fun _ => ok_br.mpr ⟨fun _ => ok_ck.mpr ⟨i 114 24 rfl (by decide) (by decide), y _⟩, fun _ => ok_br.mpr ⟨fun _ => ?_, fun _ => ok_br.mpr ⟨fun _ => y _, fun _ => ok_br.mpr ⟨fun _ => y _, fun _ => y _⟩⟩⟩⟩⟩⟩
    · subst hx
      exact ok_br.mpr ⟨fun _ => y _, fun _ => y _⟩
    · rw [show (0 : Int32) = I ((0 : Nat) : Int) from rfl]
      exact ok_mono (pc_loop (N := N) (by omega) (by rw [FR.F f3 (by decide)]; exact hL) (by omega) N 0 _ (by omega) (by omega)) (fun v _ hv => by rw [hv]; exact f3)
  unfold fb_M_process_40
  rw [i 109 24 rfl (by decide) (by decide), ck_t, ck_t, ck_t]
  exact ok_br.mpr ⟨fun _ => ok_br.mpr ⟨fun _ => y56 _ _, fun _ => y56 _ _⟩, fun _ => ok_br.mpr ⟨fun _ => y56 _ _, fun _ => y56 _ _⟩⟩
end
