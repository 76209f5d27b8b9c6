set_option maxRecDepth 100000
section
variable {T : Nat → Option (Nat × Nat × List Nat × Nat × Nat)} {Fv : Int64 → Int64 → Prop} {P : Int64 → Prop} {u v w w1 : MS} {PR N q r n B W Y i h m g x j wb nb cb rk c f i2 h2 m2 g2 x2 j2 wb2 nb2 cb2 rk2 k a U d b e s l : Nat} {L L2 : List Nat} {ow kd : Nat → Nat} {t rest : Int64} {gi gl ga ki kl ka kj : List Nat}
theorem SMQ_f (M : MIc T Fv P PR q u i h m L g x j wb nb cb rk) (f : FC q gi gl ga ki kl ka kj u w) (h1 : ∀ k, k ∈ [7, 8, 15] → k ∉ ki) : SMQ w q := SMQ_up (M.1.1.2 q M.1.2.2.2.2.2.2.1).1 (f.Fq (by omega) (h1 15 (by simp))) (f.Fq (by omega) (h1 8 (by simp))) (by rw [f.Fq (by omega) (h1 7 (by simp))]; exact Int.le_refl _) (by rw [M.2.1]; decide)
theorem GD0 (M : MIc T Fv P PR q u i h m L 0 x j wb nb cb rk) (f : FC q gi gl ga ki kl ka kj u w) (h1 : 1112 ∉ gi) {wb2 : Nat} : GDS T w 0 wb2 := ⟨fun _ => by rw [f.Fg (by omega) h1]; exact M.2.2.2.2.2.1.1 rfl, fun z => absurd rfl z⟩
theorem BEGc (M : MIc T Fv P PR q u i h m L g x j wb nb cb rk) (f : FC q gi gl ga ki kl ka kj u w) (h1 : 1106 ∉ gi) (h2 : 1107 ∉ gi) : 0 ≤ F w 1106 ∧ F w 1106 ≤ F w 1107 ∧ F w 1107 ≤ 500 := by
  rw [f.Fg (by omega) h1, f.Fg (by omega) h2]; exact M.1.2.2.2.2.2.2.2
theorem pot_t0 {t t2 : Nat} : potc T i 0 t = potc T i 0 t2 := by unfold potc; rw [if_pos rfl, if_pos rfl]
theorem NRM_n (M2 : MIc T Fv P PR q w i2 h2 m2 L2 g2 x2 j wb nb cb rk2) (hf : PHc T u q i x rk ≤ c) (h1 : F w 1106 = F u 1106) (h2 : F w 1107 = F u 1107) (h3 : rk2 + potc T i2 x2 (F w (pq q 8)).toNat < rk + potc T i x (F u (pq q 8)).toNat) (s9 : F w 1109 = 0) (s8 : F w 1108 = 0) : OPQ T Fv P PR q c w := by
  refine Or.inl ⟨⟨_, _, _, _, _, _, _, _, _, _, _, M2, ?_⟩, s9, s8⟩
  unfold PHc at hf ⊢
  rw [h1, h2]; omega
theorem catch_okc {tg : Nat} (M : MIc T Fv P PR q u i h m L 0 0 j wb nb cb rk) (t9 : F u 1109 = 0) (t8 : F u 1108 = 0) (hf : PHc T u q i 0 rk ≤ c) (tt : T tg = some (h + 1, m, L, 0, 0)) (t2 : T (i + 2) = some (h, m, tg :: L, 0, 0)) : OK (fun w _ => OPQ T Fv P PR q c w) (bnd (hm_Fr_catchTo N u q (I ((tg : Nat) : Int))) (fun u48 _ => lt (upI u48 1105 ((u48.1 1105) + 2)) (fun w51 => some (w51, ())))) := by
  obtain ⟨n, ow, kd, Y, p⟩ := MI_p M
  have mb := MI_b M
  have ln := MI_ln M
  have w2b := (M.1.2.2.1 _ _ _ _ _ _ t2).1
  have wtb := (M.1.2.2.1 _ _ _ _ _ _ tt).1
  have st := M.2.2.1
  refine ok_bnd.mpr (ok_mono (catchTo_ok (N := N) (k := cb + L.length) ln st.2.2.2.1 (by omega)) (fun w1 _ hw1 => ok_lt.mpr (ok_some.mpr ?_)))
  obtain ⟨f1, j1, e28, ln1, rA, r0, r1, r2, r3⟩ := hw1
  have e5 : F w1 1105 = ((i : Nat) : Int) := by rw [f1.Fg (by omega) (by simp)]; exact M.2.2.2.1.2
  rw [I_lit (n := 2), at_e e5, show ((i : Nat) : Int) + (OfNat.ofNat 2 : Int) = ((i + 2 : Nat) : Int) by show _ + (2 : Int) = _; omega]
  have f2 : FC q [1105] [] [] [28, 47] [] [37] [] u (wi w1 1105 ((i + 2 : Nat) : Int)) := FC.wi_g (FC.mo f1 (by simp) (by simp) (by simp) (by simp) (by simp) (by simp) (by simp)) (by omega) (by simp)
  have qA : ∀ k a, A (wi w1 1105 ((i + 2 : Nat) : Int)) k a = A w1 k a := fun _ _ => rfl
  have p2 : PTQ (wi w1 1105 ((i + 2 : Nat) : Int)) q n ow kd Fv P (nb + m) (wb + h) Y := PTQ_same p (fun k hk => f2.2.2.2.2.1 q k (by simp at hk; omega) (fun _ => by simp at hk ⊢; omega)) (fun k _ => by show w1.2.2.2 _ = _; rw [j1])
  have r30 : (wi w1 1105 ((i + 2 : Nat) : Int)).2.2.1 (pq q 30) = u.2.2.1 (pq q 30) := f2.2.2.2.2.2.2.1 q 30 (by omega) (by simp)
  have q30 : ∀ a, A (wi w1 1105 ((i + 2 : Nat) : Int)) (pq q 30) a = A u (pq q 30) a := fun a => f2.aq (by omega) (by simp)
  obtain ⟨s1, ⟨s2, s3⟩, ⟨s4, s5⟩, s6, s7⟩ := st
  have st2 : STc T (wi w1 1105 ((i + 2 : Nat) : Int)) q j wb nb cb rk (tg :: L) := by
    refine ⟨FBc_lt r30 (fun a ha => by rw [qA]; exact rA a (by omega)) s1, ⟨by rw [f2.Fq (by omega) (by simp)]; exact s2, s3⟩, ⟨by rw [q30]; exact s4, by rw [q30]; exact s5⟩, ?_, ⟨h, m, tt, ?_, ?_, ?_, ?_⟩, ENT_lt (fun a ha => by rw [qA]; exact rA a ha) s7⟩
    · rw [F_wi (by omega) (by omega), if_neg (by unfold pq; omega), e28]; rfl
    · rw [qA, r0, s2]
    · rw [qA, r1, p.2.1.1]
    · rw [qA, r2, p.2.2.1.1]
    · rw [qA, r3, I_ti (by omega) (by omega)]
  have M2 : MIc T Fv P PR q (wi w1 1105 ((i + 2 : Nat) : Int)) (i + 2) h m (tg :: L) 0 0 j wb nb cb rk := MI_new M f2 (by simp) (by simp) (SMQ_f M f2 (by simp)) (by rw [f2.Fq (by omega) (by simp)]; exact M.2.1) p2 (LNB_g ln1 (by omega)) st2 t2 (at_F (by omega)) (GD0 M f2 (by simp)) (fun z => absurd rfl z) (fun z => absurd rfl z) (BEGc M f2 (by simp) (by simp))
  refine NRM_n M2 hf (f2.Fg (by omega) (by simp)) (f2.Fg (by omega) (by simp)) ?_ (by rw [f2.Fg (by omega) (by simp)]; exact t9) (by rw [f2.Fg (by omega) (by simp)]; exact t8)
  rw [f2.Fq (by omega) (by simp)]
  have := pot_x (j := i + 2) (t := (F u (pq q 8)).toNat) M.2.2.2.1.1 mb.1.2 (by omega)
  omega
theorem caught_okc {tg : Nat} (M : MIc T Fv P PR q u i h m (tg :: L) 0 x j wb nb cb rk) (hx : x < i) (t9 : F u 1109 = 0) (t8 : F u 1108 = 0) (hf : PHc T u q i x rk ≤ c) (t2 : T (i + 1) = some (h, m, L, 0, x)) : OPQ T Fv P PR q c (upI (upI u (pq q 28) ((u.1 (pq q 28)) - 1)) 1105 (((upI u (pq q 28) ((u.1 (pq q 28)) - 1)).1 1105) + 1)) := by
  obtain ⟨n, ow, kd, Y, p⟩ := MI_p M
  have mb := MI_b M
  have ln := MI_ln M
  have w2b := (M.1.2.2.1 _ _ _ _ _ _ t2).1
  obtain ⟨s1, ⟨s2, s3⟩, ⟨s4, s5⟩, s6, s7⟩ := M.2.2.1
  have el : (tg :: L).length = L.length + 1 := rfl
  rw [el] at s6 mb
  rw [I_F (k := pq q 28), s6, lit1q, I_sub, show ((cb + (L.length + 1) : Nat) : Int) - 1 = ((cb + L.length : Nat) : Int) by omega, wi_e]
  have e5 : F (wi u (pq q 28) ((cb + L.length : Nat) : Int)) 1105 = ((i : Nat) : Int) := by rw [F_wi (by omega) (by omega), if_neg (by unfold pq; omega)]; exact M.2.2.2.1.2
  rw [at_e e5, show ((i : Nat) : Int) + 1 = ((i + 1 : Nat) : Int) by omega]
  have f2 : FC q [1105] [] [] [28] [] [] [] u (wi (wi u (pq q 28) ((cb + L.length : Nat) : Int)) 1105 ((i + 1 : Nat) : Int)) := FC.wi_g (FC.wi_q FC.rf (by omega) (by simp)) (by omega) (by simp)
  have e28 : F (wi (wi u (pq q 28) ((cb + L.length : Nat) : Int)) 1105 ((i + 1 : Nat) : Int)) (pq q 28) = ((cb + L.length : Nat) : Int) := by rw [F_wi (by omega) (by omega), if_neg (by unfold pq; omega), F_wi (by omega) (by omega), if_pos rfl]
  have e5b : F (wi (wi u (pq q 28) ((cb + L.length : Nat) : Int)) 1105 ((i + 1 : Nat) : Int)) 1105 = ((i + 1 : Nat) : Int) := at_F (by omega)
  have p2 : PTQ (wi (wi u (pq q 28) ((cb + L.length : Nat) : Int)) 1105 ((i + 1 : Nat) : Int)) q n ow kd Fv P (nb + m) (wb + h) Y := PT_g (by omega) (PTQ_same p (fun k hk => if_neg (pq_inj (by simp at hk; omega))) (fun _ _ => rfl))
  generalize wi (wi u (pq q 28) ((cb + L.length : Nat) : Int)) 1105 ((i + 1 : Nat) : Int) = w at f2 e28 e5b p2 ⊢
  have r30 := f2.2.2.2.2.2.2.1 q 30 (by omega) (by simp)
  have r37 := f2.2.2.2.2.2.2.1 q 37 (by omega) (by simp)
  have hl := LNB_c ln
  have M2 : MIc T Fv P PR q w (i + 1) h m L 0 x j wb nb cb rk := MI_new M f2 (by simp) (by simp) (SMQ_f M f2 (by simp)) (by rw [f2.Fq (by omega) (by simp)]; exact M.2.1) p2 (LNB_28 ln (fun k hk => f2.2.2.2.2.1 q k (by simp at hk; omega) (fun _ => by simp at hk ⊢; omega)) (by rw [e28]; omega)) ⟨FBc_s r30 r37 s1, ⟨by rw [f2.Fq (by omega) (by simp)]; exact s2, s3⟩, ⟨by rw [f2.aq (by omega) (by simp)]; exact s4, by rw [f2.aq (by omega) (by simp)]; exact s5⟩, e28, ENT_s r37 s7.2⟩ t2 e5b (GD0 M f2 (by simp)) (fun h1 _ => by rw [f2.Fq (by omega) (by simp), f2.Fq (by omega) (by simp)]; exact M.2.2.2.2.2.2.1 h1 (by omega)) (UN_k M.2.2.2.2.2.2.2 (f2.2.2.2.2.2.1 q 10 (by omega) (by simp)) (f2.2.2.1 23 (by omega) (by simp))) (BEGc M f2 (by simp) (by simp))
  refine NRM_n M2 hf (f2.Fg (by omega) (by simp)) (f2.Fg (by omega) (by simp)) ?_ (by rw [f2.Fg (by omega) (by simp)]; exact t9) (by rw [f2.Fg (by omega) (by simp)]; exact t8)
  rw [f2.Fq (by omega) (by simp)]
  have := pot_x (j := i + 1) (t := (F u (pq q 8)).toNat) M.2.2.2.1.1 mb.1.2 (by omega)
  omega
theorem await_okc {y : Int32} (M : MIc T Fv P PR q u i h m L 0 0 j wb nb cb rk) (t9 : F u 1109 = 0) (t8 : F u 1108 = 0) (hf : PHc T u q i 0 rk ≤ c) (hy : (y = 1 ∧ A u 23 (i + 1) = 1 ∧ 1 ≤ h ∧ T (i + 2) = some (h - 1, m, L, 0, i + 2)) ∨ (y = 0 ∧ T (i + 2) = some (h, m, L, 0, i + 2))) : OK (fun w _ => OPQ T Fv P PR q c w) (hm_Ma_await N u q y) := by
  obtain ⟨n, ow, kd, Y, p⟩ := MI_p M
  have mb := MI_b M
  have ln := MI_ln M
  have Yb := PTQ_b p
  have w2b : i + 2 < 24000 := by
    rcases hy with ⟨-, -, -, z⟩ | ⟨-, z⟩ <;> exact (M.1.2.2.1 _ _ _ _ _ _ z).1.2
  unfold hm_Ma_await hb_Ma_await_0
  refine ok_lt.mpr (ok_lt.mpr ?_)
  rw [lit0q, wi_e, wl_e]
  have f1 : FC q [1105] [] [] [8, 26] [10] [] [] u (wl (wi u (pq q 8) 0) (pq q 10) (-1)) := FC.wl_q (FC.wi_q FC.rf (by omega) (by simp)) (by omega) (by simp)
  have e8 : F (wl (wi u (pq q 8) 0) (pq q 10) (-1)) (pq q 8) = 0 := by
    show F (wi u (pq q 8) 0) (pq q 8) = 0
    rw [F_wi (by decide) (by decide), if_pos rfl]
  have e10 : (wl (wi u (pq q 8) 0) (pq q 10) (-1)).2.1 (pq q 10) = -1 := if_pos rfl
  have e26 : F (wl (wi u (pq q 8) 0) (pq q 10) (-1)) (pq q 26) = ((wb + h : Nat) : Int) := by
    show F (wi u (pq q 8) 0) (pq q 26) = _
    rw [F_wi (by decide) (by decide), if_neg (pq_inj (by decide))]; exact p.2.2.1.1
  have p1 : PTQ (wl (wi u (pq q 8) 0) (pq q 10) (-1)) q n ow kd Fv P (nb + m) (wb + h) Y := PTQ_same p (fun k hk => if_neg (pq_inj (by simp at hk; omega))) (fun _ _ => rfl)
  have a5 : F (wl (wi u (pq q 8) 0) (pq q 10) (-1)) 1105 = ((i : Nat) : Int) := by
    show F (wi u (pq q 8) 0) 1105 = _
    rw [F_wi (by decide) (by decide), if_neg (by unfold pq; omega)]; exact M.2.2.2.1.2
  generalize wl (wi u (pq q 8) 0) (pq q 10) (-1) = w1 at f1 e8 e10 e26 p1 a5 ⊢
  have mkM : ∀ {w : MS} {i2 h2 x2 : Nat}, FC q [1105] [] [] [8, 26] [10] [] [] u w → F w (pq q 8) = 0 → PTQ w q n ow kd Fv P (nb + m) (wb + h2) Y → F w 1105 = ((i2 : Nat) : Int) → T i2 = some (h2, m, L, 0, x2) → (x2 = 0 ∨ x2 = i2) → UNc w q x2 → MIc T Fv P PR q w i2 h2 m L 0 x2 j wb nb cb rk := fun {w i2 h2 x2} f e8 p2 e t2 hx2 hu => by
    refine MI_new M f (by simp) (by simp) ?_ (by rw [f.Fq (by omega) (by simp)]; exact M.2.1) p2 (LNB_k ln f (by simp)) (STc_s M.2.2.1 (f.2.2.2.2.2.2.1 q 30 (by omega) (by simp)) (f.2.2.2.2.2.2.1 q 37 (by omega) (by simp)) (f.2.2.2.2.1 q 21 (by omega) (by simp)) (f.2.2.2.2.1 q 28 (by omega) (by simp))) t2 e (GD0 M f (by simp)) (fun h1 h2 => by rcases hx2 with z | z <;> exact absurd z (by assumption)) hu (BEGc M f (by simp) (by simp))
    have sm := (M.1.1.2 q M.1.2.2.2.2.2.2.1).1
    refine ⟨by rw [f.Fq (by omega) (by simp)]; exact sm.1, by rw [e8]; decide, fun _ => ?_⟩
    rw [e8, f.Fq (by omega) (by simp), p.2.2.2.1.1]; omega
  have fin : ∀ {w : MS} {h2 : Nat}, FC q [1105] [] [] [8, 26] [10] [] [] u w → F w (pq q 8) = 0 → PTQ w q n ow kd Fv P (nb + m) (wb + h2) Y → F w 1105 = ((i : Nat) : Int) → T (i + 2) = some (h2, m, L, 0, i + 2) → UNc w q (i + 2) → OK (fun w _ => OPQ T Fv P PR q c w) (hb_Ma_await_104 N () w q) := fun {w h2} f e8 p2 e t2 hu => by
    unfold hb_Ma_await_104
    refine ok_lt.mpr (ok_some.mpr ?_)
    rw [I_lit (n := 2), at_e e, show ((i : Nat) : Int) + (OfNat.ofNat 2 : Int) = ((i + 2 : Nat) : Int) by show _ + (2 : Int) = _; omega]
    have f3 : FC q [1105] [] [] [8, 26] [10] [] [] u (wi w 1105 ((i + 2 : Nat) : Int)) := FC.wi_g f (by omega) (by simp)
    have e83 : F (wi w 1105 ((i + 2 : Nat) : Int)) (pq q 8) = 0 := by rw [F_wi (by omega) (by omega), if_neg (by unfold pq; omega)]; exact e8
    refine NRM_n (mkM f3 e83 (PT_g (by omega) p2) (at_F (by omega)) t2 (Or.inr rfl) hu) hf (f3.Fg (by omega) (by simp)) (f3.Fg (by omega) (by simp)) ?_ (by rw [f3.Fg (by omega) (by simp)]; exact t9) (by rw [f3.Fg (by omega) (by simp)]; exact t8)
    rw [e83]
    have := pot_aw (t2 := (F u (pq q 8)).toNat) M.2.2.2.1.1 mb.1.2
    show rk + potc T (i + 2) (i + 2) 0 < _
    omega
  rcases hy with ⟨rfl, h0, h1, t2⟩ | ⟨rfl, t2⟩
  · refine ok_br.mpr ⟨fun z => absurd z (by decide), fun _ => ?_⟩
    have M1 := mkM f1 e8 p1 a5 M.2.2.2.1.1 (Or.inl rfl) (fun z => absurd rfl z)
    obtain ⟨b0, g0⟩ := below_0 (N := N) M1 p1 (by omega)
    have s9 : F w1 1109 = 0 := by rw [f1.Fg (by omega) (by simp)]; exact t9
    have s8 : F w1 1108 = 0 := by rw [f1.Fg (by omega) (by simp)]; exact t8
    have hf1 : PHc T w1 q i 0 rk ≤ c := by
      unfold PHc at hf ⊢
      rw [f1.Fg (k := 1107) (by omega) (by simp), f1.Fg (k := 1106) (by omega) (by simp), pot_t0 (t := (F w1 (pq q 8)).toNat) (t2 := (F u (pq q 8)).toNat)]
      exact hf
    have e96 : ∀ {w : MS}, FC q [1105] [] [] [8, 26] [10] [] [] u w → F w (pq q 8) = 0 → PTQ w q n ow kd Fv P (nb + m) (wb + h) Y → F w 1105 = ((i : Nat) : Int) → OK (fun w _ => OPQ T Fv P PR q c w) (hb_Ma_await_96 N () w q) := fun {w} f e8 p2 e => by
      unfold hb_Ma_await_96
      rw [lit1q, drop_e (x := 1) (k := 1) p2.2.2.1.1 rfl (by omega), bnd_so]
      obtain ⟨d1, d2⟩ := drop_t (k := 1) p2 (by omega)
      rw [show wb + h - 1 = wb + (h - 1) by omega] at d2 d1 ⊢
      refine fin (FC.wi_q f (by omega) (by simp)) (by rw [F_wi (by omega) (by omega), if_neg (pq_inj (by decide))]; exact e8) d2 (by rw [F_wi (by omega) (by omega), if_neg (by unfold pq; omega)]; exact e) t2 (fun _ y => ?_)
      rw [show i + 2 - 1 = i + 1 by omega] at y
      have : A u 23 (i + 1) = 0 := by rw [← y]; exact (f.ag (by omega) (by simp)).symm
      omega
    have e72 : ∀ v2 v4, OK (fun w _ => OPQ T Fv P PR q c w) (hb_Ma_await_72 N () w1 q v2 v4) := fun v2 v4 => by
      unfold hb_Ma_await_72
      refine ok_br.mpr ⟨fun _ => e96 f1 e8 p1 a5, fun _ => ok_lt.mpr ?_⟩
      rw [wl_e]
      exact e96 (FC.wl_q f1 (by omega) (by simp)) e8 (PTQ_same p1 (fun _ _ => rfl) (fun _ _ => rfl)) a5
    have e48 : ∀ v2 t0, OK (fun w _ => OPQ T Fv P PR q c w) (hb_Ma_await_48 N () w1 q v2 t0) := fun v2 t0 => by
      unfold hb_Ma_await_48
      refine ok_br.mpr ⟨fun _ => ?_, fun _ => e72 _ _⟩
      rw [I_lit (n := 10), atom_e, bnd_so]
      exact ok_br.mpr ⟨fun _ => e72 _ _, fun _ => ERR_o (a := 11) M1 s9 s8 hf1 (by omega)⟩
    rw [← lit0q, b0, bnd_so, e_tag, bnd_so]
    unfold hb_Ma_await_47
    exact ok_br.mpr ⟨fun _ => ok_br.mpr ⟨fun _ => e48 _ _, fun _ => e48 _ _⟩, fun _ => e48 _ _⟩
  · exact ok_br.mpr ⟨fun _ => fin f1 e8 p1 a5 t2 (fun _ _ => e10), fun z => absurd z (by decide)⟩
end
