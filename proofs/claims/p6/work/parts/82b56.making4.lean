set_option maxRecDepth 100000
section
variable {T : Nat → Option (Nat × Nat × List Nat × Nat × Nat)} {Fv : Int64 → Int64 → Prop} {P : Int64 → Prop} {u v w : MS} {PR N q r n B W Y i h m g x j wb nb cb rk c f i2 h2 m2 k a U d : Nat} {L : List Nat} {ow kd : Nat → Nat} {t rest : Int64}
theorem mak1 : hm_Ma_making N u q (I 1) = bnd (hm_Co_at N u ((u.1 1105) + 1)) (fun u3 r3 => bnd (hm_Co_at N u3 ((u3.1 1105) + 2)) (fun u8 r8 => bnd (hm_Te_make N u8 r3 r8) (fun u10 r10 => bnd (hm_Fr_push N u10 q r10) (fun u11 _ => lt (upI u11 1105 ((u11.1 1105) + 3)) (fun w14 => some (w14, ())))))) := rfl
theorem mak2 : hm_Ma_making N u q (I 2) = bnd (hm_Co_at N u ((u.1 1105) + 1)) (fun u3 r3 => bnd (hm_Ma_string N u3 q r3) (fun u15 _ => some (u15, ()))) := rfl
theorem mak3 : hm_Ma_making N u q (I 3) = bnd (hm_Co_at N u ((u.1 1105) + 1)) (fun u3 r3 => bnd (hm_Fr_termOf N u3 q r3) (fun u18 r18 => bnd (hm_Fr_push N u18 q r18) (fun u20 _ => lt (upI u20 1105 ((u20.1 1105) + 2)) (fun w23 => some (w23, ()))))) := rfl
theorem mak4 : hm_Ma_making N u q (I 4) = bnd (hm_Co_at N u ((u.1 1105) + 1)) (fun u3 r3 => bnd (hm_Ma_tuple N u3 q r3) (fun u15 _ => some (u15, ()))) := rfl
theorem mak5 : hm_Ma_making N u q (I 5) = bnd (hm_Co_at N u ((u.1 1105) + 1)) (fun u3 r3 => bnd (hm_Ma_list N u3 q r3) (fun u15 _ => some (u15, ()))) := rfl
theorem mak6 : hm_Ma_making N u q (I 6) = bnd (hm_Co_at N u ((u.1 1105) + 1)) (fun u3 r3 => bnd (hm_Ma_fun N u3 q r3) (fun u15 _ => some (u15, ()))) := rfl
theorem mak7 : hm_Ma_making N u q (I 7) = bnd (hm_Co_at N u ((u.1 1105) + 1)) (fun u3 r3 => bnd (hm_Ma_funOf N u3 q r3) (fun u15 _ => some (u15, ()))) := rfl
theorem opd (M : MIc T Fv P PR q u i h m L g x j wb nb cb rk) {y : Int} {k : Nat} (hy : y = ((k : Nat) : Int)) (hk : i + k < 24000) : hm_Co_at N u ((u.1 1105) + I y) = some (u, I (A u 23 (i + k))) := by
  rw [I_F (k := 1105), M.2.2.2.1.2, I_add]
  exact Co_e (by omega) hk
theorem opd1 (M : MIc T Fv P PR q u i h m L g x j wb nb cb rk) (hk : i + 1 < 24000) : hm_Co_at N u ((u.1 1105) + 1) = some (u, I (A u 23 (i + 1))) := opd M (y := 1) (k := 1) rfl hk
theorem opd2 (M : MIc T Fv P PR q u i h m L g x j wb nb cb rk) (hk : i + 2 < 24000) : hm_Co_at N u ((u.1 1105) + 2) = some (u, I (A u 23 (i + 2))) := opd M (y := 2) (k := 2) rfl hk
theorem opd3 (M : MIc T Fv P PR q u i h m L g x j wb nb cb rk) (hk : i + 3 < 24000) : hm_Co_at N u ((u.1 1105) + 3) = some (u, I (A u 23 (i + 3))) := opd M (y := 3) (k := 3) rfl hk
theorem opd_any (y : Int32) : ∃ r, hm_Co_at N u ((u.1 1105) + y) = some (u, r) := Co_any _
theorem making_ok (M : MIc T Fv P PR q u i h m L g x j wb nb cb rk) (t9 : F u 1109 = 0) (t8 : F u 1108 = 0) (hf : PHc T u q i x rk ≤ c) (h8 : A u 23 i < 8) (hN : 3000000 ≤ N) : OK (fun w _ => OPQ T Fv P PR q c w) (hm_Ma_making N u q (I (A u 23 i))) := by
  obtain ⟨n, ow, kd, Y, p⟩ := MI_p M
  have mb := MI_b M
  have ln := MI_ln M
  have cx := M.1.2.1
  have cd := M.1.2.2.2.1
  obtain ⟨b1, b2, -, -, ⟨b5, b6⟩, ins⟩ := M.1.2.2.1 _ _ _ _ _ _ M.2.2.2.1.1
  have hx : x < i := b6 (by omega)
  have ok1 : ∀ {o : Option (MS × Unit)}, OK (fun w _ => OPQ T Fv P PR q c w) o → OK (fun w _ => OPQ T Fv P PR q c w) (bnd o (fun u15 _ => some (u15, ()))) := fun h => ok_bnd.mpr (ok_mono h (fun w _ hw => ok_some.mpr hw))
  have bd : ∀ {k y}, T k = some y → k < 24000 := fun {k y} e => by
    obtain ⟨a, b, c, d, e2⟩ := y
    exact (M.1.2.2.1 _ _ _ _ _ _ e).1.2
  have wfh : ∀ {k a b c d e}, T k = some (a, b, c, d, e) → a ≤ 1090 := fun e => (M.1.2.2.1 _ _ _ _ _ _ e).2.1.1
  rcases ins with ins | ins | ins
  · rcases ins with ⟨o, o1, o2⟩ | ⟨o, s, o1, o2, o3⟩ | ⟨o, o1⟩ | ⟨o, s, o1, o2, o3⟩ | ⟨o, s, o1, o2, o3, o4⟩ | ⟨o, pl, s, o1, o2, o3, o4, o5, o6⟩ | ⟨o, s, o1, o2, o3⟩ | ⟨o, -⟩ | ⟨o, -⟩ | ⟨o, -⟩ | ⟨o, -⟩ | ⟨o, -⟩ | ⟨o, -⟩
    · have := bd o2
      have hh := wfh o2
      rw [o, mak1, opd1 M (by omega), bnd_so, opd2 M (by omega), bnd_so, e_make, bnd_so]
      have gt : GT n ow kd P (mk (A u 23 (i + 1)) (A u 23 (i + 2))) := by
        rcases o1 with e | ⟨e, e1, e2⟩ | ⟨e, e1⟩
        · rw [e]; exact GT_0c cx (ARG1 u _ _)
        · rw [e]; exact Or.inl ⟨nh_so (by rw [so_mk (by decide) (by decide)]; decide), cx.2.2.2.2.2.1 _ e1 e2⟩
        · rw [e, e1]; exact GT_6 cx
      refine ok_bnd.mpr (ok_mono (push_t (N := N) p ln (by omega) gt) (fun w5 _ hw5 => ok_lt.mpr (ok_some.mpr ?_)))
      obtain ⟨fm5, p5, ln5, -⟩ := hw5
      rw [show wb + h + 1 = wb + (h + 1) by omega] at p5
      rw [I_lit (n := 3)]
      exact fin_t M t9 t8 hf hx fm5 p5 ln5 o2 (by show _ + (3 : Int) = _; omega) (by omega) (by omega)
    · have := bd o3
      rw [o, mak2, opd1 M (by omega), bnd_so, o1]
      exact ok1 (string_ok M hx t9 t8 hf o2 o3 hN)
    · have := bd o1
      have hh := wfh o1
      rw [o, mak3, opd1 M (by omega), bnd_so, termOf_e p.2.1.1 ln (PTQ_43 p) (by omega), bnd_so]
      refine ok_bnd.mpr (ok_mono (push_t (N := N) p ln (by omega) (tval_gt p cx)) (fun w5 _ hw5 => ok_lt.mpr (ok_some.mpr ?_)))
      obtain ⟨fm5, p5, ln5, -⟩ := hw5
      rw [show wb + h + 1 = wb + (h + 1) by omega] at p5
      rw [I_lit (n := 2)]
      exact fin_t M t9 t8 hf hx fm5 p5 ln5 o1 (by show _ + (2 : Int) = _; omega) (by omega) (by omega)
    · have := bd o3
      rw [o, mak4, opd1 M (by omega), bnd_so, o1]
      exact ok1 (tuple_ok M hx t9 t8 hf o2 o3 hN)
    · have := bd o4
      rw [o, mak5, opd1 M (by omega), bnd_so, o1]
      exact ok1 (list_ok M hx t9 t8 hf o2 o3 o4 hN)
    · have := bd o6
      rw [o, mak6, opd1 M (by omega), bnd_so, o1]
      obtain ⟨-, -, -, c4, -, -⟩ := cd
      obtain ⟨a, e, p0, k0, d1, d2, d3, d4, d5, d6, d7⟩ := c4 pl o2
      have e0 : p0 = i + 2 := by omega
      subst e0
      have e1 : k0 = s := by omega
      subst e1
      exact ok1 (fun_ok2 M hx t9 t8 hf d7 o4 o5 o6 hN)
    · have := bd o3
      rw [o, mak7, opd1 M (by omega), bnd_so, o1]
      obtain ⟨⟨-, c1⟩, -, -, -, c5, -⟩ := cd
      exact ok1 (funOf_ok M hx t9 t8 hf (c5 s o2) (by omega) o3 hN)
    all_goals omega
  · exfalso
    rcases ins with ⟨o, -⟩ | ⟨o, -⟩ | ⟨o, -⟩ | ⟨o, -⟩ | ⟨o, -⟩ | ⟨o, -⟩ | ⟨o, -⟩ | ⟨o, -⟩ | ⟨o, -⟩ | ⟨o, -⟩ | ⟨o, -⟩ <;> omega
  · exfalso
    rcases ins with ⟨o, -⟩ | ⟨o, -⟩ | ⟨o, -⟩ | ⟨o, -⟩ | ⟨o, -⟩ | o | ⟨o, -⟩ | ⟨o, -⟩ | ⟨o, -⟩ <;> omega
end
