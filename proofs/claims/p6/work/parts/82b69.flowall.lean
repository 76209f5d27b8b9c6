set_option maxRecDepth 100000
section
variable {T : Nat → Option (Nat × Nat × List Nat × Nat × Nat)} {Fv : Int64 → Int64 → Prop} {P : Int64 → Prop} {u v w w1 : MS} {PR N q r n B W Y i h m g x j wb nb cb rk c f i2 h2 m2 g2 x2 j2 wb2 nb2 cb2 rk2 k a U d b e s l : Nat} {L L2 : List Nat} {ow kd : Nat → Nat} {t rest : Int64}
theorem flo18 : hm_Ma_flow N u q (I 18) = bnd (hm_Co_at N u ((u.1 1105) + 1)) (fun u5 r5 => lt (upI u5 1105 r5) (fun w7 => some (w7, ()))) := rfl
theorem flo19 : hm_Ma_flow N u q (I 19) = bnd (hm_Co_at N u ((u.1 1105) + 1)) (fun u5 r5 => bnd (hm_Ma_tries N u5 q r5) (fun u8 _ => some (u8, ()))) := rfl
theorem flo20 : hm_Ma_flow N u q (I 20) = bnd (hm_Co_at N u ((u.1 1105) + 1)) (fun u5 _ => bnd (hm_Ma_match N u5 q) (fun u8 _ => some (u8, ()))) := rfl
theorem flo21 : hm_Ma_flow N u q (I 21) = bnd (hm_Co_at N u ((u.1 1105) + 1)) (fun u5 r5 => lt (upI u5 1113 r5) (fun w10 => bnd (hm_Co_at N w10 ((w10.1 1105) + 2)) (fun u13 r13 => lt (upI u13 1112 r13) (fun w15 => lt (upI w15 1114 (w15.1 (pq q 26))) (fun w19 => lt (upI w19 1105 ((w19.1 1105) + 3)) (fun w21 => some (w21, ()))))))) := rfl
theorem flo22 : hm_Ma_flow N u q (I 22) = bnd (hm_Co_at N u ((u.1 1105) + 1)) (fun u5 _ => bnd (hm_Fr_below N u5 q 0) (fun u23 r23 => bnd (hm_Ma_atom N u23 0) (fun u25 r25 => br (decide ((lg_cmp r23 r25) = 0)) (bnd (hm_Fr_drop N u25 q 1) (fun u27 _ => lt (upI u27 1105 ((u27.1 1105) + 1)) (fun w30 => some (w30, ())))) (bnd (hm_Ma_guardFails N u25 q) (fun u31 _ => some (u31, ())))))) := rfl
theorem flo23 : hm_Ma_flow N u q (I 23) = bnd (hm_Co_at N u ((u.1 1105) + 1)) (fun u5 _ => lt (upI u5 1112 0) (fun w32 => lt (upI w32 1105 ((w32.1 1105) + 1)) (fun w34 => some (w34, ())))) := rfl
theorem flo24 : hm_Ma_flow N u q (I 24) = bnd (hm_Co_at N u ((u.1 1105) + 1)) (fun u5 r5 => bnd (hm_Fr_drop N u5 q r5) (fun u36 _ => bnd (hm_Co_at N u36 ((u36.1 1105) + 2)) (fun u41 r41 => bnd (hm_Fr_setLine N u41 q r41) (fun u43 _ => lt (upI u43 1105 ((u43.1 1105) + 3)) (fun w46 => some (w46, ())))))) := rfl
theorem flo25 : hm_Ma_flow N u q (I 25) = bnd (hm_Co_at N u ((u.1 1105) + 1)) (fun u5 r5 => bnd (hm_Ma_call N u5 q r5 0) (fun u8 _ => some (u8, ()))) := rfl
theorem flo26 : hm_Ma_flow N u q (I 26) = bnd (hm_Co_at N u ((u.1 1105) + 1)) (fun u5 r5 => bnd (hm_Ma_call N u5 q r5 1) (fun u8 _ => some (u8, ()))) := rfl
theorem flo27 : hm_Ma_flow N u q (I 27) = bnd (hm_Co_at N u ((u.1 1105) + 1)) (fun u5 r5 => bnd (hm_Ma_apply N u5 q r5 0) (fun u8 _ => some (u8, ()))) := rfl
theorem flo28 : hm_Ma_flow N u q (I 28) = bnd (hm_Co_at N u ((u.1 1105) + 1)) (fun u5 r5 => bnd (hm_Ma_apply N u5 q r5 1) (fun u8 _ => some (u8, ()))) := rfl
theorem flo29 : hm_Ma_flow N u q (I 29) = bnd (hm_Co_at N u ((u.1 1105) + 1)) (fun u5 r5 => bnd (hm_Fr_catchTo N u5 q r5) (fun u48 _ => lt (upI u48 1105 ((u48.1 1105) + 2)) (fun w51 => some (w51, ())))) := rfl
theorem flo30 : hm_Ma_flow N u q (I 30) = bnd (hm_Co_at N u ((u.1 1105) + 1)) (fun u5 _ => lt (upI u5 (pq q 28) ((u5.1 (pq q 28)) - 1)) (fun w55 => lt (upI w55 1105 ((w55.1 1105) + 1)) (fun w57 => some (w57, ())))) := rfl
theorem flo31 : hm_Ma_flow N u q (I 31) = bnd (hm_Co_at N u ((u.1 1105) + 1)) (fun u5 r5 => bnd (br (decide (r5 = 1)) (bnd (hm_Ma_await N u5 q 1) (fun u1 _ => some (u1, ()))) (bnd (hm_Ma_await N u5 q 0) (fun u1 _ => some (u1, ())))) (fun u8 _ => some (u8, ()))) := rfl
theorem flo32 : hm_Ma_flow N u q (I 32) = bnd (hm_Co_at N u ((u.1 1105) + 1)) (fun u5 r5 => bnd (bnd (hm_Ma_nextMessage N u5 q r5) (fun u2 _ => some (u2, ()))) (fun u8 _ => some (u8, ()))) := rfl
theorem flo33 : hm_Ma_flow N u q (I 33) = bnd (hm_Co_at N u ((u.1 1105) + 1)) (fun u5 _ => bnd (bnd (hm_Pr_takeMessage N u5 q) (fun u4 _ => lt (upI u4 1105 ((u4.1 1105) + 1)) (fun w7 => some (w7, ())))) (fun u8 _ => some (u8, ()))) := rfl
theorem flo34 : hm_Ma_flow N u q (I 34) = bnd (hm_Co_at N u ((u.1 1105) + 1)) (fun u5 r5 => bnd (lt (upI u5 (pq q 8) ((u5.1 (pq q 8)) + 1)) (fun w11 => lt (upI w11 1105 r5) (fun w12 => some (w12, ())))) (fun u8 _ => some (u8, ()))) := rfl
theorem flo35 : hm_Ma_flow N u q (I 35) = bnd (hm_Co_at N u ((u.1 1105) + 1)) (fun u5 _ => bnd (bnd (hm_Ma_returns N u5 q) (fun u2 _ => some (u2, ()))) (fun u8 _ => some (u8, ()))) := rfl
theorem flo36 : hm_Ma_flow N u q (I 36) = bnd (hm_Co_at N u ((u.1 1105) + 1)) (fun u5 _ => bnd (bnd (hm_Ma_wrong N u5 q 14) (fun u2 _ => some (u2, ()))) (fun u8 _ => some (u8, ()))) := rfl
theorem flo37 : hm_Ma_flow N u q (I 37) = bnd (hm_Co_at N u ((u.1 1105) + 1)) (fun u5 _ => bnd (bnd (hm_Fr_below N u5 q 0) (fun u16 r16 => bnd (hm_Ma_tell N u16 q 1 15 r16) (fun u18 _ => some (u18, ())))) (fun u8 _ => some (u8, ()))) := rfl
theorem flo38 : hm_Ma_flow N u q (I 38) = bnd (hm_Co_at N u ((u.1 1105) + 1)) (fun u5 _ => bnd (bnd (hm_Ma_wrong N u5 q 16) (fun u2 _ => some (u2, ()))) (fun u8 _ => some (u8, ()))) := rfl
theorem flow_ok (M : MIc T Fv P PR q u i h m L g x j wb nb cb rk) (t9 : F u 1109 = 0) (t8 : F u 1108 = 0) (hf : PHc T u q i x rk ≤ c) (h18 : 18 ≤ A u 23 i) (h39 : A u 23 i ≠ 39 ∧ A u 23 i ≠ 40) (hN : 600000000010 ≤ N) : OK (fun w _ => OPQ T Fv P PR q c w) (hm_Ma_flow N u q (I (A u 23 i))) := by
  obtain ⟨n, ow, kd, Y, p⟩ := MI_p M
  have mb := MI_b M
  have ln := MI_ln M
  have cx := M.1.2.1
  obtain ⟨b1, b2, -, -, ⟨b5, b6⟩, ins⟩ := M.1.2.2.1 _ _ _ _ _ _ M.2.2.2.1.1
  have ok1 : ∀ {o : Option (MS × Unit)}, OK (fun w _ => OPQ T Fv P PR q c w) o → OK (fun w _ => OPQ T Fv P PR q c w) (bnd o (fun u15 _ => some (u15, ()))) := fun h => ok_bnd.mpr (ok_mono h (fun w _ hw => ok_some.mpr hw))
  have bd : ∀ {k y}, T k = some y → k < 24000 := fun {k y} e => by
    obtain ⟨a, b, c, d, e2⟩ := y
    exact (M.1.2.2.1 _ _ _ _ _ _ e).1.2
  have any := opd_any (N := N) (u := u) 1
  have one : ∀ {fn : MS → Int32 → Option (MS × Unit)}, (∀ r, OK (fun w _ => OPQ T Fv P PR q c w) (fn u r)) → OK (fun w _ => OPQ T Fv P PR q c w) (bnd (hm_Co_at N u ((u.1 1105) + 1)) fn) := fun hh => by
    obtain ⟨r, hr⟩ := any
    rw [hr, bnd_so]; exact hh r
  rcases ins with ins | ins | ins
  · exfalso
    rcases ins with ⟨o, -⟩ | ⟨o, -⟩ | ⟨o, -⟩ | ⟨o, -⟩ | ⟨o, -⟩ | ⟨o, -⟩ | ⟨o, -⟩ | ⟨o, -⟩ | ⟨o, -⟩ | ⟨o, -⟩ | ⟨o, -⟩ | ⟨o, -⟩ | ⟨o, -⟩ <;> omega
  · rcases ins with ⟨o, tg, o1, o2, o3⟩ | ⟨o, rfl, o1, ⟨fl, o2, o3, o4⟩, ff, bb, ee, o5, o6, o7, o8, o9⟩ | ⟨o, rfl, o1, ff, bb, ee, o5, o6, o7, o8, o9⟩ | ⟨o, rfl, nn, o1, o2, o3⟩ | ⟨o, o1, o2, o3⟩ | ⟨o, o1⟩ | ⟨o, nn, o1, o2, o3⟩ | ⟨o, rfl, rfl, fn, nn, o1, o2, o3, o4, o5, ofl, o6⟩ | ⟨o, rfl, rfl, nn, o1, o2, ofl, o3⟩ | ⟨o, rfl, rfl, tg, o1, o2, o3, o4⟩ | ⟨o, rfl, tg, LL, rfl, o1⟩
    · have hx : x < i := b6 (by omega)
      have := bd o3
      rw [o, flo18]
      obtain ⟨r, hr⟩ := any
      have i1 : i + 1 < 24000 := by omega
      rw [opd1 M i1, bnd_so, o1]
      refine ok_lt.mpr (ok_some.mpr ?_)
      rw [wi_e]
      exact NRM_f M t9 t8 hf hx (FMc.at FMc.rf) (at_t p) (LNB_g ln (by omega)) o3 (at_F (by omega)) o2
    · have hx : x < i := b6 (by omega)
      have := bd o9
      rw [o, flo19, opd1 M (by omega), bnd_so]
      exact ok1 (tries_ok M hx t9 t8 hf o1 o2 o3 o4 o5 o6 o7 o8 o9 hN)
    · have hx : x < i := b6 (by omega)
      have := bd o9
      rw [o, flo20, opd1 M (by omega), bnd_so]
      exact ok1 (match_okc M hx t9 t8 hf o1 o5 o6 o7 o8 o9 hN)
    · have hx : x < i := b6 (by omega)
      have := bd o3
      rw [o, flo21, opd1 M (by omega), bnd_so]
      exact guardc_ok M hx t9 t8 hf o3 rfl
    · have hx : x < i := b6 (by omega)
      rw [o, flo22]
      exact one (fun r => holdsG_ok M hx t9 t8 hf o1 o2 o3)
    · have hx : x < i := b6 (by omega)
      rw [o, flo23]
      exact one (fun r => ok_lt.mpr (ok_lt.mpr (ok_some.mpr (guarded_ok M hx t9 t8 hf o1))))
    · have hx : x < i := b6 (by omega)
      have := bd o3
      rw [o, flo24, opd1 M (by omega), bnd_so, o1]
      exact chosenc_ok M hx t9 t8 hf o2 o3
    · have := bd o6
      rcases o with o | ⟨o, rfl⟩
      · rw [o, flo25, opd1 M (by omega), bnd_so, o1]
        exact ok1 (call_okc (la := 0) M t9 t8 hf (Or.inl rfl) o2 o3 o4 o5 ofl o6)
      · rw [o, flo26, opd1 M (by omega), bnd_so, o1]
        exact ok1 (call_okc (la := 1) M t9 t8 hf (Or.inr ⟨rfl, rfl⟩) o2 o3 o4 o5 ofl o6)
    · have := bd o3
      rcases o with o | ⟨o, rfl⟩
      · rw [o, flo27, opd1 M (by omega), bnd_so, o1]
        exact ok1 (apply_okc (la := 0) M t9 t8 hf (Or.inl rfl) o2 ofl o3 (by omega))
      · rw [o, flo28, opd1 M (by omega), bnd_so, o1]
        exact ok1 (apply_okc (la := 1) M t9 t8 hf (Or.inr ⟨rfl, rfl⟩) o2 ofl o3 (by omega))
    · have := bd o4
      rw [o, flo29, opd1 M (by omega), bnd_so, o1]
      exact catch_okc M t9 t8 hf o3 o4
    · have hx : x < i := b6 (by omega)
      rw [o, flo30]
      exact one (fun r => ok_lt.mpr (ok_lt.mpr (ok_some.mpr (caught_okc M hx t9 t8 hf o1))))
  · rcases ins with ⟨o, rfl, rfl, o1⟩ | ⟨o, rfl, rfl, o1, o2⟩ | ⟨o, rfl, o1, o2⟩ | ⟨o, rfl, o1, i1, o2, o3⟩ | ⟨o, rfl, rfl, o1, rfl⟩ | o | ⟨o, o1⟩ | ⟨o, -⟩ | ⟨o, -⟩
    · have i2 : i + 2 < 24000 := by
        rcases o1 with ⟨-, -, z⟩ | ⟨-, z⟩ <;> exact bd z
      rw [o, flo31, opd1 M (by omega), bnd_so]
      rcases o1 with ⟨e1, e2, e3⟩ | ⟨e1, e3⟩
      · rw [e1]
        exact ok1 (ok_br.mpr ⟨fun _ => ok1 (await_okc M t9 t8 hf (Or.inl ⟨rfl, e1, e2, e3⟩)), fun z => absurd z (by decide)⟩)
      · rw [e1]
        exact ok1 (ok_br.mpr ⟨fun z => absurd z (by decide), fun _ => ok1 (await_okc M t9 t8 hf (Or.inr ⟨rfl, e3⟩))⟩)
    · have := bd o1
      rw [o, flo32, opd1 M (by omega), bnd_so]
      exact ok1 (ok1 (next_okc M t9 t8 hf o1 (by
        rcases o2 with z | ⟨tg, z1, z2, z3⟩
        · exact Or.inl z
        · exact Or.inr ⟨tg, z1, z2, z3⟩)))
    · have hx : x < i := b6 (by omega)
      rw [o, flo33]
      exact one (fun r => ok1 (take_okc M hx t9 t8 hf o1 o2))
    · have hx : x < i := b6 (by omega)
      rw [o, flo34, opd1 M i1, bnd_so, o2]
      exact ok1 (ok_lt.mpr (ok_lt.mpr (ok_some.mpr (skip_okc M hx t9 t8 hf o1 o3))))
    · rw [o, flo35]
      exact one (fun r => ok1 (ok1 (returns_okc M t9 t8 hf o1)))
    · rcases o with o | o
      · rw [o, flo36]
        exact one (fun r => ok1 (ERR_o (a := 14) M t9 t8 hf (by omega)))
      · rw [o, flo38]
        exact one (fun r => ok1 (ERR_o (a := 16) M t9 t8 hf (by omega)))
    · rw [o, flo37]
      obtain ⟨b0, g0⟩ := below_0 (N := N) M p o1
      refine one (fun r => ok1 ?_)
      rw [b0, bnd_so, lit1q, I_lit (n := 15), tell_e, bnd_so]
      exact ok_some.mpr (ERR_t M t9 t8 hf ⟨n, ow, kd, _, _, Y, p, g0⟩ (Or.inl rfl) (Or.inr ⟨by decide, by decide⟩))
    · omega
    · omega
end
