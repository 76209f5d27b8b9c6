section
variable {Fv : Int64 → Int64 → Prop} {P : Int64 → Prop} {u v w w2 : MS} {PR N p n n2 opM bnM bxM bx2 ND fr k tp mu CN PN SN UN FN rq q m h mm : Nat} {ow kd ow2 kd2 ro rn rh cb pc ct pM pE : Nat → Nat} {T : TY} {C : CY}
theorem MODE_nx {is ls as js : List Nat} {a1 a2 a3 sr : Nat} (hm : MODE u T C ND CN p a1 a2 a3 sr q bxM mu) (hx : NX T q m h mm) (f : FR is ls as js u v) (hi : ∀ k, k ∈ [149, 150, 151, 152, 153, 154, 155, 156, 157, 158, 159, 164, 165] → k ∉ is) (ha : ∀ k, k ∈ [23, 25, 31, 41] → k ∉ as) (hj : 111 ∉ js) (hb : bx2 = bxM ∨ tG T q = 0) : ∃ m2, m2 < mu ∧ MODE v T C ND CN p a1 a2 a3 sr m bx2 m2 := by
  obtain ⟨n1, n2, n3, n4, n5, n6, n7, n8, n9⟩ := hx
  rcases hm with ⟨y1, y2, y3⟩ | ⟨y1, c, s, many, hg, hb', mm', r, t1, t2, t3, t4, t5⟩
  · obtain ⟨e1, e2, e3, e4⟩ := y3
    refine ⟨mu - 1, by omega, Or.inl ⟨by rw [n5]; exact y1, by rw [FR.F f (hi _ (by decide))]; exact y2, ?_⟩⟩
    unfold CLG
    rw [FR.F f (hi _ (by decide)), FR.F f (hi _ (by decide))]
    exact ⟨e1, e2, e3, by omega⟩
  · obtain ⟨e1, e2, e3, e4⟩ := t5
    have hb2 : bx2 = bxM := by omega
    subst hb2
    have e8 : s = 3 → 0 ≤ F u 158 ∧ F u 158 < bx2 := fun z => ⟨(t1.2.2.2.1 z).2.1, (t1.2.2.2.1 z).2.2.1⟩
    have pos : 0 ≤ (if s = 3 then (bx2 : Int) - F u 158 else 0) := by
      by_cases e : s = 3
      · rw [if_pos e]; have := e8 e; omega
      · rw [if_neg e]; omega
    refine ⟨mu - 1, by omega, Or.inr ⟨by rw [FR.F f (hi _ (by decide))]; exact y1, c, s, many, hg, hb', mm', r, by rw [n4, n8]; exact TRS_fr t1 f (fun k hk => hi k (by revert hk; simp; omega)) ha hj, by rw [n5]; exact t2, by rw [FR.F f (hi _ (by decide))]; exact t3, by rw [FR.F f (hi _ (by decide))]; exact t4, ?_⟩⟩
    unfold CLG
    rw [FR.F f (hi _ (by decide)), FR.F f (hi _ (by decide)), FR.F f (hi _ (by decide))]
    exact ⟨e1, e2, e3, by omega⟩
theorem nxt {is ls as js : List Nat} (e : ERX Fv P PR T C ND CN p u fr ro rn rh cb pc ct q n ow kd opM bnM bxM mu) (hm : m < ND) (hx : NX T q m h mm) (f : FR is ls as js u v) (hi : ∀ k, k ∈ [149, 150, 151, 152, 153, 154, 155, 156, 157, 158, 159, 164, 165] → k ∉ is) (ha : ∀ k, k ∈ [23, 25, 31, 41, 95, 99, 100, 101, 102, 103, 104, 105, 106] → k ∉ as) (hj : 111 ∉ js) (h98 : A v 98 (60 * p + (fr - 1)) = ((m : Nat) : Int)) (h98' : ∀ j, j ≠ 60 * p + (fr - 1) → A v 98 j = A u 98 j) (h109 : A v 109 p = 0) (i : MEI Fv P PR v p n2 ow2 kd2 (ro (fr - 1) + h) (rn (fr - 1) + rh (fr - 1) + mm) bx2) (hb : bx2 = bxM ∨ tG T q = 0) : ∃ m2, m2 < mu ∧ STE Fv P PR T C ND CN p m2 v := by
  obtain ⟨-, h2, h3, h4, h5, h6, h7, h8, h9⟩ := e
  obtain ⟨m2, q1, q2⟩ := MODE_nx h9 hx f hi (fun k hk => ha k (by revert hk; simp; omega)) hj hb
  obtain ⟨n1, n2', n3, n4, n5, n6, n7, n8, n9⟩ := hx
  exact ⟨m2, q1, fr, ro, rn, rh, cb, pc, ct, m, n2, ow2, kd2, bx2, ⟨by rw [n1, n2']; exact i, by rw [n4, n8]; exact FRS_98 h2 f (fun k hk => ha k (by revert hk; simp; omega)) h98', h98, hm, by rw [n3]; exact h4, by rw [FR.A f (ha _ (by decide)), n4]; exact h5⟩, h109, q2⟩
theorem nxtR {is ls as js : List Nat} (e : ERX Fv P PR T C ND CN p u fr ro rn rh cb pc ct q n ow kd opM bnM bxM mu) (hm : m < ND) (hx : NX T q m h mm) (f : FR is ls as js u v) (hi : ∀ k, k ∈ [149, 150, 151, 152, 153, 154, 155, 156, 157, 158, 159, 164, 165] → k ∉ is) (ha : ∀ k, k ∈ [23, 25, 31, 41, 95, 98, 99, 100, 101, 102, 103, 104, 105, 106, 109] → k ∉ as) (hj : 111 ∉ js) (h98 : A u 98 (60 * p + (fr - 1)) = ((m : Nat) : Int)) (i : MEI Fv P PR v p n2 ow2 kd2 (ro (fr - 1) + h) (rn (fr - 1) + rh (fr - 1) + mm) bxM) (hs : STF0 u v) (ho : OTF p u v) : RES Fv P PR T C ND CN p mu u v :=
  ⟨Or.inr (Or.inr (nxt e hm hx f hi (fun k hk => ha k (by revert hk; simp; omega)) hj (by rw [FR.A f (ha _ (by decide))]; exact h98) (fun j _ => FR.A f (ha _ (by decide))) (by rw [FR.A f (ha _ (by decide))]; exact e.2.2.2.2.2.1) i (Or.inl rfl))), Or.inl hs, ho, fun z _ => FR.A f (ha _ (by decide))⟩
theorem at_node {fr : Nat} {x : Nat} (a : ATQ Fv P PR T ND p w fr ro rn rh cb pc ct q n ow kd bxM) (h109 : A w 109 p = 0) (hm : MODE w T C ND CN p (ro (fr - 1)) (rn (fr - 1)) (rh (fr - 1)) (sR T pc (fr - 1)) q bxM mu) (hx : x < 100000) (hg : PRG w T C pM pE ND CN PN SN UN FN) : OK (fun v _ => ERX Fv P PR T C ND CN p v fr ro rn rh cb pc ct q n ow kd (ro (fr - 1) + tH T q) (rn (fr - 1) + rh (fr - 1) + tM T q) bxM mu ∧ A v 98 (60 * p + (fr - 1)) = ((x : Nat) : Int) ∧ FR [] [] [98] [] w v ∧ OTF p w v) (fm_M_goTo N w (I x)) := by
  obtain ⟨i, h, a3, a4, a5, a6⟩ := a
  have x4 := MEI_p i
  have hf := h.1
  obtain ⟨n1, n2, n3, n4, -⟩ := (hg.2.2.1 q a4).1
  rw [goTo_ok i h.1.2.2 ⟨h.1.1, h.1.2.1⟩ hx]
  have f98 : FR [] [] [98] [] w (wa w 98 (60 * p + (fr - 1)) x) := FR.wa FR.rf (by decide)
  have e98 : ∀ j, A (wa w 98 (60 * p + (fr - 1)) x) 98 j = if j = 60 * p + (fr - 1) then (x : Int) else A w 98 j := fun j => A_eq (by omega) (by omega)
  refine ok_some.mpr ⟨⟨MEI_fr i f98 (by decide) (by decide) (by decide) (by decide) (by decide) (by decide) (by decide) (by decide) (by decide) (by decide) (by decide) (by decide) (by decide) (by decide) (by decide) (by decide) (by decide) (by decide), FRS_98 h f98 (by decide) (fun j hj => by rw [e98, if_neg hj]), a4, a5, by rw [FR.A f98 (by decide)]; exact a6, by rw [FR.A f98 (by decide)]; exact h109, by omega, Nat.le_refl _, ?_⟩, by rw [e98, if_pos rfl], f98, OTF_at f98 (i0 := 60 * p + (fr - 1)) (fun j hj => by rw [e98, if_neg hj]) (Or.inr (Or.inl ⟨by decide, by omega, by omega⟩))⟩
  rcases hm with ⟨y1, y2, y3⟩ | ⟨y1, c, s, many, hg', hb', mm', r, t1, t2, t3, t4, t5⟩
  · exact Or.inl ⟨y1, y2, y3⟩
  · exact Or.inr ⟨y1, c, s, many, hg', hb', mm', r, TRS_fr t1 f98 (by decide) (by decide) (by decide), t2, t3, t4, t5⟩
end
