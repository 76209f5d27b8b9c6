/-! what is known of the one that goes, there -/
set_option maxRecDepth 100000
section
variable {T : TYc} {b : Int → Nat → Nat → Prop} {Fv Fv' : Int64 → Int64 → Prop} {P P' : Int64 → Prop} {PR p f j U B W Y AN : Nat} {m w m3 w3 : MS} {nb : Nat → Nat} {Hs Os : Nat → List Nat}
/-- a literal there is one here -/
theorem PT_pw {na : Nat} {fa : Nat → Nat} (cx : CTX Fv P m) (at1 : ATf m w fa na) (hA : F w 14 = ((AN : Nat) : Int)) : ∀ t, P t → PWs AN t := fun t h => by
  obtain ⟨h1, h2⟩ := cx.2.1 t h
  have e1 : F m 22 = ((na : Nat) : Int) := by
    show (m.1 22).toInt = _
    rw [at1.1.1, I_ti (by omega) (by have := at1.1.2.2.2.2; omega)]
  have e2 : F w 14 = ((na : Nat) : Int) := by
    show (w.1 14).toInt = _
    rw [at1.2.1.1, I_ti (by omega) (by have := at1.1.2.2.2.2; omega)]
  rcases h1 with h | h | h | h | h
  · exact Or.inl h
  · have := h2 h
    exact Or.inr (Or.inr (Or.inr (Or.inr ⟨h, this.1, by omega⟩)))
  · exact Or.inr (Or.inl h)
  · exact Or.inr (Or.inr (Or.inr (Or.inl h)))
  · exact Or.inr (Or.inr (Or.inl h))
/-- one that goes, no GUARD -/
theorem cl_fct (l : LPQ T Fv P PR p f m) (ru : RUb m w p j nb Hs Os none) (pl : PLs b p m w3 U B W Y) : (p < PR ∧ CTX Fv P m ∧ LNB m p ∧ DWc Fv P PR m) ∧ (∃ ow kd, PTQ m p U ow kd Fv P B W Y) ∧ (nb j ≤ 2360 ∧ B ≤ nb j + 40 ∧ Y ≤ 30 ∧ 0 ≤ F m (pq p 8)) ∧ CTa m w p W ∧ WFT T m ∧ ∃ i h mm L x wb, T i = some (h, mm, L, 0, x) ∧ F m 1105 = ((i : Nat) : Int) ∧ W = wb + h ∧ (x ≠ 0 → x ≠ i → F m (pq p 8) < F m (pq p 7)) ∧ UNc m p x := by
  obtain ⟨⟨fa, ct⟩, ⟨h9, -⟩, gd, ⟨h8, h1109, -⟩, -⟩ := id ru
  obtain ⟨i, h, mm, L, g, x, j', wb, nb', cb, rk, M⟩ : ∃ i h mm L g x j' wb nb' cb rk, MIc T Fv P PR p m i h mm L g x j' wb nb' cb rk := by
    rcases l with ⟨⟨i, h, mm, L, g, x, j', wb, nb', cb, rk, M, -⟩, -⟩ | l | l
    · exact ⟨i, h, mm, L, g, x, j', wb, nb', cb, rk, M⟩
    · have := l.2.1
      omega
    · exact absurd h8 (l.2.1.2 h9)
  obtain ⟨G, -, st, ⟨ti, e5⟩, ⟨e26, e24⟩, gds, xx, un⟩ := M
  have wt := G.2.2.1
  have hp := G.2.2.2.2.2.2.1
  have h12 : F m 1112 = 0 := by
    rcases gd with ⟨-, h, -⟩ | ⟨_, _, _, c, -⟩
    · exact h
    · cases c
  obtain ⟨-, ⟨-, hmm, -⟩, -, gr, -⟩ := wt _ _ _ _ _ _ ti
  have g0 : g = 0 := by
    by_cases z : g = 0
    · exact z
    · exfalso
      obtain ⟨-, hg, n, t, -, -, -, -, e, hi, -⟩ := gr z
      have := (gds.2 z).1
      omega
  subst g0
  have ej : j' = j := by
    have h1 := st.2.1.1
    have h2 := fa.1.1
    omega
  subst ej
  have en : nb' = nb j' := by
    have h1 := st.2.2.1.1
    have h2 := (fa.2.1 j' (Nat.le_refl _)).2.2.1.1
    omega
  subst en
  have fb := FBc_b wt st.1
  have hj := st.2.1.2
  have eB : B = nb j' + mm := by
    have := pl.2.1.1
    omega
  have eW : W = wb + h := by
    have := pl.2.2.1.1
    omega
  obtain ⟨s1, -, s3⟩ := G.1.2 p hp
  obtain ⟨n, ow, kd, B', W', Y', pt⟩ := s3 (by omega)
  have q1 : n = U := by have := pt.1.1; have := pl.1.1.1; omega
  have q2 : B' = B := by have := pt.2.1.1; have := pl.2.1.1; omega
  have q3 : W' = W := by have := pt.2.2.1.1; have := pl.2.2.1.1; omega
  have q4 : Y' = Y := by have := pt.2.2.2.1.1; have := pl.2.2.2.1; omega
  subst q1 q2 q3 q4
  have ca : CTa m w p W' := fun c hc => by
    obtain ⟨n, c1, c2, c3, -, c5⟩ := ct
    have hn : n = c + 1 := by omega
    subst hn
    have e28 := st.2.2.2.1
    obtain ⟨j2, wb2, nb2, cb2, rk2, tg, h2, m2, L2, -, -, -, -, -, -, u7, ⟨-, -, u8, -⟩, u9, -, -⟩ := UNW_top (tr := 0) wt st ti (by omega)
    have ec : cb2 + L2.length = c := by omega
    rw [ec] at u8
    obtain ⟨r, k, a, nd, nn, -, -, -, -, -, -, d6, -⟩ := c5 c (by omega)
    have r3 := A_r w 103 (1600 * p + c)
    exact ⟨by omega, ⟨wb2 + h2, by rw [← d6]; exact u8, by omega⟩, fun nd hnd => by omega⟩
  exact ⟨⟨hp, G.2.1, GEN_ln G hp, G.1⟩, ⟨ow, kd, pt⟩, ⟨by omega, by omega, pt.2.2.2.2.2.2, s1.2.1⟩, ca, wt, i, h, mm, L, x, wb, ti, e5, eW, xx, un⟩
/-- CTa: rows 103, 104 alone -/
theorem CTa_w (h : CTa m w p W) (e3 : w3.2.2.1 103 = w.2.2.1 103) (e4 : w3.2.2.1 104 = w.2.2.1 104) : CTa m w3 p W := fun c hc => by
  obtain ⟨h1, ⟨W0, h2, h3⟩, h4⟩ := h c hc
  refine ⟨h1, ⟨W0, ?_, h3⟩, fun nd hnd => h4 nd ?_⟩
  · show (w3.2.2.1 104 _).toInt = _
    rw [e4]
    exact h2
  · show (w.2.2.1 103 _).toInt = _
    rw [← e3]
    exact hnd
end
