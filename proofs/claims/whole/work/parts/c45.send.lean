/-! one that goes sends -/
set_option maxRecDepth 100000
/-- one that does not go now: FRAMES, catches, where it stands -/
def WTr (q : Nat) (m w : MS) : Prop := ∃ j nb Hs Os, FAs m w q j nb Hs Os ∧ CTs m w q j nb Hs Os ∧ STs9 m w q j (Hs j) (Os j)
section
variable {b : Int → Nat → Nat → Prop} {Fv Fv' : Int64 → Int64 → Prop} {P P' : Int64 → Prop} {N PR q r p i j U B Wt Y : Nat} {m w m2 w2 : MS} {t x : Int64} {v4 : Int} {cur : Option Nat} {RR : Nat → MS → MS → Prop}
theorem WTr_st (h : WTr q m w) (h1 : EQn q m m2) (h2 : EQv q w w2) : WTr q m2 w2 := by
  obtain ⟨j, nb, Hs, Os, a1, a2, a3⟩ := h
  obtain ⟨c1, c2⟩ := FC_eq ⟨a1, a2⟩ h1 h2
  exact ⟨j, nb, Hs, Os, c1, c2, ST_eq a1.1.2.2 a3 h1 h2⟩
/-- a term that waits uppermost is told -/
theorem wl_send {a sort : Nat} (hz : (a = 0 ∧ sort = 2) ∨ (a = 4 ∧ sort = 0)) (W : WLs RR PR Fv P Fv' P' cur i j m w) (hc : ∀ c, cur = some c → F m (pq c 9) = 3) (hq : q < PR) (hp : p < PR) (hpal : F m (pq p 9) ≠ 3) (plp : PLs b p m w U B (Wt + 1) Y) (h4 : RG v4) (hN : 3000000 ≤ N) :
    PP (fun m2 (_ : Unit) w2 (_ : Unit) => WLs RR PR Fv P Fv' P' cur i j m2 w2 ∧ MVs m w m2 w2 ∧ ∀ d, d ≠ q → LOCm d m m2 ∧ LOCw d w w2) (hm_Wl_post N m q (I ((a : Nat) : Int)) (I ((p : Nat) : Int)) (I v4) (m.2.2.2 (pq p 35) Wt) (some p)) (fm_M_message N w (I q) (I ((sort : Nat) : Int)) (I v4) (I ((p : Nat) : Int)) (I 0) (I ((p : Nat) : Int)) (w.2.2.2 91 (46000 * p + Wt))) := by
  have W0 := W
  obtain ⟨sf, -, pr, hR⟩ := W
  have p24 := sf.2.1.1.1.2
  have hz' : (a = 0 ∧ sort = 2) ∨ (a = 4 ∧ sort = 0) ∨ (a = 5 ∧ sort = 1) := by omega
  by_cases hal : F m (pq q 9) = 3
  · have h9 : A w 109 q = 3 := by
      rcases pr q hq with h | h
      · exact absurd hal h.1
      · exact h.2.1
    rw [post_dead hal, message_dead (by omega) h9]
    exact pp_end ⟨W0, MVs.rf, fun _ _ => ⟨LOCm.rf, LOCw.rf⟩⟩
  · obtain ⟨⟨ow, kd, pt⟩, ⟨ow', kd', cw⟩, bd, -⟩ := SF_al sf hp hpal plp
    have hU := plp.1.1.2.2
    have g : GT U ow kd P (m.2.2.2 (pq p 35) Wt) := pt.2.2.1.2 Wt (by omega)
    have g' : GT U ow' kd' P' (w.2.2.2 91 (46000 * p + Wt)) := cw.2.2.2.2.2.2.2.1 Wt (by omega)
    have rt : RTb b (m.2.2.2 (pq p 35) Wt) (w.2.2.2 91 (46000 * p + Wt)) := plp.2.2.1.2.2 Wt (by omega)
    obtain ⟨f, s, z⟩ := HP_szc pt.1.2.2 g
    obtain ⟨f', s', z'⟩ := HP_sz cw.2.1 g'
    have es := SZ_iso plp.1.2.1 rt z z'
    subst es
    obtain ⟨h9, b2, U2, B2, W2, Y2, pl, rs⟩ : A w 109 q ≠ 3 ∧ ALr RR m w q := by
      rcases pr q hq with h | h
      · exact h.2
      · exact absurd h.1 hal
    have qc : some q ≠ cur := fun c => hal (hc q c.symm)
    by_cases e : q = p
    · subst e
      exact wl_msg hz' W0 hq hal h9 qc plp rs pt cw (Or.inr ⟨rfl, rfl, rfl, by omega, rfl, rt, ⟨f, z⟩, g'⟩) (Or.inr ⟨q, U, ow, kd, rfl, hp, by omega, pt.1.2.2, g, fun _ => ⟨B, Wt, Y, pt, rfl⟩⟩) (Or.inr (Or.inr ⟨rfl, U, ow', kd', _, _, _, plp.1.1.2.1, cw, g'⟩)) ⟨by omega, by omega⟩ (by omega) (fun _ => hp) h4 hN
    · obtain ⟨⟨ow2, kd2, pt2⟩, ⟨ow2', kd2', cw2⟩, -, -⟩ := SF_al sf hq hal pl
      have ne : p ≠ q := fun c => e c.symm
      exact wl_msg hz' W0 hq hal h9 qc pl rs pt2 cw2 (Or.inl ⟨⟨by omega, Or.inr ⟨p, b, U, ow, kd, f, U, ow', kd', f', rfl, ⟨pt.1.2.2, by omega, fun c => absurd c ne⟩, ⟨cw.2.1, hU, fun c => absurd c ne⟩, plp.1.2.1.w, z, Or.inl ⟨rfl, rt, z'⟩⟩⟩, fun c => ne (by injection c), Or.inr ne⟩) (Or.inr ⟨p, U, ow, kd, rfl, hp, by omega, pt.1.2.2, g, fun c => absurd c ne⟩) (Or.inr (Or.inl ⟨by omega, ne, U, ow', kd', plp.1.1.2.1, hU, cw.2.1, g'⟩)) ⟨by omega, by omega⟩ (by omega) (fun _ => hp) h4 hN
end
