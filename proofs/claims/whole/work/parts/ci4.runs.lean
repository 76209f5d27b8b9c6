/-! both machines go alike, from any state in which all goes together -/
set_option maxRecDepth 100000
/-- what a run leaves -/
def RQg (Fv : Int64 → Int64 → Prop) (P : Int64 → Prop) (Fv' : Int64 → Int64 → Prop) (AN p : Nat) (m2 : MS) (r : Int32) (w2 : MS) (r2 : Int32) : Prop := r = r2 ∧ ∃ PR, p < PR ∧ FQs WTr PR Fv P Fv' (PWs AN) m2 w2 ∧ TBs m2 w2
section
variable {T : TYc} {Fv Fv' : Int64 → Int64 → Prop} {P : Int64 → Prop} {AN : Nat} {TT : TY} {CC : CY} {pM pE : Nat → Nat} {ND CN PN SN UN FN N PR p i v mu M1 M2 f U B W Y l j a n : Nat} {m w : MS}
theorem goA (hN : 11000000 ≤ N) : ∀ M2 M1 v m w, SIA T Fv P Fv' AN TT CC pM pE ND CN PN SN UN FN p v m w → PP (RQg Fv P Fv' AN p) (qgo (SAf T Fv P p) N M1 m p (I ((v : Nat) : Int))) (gg_M_go N M2 w (I ((p : Nat) : Int))) := by
  intro M2
  induction M2 using Nat.strongRecOn with
  | ind M2 IH =>
  intro M1 v m w s
  cases M2 with
  | zero => exact pp_nr
  | succ M2 =>
  cases M1 with
  | zero => exact pp_nl
  | succ M1 =>
  show PP _ (q67 (SAf T Fv P p) N (qgo (SAf T Fv P p) N M1) m p (I ((v : Nat) : Int))) _
  by_cases h : F m (pq p 9) = 0 ∧ F m 1108 = 0
  · obtain ⟨PR, i, f, b, U, B, W, Y, l, ow, kw, ow', kd', j, nb, Hs, Os, y, a, n, mu, st, pk, hP4⟩ := st_of hN s h.1 h.2
    exact st_go st pk (sk_all (fun K hK => IH K (by omega)) st hP4)
  · obtain ⟨PR, f, mu, hpr, ⟨hf, l⟩, ⟨al, wd, per⟩, fq, tb⟩ := s
    have p24 : PR ≤ 24 := by
      obtain ⟨i, W, -⟩ := id fq
      exact W.1.1.1.1.1.2
    have le : ENDc T Fv P PR p m ∨ SVc T Fv P PR p m := by
      rcases l with ⟨⟨i, h1, mm, L, g, x, j, wb, nb, cb, rk, M, -⟩, -, t8⟩ | l | l
      · exact absurd ⟨M.2.1, t8⟩ h
      · exact Or.inl l
      · exact Or.inr l
    refine exit_pp (by omega) hpr fq (by omega) (fun h3 => ?_) (fun m2 r e => ?_) (fun m2 fq2 e2 => ⟨tb.2.2.2.1, PR, hpr, fq2, ?_⟩)
    · rcases le with l | l
      · exact l.2.2.2
      · exact absurd h3 l.2.1.1
    · have := pk_ok (exit_okc (N := N) le) m2 r e
      exact ⟨this.1, this.2.1⟩
    · rcases e2 with rfl | ⟨k, z, rfl⟩
      · exact tb
      · exact TB_gg tb GGm_s30 GGw.rf
end
