/-! what is PREDEFINED, all -/
set_option maxRecDepth 100000
section
variable {T : TYc} {Fv Fv' : Int64 → Int64 → Prop} {P : Int64 → Prop} {AN : Nat} {TT : TY} {CC : CY} {pM pE : Nat → Nat} {ND CN PN SN UN FN N PR p i v mu M1 M2 f U B W Y l j a n : Nat} {m w : MS} {Q : MS → Int32 → MS → Int32 → Prop} {b : Int → Nat → Nat → Prop} {ow kw ow' kd' : Nat → Nat} {nb : Nat → Nat} {Hs Os : Nat → List Nat} {y : Option (Nat × Nat × Nat)}
theorem sk_pd (ih : ∀ M1 v m w, SIA T Fv P Fv' AN TT CC pM pE ND CN PN SN UN FN p v m w → PP Q (qgo (SAf T Fv P p) N M1 m p (I ((v : Nat) : Int))) (gg_M_go N M2 w (I ((p : Nat) : Int)))) (s : STx T Fv P Fv' AN TT CC pM pE ND CN PN SN UN FN N PR p i v f b U B W Y l ow kw ow' kd' j nb Hs Os y a n m w) (hP4 : ∀ k, k < W → so (m.2.2.2 (pq p 35) k) = 4 → 0 ≤ va (m.2.2.2 (pq p 35) k) ∧ va (m.2.2.2 (pq p 35) k) < ((PR : Nat) : Int)) (h23 : A w 23 n = 12) (h27 : 2000 ≤ A w 27 n) (pd : PDs (A w 27 n - 2000) (A m 23 a) (A m 23 (a + 1))) (cr : ∃ f, CRs (A m 23) (ROs w) (w.2.2.2 34) f y (a + 2) (n + 1) (Hs j) (Os j)) : PP Q (q67 (SAf T Fv P p) N (qgo (SAf T Fv P p) N M1) m p (I ((v : Nat) : Int))) (bnd (fm_M_one N w (I ((n : Nat) : Int)) (I 12)) (fun u _ => KRs Fv' AN TT CC ND CN UN FN N p mu M2 w u)) := by
  obtain ⟨⟨r5, r8, r2⟩, ⟨ha, hn, hv, hpp, hj⟩, nd, ⟨pl, ru, bd⟩, -⟩ := st_b s
  have hb : ∀ d : Nat, d < 30 → A w 27 n = ((2000 + d : Nat) : Int) → tB TT n + npre d ≤ tH TT n := fun d hd h => (sp_b s hd h23 h).1
  refine pd_go (K2 := fun u => KRs Fv' AN TT CC ND CN UN FN N p mu M2 w u) hpp (by omega) ru h27 pd (fun d hd hd2 _ _ d2 d3 d4 d8 d16 => ?_) (fun d d' hdd hd2 => ?_)
  · have hb := hb d hd hd2
    have cs : d = 0 ∨ d = 1 ∨ d = 5 ∨ d = 6 ∨ d = 7 ∨ d = 9 ∨ d = 10 ∨ d = 11 ∨ d = 12 ∨ d = 13 ∨ d = 14 ∨ d = 15 ∨ d = 17 ∨ d = 18 ∨ d = 19 ∨ d = 20 ∨ d = 21 ∨ d = 22 ∨ d = 23 ∨ d = 24 ∨ d = 25 ∨ d = 26 ∨ d = 27 ∨ d = 28 ∨ d = 29 := by omega
    rcases cs with rfl | rfl | rfl | rfl | rfl | rfl | rfl | rfl | rfl | rfl | rfl | rfl | rfl | rfl | rfl | rfl | rfl | rfl | rfl | rfl | rfl | rfl | rfl | rfl | rfl
    · exact pk_here ih s (Or.inl ⟨rfl, rfl⟩) cr
    · exact pk_spawn ih s hb cr
    · exact pk_unwatch ih s hb cr
    · exact pk_trap ih s hb cr
    · exact pk_tells ih s (Or.inl ⟨rfl, rfl, rfl, rfl⟩) hb cr
    · exact pk_tells ih s (Or.inr (Or.inl ⟨rfl, rfl, rfl, rfl⟩)) hb cr
    · exact pk_tells ih s (Or.inr (Or.inr ⟨rfl, rfl, rfl, rfl⟩)) hb cr
    · exact pk_print ih s hb cr
    · exact pk_ref ih s cr
    · exact pk_name2 ih s hP4 hb cr
    · exact pk_named (d := 13) ih s (Or.inl rfl) hb cr
    · exact pk_named (d := 14) ih s (Or.inr rfl) hb cr
    · exact pk_here ih s (Or.inr ⟨rfl, rfl⟩) cr
    · exact pk_tests ih s (Or.inl ⟨rfl, rfl⟩) hb cr
    · exact pk_tests ih s (Or.inr (Or.inl ⟨rfl, rfl⟩)) hb cr
    · exact pk_tests ih s (Or.inr (Or.inr (Or.inl ⟨rfl, rfl⟩))) hb cr
    · exact pk_tests ih s (Or.inr (Or.inr (Or.inr (Or.inl ⟨rfl, rfl⟩)))) hb cr
    · exact pk_tests ih s (Or.inr (Or.inr (Or.inr (Or.inr (Or.inl ⟨rfl, rfl⟩))))) hb cr
    · exact pk_tests ih s (Or.inr (Or.inr (Or.inr (Or.inr (Or.inr (Or.inl ⟨rfl, rfl⟩)))))) hb cr
    · exact pk_tests ih s (Or.inr (Or.inr (Or.inr (Or.inr (Or.inr (Or.inr (⟨rfl, rfl⟩))))))) hb cr
    · exact pk_parts ih s (Or.inl ⟨rfl, rfl⟩) hb cr
    · exact pk_parts ih s (Or.inr (Or.inl ⟨rfl, rfl⟩)) hb cr
    · exact pk_parts ih s (Or.inr (Or.inr (Or.inl ⟨rfl, rfl⟩))) hb cr
    · exact pk_elem ih s hb cr
    · exact pk_parts ih s (Or.inr (Or.inr (Or.inr (⟨rfl, rfl⟩)))) hb cr
  · rcases hdd with ⟨rfl, rfl⟩ | ⟨rfl, rfl⟩ | ⟨rfl, rfl⟩ | ⟨rfl, rfl⟩ | ⟨rfl, rfl⟩
    · exact pk_link ih s hP4 (hb 2 (by omega) hd2) cr
    · exact pk_unlink ih s hP4 (hb 3 (by omega) hd2) cr
    · exact pk_watch ih s hP4 (hb 4 (by omega) hd2) cr
    · exact pk_exit ih s hP4 (hb 8 (by omega) hd2) cr
    · exact pk_alive ih s hP4 (hb 16 (by omega) hd2) cr
end
