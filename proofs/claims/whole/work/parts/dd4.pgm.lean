/-! a text as a whole, both: compile() there, program() here -/
set_option maxRecDepth 100000
section
variable {α β : Type} {m0 w0 m w m2 w2 m3 w3 v u : MS} {K nm Nk : Nat → Nat} {N T f p q n k i a g G M M2 : Nat} {Q Q0 Q2 : Nat → Nat} {sc sc2 : SCT} {idc fof cvr : Int → Int → Int}
/-- what both leave -/
def PGZ (m0 w0 : MS) (T : Nat) (nm : Nat → Nat) (fof cvr : Int → Int → Int) (G q : Nat) (m : MS) (_ : Int32) (w : MS) (_ : Unit) : Prop := PGd m0 w0 T nm fof cvr G T q m w
theorem cmq_end {S : MS → Int32 → Option (MS × Int32)} {R : MS → Int32 → MS → Unit → Prop} (h : ∀ r, R m r w ()) (h442 : decide (m.1 442 ≤ I (i : Nat)) = true) : PP R (jb_Cm_compile_23 N S m (I (i : Nat))) (some (w, ())) := by
  have e : ∀ r : Int32, PP R (some (m, r)) (some (w, ())) := fun r => pp_end (h r)
  have e124 : ∀ t : Int32, PP R (jb_Cm_compile_124 N S m t) (some (w, ())) := fun t => by
    unfold jb_Cm_compile_124 jb_Cm_compile_136 jb_Cm_compile_142
    exact l_br (fun _ => l_br (fun _ => e _) (fun _ => e _)) (fun _ => e _)
  unfold jb_Cm_compile_23 jb_Cm_compile_119
  rw [h442, br_t]
  exact l_br (fun _ => l_br (fun _ => e124 _) (fun _ => l_br (fun _ => e124 _) (fun _ => l_br (fun _ => e124 _) (fun _ => e124 _)))) (fun _ => l_ck (fun _ => e _))
theorem pgq_lp (c : CTZ m0 w0 K T nm Nk) (cv : CTV m0 w0 K T) (cx : CVX N m0 w0 K T idc fof cvr) (hT : T ≤ 1500) (kT : K T = 0) (h442 : m0.1 442 = I (G : Nat)) (hG : G ≤ 666) {pp nn qq : Nat → Nat} (hb : ∀ i, i ≤ G → 5 * qq i ≤ pp i ∧ nn i ≤ 2 * pp i ∧ pp i ≤ T) (hpG : pp G = T) (hs : ∀ i, i < G → ∃ kc k first : Nat, (pp i + 6 ≤ pp (i + 1) ∧ A m0 6 (pp (i + 1) - 1) = 28) ∧ RWcK m0 1 27 (CLScK m0) kc first (pp i) (pp (i + 1) - 1) (nn i) (nn (i + 1)) (qq i) (qq (i + 1)) ∧ (A m0 27 i = ((first : Nat) : Int) ∧ A m0 25 i = ((k : Nat) : Int) ∧ k ≤ 6 ∧ A m0 24 i = A m0 7 (pp i))) : ∀ (d M M2 i : Nat) (m w : MS), i + d = G → PGd m0 w0 T nm fof cvr i (pp i) (qq i) m w → PP (PGZ m0 w0 T nm fof cvr G (qq G)) (jg_Cm_compile N M m (I (i : Nat))) (kg_M_program N M2 w (if i < G then 1 else 0))
  | _, 0, _, _, _, _, _, _ => pp_nl
  | _, _ + 1, 0, _, _, _, _, _ => pp_nr
  | 0, M + 1, M2 + 1, i, m, w, hi, h => by
    have ei : i = G := by omega
    subst ei
    rw [if_neg (by omega)]
    show PP _ (jb_Cm_compile_23 N (jg_Cm_compile N M) m (I (i : Nat))) (kb_M_program_52 N (kg_M_program N M2) w 0)
    unfold kb_M_program_52 kb_M_program_95
    rw [show decide ((0 : Int32) = 0) = true from rfl, br_t]
    have h' := h
    rw [hpG] at h'
    obtain ⟨a, Q, fr, -⟩ := h
    exact cmq_end (fun r => h') (decide_eq_true (by rw [fr.1 442 (by omega), h442]; exact (I_le (x := ((i : Nat) : Int)) (y := ((i : Nat) : Int)) (by omega) (by omega) (by omega) (by omega)).mpr (by omega)))
  | d + 1, M + 1, M2 + 1, i, m, w, hi, h => by
    obtain ⟨kc, k, first, h28, hE, h27, h25, hk, h24⟩ := hs i (by omega)
    have b1 := hb (i + 1) (by omega)
    have h0 := h
    obtain ⟨a, Q, fr, -, -, -, ⟨hR, -⟩, -⟩ := h0
    rw [if_pos (by omega)]
    show PP _ (jb_Cm_compile_23 N (jg_Cm_compile N M) m (I (i : Nat))) (kb_M_program_52 N (kg_M_program N M2) w 1)
    unfold jb_Cm_compile_23 kb_M_program_52
    rw [decide_eq_false (fun z => by
      rw [fr.1 442 (by omega), h442] at z
      have := (I_le (x := ((G : Nat) : Int)) (y := ((i : Nat) : Int)) (by omega) (by omega) (by omega) (by omega)).mp z
      omega), br_f, show decide ((1 : Int32) = 0) = false from rfl, br_f, decide_eq_true hR.2.2.1, br_t]
    refine fun_pp c cv cx hT hE h28 b1.2.2 h27 (by omega) (by omega) (by omega) h (fun m2 w2 h2 => ?_)
    have h2' := h2
    obtain ⟨a2, Q2, -, -, -, -, ⟨hR2, -⟩, -⟩ := h2'
    have hw2 := XRn_wp c hR2
    have t4 := c.2.1.1.1
    have s0 : decide (w2.2.2.1 6 (pp (i + 1)) = 0) = decide (K (pp (i + 1)) = 0) := srt_dc hw2 srK_0
    rw [decide_eq_true hR2.2.2.1, br_t, hR2.2.1.1, i_nt2 (p := pp (i + 1)) (by omega), s0, i_suc]
    refine r_ck (fun _ => ?_)
    unfold kb_M_program_90 kb_M_program_91
    have rc := pgq_lp c cv cx hT kT h442 hG hb hpG hs d M M2 (i + 1) m2 w2 (by omega) h2
    by_cases z : i + 1 < G
    · rw [if_pos z] at rc
      obtain ⟨kc2, k2, first2, hh, hE2, -⟩ := hs (i + 1) z
      have k2 : K (pp (i + 1)) = 2 := by
        cases kc2 with
        | zero => exact hE2.elim
        | succ kc2 =>
          obtain ⟨m1, c1, s1, e, -⟩ := hE2
          exact kA c (by omega) e.2.2.2.1
      rw [decide_eq_false (by omega), br_f]
      exact rc
    · rw [if_neg z] at rc
      have e1 : i + 1 = G := by omega
      rw [e1, hpG, kT, show decide ((0 : Nat) = 0) = true from rfl, br_t]
      rw [e1] at rc
      exact rc
/-- compile() and program() -/
theorem cmp_prg (c : CTZ m0 w0 K T nm Nk) (cv : CTV m0 w0 K T) (cx : CVX N m0 w0 K T idc fof cvr) (hT : T ≤ 1500) (kT : K T = 0) (h442 : m0.1 442 = I (G : Nat)) (hG : 1 ≤ G ∧ G ≤ 666) (h441 : m0.1 441 = 1) (hF : FNScK m0 G T n q) (h67 : w0.1 67 = 0) (hq : w0.1 75 = 0 ∧ w0.1 77 = 0 ∧ w0.1 83 = 0) : PP (PGZ m0 w0 T nm fof cvr G q) (jm_Cm_compile N m0) (km_M_program N w0) := by
  obtain ⟨pp, nn, qq, ⟨a1, a2, a3⟩, ⟨b1, b2, b3⟩, c1, d1⟩ := FN_fn hF
  unfold jm_Cm_compile jb_Cm_compile_0 km_M_program kb_M_program_0
  simp only [lt_e]
  have mi : ∀ k, k < 700 → (upI (upI (upI (upI m0 714 1000000000) 711 0) 712 0) 713 0).1 k = m0.1 k := fun k hk => by rw [upI_ne (by omega), upI_ne (by omega), upI_ne (by omega), upI_ne (by omega)]
  have mi2 : ∀ k, 720 ≤ k → (upI (upI (upI (upI m0 714 1000000000) 711 0) 712 0) 713 0).1 k = m0.1 k := fun k hk => by rw [upI_ne (by omega), upI_ne (by omega), upI_ne (by omega), upI_ne (by omega)]
  have m2' : (upI (upI (upI (upI m0 714 1000000000) 711 0) 712 0) 713 0).1 712 = 0 := by rw [upI_ne (by decide), upI_at]
  have m3' : (upI (upI (upI (upI m0 714 1000000000) 711 0) 712 0) 713 0).1 713 = 0 := upI_at
  have mr : (upI (upI (upI (upI m0 714 1000000000) 711 0) 712 0) 713 0).2 = m0.2 := rfl
  generalize upI (upI (upI (upI m0 714 1000000000) 711 0) 712 0) 713 0 = m1 at mi mi2 m2' m3' mr
  have wi : ∀ k, k ∉ [69, 70, 32, 39, 46, 52, 56, 58, 66, 73] → (upI (upI (upI (upI (upI (upI (upI (upI (upI (upI w0 69 0) 70 0) 32 0) 39 0) 46 0) 52 0) 56 0) 58 0) 66 0) 73 0).1 k = w0.1 k := fun k hk => by
    simp only [List.mem_cons, List.not_mem_nil, or_false] at hk
    rw [upI_ne (by omega), upI_ne (by omega), upI_ne (by omega), upI_ne (by omega), upI_ne (by omega), upI_ne (by omega), upI_ne (by omega), upI_ne (by omega), upI_ne (by omega), upI_ne (by omega)]
  have wz : ∀ k, k ∈ [69, 70, 32, 39, 46, 52, 56, 58, 66, 73] → (upI (upI (upI (upI (upI (upI (upI (upI (upI (upI w0 69 0) 70 0) 32 0) 39 0) 46 0) 52 0) 56 0) 58 0) 66 0) 73 0).1 k = 0 := fun k hk => by
    simp only [List.mem_cons, List.not_mem_nil, or_false] at hk
    rcases hk with rfl | rfl | rfl | rfl | rfl | rfl | rfl | rfl | rfl | rfl <;> rfl
  have wr : (upI (upI (upI (upI (upI (upI (upI (upI (upI (upI w0 69 0) 70 0) 32 0) 39 0) 46 0) 52 0) 56 0) 58 0) 66 0) 73 0).2 = w0.2 := rfl
  generalize upI (upI (upI (upI (upI (upI (upI (upI (upI (upI w0 69 0) 70 0) 32 0) 39 0) 46 0) 52 0) 56 0) 58 0) 66 0) 73 0 = w1 at wi wz wr
  have g0 : PGd m0 w0 T nm fof cvr 0 (pp 0) (qq 0) m1 w1 := by
    refine ⟨1, Q00, ⟨fun k hk => ?_, fun k _ => by rw [mr]⟩, ⟨by rw [mi 441 (by decide)]; exact h441, Nat.le_refl _, by decide⟩, ⟨m2', m3'⟩, ⟨by rw [mr], mi 449 (by decide)⟩, ⟨⟨⟨fun k hk => ?_, fun k _ => by rw [wr]⟩, ⟨by rw [a1]; exact wz 69 (by decide), by rw [a1]; exact Nat.zero_le _⟩, by rw [wi 67 (by decide)]; exact h67, ⟨wz 39 (by decide), Nat.zero_le _⟩, fun k hk => ⟨?_, Nat.zero_le _⟩⟩, by rw [a3]; rfl⟩, wz 52 (by decide), fun C P R J fi => ⟨fun u hu => by rw [a3] at hu; omega, fun f hf => by omega⟩⟩
    · rcases hk with hk | hk | hk
      · exact mi k (by omega)
      · exact mi k (by omega)
      · exact mi2 k hk.1
    · rw [wi k (by
        unfold TIN at hk
        simp only [List.mem_cons, List.not_mem_nil, or_false] at hk ⊢
        omega)]
    · unfold MKs at hk
      simp only [List.mem_cons, List.not_mem_nil, or_false] at hk
      rcases hk with rfl | rfl | rfl | rfl | rfl | rfl | rfl | rfl
      · exact wz 32 (by decide)
      · exact wz 39 (by decide)
      · exact wz 46 (by decide)
      · exact wz 56 (by decide)
      · exact wz 58 (by decide)
      · rw [wi 75 (by decide)]; exact hq.1
      · rw [wi 77 (by decide)]; exact hq.2.1
      · rw [wi 83 (by decide)]; exact hq.2.2
  have := pgq_lp (N := N) c cv cx hT kT h442 hG.2 (pp := pp) (nn := nn) (qq := qq) c1 b1 d1 G N N 0 m1 w1 (by omega) g0
  rw [if_pos (by omega), b3] at this
  exact this
end
