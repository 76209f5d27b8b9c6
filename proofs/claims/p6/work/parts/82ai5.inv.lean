def INS (w : MS) : Prop := BYT w ∧ TBS w ∧ TB0 w ∧ K44 w ∧ K49 w
def INV (w : MS) : Prop := (0 ≤ F w 5 ∧ F w 5 ≤ 4000) ∧ INS w ∧ (0 ≤ F w 130 ∧ F w 130 ≤ 100) ∧ KEP w ∧ ∃ (Fv : Int64 → Int64 → Prop) (AN : Nat) (T : TY) (C : CY) (ND CN PN SN UN FN : Nat), (F w 86 ≠ 0 → PER Fv AN T C id id ND CN PN SN UN FN w) ∧ (F w 87 ≠ 0 → F w 86 ≠ 0 ∧ ∃ PR, REST Fv AN T ND UN FN PR w)
section
variable {u v w : MS} {N : Nat} {Fv : Int64 → Int64 → Prop} {AN ND UN FN PR : Nat} {T : TY}
theorem INS_b {is ls as js : List Nat} (h : INS w) (f : FR is ls as js w v) (ha : ∀ k, k ∈ [1, 0, 22, 21, 2, 13, 16, 19, 44, 49] → k ∉ as) (hb : BYT v) : INS v := by
  obtain ⟨-, ⟨h1, h2, ⟨h3, h4⟩, h5⟩, ⟨h6, h7, h8⟩, h9, h10⟩ := h
  have e : ∀ r i, r ∈ [1, 0, 22, 21, 2, 13, 16, 19, 44, 49] → A v r i = A w r i := fun r i hr => f.A (ha r hr)
  exact ⟨hb, ⟨fun i hi => by rw [e 1 i (by decide)]; exact h1 i hi, fun k hk => by rw [e 0 _ (by decide)]; exact h2 k hk, ⟨fun k hk => by rw [e 22 _ (by decide)]; exact h3 k hk, fun k hk => by rw [e 21 _ (by decide)]; exact h4 k hk⟩, fun k hk => by rw [e 2 _ (by decide), e 2 _ (by decide)]; exact h5 k hk⟩, ⟨by rw [e 13 _ (by decide)]; exact h6, by rw [e 16 _ (by decide)]; exact h7, by rw [e 19 _ (by decide)]; exact h8⟩, fun i => by rw [e 44 i (by decide)]; exact h9 i, fun i => by rw [e 49 i (by decide)]; exact h10 i⟩
theorem INS_fr {is ls as js : List Nat} (h : INS w) (f : FR is ls as js w v) (ha : ∀ k, k ∈ [1, 0, 22, 21, 2, 13, 16, 19, 44, 49] → k ∉ as) (h4 : 4 ∉ as) : INS v := INS_b h f ha (fun i => by rw [f.A h4]; exact h.1 i)
theorem KEP_f2 {is ls as js : List Nat} (h : KEP w) (f : FR is ls as js w v) (hi : 140 ∉ is) (ha : ∀ k, k ∈ [89, 127, 97, 132] → k ∉ as) : KEP v := by
  obtain ⟨h1, h2, h3, h4, h5⟩ := h
  exact ⟨by rw [f.F hi]; exact h1, by rw [f.A (ha 89 (by decide))]; exact h2, fun i => by rw [f.A (ha 127 (by decide))]; exact h3 i, fun i => by rw [f.A (ha 97 (by decide))]; exact h4 i, fun i => by rw [f.A (ha 132 (by decide))]; exact h5 i⟩
theorem REST_fr {is ls as js : List Nat} (r : REST Fv AN T ND UN FN PR w) (hT : ∀ q, q < ND → tK T q ≤ 26) (f : FR is ls as js w v) (hi : ∀ k, k ∈ [118, 140, 149, 150, 125, 128] → k ∉ is) (ha : ∀ k, k ∈ [89, 92, 94, 108, 109, 145, 146, 147, 116, 117, 123, 124, 127, 132, 95, 96, 97, 98, 99, 100, 101, 102, 103, 104, 105, 106, 110, 170, 19, 23, 24, 25, 26, 27, 30, 31, 33, 35, 36, 37, 38, 40, 41, 42, 43, 45, 48, 50, 53, 54, 55, 57] → k ∉ as) (hj : ∀ k, k ∈ [88, 91, 93, 107, 148, 111] → k ∉ js) : REST Fv AN T ND UN FN PR v := by
  obtain ⟨d, w1, h1, h2⟩ := r
  have m1 : ∀ k, k ∈ [92, 94, 95, 96, 97, 98, 99, 100, 101, 102, 103, 104, 105, 106, 110, 170] → k ∈ [89, 92, 94, 108, 109, 145, 146, 147, 116, 117, 123, 124, 127, 132, 95, 96, 97, 98, 99, 100, 101, 102, 103, 104, 105, 106, 110, 170, 19, 23, 24, 25, 26, 27, 30, 31, 33, 35, 36, 37, 38, 40, 41, 42, 43, 45, 48, 50, 53, 54, 55, 57] := by decide
  have m2 : ∀ k, k ∈ 116 :: 117 :: 123 :: 124 :: 127 :: 132 :: KP → k ∈ [89, 92, 94, 108, 109, 145, 146, 147, 116, 117, 123, 124, 127, 132, 95, 96, 97, 98, 99, 100, 101, 102, 103, 104, 105, 106, 110, 170, 19, 23, 24, 25, 26, 27, 30, 31, 33, 35, 36, 37, 38, 40, 41, 42, 43, 45, 48, 50, 53, 54, 55, 57] := by decide
  have m3 : ∀ k, k ∈ [125, 128] → k ∈ [118, 140, 149, 150, 125, 128] := by decide
  exact ⟨DW_fr d f (hi _ (by decide)) (hi _ (by decide)) (hi _ (by decide)) (hi _ (by decide)) (ha _ (by decide)) (ha _ (by decide)) (ha _ (by decide)) (ha _ (by decide)) (ha _ (by decide)) (ha _ (by decide)) (ha _ (by decide)) (ha _ (by decide)) (hj _ (by decide)) (hj _ (by decide)) (hj _ (by decide)) (hj _ (by decide)) (hj _ (by decide)), WLD_fr w1 hT (OTF_fr f (fun k hk => ha k (m1 k hk)) (hj _ (by decide))) f (fun k hk => hi k (m3 k hk)) (fun k hk => ha k (m2 k hk)) (fun z _ => Or.inl (f.A (ha _ (by decide)))), by rw [f.F (hi _ (by decide))]; exact h1, by rw [f.F (hi _ (by decide))]; exact h2⟩
theorem INV_q {is as js : List Nat} (h : INV w) (f : FR is [] as js w v) (hi : ∀ k, k ∈ is → k ∈ [3, 5, 120, 130, 144]) (ha : ∀ k, k ∈ as → k ∈ [4, 129, 143]) (hj : ∀ k, k ∈ js → k ∈ [141]) (h5 : 0 ≤ F v 5 ∧ F v 5 ≤ 4000) (h130 : 0 ≤ F v 130 ∧ F v 130 ≤ 100) (hb : BYT v) : INV v := by
  obtain ⟨-, a2, -, a4, Fv, AN, T, C, ND, CN, PN, SN, UN, FN, a5, a6⟩ := h
  have n1 : ∀ k, k ∈ [140, 14, 52, 56, 86, 87, 118, 149, 150, 125, 128] → k ∉ is := fun k hk z => by
    have : ∀ k, k ∈ [140, 14, 52, 56, 86, 87, 118, 149, 150, 125, 128] → k ∉ [3, 5, 120, 130, 144] := by decide
    exact this k hk (hi k z)
  have n2 : ∀ k, k ∉ [4, 129, 143] → k ∉ as := fun k hk z => hk (ha k z)
  have n3 : ∀ k, k ∉ [141] → k ∉ js := fun k hk z => hk (hj k z)
  have d1 : ∀ k, k ∈ [1, 0, 22, 21, 2, 13, 16, 19, 44, 49] → k ∉ [4, 129, 143] := by decide
  have d2 : ∀ k, k ∈ [89, 127, 97, 132] → k ∉ [4, 129, 143] := by decide
  have d3 : ∀ k, k ∈ 12 :: 13 :: KP → k ∉ [4, 129, 143] := by decide
  have d4 : ∀ k, k ∈ [14, 52, 56] → k ∈ [140, 14, 52, 56, 86, 87, 118, 149, 150, 125, 128] := by decide
  have d5 : ∀ k, k ∈ [118, 140, 149, 150, 125, 128] → k ∈ [140, 14, 52, 56, 86, 87, 118, 149, 150, 125, 128] := by decide
  have d6 : ∀ k, k ∈ [89, 92, 94, 108, 109, 145, 146, 147, 116, 117, 123, 124, 127, 132, 95, 96, 97, 98, 99, 100, 101, 102, 103, 104, 105, 106, 110, 170, 19, 23, 24, 25, 26, 27, 30, 31, 33, 35, 36, 37, 38, 40, 41, 42, 43, 45, 48, 50, 53, 54, 55, 57] → k ∉ [4, 129, 143] := by decide
  have d7 : ∀ k, k ∈ [88, 91, 93, 107, 148, 111] → k ∉ [141] := by decide
  have e86 : F v 86 = F w 86 := f.F (n1 _ (by decide))
  have e87 : F v 87 = F w 87 := f.F (n1 _ (by decide))
  refine ⟨h5, INS_b a2 f (fun k hk => n2 k (d1 k hk)) hb, h130, KEP_f2 a4 f (n1 _ (by decide)) (fun k hk => n2 k (d2 k hk)), Fv, AN, T, C, ND, CN, PN, SN, UN, FN, fun z => ?_, fun z => ?_⟩
  · exact PER_fr (a5 (by rw [← e86]; exact z)) f (fun k hk => n1 k (d4 k hk)) (fun k hk => n2 k (d3 k hk))
  · obtain ⟨q1, PR, q2⟩ := a6 (by rw [← e87]; exact z)
    exact ⟨by rw [e86]; exact q1, PR, REST_fr q2 (PRG_26 (a5 q1).1) f (fun k hk => n1 k (d5 k hk)) (fun k hk => n2 k (d6 k hk)) (fun k hk => n3 k (d7 k hk))⟩
theorem INV_3 (h : INV w) (f : FR [3] [] [] [] w v) : INV v := INV_q h f (by decide) (by decide) (by decide) (by rw [f.F (by decide)]; exact h.1) (by rw [f.F (by decide)]; exact h.2.2.1) (fun i => by rw [f.A (by decide)]; exact h.2.1.1 i)
theorem inv_feed {a b c d e : Int32} (hN : 1000000000000000 ≤ N) (h : INV w) : OK (fun v _ => INV v) (fm_M_feed N w a b c d e) := ok_mono (feed_by h.1 h.2.1.1 (by omega)) (fun v _ q => INV_q h q.1 (by decide) (by decide) (by decide) q.2.1 (by rw [q.1.F (by decide)]; exact h.2.2.1) q.2.2)
theorem inv_back {a : Int32} (h : INV w) : OK (fun v _ => INV v) (fm_M_back N w a) := ok_mono (back_ok h.1) (fun v _ q => INV_q h q.1 (by decide) (by decide) (by decide) q.2 (by rw [q.1.F (by decide)]; exact h.2.2.1) (fun i => by rw [q.1.A (by decide)]; exact h.2.1.1 i))
theorem inv_read (hN : 1000000000000000 ≤ N) (h : INV w) : OK (fun v _ => INV v) (fm_M_read N w) := by
  obtain ⟨a1, a2, a3, a4, -⟩ := h
  refine ok_mono (read_ok (by omega) a1 a2.1 a2.2.1 a2.2.2.1 a2.2.2.2.1 a2.2.2.2.2) (fun v _ q => ?_)
  obtain ⟨f, q5, q87, qz, q44, q49, qp⟩ := q
  have e : ∀ r i, r ∈ [1, 0, 22, 21, 2, 4] → A v r i = A w r i := fun r i hr => f.A (by
    have : ∀ r, r ∈ [1, 0, 22, 21, 2, 4] → r ∉ RdA := by decide
    exact this r hr)
  obtain ⟨hb, ⟨h1, h2, ⟨h3, h4⟩, h5⟩, -⟩ := a2
  have base : INS v := ⟨fun i => by rw [e 4 i (by decide)]; exact hb i, ⟨fun i hi => by rw [e 1 i (by decide)]; exact h1 i hi, fun k hk => by rw [e 0 _ (by decide)]; exact h2 k hk, ⟨fun k hk => by rw [e 22 _ (by decide)]; exact h3 k hk, fun k hk => by rw [e 21 _ (by decide)]; exact h4 k hk⟩, fun k hk => by rw [e 2 _ (by decide), e 2 _ (by decide)]; exact h5 k hk⟩, qz, q44, q49⟩
  have kp : KEP v := KEP_f2 a4 f (by decide) (by decide)
  by_cases z : F v 86 = 0
  · exact ⟨by omega, base, by rw [f.F (by decide)]; exact a3, kp, fun _ _ => True, 0, fun _ _ => 0, fun _ _ => 0, 0, 0, 0, 0, 0, 0, fun y => absurd z y, fun y => absurd q87 y⟩
  · obtain ⟨Fv, AN, T, C, ND, CN, PN, SN, UN, FN, per⟩ := qp z
    exact ⟨by omega, base, by rw [f.F (by decide)]; exact a3, kp, Fv, AN, T, C, ND, CN, PN, SN, UN, FN, fun _ => per, fun y => absurd q87 y⟩
theorem inv_clock {a : Int32} (h : INV w) : OK (fun v _ => INV v) (fm_M_clock N w a) := ok_mono clock_ok (fun v _ f => INV_q h f (by decide) (by decide) (by decide) (by rw [f.F (by decide)]; exact h.1) (by rw [f.F (by decide)]; exact h.2.2.1) (fun i => by rw [f.A (by decide)]; exact h.2.1.1 i))
theorem inv_count {a : Int32} (h : INV w) : OK (fun v _ => INV v) (fm_M_count N w a) := ok_mono count_ok (fun v _ f => INV_3 h f)
theorem inv_letter {a b : Int32} (h : INV w) : OK (fun v _ => INV v) (fm_M_letter N w a b) := by
  obtain ⟨Fv, AN, T, C, ND, CN, PN, SN, UN, FN, a5, a6⟩ := h.2.2.2.2
  exact ok_mono (letter_ok (fun z => (a5 z).2.2.1)) (fun v _ f => INV_3 h f)
theorem inv_printed {a b : Int32} (h : INV w) : OK (fun v _ => INV v) (fm_M_printed N w a b) := by
  obtain ⟨Fv, AN, T, C, ND, CN, PN, SN, UN, FN, a5, a6⟩ := h.2.2.2.2
  refine ok_mono (printed_ok (fun z => ?_)) (fun v _ f => INV_3 h f)
  obtain ⟨-, PR, q⟩ := a6 z
  exact ⟨q.2.1.2.2.1, q.2.1.2.2.2.1⟩
theorem inv_shown {a : Int32} (h : INV w) : OK (fun v _ => INV v) (fm_M_shown N w a) := ok_mono (shown_ok h.2.2.1) (fun v _ f => INV_3 h f)
theorem inv_link {a b : Int32} (h : INV w) : OK (fun v _ => INV v) (fm_M_link N w a b) := by
  obtain ⟨Fv, AN, T, C, ND, CN, PN, SN, UN, FN, a5, a6⟩ := h.2.2.2.2
  by_cases z : F w 87 = 0
  · exact ok_mono (link_ok (PR := 0) (fun y => absurd z y)) (fun v _ f => INV_3 h f)
  · obtain ⟨-, PR, q⟩ := a6 z
    exact ok_mono (link_ok (PR := PR) (fun _ => ⟨q.1.1, q.2.1.1.1⟩)) (fun v _ f => INV_3 h f)
theorem inv_process {a b : Int32} (hN : 1000000000000000 ≤ N) (h : INV w) : OK (fun v _ => INV v) (fm_M_process N w a b) := by
  obtain ⟨Fv, AN, T, C, ND, CN, PN, SN, UN, FN, a5, a6⟩ := h.2.2.2.2
  by_cases z : F w 87 = 0
  · exact ok_mono (process_ok (PR := 0) (fun y => absurd z y) (by omega)) (fun v _ f => INV_3 h f)
  · obtain ⟨-, PR, q⟩ := a6 z
    exact ok_mono (process_ok (PR := PR) (fun _ => ⟨q.1.1, q.2.1.2.1⟩) (by omega)) (fun v _ f => INV_3 h f)
theorem inv_function {a b : Int32} (h : INV w) : OK (fun v _ => INV v) (fm_M_function1 N w a b) := by
  obtain ⟨Fv, AN, T, C, ND, CN, PN, SN, UN, FN, a5, a6⟩ := h.2.2.2.2
  refine ok_mono (function1_ok (fun z => ?_) h.2.1.2.2.2.2) (fun v _ f => INV_3 h f)
  have q := (a5 z).1.1
  omega
theorem inv_frame {a b c : Int32} (h : INV w) : OK (fun v _ => INV v) (fm_M_frame1 N w a b c) := by
  obtain ⟨Fv, AN, T, C, ND, CN, PN, SN, UN, FN, a5, a6⟩ := h.2.2.2.2
  by_cases z : F w 87 = 0
  · exact ok_mono (frame1_ok (Fv := Fv) (AN := AN) (T := T) (ND := ND) (UN := UN) (FN := FN) (PR := 0) (fun y => absurd z y) h.2.1.2.2.2.1) (fun v _ f => INV_3 h f)
  · obtain ⟨-, PR, q⟩ := a6 z
    exact ok_mono (frame1_ok (fun _ => q) h.2.1.2.2.2.1) (fun v _ f => INV_3 h f)
theorem inv_show {a b c : Int32} (hN : 1000000000000000 ≤ N) (h : INV w) : OK (fun v _ => INV v) (fm_M_show N w a b c) := by
  obtain ⟨Fv, AN, T, C, ND, CN, PN, SN, UN, FN, a5, a6⟩ := h.2.2.2.2
  have fin : ∀ v, SHR w v → INV v := fun v q => INV_q h q.1 (by decide) (by decide) (by decide) (by rw [q.1.F (by decide)]; exact h.1) (q.2 h.2.2.1) (fun i => by rw [q.1.A (by decide)]; exact h.2.1.1 i)
  by_cases z : F w 87 = 0
  · exact ok_mono (show_ok (Fv := Fv) (AN := AN) (T := T) (C := C) (pM := id) (pE := id) (ND := ND) (CN := CN) (PN := PN) (SN := SN) (UN := UN) (FN := FN) (PR := 0) (fun y => absurd z y) (by omega)) (fun v _ q => fin v q)
  · obtain ⟨q1, PR, q⟩ := a6 z
    exact ok_mono (show_ok (fun _ => ⟨q, a5 q1⟩) (by omega)) (fun v _ q => fin v q)
theorem inv_begin {a : Int32} (hN : 1000000000000000 ≤ N) (h : INV w) : OK (fun v _ => INV v) (fm_M_begin N w a) := by
  obtain ⟨a1, a2, a3, a4, Fv, AN, T, C, ND, CN, PN, SN, UN, FN, a5, a6⟩ := id h
  refine ok_mono (begin_ok a4 a5 (by omega)) (fun v _ q => ?_)
  rcases q with q | ⟨q1, q2, q3, q4⟩
  · exact INV_3 h q
  · have f : FR [3, 87, 118, 119, 120, 121, 125, 128, 149, 150] [] [89, 90, 92, 94, 95, 96, 97, 98, 99, 100, 101, 106, 108, 109, 110, 112, 113, 114, 115, 117, 132, 170] [111] w v := q4
    have e86 : F v 86 = F w 86 := f.F (by decide)
    exact ⟨by rw [f.F (by decide)]; exact a1, INS_fr a2 f (by decide) (by decide), by rw [f.F (by decide)]; exact a3, REST_kep q3, Fv, AN, T, C, ND, CN, PN, SN, UN, FN, fun _ => PER_fr (a5 q1) f (by decide) (by decide), fun _ => ⟨by rw [e86]; exact q1, 1, q3⟩⟩
theorem inv_go {a b : Int32} (hN : 1000000000000000 ≤ N) (h : INV w) : OK (fun v _ => INV v) (fm_M_go N w a b) := by
  obtain ⟨a1, a2, a3, a4, Fv, AN, T, C, ND, CN, PN, SN, UN, FN, a5, a6⟩ := id h
  refine ok_mono (go_ok (Fv := Fv) (AN := AN) (T := T) (C := C) (pM := id) (pE := id) (ND := ND) (CN := CN) (PN := PN) (SN := SN) (UN := UN) (FN := FN) ?_ (by omega)) (fun v _ q => ?_)
  · by_cases z : F w 87 = 0
    · exact Or.inl z
    · exact Or.inr ⟨(a6 z).2, a5 (a6 z).1⟩
  · rcases q with q | ⟨q1, ⟨PR, q3⟩, q4⟩
    · exact INV_3 h q
    · have f := q4
      unfold CGR at f
      have e86 : F v 86 = F w 86 := f.F (by decide)
      have w86 := (a6 q1).1
      exact ⟨by rw [f.F (by decide)]; exact a1, INS_fr a2 f (by decide) (by decide), by rw [f.F (by decide)]; exact a3, REST_kep q3, Fv, AN, T, C, ND, CN, PN, SN, UN, FN, fun _ => PER_fr (a5 w86) f (by decide) (by decide), fun _ => ⟨by rw [e86]; exact w86, PR, q3⟩⟩
end
