section
variable {w v : MS} {N : Nat} {Fv : Int64 → Int64 → Prop} {AN ND UN FN PR : Nat} {T : TY}
theorem REST_send (r : REST Fv AN T ND UN FN PR w) (hT : ∀ q, q < ND → tK T q ≤ 26) (c : CALLF w v) (e : ESI Fv (PQ AN PR) PR v) (z : F v 149 = 0 ∧ F v 150 = 0) : REST Fv AN T ND UN FN PR v := by
  obtain ⟨d, ⟨w1, w2, w3, w4, w5, w6, w7⟩, -⟩ := r
  obtain ⟨f, h109, rl⟩ := c
  refine ⟨e.1, ⟨e.2.1, e.2.2, by rw [f.F (by decide)]; exact w3, fun i => by rw [f.A (by decide)]; exact w4 i, fun i => by rw [f.A (by decide)]; exact w5 i, fun i => ?_, fun q hq hne => ?_⟩, z.1, z.2⟩
  · rcases rl i with h | h
    · rw [h]; exact w6 i
    · exact h
  · refine PSX_otf (w7 q hq hne) hne hT (OTF_fr f (by decide) (by decide)) (fun k hk i => f.A ?_) (h109 q)
    have : ∀ k, k ∈ KP → k ∉ [89, 90, 108, 109, 113, 116, 117, 122, 123, 124, 131, 132, 135, 142, 143, 145, 146, 147] := by decide
    exact this k hk
theorem inv_send {a b c : Int32} (hN : 1000000000000000 ≤ N) (h : INV w) : OK (fun v _ => INV v) (fm_M_send N w a b c) := by
  obtain ⟨a1, a2, a3, a4, Fv, AN, T, C, ND, CN, PN, SN, UN, FN, a5, a6⟩ := id h
  by_cases z : F w 87 = 0
  · exact ok_mono (send_ok (Fv := Fv) (P := fun _ => True) (PR := 0) (Or.inl z) (by omega)) (fun v _ q => INV_3 h (q.2.2 z))
  · obtain ⟨w86, PR, r⟩ := a6 z
    have per := a5 w86
    have atm := per.2.2.1
    have e14 := per.2.2.2.1
    have h22 := per.2.2.2.2.1
    have pr := r.1.1
    have r0 := r.2.2
    refine ok_mono (send_ok (Fv := Fv) (P := PQ AN PR) (PR := PR) (Or.inr ⟨⟨r.1, r.2.1.1, r.2.1.2.1⟩, atm, fun t ht => ?_, PQ_s, PQ_b h22 pr.2, fun x x1 x2 => PQ_atom x1 (by omega) ?_⟩) (by omega)) (fun v _ q => ?_)
    · intro s1
      rw [e14]
      rcases ht with q | q | q | q | q
      · omega
      · omega
      · omega
      · exact q.2
      · omega
    · have := atm.2.1
      omega
    · obtain ⟨cf, q1, -⟩ := q
      obtain ⟨q2, q3⟩ := q1 z
      have rv := REST_send r (PRG_26 per.1) cf q2 (q3 r0)
      have f := cf.1
      have e86 : F v 86 = F w 86 := f.F (by decide)
      exact ⟨by rw [f.F (by decide)]; exact a1, INS_fr a2 f (by decide) (by decide), by rw [f.F (by decide)]; exact a3, REST_kep rv, Fv, AN, T, C, ND, CN, PN, SN, UN, FN, fun _ => PER_fr per f (by decide) (by decide), fun _ => ⟨by rw [e86]; exact w86, PR, rv⟩⟩
end
