/-! send() keeps what goes together -/
set_option maxRecDepth 100000
section
variable {N : Nat} {m w m2 w2 : MS} {v1 v2 v3 : Int32}
theorem send_mch (hN : 1000000000000000 ≤ N) (i1 : INVc m) (h : MCH m w) : PP (fun m2 (_ : Unit ⊕ Nat) w2 (_ : Unit) => MCH m2 w2) (hm_H_send N m v1 v2 v3) (fm_M_send N w v1 v2 v3) := by
  rcases h.2 with ⟨q87, nb⟩ | ⟨q87, q86, q43, q44, T, Fv, P, PR, Fv', AN, TT, CC, ND, CN, PN, SN, UN, FN, W, per, rest, fq, tb⟩
  · have np := np_of i1 nb.1
    have c1 : PK (fun v (_ : Unit ⊕ Nat) => v = m) (hm_H_send N m v1 v2 v3) := by
      have : OK (fun v (_ : Unit ⊕ Nat) => v = m) (hm_H_send N m (I v1.toInt) v2 v3) := by
        unfold hm_H_send hb_H_send_0 hb_H_send_35
        refine ok_bnd.mpr (ok_mono (nofind np (ti_rng v1)) (fun w r hw => ?_))
        obtain ⟨rfl, rfl⟩ := hw
        exact ok_br.mpr ⟨fun _ => so_u, fun z => absurd z (by decide)⟩
      rw [← I_of v1] at this
      exact pk_ok this
    have ok2 := pk_ok (send_ok (N := N) (a := v1) (b := v2) (c := v3) (w := w) (Fv := fun _ _ => True) (P := fun _ => True) (PR := 0) (Or.inl q87) (by omega))
    intro m2 r w2 s e1 e2
    rw [c1 m2 r e1]
    exact MCH_q h FQm_rf (FR3_q ((ok2 w2 s e2).2.2 q87))
  · have main := snd_all (N := N) (v1 := v1) (v2 := v2) (v3 := v3) (by omega) q87 W rest per fq tb
    have okc : PK (fun m2 (_ : Unit ⊕ Nat) => WRD T Fv P PR m2) (hm_H_send N m v1 v2 v3) := by
      have := pk_ok (send_okc (N := N) (x := v1.toInt) (z := v3.toInt) (y := v2) W (ti_rng v1) (ti_rng v3) (by omega))
      rw [← I_of v1, ← I_of v3] at this
      exact this
    have atm := per.2.2.1
    have e14 := per.2.2.2.1
    have h22 := per.2.2.2.2.1
    have p24 := rest.1.1.2
    have ok2 := pk_ok (send_ok (N := N) (a := v1) (b := v2) (c := v3) (w := w) (Fv := Fv') (P := PQ AN PR) (PR := PR) (Or.inr ⟨⟨rest.1, rest.2.1.1, rest.2.1.2.1⟩, atm, fun t ht => by
      intro s1
      rw [e14]
      rcases ht with q | q | q | q | q
      · omega
      · omega
      · omega
      · exact q.2
      · omega, PQ_s, PQ_b h22 p24, fun x x1 x2 => PQ_atom x1 (by omega) (by have := atm.2.1; omega)⟩) (by omega))
    intro m2 r w2 s e1 e2
    rcases main m2 r w2 s e1 e2 with ⟨-, -, fq2, tb2⟩ | ⟨k, -, -, hm, hw⟩
    · have W2 := okc m2 r e1
      have kps : KPS m m2 := zm_H_send (kpv i1) m2 r e1
      have kt : KPT m m2 := zzm_H_send (u0 := m) KPT_rf m2 r e1
      obtain ⟨cf, q1, -⟩ := ok2 w2 s e2
      obtain ⟨q2, q3⟩ := q1 q87
      have rv := REST_send rest (PRG_26 per.1) cf q2 (q3 rest.2.2)
      have f := cf.1
      have f87 : F w2 87 = F w 87 := FR.F f (by decide)
      have f86 : F w2 86 = F w 86 := FR.F f (by decide)
      have f43 : F m2 943 = F m 943 := congrArg Int32.toInt kt.1
      have f44 : F m2 944 = F m 944 := congrArg Int32.toInt kt.2
      exact ⟨fun _ => TXr_b (h.1 q86) tb2 kps (f.1 52 (by decide)) (f.1 14 (by decide)) (f.1 9 (by decide)) (f.2.2.1 13 (by decide)), Or.inr ⟨by omega, by omega, by omega, by omega, T, Fv, P, PR, Fv', AN, TT, CC, ND, CN, PN, SN, UN, FN, W2, PER_fr per f (by decide) (by decide), rv, fq2, tb2⟩⟩
    · rw [hm, hw]
      exact MCH_q h FQm_rf FQw_3
end
