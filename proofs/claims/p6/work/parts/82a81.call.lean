section
variable {Fv : Int64 → Int64 → Prop} {P P2 : Int64 → Prop} {u v w w2 x y : MS} {PR PR2 N p n n2 opM bnM bxM bx2 ND fr k tp mu CN PN SN UN FN rq q m h mm AN z j : Nat} {ow kd ow2 kd2 ro rn rh cb pc ct pM pE : Nat → Nat} {T : TY} {C : CY}
theorem RES.le {m2 : Nat} (r : RES Fv P PR T C ND CN p m2 u w) (h : m2 ≤ mu) : RES Fv P PR T C ND CN p mu u w := RES.tr FR.rf (OTF_fr (FR.rf : FR [] [] [] [] u u) (by decide)) (fun _ _ => rfl) r h
theorem CLS_fr {is ls as js : List Nat} {a1 a2 a3 a4 a5 a6 a7 r : Nat} {c : Int} (hc : CLS C u CN a1 a2 a3 a4 a5 a6 a7 r c) (f : FR is ls as js u w) (ha : 41 ∉ as) : CLS C w CN a1 a2 a3 a4 a5 a6 a7 r c := by
  obtain ⟨c', d1, d2, d3, d4⟩ := hc
  exact ⟨c', d1, d2, by rw [FR.A f ha]; exact d3, d4⟩
theorem clausesOf_ok {b c r bn h2 : Nat} (hp : PGM Fv P PR T C pM pE ND CN PN SN UN FN w) (hF : FRS w T ND p fr ro rn rh cb pc ct 0 0) (h106 : A w 106 p = ((cb (fr - 1) : Nat) : Int)) (h109 : A w 109 p = 0) (h152 : F w 152 = 0) (i : MEI Fv P PR w p n ow kd (ro (fr - 1) + b) (rn (fr - 1) + rh (fr - 1)) bxM) (hb : b ≤ 6) (hc : CLS C w CN b b 0 0 (rh (fr - 1)) 0 0 r ((c : Nat) : Int)) (cl : CLG w (sR T pc (fr - 1) + r) 16002 mu) (hE : F w 149 = F w 150 ∧ F w 151 = 0) (hN : 60000 ≤ N) : OK (fun w2 _ => RES Fv P PR T C ND CN p mu w w2) (fm_M_clausesOf N w (I c)) := by
  have x4 := MEI_p i
  have hf := hF.1
  have top := hF.2.2.1 (fr - 1) (by omega)
  unfold fm_M_clausesOf fb_M_clausesOf_0
  rw [frame0_x (fr := fr) i.2.2.1 x4 hf.2.2 ⟨hf.1, hf.2.1⟩, bnd_so]
  refine ok_ck.mpr ⟨inb_at (k := 99) (n := 1440) rfl (by omega) (by omega) (by decide), ok_ck.mpr ⟨inb_at (k := 101) (n := 1440) rfl (by omega) (by omega) (by decide), ?_⟩⟩
  rw [I_tn (x := ((60 * p + (fr - 1) : Nat) : Int)) (by omega) (by omega), Int.toNat_natCast, I_A' top.2.1, I_A' top.2.2.1, I_add, show ((rn (fr - 1) : Nat) : Int) + ((rh (fr - 1) : Nat) : Int) = ((rn (fr - 1) + rh (fr - 1) + 0 : Nat) : Int) from by omega, show (0 : Int32) = I ((0 : Nat) : Int) from rfl]
  exact ok_bnd.mpr (ok_mono (tryFrom_ok (N := N) (mu := mu) (s := 0) (many := b) (hg := b) (hb := 0) (m := 0) (r := r) (b := rn (fr - 1) + rh (fr - 1)) hp hF (by rw [h106]; rfl) h109 h152 i (by omega) ⟨by omega, by rw [if_pos rfl]; omega, fun z => by omega, fun z => by omega, hb, by omega, by omega, by omega⟩ hc (fun z => by omega) cl hE hN) (fun y _ hy => ok_some.mpr hy))
theorem F_ne {k j : Nat} {a : Int} (h : j ≠ k) : F (wi u k a) j = F u j := by
  show (if j = k then I a else u.1 j).toInt = _
  rw [if_neg h]; rfl
theorem CLG_call {s s2 r t : Nat} (cl : CLG u (s + t) 0 mu) (h165 : F u 165 < F u 164) (e165 : F w 165 = F u 165 + 1) (e164 : F w 164 = F u 164) (hs : s2 ≤ 960000) (hr : r < 16000) : CLG w (s2 + r) 16002 (mu - 1) := by
  obtain ⟨c1, c2, c3, c4⟩ := cl
  refine ⟨by omega, by omega, by omega, ?_⟩
  rw [e165, e164]
  omega
set_option maxRecDepth 100000 in
theorem callC {v4 v5 : Int} {b g c r xx ff : Nat} (a : ATQ Fv (PQ AN PR) PR T ND p u fr ro rn rh cb pc ct q n ow kd bxM) (h109 : A u 109 p = 0) (h152 : F u 152 = 0) (cl : CLG u (sR T pc (fr - 1) + tR T q) 0 mu) (hp' : PGM Fv (PQ AN PR) PR T C pM pE ND CN PN SN UN FN u) (hw : WLD u T ND UN FN PR p) (hG : tG T q = 0) (hE : F u 149 = F u 150 ∧ F u 151 = 0) (h166 : F u 166 = ((g : Nat) : Int)) (hg : g ≤ 1) (hb : b ≤ 6) (hq1 : q + 1 < ND) (hB : tB T q + (b + g) ≤ tH T q) (hx : NX T q (q + 1) (tH T q + 1 - (b + g)) (tM T q)) (h30 : A u 30 q ≠ 0 → tK T q = 0) (hcls : CLS C u CN b b 0 0 h 0 0 r ((c : Nat) : Int)) (hc : c < CN) (hr : r < 16000) (hv4 : -1 ≤ v4 ∧ v4 < 1000) (hv5 : -1 ≤ v5 ∧ v5 < 1400) (t5 : v4 = -1 → v5 = xx ∧ A u 53 xx = ((c : Nat) : Int)) (t4 : v4 ≠ -1 → v4 = ff ∧ A u 50 ff = ((c : Nat) : Int)) (h40 : h ≤ 40) (hfl : (v5 = -1 ∧ h = 0) ∨ (v5 ≠ -1 ∧ g = 1 ∧ so (u.2.2.2 91 (46000 * p + (ro (fr - 1) + tH T q - 1 - b))) = 3 ∧ vn (hp u p (vn (u.2.2.2 91 (46000 * p + (ro (fr - 1) + tH T q - 1 - b))) + 1)) = h)) (hN : 60000 ≤ N) : OK (fun y _ => RSW Fv AN T C ND CN UN FN p mu u y) (fb_M_callRun_213 N () u (I q) (I b) (I v4) (I v5)) := by
  obtain ⟨i, hF, a98, a4, a5, a6⟩ := id a
  have x4 := MEI_p i
  have hT := PRG_26 hp'.1
  have nd := hp'.1.1.1
  have cn := hp'.1.1.2.1
  have fn := hp'.1.1.2.2.2.2.1
  have un := hp'.1.1.2.2.2.1
  obtain ⟨nw1, nw2, nw3, nw4, nw5, nw6, nw7, nw8, nw9, nw10, nw11, nw12, nw13, nw14, nw15⟩ := (hp'.1.2.2.1 q a4).1
  clear nw7 nw8
  have hf := hF.1
  have top := hF.2.2.1 (fr - 1) (by omega)
  have cl1 := cl.1
  have cl2 := cl.2.1
  have cl3 := cl.2.2.1
  obtain ⟨n1, n2', n3, n4, n5, n6, n7, n8, n9⟩ := id hx
  have nx6 := (hp'.1.2.2.1 (q + 1) hq1).1.2.2.2.2.2.1
  have nx1 := (hp'.1.2.2.1 (q + 1) hq1).1.1
  have r165 := F_r u 165
  have sRb : sR T pc (fr - 1) ≤ 16000 * (fr - 1) := sR_le (fr - 1) (fun j hj => (hp'.1.2.2.1 _ (hF.2.2.2.1 j (by omega)).2.1).1.2.2.2.2.2.1.2)
  have tail : OK (fun y _ => RSW Fv AN T C ND CN UN FN p mu u y) (fb_M_callRun_285 N () u (I q) (I b) (I v4) (I v5)) ∨ True := Or.inr trivial
  clear tail
  have y285 : F u 165 < F u 164 → (A u 30 q = 0 → fr < 60) → OK (fun y _ => RSW Fv AN T C ND CN UN FN p mu u y) (fb_M_callRun_285 N () u (I q) (I b) (I v4) (I v5)) := fun h165 h60 => by
    unfold fb_M_callRun_285
    refine ok_lt.mpr (ok_lt.mpr ?_)
    rw [I_F (k := 165), lit1q, I_add, wi_e (k := 165), I_F (k := 119), I_add, wi_e (k := 119)]
    have f3 : FR [119, 165] [] [] [] u (wi (wi u 165 (F u 165 + 1)) 119 (F (wi u 165 (F u 165 + 1)) 119 + 1)) := FR.wi (FR.wi FR.rf (by decide)) (by decide)
    have e165 : F (wi (wi u 165 (F u 165 + 1)) 119 (F (wi u 165 (F u 165 + 1)) 119 + 1)) 165 = F u 165 + 1 := by
      rw [F_ne (by decide), F_wi (by omega) (by omega), if_pos rfl]
    generalize wi (wi u 165 (F u 165 + 1)) 119 (F (wi u 165 (F u 165 + 1)) 119 + 1) = w3 at *
    have i3 := MEI_ints i f3 (by decide)
    rw [I_F' i3.2.2.1]
    refine ok_ck.mpr ⟨inb_at (k := 114) (n := 24) rfl (by omega) (by omega) (by decide), ok_ck.mpr ⟨inb_at (k := 114) (n := 24) rfl (by omega) (by omega) (by decide), ok_lt.mpr ?_⟩⟩
    rw [I_tn (x := (p : Int)) (by omega) (by omega), Int.toNat_natCast, I_A (k := 114), I_add, wa_e (k := 114)]
    have f4 : FR [119, 165] [] [114] [] u (wa w3 114 p (A w3 114 p + 1)) := FR.wa (FR.mo f3 (by decide) (by decide) (by decide) (by decide)) (by decide)
    have e165' : F (wa w3 114 p (A w3 114 p + 1)) 165 = F u 165 + 1 := by rw [F_wa]; exact e165
    generalize wa w3 114 p (A w3 114 p + 1) = w4 at *
    have i4 := MEI_fr i f4 (by decide) (by decide) (by decide) (by decide) (by decide) (by decide) (by decide) (by decide) (by decide) (by decide) (by decide) (by decide) (by decide) (by decide) (by decide) (by decide) (by decide) (by decide)
    rw [I_add, show (-(I 1) : Int32) = -1 from rfl, show (q : Int) + 1 = ((q + 1 : Nat) : Int) from by omega, goTo_ok i4 (by rw [FR.A f4 (by decide)]; exact hf.2.2) ⟨hf.1, hf.2.1⟩ (by omega), bnd_so]
    have f5 : FR [119, 165] [] [98, 114] [] u (wa w4 98 (60 * p + (fr - 1)) ((q + 1 : Nat) : Int)) := FR.wa (FR.mo f4 (by decide) (by decide) (by decide) (by decide)) (by decide)
    have f45 : FR [] [] [98] [] w4 (wa w4 98 (60 * p + (fr - 1)) ((q + 1 : Nat) : Int)) := FR.wa FR.rf (by decide)
    have e98 : ∀ j, A (wa w4 98 (60 * p + (fr - 1)) ((q + 1 : Nat) : Int)) 98 j = if j = 60 * p + (fr - 1) then ((q + 1 : Nat) : Int) else A u 98 j := fun j => by rw [A_eq (by omega) (by omega), FR.A f4 (by decide)]
    have e165'' : F (wa w4 98 (60 * p + (fr - 1)) ((q + 1 : Nat) : Int)) 165 = F u 165 + 1 := by rw [F_wa]; exact e165'
    have o5 : OTF p u (wa w4 98 (60 * p + (fr - 1)) ((q + 1 : Nat) : Int)) := OTF.tr (OTF_fr f4 (by decide)) (OTF_at f45 (i0 := 60 * p + (fr - 1)) (fun y hy => by rw [A_eq (by omega) (by omega), if_neg hy]) (Or.inr (Or.inl ⟨by decide, by omega, by omega⟩)))
    have i5 := MEI_fr i4 f45 (by decide) (by decide) (by decide) (by decide) (by decide) (by decide) (by decide) (by decide) (by decide) (by decide) (by decide) (by decide) (by decide) (by decide) (by decide) (by decide) (by decide) (by decide)
    generalize wa w4 98 (60 * p + (fr - 1)) ((q + 1 : Nat) : Int) = w5 at *
    refine ok_ck.mpr ⟨inb_at (k := 30) (n := 16000) rfl (by omega) (by omega) (by decide), ?_⟩
    rw [I_tn (x := (q : Int)) (by omega) (by omega), Int.toNat_natCast]
    have tl5 : w5.2.2.1 30 q = u.2.2.1 30 q := by rw [f5.2.2.1 30 (by decide)]
    have hp5 : hp w5 p = hp u p := by unfold hp; rw [f5.2.2.2 88 (by decide)]
    have j91 : w5.2.2.2 91 = u.2.2.2 91 := f5.2.2.2 91 (by decide)
    rw [tl5]
    have z30 : u.2.2.1 30 q = 0 ↔ A u 30 q = 0 := ⟨fun z => by unfold A; rw [z]; rfl, fun z => by rw [I_A' z]; rfl⟩
    have fin : ∀ (w : MS) (fr2 bo bn : Nat) (ro' rn' rh' cb' pc' : Nat → Nat), FOQ Fv (PQ AN PR) PR p n ow kd bxM fr2 bo b bn h w5 w → FRS w T ND p fr2 ro' rn' rh' cb' pc' ct 0 0 → ro' (fr2 - 1) = bo → rn' (fr2 - 1) = bn → rh' (fr2 - 1) = h → A u 106 p = ((cb' (fr2 - 1) : Nat) : Int) → sR T pc' (fr2 - 1) ≤ 960000 → OK (fun y _ => RSW Fv AN T C ND CN UN FN p mu u y) (br (decide (I v4 = -1)) (ck (inb (I v5) (ln 53)) (fb_M_callRun_364 N () w (w.2.2.1 53 (I v5).toNatClampNeg))) (ck (inb (I v4) (ln 50)) (fb_M_callRun_364 N () w (w.2.2.1 50 (I v4).toNatClampNeg)))) := fun w fr2 bo bn ro' rn' rh' cb' pc' fq hF2 y1 y2 y3 y4 y5 => by
      obtain ⟨q1, q2, q3, q4, q5, q6, q7⟩ := fq
      have fw : FR [119, 165] [] [92, 94, 95, 96, 97, 98, 99, 100, 101, 114] [91, 93] u w := FR.tr (FR.mo f5 (by decide) (by decide) (by decide) (by decide)) (FR.mo q2 (by decide) (by decide) (by decide) (by decide))
      have ow' : OTF p u w := OTF.tr o5 q3
      have go : OK (fun y _ => RSW Fv AN T C ND CN UN FN p mu u y) (fb_M_callRun_364 N () w (I c)) := by
        unfold fb_M_callRun_364
        refine ok_bnd.mpr (ok_mono (clausesOf_ok (N := N) (mu := mu - 1) (b := b) (c := c) (r := r) (bn := 0) (h2 := 0) (fr := fr2) (ro := ro') (rn := rn') (rh := rh') (cb := cb') (pc := pc') (ct := ct) (PGM_fr hp' fw (by decide) (by decide)) hF2 (by rw [FR.A fw (by decide)]; exact y4) (by rw [FR.A fw (by decide)]; exact h109) (by rw [FR.F fw (by decide)]; exact h152) (by rw [y1, y2, y3]; exact q1) hb (by rw [y3]; exact CLS_fr hcls fw (by decide)) ?_ (by rw [FR.F fw (by decide), FR.F fw (by decide), FR.F fw (by decide)]; exact hE) hN) (fun y _ hy => ok_some.mpr (RES_via fw ow' (RES.le hy (Nat.sub_le _ _)) hw hT i.2.1 (by decide) (by decide) (by decide) (by decide) (by decide) (by decide))))
        have w165 : F w 165 = F u 165 + 1 := by rw [FR.F q2 (by decide)]; exact e165''
        have w164 : F w 164 = F u 164 := FR.F fw (by decide)
        exact CLG_call cl h165 w165 w164 y5 hr
      rw [litm1q, decE (by omega) (by omega) (by omega) (by omega)]
      refine ok_br.mpr ⟨fun z => ?_, fun z => ?_⟩
      · obtain ⟨d1, d2⟩ := t5 (of_decide_eq_true z)
        refine ok_ck.mpr ⟨inb_at (k := 53) (n := 1400) rfl (by omega) (by omega) (by decide), ?_⟩
        rw [d1, I_tn (x := (xx : Int)) (by omega) (by omega), Int.toNat_natCast, I_A' (show A w 53 xx = ((c : Nat) : Int) by rw [FR.A fw (by decide)]; exact d2)]
        exact go
      · obtain ⟨d1, d2⟩ := t4 (of_decide_eq_false z)
        refine ok_ck.mpr ⟨inb_at (k := 50) (n := 1000) rfl (by omega) (by omega) (by decide), ?_⟩
        rw [d1, I_tn (x := (ff : Int)) (by omega) (by omega), Int.toNat_natCast, I_A' (show A w 50 ff = ((c : Nat) : Int) by rw [FR.A fw (by decide)]; exact d2)]
        exact go
    have h95 : A w5 95 p = ((fr : Nat) : Int) := by rw [FR.A f5 (by decide)]; exact hf.2.2
    have h166' : F w5 166 = ((g : Nat) : Int) := by rw [FR.F f5 (by decide)]; exact h166
    have hfl' : (v5 = -1 ∧ h = 0) ∨ (v5 ≠ -1 ∧ g = 1 ∧ so (w5.2.2.2 91 (46000 * p + (ro (fr - 1) + tH T q - 1 - b))) = 3 ∧ vn (hp w5 p (vn (w5.2.2.2 91 (46000 * p + (ro (fr - 1) + tH T q - 1 - b))) + 1)) = h) := by rw [hp5, j91]; exact hfl
    by_cases z0 : A u 30 q = 0
    · have h60' := h60 z0
      refine ok_bnd.mpr (ok_mono (frameOf_ok (N := N) (v1 := v4) (v2 := v5) (g := g) (bo := ro (fr - 1) + tH T q - b - g) (bn := rn (fr - 1) + rh (fr - 1) + tM T q) (fr2 := fr + 1) (h := h) i5 ⟨hf.1, hf.2.1⟩ h95 h166' hg hb (by omega) hv4 (by omega) h40 (by omega) (Or.inl ⟨z30.mpr z0, h60', rfl, rfl, rfl⟩) hfl' hN) (fun w _ hw' => ?_))
      have hq' := hw'
      obtain ⟨q1, q2, q3, q4, q5, q6, q7⟩ := hq'
      rw [show fr + 1 - 1 = fr from by omega] at q5 q6 q7
      have F5 : FRS w5 T ND p fr ro rn rh cb pc ct (tK T q) (tC T q) := FRS_98 hF f5 (by decide) (fun j hj => by rw [e98, if_neg hj])
      have F6 := FRS_call (q := q + 1) (h := h) (bo := ro (fr - 1) + tH T q - b - g) (bn := rn (fr - 1) + rh (fr - 1) + tM T q) F5 h60' q2 (by decide) (by rw [e98, if_pos rfl]) hq1 (by rw [n5]; exact hG) (by rw [n6, n1]; omega) nx1 (by rw [n3]; exact a5) (by rw [n2', n3]; omega) n4 (by omega) n8 (by rw [n1]; omega) (by rw [n2']) h40 q4 q5 q6 q7
      refine fin w (fr + 1) _ _ _ _ _ _ _ hw' F6 ?_ ?_ ?_ ?_ ?_
      · exact if_pos (by omega)
      · exact if_pos (by omega)
      · exact if_pos (by omega)
      · rw [a6]; congr 1; exact (if_pos (by omega)).symm
      · have b1 := sR_le (T := T) (pc := fun i => if i = fr - 1 then q + 1 else pc i) (fr + 1 - 1) (fun j hj => by
          show tR T (if j = fr - 1 then q + 1 else pc j) ≤ 16000
          by_cases e : j = fr - 1
          · rw [if_pos e]; exact nx6.2
          · rw [if_neg e]; exact (hp'.1.2.2.1 _ (hF.2.2.2.1 j (by omega)).2.1).1.2.2.2.2.2.1.2)
        omega
    · have k0 := h30 z0
      refine ok_bnd.mpr (ok_mono (frameOf_ok (N := N) (v1 := v4) (v2 := v5) (g := g) (bo := ro (fr - 1)) (bn := rn (fr - 1)) (fr2 := fr) (h := h) i5 ⟨hf.1, hf.2.1⟩ h95 h166' hg hb (by omega) hv4 (by omega) h40 (by omega) (Or.inr ⟨fun z => z0 (z30.mp z), rfl, by rw [FR.A f5 (by decide)]; exact top.1, by omega, by rw [FR.A f5 (by decide)]; exact top.2.1, by omega⟩) hfl' hN) (fun w _ hw' => ?_))
      have hq' := hw'
      obtain ⟨q1, q2, q3, q4, q5, q6, q7⟩ := hq'
      have F5 : FRS w5 T ND p fr ro rn rh cb pc ct (tK T q) (tC T q) := FRS_98 hF f5 (by decide) (fun j hj => by rw [e98, if_neg hj])
      rw [k0] at F5
      have F6 := FRS_tail (h := h) F5 q2 (by decide) (fun i _ => FR.A q2 (by decide)) h40 q4 q5 q6 q7
      refine fin w fr _ _ _ _ _ _ _ hw' F6 rfl rfl ?_ ?_ ?_
      · exact if_pos rfl
      · rw [a6, k0]; rfl
      · omega
  unfold fb_M_callRun_213
  rw [I_F (k := 165), I_F (k := 164), decE r165.1 r165.2 (by omega) (by omega)]
  refine ok_br.mpr ⟨fun _ => ok_lt.mpr ?_, fun z165 => ?_⟩
  · rw [lit1q, wi_e]
    have f1 : FR [151] [] [] [] u (wi u 151 1) := FR.wi FR.rf (by decide)
    have e151 : F (wi u 151 1) 151 = 1 := by rw [F_wi (by omega) (by omega), if_pos rfl]
    generalize wi u 151 1 = w1 at *
    obtain ⟨l, hl⟩ : ∃ l : Nat, A u 24 q = l := ⟨(A u 24 q).toNat, by omega⟩
    refine ok_ck.mpr ⟨inb_at (k := 24) (n := 16000) rfl (by omega) (by omega) (by decide), ?_⟩
    rw [I_tn (x := (q : Int)) (by omega) (by omega), Int.toNat_natCast, I_A' (show A w1 24 q = l by rw [FR.A f1 (by decide)]; exact hl)]
    refine ok_ck.mpr ⟨inb_at (k := 8) (n := 4002) rfl (by omega) (by omega) (by decide), ?_⟩
    rw [I_F' (show F w1 133 = p by rw [FR.F f1 (by decide)]; exact i.2.2.1)]
    refine ok_ck.mpr ⟨inb_at (k := 115) (n := 24) rfl (by omega) (by omega) (by decide), ok_lt.mpr (ok_some.mpr ?_)⟩
    rw [I_tn (x := (p : Int)) (by omega) (by omega), Int.toNat_natCast, I_A (k := 8), wa_e]
    have f2 : FR [151] [] [115] [] u (wa w1 115 p (A w1 8 (I (l : Int)).toNatClampNeg)) := FR.wa (FR.mo f1 (by decide) (by decide) (by decide) (by decide)) (by decide)
    have f12 : FR [] [] [115] [] w1 (wa w1 115 p (A w1 8 (I (l : Int)).toNatClampNeg)) := FR.wa FR.rf (by decide)
    generalize wa w1 115 p (A w1 8 (I (l : Int)).toNatClampNeg) = w2 at *
    have i2 := MEI_fr i f2 (by decide) (by decide) (by decide) (by decide) (by decide) (by decide) (by decide) (by decide) (by decide) (by decide) (by decide) (by decide) (by decide) (by decide) (by decide) (by decide) (by decide) (by decide)
    exact ⟨PR, i.2.1, Or.inr (Or.inr (Or.inl ⟨fr, ro, rn, rh, cb, pc, ct, q, n, ow, kd, bxM, ⟨i2, FRS_fr hF f2 (by decide) (by decide) (by decide) (by decide) (by decide) (by decide) (by decide) (by decide) (by decide) (by decide), by rw [FR.A f2 (by decide)]; exact a98, a4, a5, by rw [FR.A f2 (by decide)]; exact a6⟩, by rw [FR.A f2 (by decide)]; exact h109, hG, by rw [FR.F f12 (by decide)]; exact e151⟩)), WLD_fr hw hT (OTF_fr f2 (by decide)) f2 (by decide) (by decide) (fun z _ => Or.inl (FR.A f2 (by decide))), FR.mo f2 (by decide) (by decide) (by decide) (by decide)⟩
  · have h165 : F u 165 < F u 164 := by have := of_decide_eq_false z165; omega
    refine ok_ck.mpr ⟨inb_at (k := 30) (n := 16000) rfl (by omega) (by omega) (by decide), ?_⟩
    have r30 := A_r u 30 q
    rw [I_tn (x := (q : Int)) (by omega) (by omega), Int.toNat_natCast, I_A (k := 30), lit0q, decE r30.1 r30.2 (by omega) (by omega)]
    refine ok_br.mpr ⟨fun _ => ?_, fun z30 => y285 h165 (fun z => absurd z (of_decide_eq_false z30))⟩
    rw [I_F' i.2.2.1]
    refine ok_ck.mpr ⟨inb_at (k := 95) (n := 24) rfl (by omega) (by omega) (by decide), ?_⟩
    rw [I_tn (x := (p : Int)) (by omega) (by omega), Int.toNat_natCast, I_A' hf.2.2, show (60 : Int32) = I 60 from rfl, decE (by omega) (by omega) (by omega) (by omega)]
    refine ok_br.mpr ⟨fun _ => ?_, fun z60 => y285 h165 (fun _ => by have := of_decide_eq_false z60; omega)⟩
    rw [lit1q, show (21 : Int32) = I 21 from rfl, term_e, bnd_so]
    refine ok_bnd.mpr (ok_mono (ends_ok (N := N) (wr := 0) i (Or.inl ⟨nh_mk (by omega), hp'.2.1.1 21 (by omega) (by omega)⟩) (by omega)) (fun y _ hy => ok_some.mpr ?_))
    exact RES_rsw (C := C) (CN := CN) ⟨Or.inl hy.1, Or.inr ⟨FR.mo hy.2.1 (by decide) (by decide) (by decide) (by decide), hy.1.2⟩, OTF_fr hy.2.1 (by decide), hy.2.2⟩ hw hT i.2.1
end
