section
variable {Fv : Int64 → Int64 → Prop} {P P2 : Int64 → Prop} {u v w w2 x y : MS} {PR PR2 N p n n2 opM bnM bxM bx2 ND fr k tp mu CN PN SN UN FN rq q m h mm AN : Nat} {ow kd ow2 kd2 ro rn rh cb pc ct pM pE : Nat → Nat} {T : TY} {C : CY}
theorem fin_ev (e : ERX Fv (PQ AN PR) PR T C ND CN p u fr ro rn rh cb pc ct q n ow kd opM bnM bxM mu) (hw : WLD u T ND UN FN PR p) (hT : ∀ q, q < ND → tK T q ≤ 26) (hG : tG T q = 0) (hm : m < ND) (hx : NX T q m h mm) (h98 : A u 98 (60 * p + (fr - 1)) = ((m : Nat) : Int)) (f : FR [121, 150] [] [92, 109] [91, 141] u y) (o : OTF p u y) (h109 : ∀ z, A y 109 z = A u 109 z) (i : MEI Fv (PQ AN PR) PR y p n ow kd (ro (fr - 1) + h) (rn (fr - 1) + rh (fr - 1) + mm) bxM) (d : DW Fv (PQ AN PR) PR v) (ev : EVF y v) : RSW Fv AN T C ND CN UN FN p mu u v := by
  obtain ⟨ev1, ev2⟩ := ev
  obtain ⟨n2, ow2, kd2, bx2, ix⟩ := MEX_of (opM := ro (fr - 1) + h) (bnM := rn (fr - 1) + rh (fr - 1) + mm) d i.2.1 (by rw [FR.F ev1 (by decide)]; exact i.2.2.1) (by rw [FR.A ev1 (by decide)]; exact i.2.2.2.2.2.2.2.2.2.1.1) (by rw [FR.A ev1 (by decide)]; exact i.2.2.2.2.2.2.2.2.2.2.1.1)
  have f2 : FR [121, 136, 138, 140, 150] [139] [89, 90, 92, 108, 109, 135, 142, 145, 146, 147] [88, 91, 93, 107, 134, 137, 141, 148] u v := FR.tr (FR.mo f (by decide) (by decide) (by decide) (by decide)) (FR.mo ev1 (by decide) (by decide) (by decide) (by decide))
  have o2 : OTF p u v := OTF.tr o (OTF_fr ev1 (by decide))
  have h9 : ∀ z, A v 109 z = A u 109 z ∨ A v 109 z = 3 := fun z => by rw [← h109 z]; exact ev2 z
  have p0 := e.2.2.2.2.2.1
  exact finX e hG hm hx f2 (by decide) (by decide) (by decide) h98 (by have := h9 p; omega) ix (WLD_fr hw hT o2 f2 (by decide) (by decide) (fun z _ => h9 z)) (FR.mo f2 (by decide) (by decide) (by decide) (by decide))
theorem fin_lk (e : ERX Fv (PQ AN PR) PR T C ND CN p u fr ro rn rh cb pc ct q n ow kd opM bnM bxM mu) (hw : WLD u T ND UN FN PR p) (hT : ∀ q, q < ND → tK T q ≤ 26) (hG : tG T q = 0) (hm : m < ND) (hx : NX T q m h mm) (h98 : A u 98 (60 * p + (fr - 1)) = ((m : Nat) : Int)) (f : FR [121] [] [92] [91, 141] u y) (o : OTF p u y) (i : MEI Fv (PQ AN PR) PR y p n ow kd (ro (fr - 1) + h) (rn (fr - 1) + rh (fr - 1) + mm) bxM) (fv : FR [125] [] [116, 117, 122, 123, 124] [] y v) (lk : LK v PR) (wt : WTQ v PR) : RSW Fv AN T C ND CN UN FN p mu u v := by
  have f2 : FR [121, 125] [] [92, 116, 117, 122, 123, 124] [91, 141] u v := FR.tr (FR.mo f (by decide) (by decide) (by decide) (by decide)) (FR.mo fv (by decide) (by decide) (by decide) (by decide))
  have o2 : OTF p u v := OTF.tr o (OTF_fr fv (by decide))
  have iv := MEI_fr i fv (by decide) (by decide) (by decide) (by decide) (by decide) (by decide) (by decide) (by decide) (by decide) (by decide) (by decide) (by decide) (by decide) (by decide) (by decide) (by decide) (by decide) (by decide)
  have wv : WLD v T ND UN FN PR p := WLD_otf hw hT o2 (fun k hk j => FR.A f2 (by revert hk; unfold KP; simp; omega)) (fun z _ => Or.inl (FR.A f2 (by decide))) lk wt (by rw [FR.F f2 (by decide)]; exact hw.2.2.1) (fun j => by rw [FR.A f2 (by decide)]; exact hw.2.2.2.1 j) (fun j => by rw [FR.A f2 (by decide)]; exact hw.2.2.2.2.2.1 j)
  exact finX e hG hm hx f2 (by decide) (by decide) (by decide) h98 (Or.inl (by rw [FR.A f2 (by decide)]; exact e.2.2.2.2.2.1)) (MEI_x iv) wv (FR.mo f2 (by decide) (by decide) (by decide) (by decide))
def SZL (h : Nat → Int64) (n : Nat) (ow kd : Nat → Nat) (Fv : Int64 → Int64 → Prop) (P : Int64 → Prop) (t : Int64) : Prop := ∃ f s, SZ h n ow kd Fv P f t s ∧ s ≤ 500
theorem isK92 : isK 92 4 = true := by decide
theorem LK_self (pr : PR ≤ 24) (hp1 : p < PR) (l : LK w PR) (a : RML w p p v) (ka : LKR v PR p) : LK v PR := by
  obtain ⟨a1, a2, a3, a4, a5, a6, a7⟩ := a
  have np : ∀ x, x < PR → ¬ inL w x x := fun x hx ⟨k, k1, k2⟩ => ((l.1 x hx).2.2.1 k k1).2.2 k2
  have eX : ∀ x y, x < PR → x ≠ p → (inL v x y ↔ inL w x y) := fun x y hx h1 => inL_same (l.1 x hx) (a2 x h1) (fun k hk => a3 _ (by omega))
  have eP : ∀ y, y < PR → (inL v p y ↔ inL w p y) := fun y hy => by
    by_cases e : y = p
    · subst e; exact ⟨fun z => absurd z a6, fun z => absurd z (np y hy)⟩
    · exact a7 y e
  refine ⟨fun x hx => ?_, fun x y hx hy z => ?_⟩
  · by_cases e : x = p
    · rw [e]; exact ka
    · exact LKR_same (l.1 x hx) (a2 x e) (fun k hk => a3 _ (by omega))
  · by_cases e1 : x = p
    · subst e1
      have := l.2 x y hx hy ((eP y hy).mp z)
      by_cases e2 : y = x
      · subst e2; exact z
      · exact (eX y x hy e2).mpr this
    · have := l.2 x y hx hy ((eX x y hx e1).mp z)
      by_cases e2 : y = p
      · subst e2; exact (eP x hx).mpr this
      · exact (eX y x hy e2).mpr this
set_option maxRecDepth 100000 in
theorem procR {k : Nat} (e : ERX Fv (PQ AN PR) PR T C ND CN p u fr ro rn rh cb pc ct q n ow kd (ro (fr - 1) + tH T q) (rn (fr - 1) + rh (fr - 1) + tM T q) bxM mu) (hp' : PGM Fv (PQ AN PR) PR T C pM pE ND CN PN SN UN FN u) (hw : WLD u T ND UN FN PR p) (hE : F u 149 = F u 150) (hG : tG T q = 0) (hk : k = 2 ∨ k = 3 ∨ k = 4 ∨ k = 8 ∨ k = 16) (hq : tB T q + npre k ≤ tH T q) (hm : m < ND) (hx : NX T q m (tH T q + 1 - npre k) (tM T q)) (h98 : A u 98 (60 * p + (fr - 1)) = ((m : Nat) : Int)) (hN : 60000 ≤ N) : OK (fun v _ => RSW Fv AN T C ND CN UN FN p mu u v) (fm_M_processRun N u (I k)) := by
  have i := e.1
  have x4 := MEI_p i
  have hH := (hp'.1.2.2.1 q e.2.2.1).1.1
  have hf := e.2.1.1
  have hro := (e.2.1.2.2.1 (fr - 1) (by omega)).2.2.2.2.1
  have hT := PRG_26 hp'.1
  have pr := i.1.1.2
  have hg := i.2.2.2.2.2.2.1
  have n500 : n ≤ 500 := i.2.2.2.2.2.2.2.1
  obtain ⟨lk, wt, -, -, -, -, -⟩ := id hw
  have nk : (k = 8 ∧ npre k = 2) ∨ (k ≠ 8 ∧ npre k = 1) := by rcases hk with z | z | z | z | z <;> subst z <;> decide
  have pid : ∀ z : Nat, z < PR → GT n ow kd (PQ AN PR) (mk 4 z) := fun z hz => Or.inl ⟨nh_mk (by omega), hp'.2.1.2.1 z hz⟩
  have y151 : ∀ (v : MS) (z : Nat) (t : Int64) (b : Int32), z < PR → b = I (npre k : Int) → FR [] [] [] [141] u v → (k = 8 → SZL (hp u p) n ow kd Fv (PQ AN PR) t) → (k = 4 → F u 125 ≠ 200) → OK (fun y _ => RSW Fv AN T C ND CN UN FN p mu u y) (fb_M_processRun_151 N () v (I k) t (I z) 92 (v.1 133) (v.2.2.1 92 (v.1 133).toNatClampNeg) b) := fun v z t b hz hb fv hsz h125 => by
    have iv : MEI Fv (PQ AN PR) PR v p n ow kd (ro (fr - 1) + tH T q) (rn (fr - 1) + rh (fr - 1) + tM T q) bxM := MEI_fr i fv (by decide) (by decide) (by decide) (by decide) (by decide) (by decide) (by decide) (by decide) (by decide) (by decide) (by decide) (by decide) (by decide) (by decide) (by decide) (by decide) (by decide) (by decide)
    unfold fb_M_processRun_151
    rw [isK92, ck_t, I_F' iv.2.2.1]
    refine ok_ck.mpr ⟨inb_at (k := 92) (n := 24) rfl (by omega) (by omega) (by decide), ok_lt.mpr ?_⟩
    rw [I_tn (x := (p : Int)) (by omega) (by omega), Int.toNat_natCast, I_A' iv.2.2.2.2.2.2.2.2.2.1.1, hb, I_sub, show ((ro (fr - 1) + tH T q : Nat) : Int) - (npre k : Int) = ((ro (fr - 1) + (tH T q - npre k) : Nat) : Int) from by omega, wa_e]
    have ix := ops_less iv (k := ro (fr - 1) + (tH T q - npre k)) (by omega)
    have fx : FR [] [] [92] [141] u (wa v 92 p ((ro (fr - 1) + (tH T q - npre k) : Nat) : Int)) := FR.wa (FR.mo fv (by decide) (by decide) (by decide) (by decide)) (by decide)
    have ox : OTF p u (wa v 92 p ((ro (fr - 1) + (tH T q - npre k) : Nat) : Int)) := OTF.tr (OTF_fr fv (by decide)) (OTF_at (FR.wa FR.rf (by decide) : FR [] [] [92] [] v _) (i0 := p) (fun j hj => by rw [A_eq (by omega) (by omega), if_neg hj]) (Or.inl ⟨by decide, rfl⟩))
    generalize wa v 92 p ((ro (fr - 1) + (tH T q - npre k) : Nat) : Int) = x at *
    have ex := ERX_fr e fx (by decide) (by decide) (by decide) ix (by omega) (Nat.le_refl _)
    have x98 : A x 98 (60 * p + (fr - 1)) = ((m : Nat) : Int) := by rw [FR.A fx (by decide)]; exact h98
    have hh : ro (fr - 1) + (tH T q - npre k) + 1 = ro (fr - 1) + (tH T q + 1 - npre k) := by omega
    have pt : ∀ (t : Int64) (w : MS), FR [121] [] [] [] x w → GT n ow kd (PQ AN PR) t → OK (fun y _ => FR [121] [] [92] [91, 141] u y ∧ OTF p u y ∧ MEI Fv (PQ AN PR) PR y p n ow kd (ro (fr - 1) + (tH T q + 1 - npre k)) (rn (fr - 1) + rh (fr - 1) + tM T q) bxM) (fm_M_put N w t) := fun t w fw gt => by
      have iw := MEI_ints ix fw (by decide)
      refine ok_mono (put_ok (N := N) iw gt (by omega)) (fun y _ hy => ?_)
      obtain ⟨y1, y2⟩ := hy
      have fy : FR [] [] [92] [91] w y := by rw [y1]; exact FR.wa (FR.wj FR.rf (by decide)) (by decide)
      refine ⟨FR.tr (FR.mo fx (by decide) (by decide) (by decide) (by decide)) (FR.tr (FR.mo fw (by decide) (by decide) (by decide) (by decide)) (FR.mo fy (by decide) (by decide) (by decide) (by decide))), OTF.tr ox (OTF.tr (OTF_fr fw (by decide)) (OTF_at (k0 := 92) fy (i0 := p) (fun j hj => by rw [y1, A_eq (by omega) (by omega), if_neg hj]; rfl) (Or.inl ⟨by decide, rfl⟩))), by rw [← hh]; exact y2⟩
    rw [show (16 : Int32) = I 16 from rfl, show (4 : Int32) = I 4 from rfl, show (8 : Int32) = I 8 from rfl, show (3 : Int32) = I 3 from rfl, decE (by omega) (by omega) (by omega) (by omega), decE (x := (k : Int)) (y := 4) (by omega) (by omega) (by omega) (by omega), decE (x := (k : Int)) (y := 8) (by omega) (by omega) (by omega) (by omega), decE (x := (k : Int)) (y := 3) (by omega) (by omega) (by omega) (by omega)]
    unfold fb_M_processRun_305 fb_M_processRun_480
    have in9 : inb (I (z : Int)) (ln 109) = true := inb_at (k := 109) (n := 24) rfl (by omega) (by omega) (by decide)
    refine ok_br.mpr ⟨fun _ => ?_, fun _ => ok_br.mpr ⟨fun z4 => ok_lt.mpr ?_, fun _ => ?_⟩⟩
    · 
      have p176 : ∀ x0 : Int32, x0 = 0 ∨ x0 = 1 → OK (fun y _ => RSW Fv AN T C ND CN UN FN p mu u y) (fb_M_processRun_176 N () x x0) := fun x0 h0 => by
        unfold fb_M_processRun_176 fb_M_processRun_480
        have fin : ∀ t, GT n ow kd (PQ AN PR) t → OK (fun y _ => RSW Fv AN T C ND CN UN FN p mu u y) (bnd (fm_M_put N x t) (fun u2 _ => some (u2, ()))) := fun t gt =>
          ok_bnd.mpr (ok_mono (putR (N := N) ex hm hx x98 (by omega) rfl gt (by omega)) (fun y _ hy => ok_some.mpr (RES_via fx ox hy hw hT i.2.1 (by decide) (by decide) (by decide) (by decide) (by decide) (by decide))))
        rcases h0 with h0 | h0
        · rw [h0, truth0, bnd_so]; exact fin _ (GT_atom hp'.2.1 (by omega))
        · rw [h0, truth1, bnd_so]; exact fin _ (GT_atom hp'.2.1 (by omega))
      exact ok_ck.mpr ⟨in9, ok_br.mpr ⟨fun _ => p176 0 (Or.inl rfl), fun _ => p176 1 (Or.inr rfl)⟩⟩
    · 
      have e4 : k = 4 := by have := of_decide_eq_true z4; omega
      have r1 := F_r x 121
      rw [I_F (k := 121), show (2 : Int32) = I 2 from rfl, term_e, bnd_so]
      refine ok_bnd.mpr (ok_mono (pt _ _ (by rw [lit1q, I_add, wi_e]; exact FR.wi FR.rf (by decide)) (Or.inl ⟨nh_mk (by omega), hp'.2.1.2.2.1 _ r1.1 r1.2⟩)) (fun y _ hy => ?_))
      obtain ⟨y1, y2, y3⟩ := hy
      have y125 : F y 125 = F u 125 := FR.F y1 (by decide)
      have wty : WTQ y PR := WT_fr wt y1 (by decide) (by decide) (by decide)
      have lky : LK y PR := LK_fr lk y1 (by decide) (by decide)
      refine ok_ck.mpr ⟨in9, ok_br.mpr ⟨fun _ => ?_, fun _ => ok_br.mpr ⟨fun _ => ok_some.mpr ?_, fun _ => ?_⟩⟩⟩
      · rw [lit1q, term_e, bnd_so, I_F' y3.2.2.1, show (1 : Int) = ((1 : Nat) : Int) from rfl, lit0q]
        refine ok_bnd.mpr (ok_mono (message_ok (N := N) (sort := 1) (p := z) (r := F x 121) (wr := 0) (o := z) y3.1 i.2.1 hp'.2.1 (by omega) (fun _ => hz) r1 (by omega) (by omega) (fun _ => Or.inl ⟨by omega, nh_mk (by omega), hp'.2.1.1 3 (by omega) (by omega)⟩) hN) (fun y' _ hy' => ok_some.mpr ?_))
        exact fin_ev e hw hT hG hm hx h98 (FR.mo y1 (by decide) (by decide) (by decide) (by decide)) y2 (fun z => FR.A y1 (by decide)) y3 hy'.1 (MSG_evf hy')
      · exact fin_lk e hw hT hG hm hx h98 y1 y2 y3 FR.rf lky wty
      · obtain ⟨c, hc⟩ : ∃ c : Nat, F y 125 = c := ⟨(F y 125).toNat, by have := wty.1; omega⟩
        have c200 : c < 200 := by have := wty.2.1; have := h125 e4; omega
        rw [I_F' hc]
        refine ok_ck.mpr ⟨inb_at (k := 122) (n := 4000) rfl (by omega) (by omega) (by decide), ok_lt.mpr ?_⟩
        rw [I_tn (x := (c : Int)) (by omega) (by omega), Int.toNat_natCast, wa_e, show (wa y 122 c (F x 121)).1 125 = I c from I_F' hc, show (wa y 122 c (F x 121)).1 133 = I p from I_F' y3.2.2.1]
        refine ok_ck.mpr ⟨inb_at (k := 123) (n := 4000) rfl (by omega) (by omega) (by decide), ok_lt.mpr ?_⟩
        rw [I_tn (x := (c : Int)) (by omega) (by omega), Int.toNat_natCast, wa_e, show (wa (wa y 122 c (F x 121)) 123 c (p : Int)).1 125 = I c from I_F' hc]
        refine ok_ck.mpr ⟨inb_at (k := 124) (n := 4000) rfl (by omega) (by omega) (by decide), ok_lt.mpr (ok_lt.mpr (ok_some.mpr ?_))⟩
        rw [I_tn (x := (c : Int)) (by omega) (by omega), Int.toNat_natCast, wa_e, show (wa (wa (wa y 122 c (F x 121)) 123 c (p : Int)) 124 c (z : Int)).1 125 = I c from I_F' hc, lit1q, I_add, wi_e]
        have f6 : FR [125] [] [122, 123, 124] [] y (wi (wa (wa (wa y 122 c (F x 121)) 123 c (p : Int)) 124 c (z : Int)) 125 ((c : Int) + 1)) := FR.wi (FR.wa (FR.wa (FR.wa FR.rf (by decide)) (by decide)) (by decide)) (by decide)
        have a3 : ∀ j, A (wi (wa (wa (wa y 122 c (F x 121)) 123 c (p : Int)) 124 c (z : Int)) 125 ((c : Int) + 1)) 123 j = if j = c then (p : Int) else A y 123 j := fun j => by rw [A_wi, A_ne (by decide), A_eq (by omega) (by omega), A_ne (by decide)]
        have a4 : ∀ j, A (wi (wa (wa (wa y 122 c (F x 121)) 123 c (p : Int)) 124 c (z : Int)) 125 ((c : Int) + 1)) 124 j = if j = c then (z : Int) else A y 124 j := fun j => by rw [A_wi, A_eq (by omega) (by omega), A_ne (by decide), A_ne (by decide)]
        have a5 : F (wi (wa (wa (wa y 122 c (F x 121)) 123 c (p : Int)) 124 c (z : Int)) 125 ((c : Int) + 1)) 125 = (c : Int) + 1 := by rw [F_wi (by omega) (by omega), if_pos rfl]
        generalize wi (wa (wa (wa y 122 c (F x 121)) 123 c (p : Int)) 124 c (z : Int)) 125 ((c : Int) + 1) = y5 at *
        have pp := i.2.1
        refine fin_lk e hw hT hG hm hx h98 y1 y2 y3 (FR.mo f6 (by decide) (by decide) (by decide) (by decide)) (LK_fr lky f6 (by decide) (by decide)) ?_
        refine ⟨by omega, by omega, fun j hj => ?_⟩
        rw [a3, a4]
        by_cases ej : j = c
        · rw [if_pos ej, if_pos ej]; omega
        · rw [if_neg ej, if_neg ej]; exact wty.2.2 j (by omega)
    · rw [truth1, bnd_so]
      refine ok_bnd.mpr (ok_mono (pt _ x FR.rf (GT_atom hp'.2.1 (by omega))) (fun y _ hy => ?_))
      obtain ⟨y1, y2, y3⟩ := hy
      have lky : LK y PR := LK_fr lk y1 (by decide) (by decide)
      have wty : WTQ y PR := WT_fr wt y1 (by decide) (by decide) (by decide)
      have hpy : hp y p = hp u p := by unfold hp; rw [y1.2.2.2 88 (by decide)]
      have y133 := y3.2.2.1
      refine ok_br.mpr ⟨fun z8 => ?_, fun _ => ok_br.mpr ⟨fun _ => ?_, fun _ => ?_⟩⟩
      · obtain ⟨f, s, sz, hs⟩ := hsz (by have := of_decide_eq_true z8; omega)
        refine ok_bnd.mpr (ok_mono (exit_ok (N := N) (z := z) y3 hp'.2.1 (by rw [FR.F y1 (by decide), FR.F y1 (by decide)]; exact hE) hz (by rw [hpy]; exact sz) hs hN) (fun y' _ hy' => ok_some.mpr ?_))
        exact fin_ev e hw hT hG hm hx h98 (FR.mo y1 (by decide) (by decide) (by decide) (by decide)) y2 (fun z => FR.A y1 (by decide)) y3 hy'.1 hy'.2
      · rw [I_F' y133]
        refine ok_bnd.mpr (ok_mono (removeLink_ok (N := N) (q := z) x4 (by omega) (lky.1 p i.2.1) (by omega)) (fun a _ ha => ?_))
        obtain ⟨a1, a2⟩ := ha
        rw [I_F' (show F a 133 = p by rw [FR.F a1.1 (by decide)]; exact y133)]
        by_cases ez : z = p
        · subst ez
          have lka := LK_self pr i.2.1 lky a1 a2
          refine ok_bnd.mpr (ok_mono (removeLink_ok (N := N) (q := z) x4 (by omega) a2 (by omega)) (fun b _ hb => ok_some.mpr ?_))
          obtain ⟨b1, b2⟩ := hb
          have fab : FR [] [] [116, 117] [] y b := FR.tr a1.1 b1.1
          exact fin_lk e hw hT hG hm hx h98 y1 y2 y3 (FR.mo fab (by decide) (by decide) (by decide) (by decide)) (LK_self pr i.2.1 lka b1 b2) (WT_fr wty fab (by decide) (by decide) (by decide))
        · have lz : LKR a PR z := LKR_same (lky.1 z hz) (a1.2.1 z ez) (fun k hk => a1.2.2.1 _ (by omega))
          refine ok_bnd.mpr (ok_mono (removeLink_ok (N := N) (q := p) (show z < 24 by omega) (by omega) lz (by omega)) (fun b _ hb => ok_some.mpr ?_))
          obtain ⟨b1, b2⟩ := hb
          have fab : FR [] [] [116, 117] [] y b := FR.tr a1.1 b1.1
          exact fin_lk e hw hT hG hm hx h98 y1 y2 y3 (FR.mo fab (by decide) (by decide) (by decide) (by decide)) (LK_two pr i.2.1 hz (Ne.symm ez) lky a1 a2 b1 b2) (WT_fr wty fab (by decide) (by decide) (by decide))
      · refine ok_ck.mpr ⟨in9, ok_br.mpr ⟨fun z3 => ?_, fun _ => ok_br.mpr ⟨fun _ => ok_some.mpr (fin_lk e hw hT hG hm hx h98 y1 y2 y3 FR.rf lky wty), fun zp => ?_⟩⟩⟩
        · rw [lit1q, term_e, bnd_so, I_F' y133, lit0q]
          refine ok_bnd.mpr (ok_mono (signal_ok (N := N) (q := p) (p := z) (o := z) (wr := 0) y3.1 i.2.1 hz hp'.2.1 (by omega) (by omega) (Or.inl ⟨nh_mk (by omega), hp'.2.1.1 3 (by omega) (by omega)⟩) hN) (fun y' _ hy' => ok_some.mpr ?_))
          exact fin_ev e hw hT hG hm hx h98 (FR.mo y1 (by decide) (by decide) (by decide) (by decide)) y2 (fun z => FR.A y1 (by decide)) y3 hy'.1 hy'.2.1
        · have ne : z ≠ p := fun ez => by
            have := of_decide_eq_false zp
            rw [I_F' y133, ez] at this
            exact this rfl
          refine ok_bnd.mpr (ok_mono (isLinked_ok (N := N) y133 (lky.1 p i.2.1) x4 (by omega) (by omega)) (fun a r ha => ?_))
          obtain ⟨a1, a2⟩ := ha
          subst a1
          refine ok_br.mpr ⟨fun zr => ?_, fun _ => ok_some.mpr (fin_lk e hw hT hG hm hx h98 y1 y2 y3 FR.rf lky wty)⟩
          have nl : ¬ inL a p z := by
            rcases a2 with a2 | a2
            · exfalso; have := of_decide_eq_true zr; rw [a2] at this; exact absurd this (by decide)
            · exact a2.2
          have nl2 : ¬ inL a z p := fun h => nl (lky.2 z p hz i.2.1 h)
          have rp := LKR_room (lky.1 p i.2.1) pr hz ne i.2.1 nl
          have rz := LKR_room (lky.1 z hz) pr i.2.1 (Ne.symm ne) hz nl2
          obtain ⟨c, hc⟩ : ∃ c : Nat, A a 117 p = c := ⟨(A a 117 p).toNat, by have := (lky.1 p i.2.1).1; omega⟩
          obtain ⟨d, hd⟩ : ∃ d : Nat, A a 117 z = d := ⟨(A a 117 z).toNat, by have := (lky.1 z hz).1; omega⟩
          rw [I_F' y133]
          refine ok_ck.mpr ⟨inb_at (k := 117) (n := 24) rfl (by omega) (by omega) (by decide), ?_⟩
          rw [I_tn (x := (p : Int)) (by omega) (by omega), Int.toNat_natCast, I_A' hc, show (24 : Int32) = I 24 from rfl, I_mul, I_add]
          refine ok_ck.mpr ⟨inb_at (k := 116) (n := 576) rfl (by omega) (by omega) (by decide), ok_lt.mpr ?_⟩
          rw [I_tn (x := 24 * (p : Int) + (c : Int)) (by omega) (by omega), show (24 * (p : Int) + (c : Int)).toNat = 24 * p + c from by omega, wa_e, show (wa a 116 (24 * p + c) (z : Int)).1 133 = I p from I_F' y133]
          refine ok_ck.mpr ⟨inb_at (k := 117) (n := 24) rfl (by omega) (by omega) (by decide), ok_ck.mpr ⟨inb_at (k := 117) (n := 24) rfl (by omega) (by omega) (by decide), ok_lt.mpr ?_⟩⟩
          rw [I_tn (x := (p : Int)) (by omega) (by omega), Int.toNat_natCast, show (wa a 116 (24 * p + c) (z : Int)).2.2.1 117 p = I c from I_A' hc, lit1q, I_add, wa_e]
          have fb : FR [] [] [116, 117] [] a (wa (wa a 116 (24 * p + c) (z : Int)) 117 p ((c : Int) + 1)) := FR.wa (FR.wa FR.rf (by decide)) (by decide)
          have b6 : ∀ j, A (wa (wa a 116 (24 * p + c) (z : Int)) 117 p ((c : Int) + 1)) 116 j = if j = 24 * p + c then (z : Int) else A a 116 j := fun j => by rw [A_ne (by decide), A_eq (by omega) (by omega)]
          have b7 : ∀ j, A (wa (wa a 116 (24 * p + c) (z : Int)) 117 p ((c : Int) + 1)) 117 j = if j = p then (c : Int) + 1 else A a 117 j := fun j => by rw [A_eq (by omega) (by omega), A_ne (by decide)]
          generalize wa (wa a 116 (24 * p + c) (z : Int)) 117 p ((c : Int) + 1) = b at *
          have b133 : F b 133 = p := by rw [FR.F fb (by decide)]; exact y133
          have bz : A b 117 z = d := by rw [b7, if_neg ne]; exact hd
          refine ok_ck.mpr ⟨inb_at (k := 117) (n := 24) rfl (by omega) (by omega) (by decide), ?_⟩
          rw [I_tn (x := (z : Int)) (by omega) (by omega), Int.toNat_natCast, I_A' bz, I_mul, I_add]
          refine ok_ck.mpr ⟨inb_at (k := 116) (n := 576) rfl (by omega) (by omega) (by decide), ok_lt.mpr ?_⟩
          rw [I_tn (x := 24 * (z : Int) + (d : Int)) (by omega) (by omega), show (24 * (z : Int) + (d : Int)).toNat = 24 * z + d from by omega, I_F' b133, wa_e]
          refine ok_ck.mpr ⟨inb_at (k := 117) (n := 24) rfl (by omega) (by omega) (by decide), ok_ck.mpr ⟨inb_at (k := 117) (n := 24) rfl (by omega) (by omega) (by decide), ok_lt.mpr (ok_some.mpr ?_)⟩⟩
          rw [show (wa b 116 (24 * z + d) (p : Int)).2.2.1 117 z = I d from I_A' bz, I_add, wa_e]
          have fc : FR [] [] [116, 117] [] a (wa (wa b 116 (24 * z + d) (p : Int)) 117 z ((d : Int) + 1)) := FR.wa (FR.wa fb (by decide)) (by decide)
          have c6 : ∀ j, A (wa (wa b 116 (24 * z + d) (p : Int)) 117 z ((d : Int) + 1)) 116 j = if j = 24 * z + d then (p : Int) else A b 116 j := fun j => by rw [A_ne (by decide), A_eq (by omega) (by omega)]
          have c7 : ∀ j, A (wa (wa b 116 (24 * z + d) (p : Int)) 117 z ((d : Int) + 1)) 117 j = if j = z then (d : Int) + 1 else A b 117 j := fun j => by rw [A_eq (by omega) (by omega), A_ne (by decide)]
          generalize wa (wa b 116 (24 * z + d) (p : Int)) 117 z ((d : Int) + 1) = g at *
          have rowp := LKR_add (w2 := g) (lky.1 p i.2.1) hz ne nl (by rw [hc, Int.toNat_natCast, c6, if_neg (by omega), b6, if_pos rfl]) (fun j hj => by rw [c6, if_neg (by omega), b6, if_neg (by omega)]) (by rw [c7, if_neg (Ne.symm ne), b7, if_pos rfl, hc]) rp
          have rowz := LKR_add (w2 := g) (lky.1 z hz) i.2.1 (Ne.symm ne) nl2 (by rw [hd, Int.toNat_natCast, c6, if_pos rfl]) (fun j hj => by rw [c6, if_neg (by omega), b6, if_neg (by omega)]) (by rw [c7, if_pos rfl, hd]) rz
          have oth : ∀ t, t ≠ p → t ≠ z → A g 117 t = A a 117 t ∧ ∀ j, j < 24 → A g 116 (24 * t + j) = A a 116 (24 * t + j) := fun t t1 t2 => ⟨by rw [c7, if_neg t2, b7, if_neg t1], fun j hj => by rw [c6, if_neg (by omega), b6, if_neg (by omega)]⟩
          have inn : ∀ s t, s < PR → (inL g s t ↔ (inL a s t ∨ (s = p ∧ t = z) ∨ (s = z ∧ t = p))) := fun s t hs => by
            by_cases s1 : s = p
            · subst s1
              rw [rowp.2 t]
              exact ⟨fun h => by rcases h with h | h; exact Or.inl h; exact Or.inr (Or.inl ⟨rfl, h⟩), fun h => by rcases h with h | h | h; exact Or.inl h; exact Or.inr h.2; exact absurd h.1.symm ne⟩
            · by_cases s2 : s = z
              · subst s2
                rw [rowz.2 t]
                exact ⟨fun h => by rcases h with h | h; exact Or.inl h; exact Or.inr (Or.inr ⟨rfl, h⟩), fun h => by rcases h with h | h | h; exact Or.inl h; exact absurd h.1 s1; exact Or.inr h.2⟩
              · rw [inL_same (lky.1 s hs) (oth s s1 s2).1 (oth s s1 s2).2]
                exact ⟨fun h => Or.inl h, fun h => by rcases h with h | h | h; exact h; exact absurd h.1 s1; exact absurd h.1 s2⟩
          refine fin_lk e hw hT hG hm hx h98 y1 y2 y3 (FR.mo fc (by decide) (by decide) (by decide) (by decide)) ⟨fun s hs => ?_, fun s t hs ht hst => ?_⟩ (WT_fr wty fc (by decide) (by decide) (by decide))
          · by_cases s1 : s = p
            · subst s1; exact rowp.1
            · by_cases s2 : s = z
              · subst s2; exact rowz.1
              · exact LKR_same (lky.1 s hs) (oth s s1 s2).1 (oth s s1 s2).2
          · rcases (inn s t hs).mp hst with h | h | h
            · exact (inn t s ht).mpr (Or.inl (lky.2 s t hs ht h))
            · exact (inn t s ht).mpr (Or.inr (Or.inr ⟨h.2, h.1⟩))
            · exact (inn t s ht).mpr (Or.inr (Or.inl ⟨h.2, h.1⟩))
  have bad : ∀ (v : MS) (t t4 : Int64), FR [] [] [] [141] u v → OK (fun y _ => RSW Fv AN T C ND CN UN FN p mu u y) (fb_M_processRun_108 N () v (I k) t t4) := fun v t t4 fv => by
    unfold fb_M_processRun_108 fb_M_processRun_109
    have iv : MEI Fv (PQ AN PR) PR v p n ow kd (ro (fr - 1) + tH T q) (rn (fr - 1) + rh (fr - 1) + tM T q) bxM := MEI_fr i fv (by decide) (by decide) (by decide) (by decide) (by decide) (by decide) (by decide) (by decide) (by decide) (by decide) (by decide) (by decide) (by decide) (by decide) (by decide) (by decide) (by decide) (by decide)
    have ew := ERX_fr e fv (by decide) (by decide) (by decide) iv (by have := e.2.2.2.2.2.2.1; omega) (Nat.le_refl _)
    refine ok_br.mpr ⟨fun _ => ?_, fun z => absurd rfl (of_decide_eq_false z)⟩
    exact ok_bnd.mpr (ok_mono (err_ok (N := N) (a := 11) ew (PGM_fr hp' fv (by decide) (by decide)) (by omega) hN) (fun y _ hy => ok_some.mpr (RES_via fv (OTF_fr fv (by decide)) hy hw hT i.2.1 (by decide) (by decide) (by decide) (by decide) (by decide) (by decide))))
  have good : ∀ (v : MS) (t t4 : Int64), FR [] [] [] [141] u v → so t4 = 4 → GT n ow kd (PQ AN PR) t4 → (k = 8 → SZL (hp u p) n ow kd Fv (PQ AN PR) t) → (k = 4 → F u 125 ≠ 200) → OK (fun y _ => RSW Fv AN T C ND CN UN FN p mu u y) (fb_M_processRun_104 N () v (I k) t t4) := fun v t t4 fv s4 g4 h8 h125 => by
    unfold fb_M_processRun_104 fb_M_processRun_109
    obtain ⟨z, hz, ez⟩ := PQ_pid g4 s4
    refine ok_br.mpr ⟨fun z => absurd (of_decide_eq_true z) (by decide), fun _ => ?_⟩
    rw [valueOf_e, bnd_so, ez, show (8 : Int32) = I 8 from rfl, decE (by omega) (by omega) (by omega) (by omega)]
    have v133 : F v 133 = p := by rw [FR.F fv (by decide)]; exact i.2.2.1
    refine ok_ck.mpr ⟨by rw [I_F' v133]; exact inb_at (k := 92) (n := 24) rfl (by omega) (by omega) (by decide), ok_br.mpr ⟨fun z8 => ?_, fun z8 => ?_⟩⟩
    · have e8 : npre k = 2 := by have := of_decide_eq_true z8; omega
      exact y151 v z t 2 hz (by rw [e8]; rfl) fv h8 h125
    · have e8 : npre k = 1 := by have := of_decide_eq_false z8; omega
      exact y151 v z t 1 hz (by rw [e8]; rfl) fv h8 h125
  have y45 : ∀ (t t4 : Int64), GT n ow kd (PQ AN PR) t4 → (k = 8 → GT n ow kd (PQ AN PR) t) → OK (fun y _ => RSW Fv AN T C ND CN UN FN p mu u y) (fb_M_processRun_45 N () u (I k) t t4) := fun t t4 g4 gt => by
    unfold fb_M_processRun_45 fb_M_processRun_61 fb_M_processRun_83
    have r4 := so_r t4
    rw [sortOf_e, bnd_so, show (4 : Int32) = I 4 from rfl, decE r4.1 r4.2 (by omega) (by omega)]
    refine ok_br.mpr ⟨fun z4 => ok_br.mpr ⟨fun z => absurd (of_decide_eq_true z) (by decide), fun _ => ?_⟩, fun _ => ok_br.mpr ⟨fun _ => bad u t t4 FR.rf, fun z => absurd rfl (of_decide_eq_false z)⟩⟩
    have s4 := of_decide_eq_true z4
    rw [show (8 : Int32) = I 8 from rfl, decE (by omega) (by omega) (by omega) (by omega), decE (by omega) (by omega) (by omega) (by omega)]
    have y83 : (k = 4 → F u 125 ≠ 200) → OK (fun y _ => RSW Fv AN T C ND CN UN FN p mu u y) (br (decide ((k : Int) = 8)) (bnd (fm_M_copySize N u (u.1 133) t) (fun u27 r27 => br (decide (500 < r27)) (fb_M_processRun_108 N () u27 (I k) t t4) (fb_M_processRun_104 N () u27 (I k) t t4))) (fb_M_processRun_104 N () u (I k) t t4)) := fun h125 => by
      refine ok_br.mpr ⟨fun z8 => ?_, fun z8 => good u t t4 FR.rf s4 g4 (fun z => absurd (by omega) (of_decide_eq_false z8)) h125⟩
      have e8 : k = 8 := by have := of_decide_eq_true z8; omega
      obtain ⟨f, s, sz⟩ := HP_sz hg (gt e8)
      rw [I_F' i.2.2.1]
      refine ok_bnd.mpr (ok_mono (copySize_ok (N := N) hg n500 (by omega) sz (by omega)) (fun v r hv => ?_))
      obtain ⟨v1, v2⟩ := hv
      rw [v2, lit500, decL (by omega) (by omega) (by split <;> omega) (by split <;> omega)]
      refine ok_br.mpr ⟨fun _ => bad v t t4 v1, fun zs => good v t t4 v1 s4 g4 (fun _ => ⟨f, s, sz, ?_⟩) h125⟩
      have := of_decide_eq_false zs
      by_cases q5 : s ≤ 500
      · exact q5
      · rw [if_neg q5] at this; omega
    have r125 := F_r u 125
    refine ok_br.mpr ⟨fun _ => ok_br.mpr ⟨fun _ => bad u t t4 FR.rf, fun z => y83 (fun _ h => ?_)⟩, fun z => y83 (fun h => absurd (by omega) (of_decide_eq_false z))⟩
    have := of_decide_eq_false z
    rw [I_F' h] at this
    exact this rfl
  unfold fm_M_processRun fb_M_processRun_0 fb_M_processRun_25
  rw [show (5 : Int32) = I 5 from rfl, show (8 : Int32) = I 8 from rfl, decE (by omega) (by omega) (by omega) (by omega), decide_eq_false (by omega), br_fq, decE (by omega) (by omega) (by omega) (by omega)]
  obtain ⟨t0, g0⟩ := top_ok (N := N) (k := 0) i (by omega)
  refine ok_br.mpr ⟨fun z8 => ?_, fun z8 => ?_⟩
  · have e8 : npre k = 2 := by have := of_decide_eq_true z8; omega
    obtain ⟨t1, g1⟩ := top_ok (N := N) (k := 1) i (by omega)
    rw [show (0 : Int32) = I ((0 : Nat) : Int) from rfl, t0, bnd_so, z8, br_tq, show (1 : Int32) = I ((1 : Nat) : Int) from rfl, t1, bnd_so]
    exact y45 _ _ g1 (fun _ => g0)
  · rw [z8, br_fq, show fm_M_top N u 0 = some (u, u.2.2.2 91 (46000 * p + (ro (fr - 1) + tH T q - 1 - 0))) from t0, bnd_so]
    exact y45 _ _ g0 (fun z => absurd (by omega) (of_decide_eq_false z8))
end
