section
variable {Fv : Int64 → Int64 → Prop} {P : Int64 → Prop} {u v w w2 : MS} {PR N p n n2 opM bnM bxM bx2 ND fr k tp mu CN PN SN UN FN rq q m h mm : Nat} {ow kd ow2 kd2 ro rn rh cb pc ct pM pE : Nat → Nat} {T : TY} {C : CY}
theorem cls_tp {many hg hb m r c : Nat} (hg' : PRG w T C pM pE ND CN PN SN UN FN) (ht : CLS C w CN many hg hb m (rh (fr - 1)) k tp r ((c : Nat) : Int)) (hk : 0 < k) : ∃ a : Nat, A w 25 tp = a ∧ tR T a < r := by
  obtain ⟨-, -, -, -, -, -, -, ⟨b, b1, b2, b3, b4, b5, b6, b7, b8, b9⟩, -⟩ := cls_c (s := 0) hg' ht
  obtain ⟨-, -, -, -, -, -, n7, -⟩ := (hg'.2.2.1 b b2).1
  obtain ⟨-, -, -, -, -, -, a, s7, s8⟩ := n7 (by omega)
  rw [b8] at s7
  exact ⟨a, s7, by omega⟩
theorem tryFrom_ok {s many hg hb m r b c : Nat} (hp : PGM Fv P PR T C pM pE ND CN PN SN UN FN w) (h : FRS w T ND p fr ro rn rh cb pc ct k tp) (h106 : A w 106 p = ((cb (fr - 1) + k : Nat) : Int)) (h109 : A w 109 p = 0) (h152 : F w 152 = 0) (i : MEI Fv P PR w p n ow kd (ro (fr - 1) + hg) b bxM) (hb' : rn (fr - 1) + rh (fr - 1) + m ≤ b) (hs : s < 3 ∧ hg = hb + (if s = 0 then many else if s = 1 then 1 else 0) ∧ (s = 1 → many = 1) ∧ (s = 2 → many = 0) ∧ many ≤ 6 ∧ k ≤ 26 ∧ hg ≤ 760 ∧ m + rh (fr - 1) ≤ 40) (hc : CLS C w CN many hg hb m (rh (fr - 1)) k tp r ((c : Nat) : Int)) (hlow : 0 < k → tH T tp ≤ hb ∧ tM T tp ≤ m) (cl : CLG w (sR T pc (fr - 1) + r) 16002 mu) (hE : F w 149 = F w 150 ∧ F w 151 = 0) (hN : 60000 ≤ N) : OK (fun w2 _ => RES Fv P PR T C ND CN p mu w w2) (fm_M_tryFrom N w (I s) (I c) (I ((rn (fr - 1) + rh (fr - 1) + m : Nat) : Int))) := by
  obtain ⟨s1, s2, s3, s4, s5, s6, s7, s8⟩ := hs
  have hf := h.1
  have hrn := (h.2.2.1 (fr - 1) (by omega)).2.2.2.2.2.1
  have cn := hp.1.1.2.1
  have ctp := fun hk => cls_tp (fr := fr) (rh := rh) hp.1 hc hk
  have hr : r < 16000 ∧ cT C c ≤ 16000 ∧ c < CN := by
    obtain ⟨c', d1, d2, d3, d4, d5, d6, d7, d8, d9, d10⟩ := id hc
    obtain rfl : c' = c := by omega
    have := (hp.1.2.2.2.1 c' d2).2.1
    omega
  unfold fm_M_tryFrom fb_M_tryFrom_0
  refine ok_lt.mpr (ok_lt.mpr (ok_lt.mpr (ok_lt.mpr ?_)))
  have e1 : upI (upI (upI (upI w 153 (I s)) 155 (I c)) 154 (I c)) 156 (I ((rn (fr - 1) + rh (fr - 1) + m : Nat) : Int)) = wi (wi (wi (wi w 153 s) 155 c) 154 c) 156 ((rn (fr - 1) + rh (fr - 1) + m : Nat) : Int) := rfl
  rw [e1]
  have f : FR [153, 154, 155, 156] [] [] [] w (wi (wi (wi (wi w 153 s) 155 c) 154 c) 156 ((rn (fr - 1) + rh (fr - 1) + m : Nat) : Int)) := FR.wi (FR.wi (FR.wi (FR.wi FR.rf (by decide)) (by decide)) (by decide)) (by decide)
  have a6 : F (wi (wi (wi (wi w 153 s) 155 c) 154 c) 156 ((rn (fr - 1) + rh (fr - 1) + m : Nat) : Int)) 156 = ((rn (fr - 1) + rh (fr - 1) + m : Nat) : Int) := by rw [F_wi (by omega) (by omega), if_pos rfl]
  have a4 : F (wi (wi (wi (wi w 153 s) 155 c) 154 c) 156 ((rn (fr - 1) + rh (fr - 1) + m : Nat) : Int)) 154 = ((c : Nat) : Int) := by rw [F_wi (by omega) (by omega), if_neg (by decide), F_wi (by omega) (by omega), if_pos rfl]
  have a3 : F (wi (wi (wi (wi w 153 s) 155 c) 154 c) 156 ((rn (fr - 1) + rh (fr - 1) + m : Nat) : Int)) 153 = ((s : Nat) : Int) := by rw [F_wi (by omega) (by omega), if_neg (by decide), F_wi (by omega) (by omega), if_neg (by decide), F_wi (by omega) (by omega), if_neg (by decide), F_wi (by omega) (by omega), if_pos rfl]
  generalize wi (wi (wi (wi w 153 s) 155 c) 154 c) 156 ((rn (fr - 1) + rh (fr - 1) + m : Nat) : Int) = v at *
  have cls : CLS C v CN many hg hb m (rh (fr - 1)) k tp r ((c : Nat) : Int) := by
    obtain ⟨c', d1, d2, d3, d4⟩ := hc
    exact ⟨c', d1, d2, by rw [FR.A f (by decide)]; exact d3, d4⟩
  have tr : TRS v T C ND CN p (ro (fr - 1)) (rn (fr - 1)) (rh (fr - 1)) k tp s many hg hb m r bxM := ⟨⟨a3, by omega, s2, fun z => s3 (by omega), s4, s5, s6, s7, s8, hr.1⟩, a6, Or.inr (by rw [a4]; exact cls), fun z => absurd z (by omega), fun z => ⟨(hlow z).1, (hlow z).2, by rw [FR.A f (by decide)]; exact ctp z⟩, by rw [FR.F f (by decide), FR.F f (by decide), FR.F f (by decide)]; exact hE⟩
  clear ctp
  unfold fr_M_choose
  rw [show (20 : Nat) = 19 + 1 from rfl, rc_s]
  refine ok_bnd.mpr (ok_mono (choose_ok (N := N) (d := 16) (mu := mu) (ctt := 16002) (PGM_fr hp f (by decide) (by decide)) (FRS_fr h f (by decide) (by decide) (by decide) (by decide) (by decide) (by decide) (by decide) (by decide) (by decide) (by decide)) (by rw [FR.A f (by decide)]; exact h106) (by rw [FR.A f (by decide)]; exact h109) (by rw [FR.F f (by decide)]; exact h152) (MEI_ints i f (by decide)) hb' tr (by omega) (fun c' hc' => ?_) ?_ hN) (fun x _ hx => ok_some.mpr (RES.tr (FR.mo f (by decide) (by decide) (by decide) (by decide)) (OTF_fr f (by decide)) (fun z _ => FR.A f (by decide)) hx (Nat.le_refl _))))
  · have : c' = c := by omega
    subst this
    omega
  · obtain ⟨e2, e3, e4, e5⟩ := cl
    unfold CLG
    rw [FR.F f (by decide), FR.F f (by decide), if_neg (by omega)]
    exact ⟨e2, e3, e4, by omega⟩
theorem i21 {s many r c : Nat} (a : ATQ Fv P PR T ND p w fr ro rn rh cb pc ct q n ow kd bxM) (h109 : A w 109 p = 0) (hm : MODE w T C ND CN p (ro (fr - 1)) (rn (fr - 1)) (rh (fr - 1)) (sR T pc (fr - 1)) q bxM mu) (hp : PGM Fv P PR T C pM pE ND CN PN SN UN FN w) (hG : tG T q = 0) (h27 : A w 27 q = ((tM T q : Nat) : Int)) (h25 : A w 25 q = ((c : Nat) : Int)) (hs : (s = 1 ∧ many = 1 ∧ tB T q + 1 ≤ tH T q) ∨ (s = 2 ∧ many = 0)) (hr : r < tR T q) (hc : CLS C w CN many (tH T q) (tH T q - many) (tM T q) (tL T q) (tK T q) (tC T q) r ((c : Nat) : Int)) (hE : F w 149 = F w 150 ∧ F w 151 = 0) (hN : 60000 ≤ N) : OK (fun w2 _ => RES Fv P PR T C ND CN p mu w w2) (fb_M_one_92 N () w (I q) (I ((60 * p + (fr - 1) : Nat) : Int)) (I s)) := by
  obtain ⟨i, h, a3, a4, a5, a6⟩ := a
  have x4 := MEI_p i
  have hf := h.1
  have nd := hp.1.1.1
  have hro := h.2.2.1 (fr - 1) (by omega)
  obtain ⟨n1, n2, n3, n4, n5, n6, -⟩ := (hp.1.2.2.1 q a4).1
  have n7 : 0 < tK T q → tH T (tC T q) ≤ tB T q ∧ tM T (tC T q) ≤ tD T q := fun z => by
    obtain ⟨-, -, -, -, w5, w6, -⟩ := (hp.1.2.2.1 q a4).1.2.2.2.2.2.2.1 z
    exact ⟨w5, w6⟩
  obtain ⟨y2, y3⟩ : F w 152 = 0 ∧ CLG w (sR T pc (fr - 1) + tR T q) 0 mu := by
    rcases hm with ⟨-, y⟩ | ⟨-, c, s, many, hg', hb', mm', r, t1, t2, -⟩
    · exact y
    · omega
  unfold fb_M_one_92
  refine ok_ck.mpr ⟨inb_at (k := 25) (n := 16000) rfl (by omega) (by omega) (by decide), ok_ck.mpr ⟨inb_at (k := 99) (n := 1440) rfl (by omega) (by omega) (by decide), ok_ck.mpr ⟨inb_at (k := 101) (n := 1440) rfl (by omega) (by omega) (by decide), ok_ck.mpr ⟨inb_at (k := 27) (n := 16000) rfl (by omega) (by omega) (by decide), ?_⟩⟩⟩⟩
  rw [I_tn (x := (q : Int)) (by omega) (by omega), Int.toNat_natCast, I_tn (x := ((60 * p + (fr - 1) : Nat) : Int)) (by omega) (by omega), Int.toNat_natCast, I_A' h25, I_A' hro.2.1, I_A' hro.2.2.1, I_A' h27, I_add, I_add, show ((rn (fr - 1) : Nat) : Int) + ((rh (fr - 1) : Nat) : Int) + ((tM T q : Nat) : Int) = ((rn (fr - 1) + rh (fr - 1) + tM T q : Nat) : Int) from by omega]
  refine ok_bnd.mpr (ok_mono (tryFrom_ok (N := N) (mu := mu) (s := s) (many := many) (hg := tH T q) (hb := tH T q - many) (m := tM T q) (r := r) hp h a6 h109 y2 i (Nat.le_refl _) ?_ (by rw [a5]; exact hc) (fun z => ?_) ?_ hE hN) (fun x _ hx => ok_some.mpr hx))
  · refine ⟨by omega, ?_, by omega, by omega, by omega, n3, n1, by omega⟩
    rcases hs with ⟨z1, z2, z3⟩ | ⟨z1, z2⟩
    · rw [if_neg (by omega), if_pos z1]; omega
    · rw [if_neg (by omega), if_neg (by omega)]; omega
  · obtain ⟨w5, w6⟩ := n7 z
    exact ⟨by omega, by omega⟩
  · obtain ⟨e2, e3, e4, e5⟩ := y3
    exact ⟨e2, e3, e4, by omega⟩
end
