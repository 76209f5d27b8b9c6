/-! steps, one by one: GUARDS end, RETURNS, CALLS -/
set_option maxRecDepth 100000
section
variable {T : TYc} {Fv Fv' : Int64 → Int64 → Prop} {P : Int64 → Prop} {AN : Nat} {TT : TY} {CC : CY} {pM pE : Nat → Nat} {ND CN PN SN UN FN N PR p i v mu M1 M2 f U B W Y l j a n : Nat} {m w : MS} {Q : MS → Int32 → MS → Int32 → Prop} {b : Int → Nat → Nat → Prop} {ow kw ow' kd' : Nat → Nat} {nb : Nat → Nat} {Hs Os : Nat → List Nat} {y : Option (Nat × Nat × Nat)}
theorem in_23 {u : MS} {i h m g x : Nat} {L : List Nat} (q : IN1 T u i h m L g x ∨ IN2 T u i h m L g x ∨ IN3 T u i h m L g x) (e : A u 23 i = 23) : T (i + 1) = some (h, m, L, 0, x) := by
  rcases q with q | q | q
  · rcases q with q | q | q | q | q | q | q | q | q | q | q | q | q
    · exfalso; have := q.1; omega
    · exfalso; have := q.1; omega
    · exfalso; have := q.1; omega
    · exfalso; have := q.1; omega
    · exfalso; have := q.1; omega
    · exfalso; have := q.1; omega
    · exfalso; have := q.1; omega
    · exfalso; have := q.1; omega
    · exfalso; have := q.1; omega
    · exfalso; have := q.1; omega
    · exfalso; have := q.1; omega
    · exfalso; have := q.1; omega
    · exfalso; have := q.1; omega
  · rcases q with q | q | q | q | q | q | q | q | q | q | q
    · exfalso; have := q.1; omega
    · exfalso; have := q.1; omega
    · exfalso; have := q.1; omega
    · exfalso; have := q.1; omega
    · exfalso; have := q.1; omega
    · exact q.2
    · exfalso; have := q.1; omega
    · exfalso; have := q.1; omega
    · exfalso; have := q.1; omega
    · exfalso; have := q.1; omega
    · exfalso; have := q.1; omega
  · rcases q with q | q | q | q | q | q | q | q | q
    · exfalso; have := q.1; omega
    · exfalso; have := q.1; omega
    · exfalso; have := q.1; omega
    · exfalso; have := q.1; omega
    · exfalso; have := q.1; omega
    · exfalso; omega
    · exfalso; have := q.1; omega
    · exfalso; have := q.1; omega
    · exfalso; have := q.1; omega
theorem in_24 {u : MS} {i h m g x : Nat} {L : List Nat} (q : IN1 T u i h m L g x ∨ IN2 T u i h m L g x ∨ IN3 T u i h m L g x) (e : A u 23 i = 24) : ∃ n : Nat, A u 23 (i + 1) = ((n : Nat) : Int) ∧ n ≤ h := by
  rcases q with q | q | q
  · rcases q with q | q | q | q | q | q | q | q | q | q | q | q | q
    · exfalso; have := q.1; omega
    · exfalso; have := q.1; omega
    · exfalso; have := q.1; omega
    · exfalso; have := q.1; omega
    · exfalso; have := q.1; omega
    · exfalso; have := q.1; omega
    · exfalso; have := q.1; omega
    · exfalso; have := q.1; omega
    · exfalso; have := q.1; omega
    · exfalso; have := q.1; omega
    · exfalso; have := q.1; omega
    · exfalso; have := q.1; omega
    · exfalso; have := q.1; omega
  · rcases q with q | q | q | q | q | q | q | q | q | q | q
    · exfalso; have := q.1; omega
    · exfalso; have := q.1; omega
    · exfalso; have := q.1; omega
    · exfalso; have := q.1; omega
    · exfalso; have := q.1; omega
    · exfalso; have := q.1; omega
    · obtain ⟨-, n, h1, h2, -⟩ := q
      exact ⟨n, h1, h2⟩
    · exfalso; have := q.1; omega
    · exfalso; have := q.1; omega
    · exfalso; have := q.1; omega
    · exfalso; have := q.1; omega
  · rcases q with q | q | q | q | q | q | q | q | q
    · exfalso; have := q.1; omega
    · exfalso; have := q.1; omega
    · exfalso; have := q.1; omega
    · exfalso; have := q.1; omega
    · exfalso; have := q.1; omega
    · exfalso; omega
    · exfalso; have := q.1; omega
    · exfalso; have := q.1; omega
    · exfalso; have := q.1; omega
theorem in_15 {u : MS} {i h m g x : Nat} {L : List Nat} (q : IN1 T u i h m L g x ∨ IN2 T u i h m L g x ∨ IN3 T u i h m L g x) (e : A u 23 i = 15) : 1 ≤ h := by
  rcases q with q | q | q
  · rcases q with q | q | q | q | q | q | q | q | q | q | q | q | q
    · exfalso; have := q.1; omega
    · exfalso; have := q.1; omega
    · exfalso; have := q.1; omega
    · exfalso; have := q.1; omega
    · exfalso; have := q.1; omega
    · exfalso; have := q.1; omega
    · exfalso; have := q.1; omega
    · exfalso; have := q.1; omega
    · exfalso; have := q.1; omega
    · exfalso; have := q.1; omega
    · exact q.2.1
    · exfalso; have := q.1; omega
    · exfalso; have := q.1; omega
  · rcases q with q | q | q | q | q | q | q | q | q | q | q
    · exfalso; have := q.1; omega
    · exfalso; have := q.1; omega
    · exfalso; have := q.1; omega
    · exfalso; have := q.1; omega
    · exfalso; have := q.1; omega
    · exfalso; have := q.1; omega
    · exfalso; have := q.1; omega
    · exfalso; have := q.1; omega
    · exfalso; have := q.1; omega
    · exfalso; have := q.1; omega
    · exfalso; have := q.1; omega
  · rcases q with q | q | q | q | q | q | q | q | q
    · exfalso; have := q.1; omega
    · exfalso; have := q.1; omega
    · exfalso; have := q.1; omega
    · exfalso; have := q.1; omega
    · exfalso; have := q.1; omega
    · exfalso; omega
    · exfalso; have := q.1; omega
    · exfalso; have := q.1; omega
    · exfalso; have := q.1; omega
theorem in_33 {u : MS} {i h m g x : Nat} {L : List Nat} (q : IN1 T u i h m L g x ∨ IN2 T u i h m L g x ∨ IN3 T u i h m L g x) (e : A u 23 i = 33) : x ≠ 0 := by
  rcases q with q | q | q
  · rcases q with q | q | q | q | q | q | q | q | q | q | q | q | q
    · exfalso; have := q.1; omega
    · exfalso; have := q.1; omega
    · exfalso; have := q.1; omega
    · exfalso; have := q.1; omega
    · exfalso; have := q.1; omega
    · exfalso; have := q.1; omega
    · exfalso; have := q.1; omega
    · exfalso; have := q.1; omega
    · exfalso; have := q.1; omega
    · exfalso; have := q.1; omega
    · exfalso; have := q.1; omega
    · exfalso; have := q.1; omega
    · exfalso; have := q.1; omega
  · rcases q with q | q | q | q | q | q | q | q | q | q | q
    · exfalso; have := q.1; omega
    · exfalso; have := q.1; omega
    · exfalso; have := q.1; omega
    · exfalso; have := q.1; omega
    · exfalso; have := q.1; omega
    · exfalso; have := q.1; omega
    · exfalso; have := q.1; omega
    · exfalso; have := q.1; omega
    · exfalso; have := q.1; omega
    · exfalso; have := q.1; omega
    · exfalso; have := q.1; omega
  · rcases q with q | q | q | q | q | q | q | q | q
    · exfalso; have := q.1; omega
    · exfalso; have := q.1; omega
    · exact q.2.2.1
    · exfalso; have := q.1; omega
    · exfalso; have := q.1; omega
    · exfalso; omega
    · exfalso; have := q.1; omega
    · exfalso; have := q.1; omega
    · exfalso; have := q.1; omega
theorem in_25 {u : MS} {i h m g x : Nat} {L : List Nat} (q : IN1 T u i h m L g x ∨ IN2 T u i h m L g x ∨ IN3 T u i h m L g x) (e : A u 23 i = 25) : ∃ f n : Nat, A u 23 (i + 1) = ((f : Nat) : Int) ∧ ((f : Nat) : Int) < F u 442 ∧ A u 23 (i + 2) = ((n : Nat) : Int) ∧ A u 25 f = ((n : Nat) : Int) ∧ n ≤ h := by
  rcases q with q | q | q
  · rcases q with q | q | q | q | q | q | q | q | q | q | q | q | q
    · exfalso; have := q.1; omega
    · exfalso; have := q.1; omega
    · exfalso; have := q.1; omega
    · exfalso; have := q.1; omega
    · exfalso; have := q.1; omega
    · exfalso; have := q.1; omega
    · exfalso; have := q.1; omega
    · exfalso; have := q.1; omega
    · exfalso; have := q.1; omega
    · exfalso; have := q.1; omega
    · exfalso; have := q.1; omega
    · exfalso; have := q.1; omega
    · exfalso; have := q.1; omega
  · rcases q with q | q | q | q | q | q | q | q | q | q | q
    · exfalso; have := q.1; omega
    · exfalso; have := q.1; omega
    · exfalso; have := q.1; omega
    · exfalso; have := q.1; omega
    · exfalso; have := q.1; omega
    · exfalso; have := q.1; omega
    · exfalso; have := q.1; omega
    · obtain ⟨-, -, -, f, n, h1, h2, h3, h4, h5, -⟩ := q
      exact ⟨f, n, h1, h2, h3, h4, h5⟩
    · exfalso; have := q.1; omega
    · exfalso; have := q.1; omega
    · exfalso; have := q.1; omega
  · rcases q with q | q | q | q | q | q | q | q | q
    · exfalso; have := q.1; omega
    · exfalso; have := q.1; omega
    · exfalso; have := q.1; omega
    · exfalso; have := q.1; omega
    · exfalso; have := q.1; omega
    · exfalso; omega
    · exfalso; have := q.1; omega
    · exfalso; have := q.1; omega
    · exfalso; have := q.1; omega
theorem in_26 {u : MS} {i h m g x : Nat} {L : List Nat} (q : IN1 T u i h m L g x ∨ IN2 T u i h m L g x ∨ IN3 T u i h m L g x) (e : A u 23 i = 26) : ∃ f n : Nat, A u 23 (i + 1) = ((f : Nat) : Int) ∧ ((f : Nat) : Int) < F u 442 ∧ A u 23 (i + 2) = ((n : Nat) : Int) ∧ A u 25 f = ((n : Nat) : Int) ∧ n ≤ h := by
  rcases q with q | q | q
  · rcases q with q | q | q | q | q | q | q | q | q | q | q | q | q
    · exfalso; have := q.1; omega
    · exfalso; have := q.1; omega
    · exfalso; have := q.1; omega
    · exfalso; have := q.1; omega
    · exfalso; have := q.1; omega
    · exfalso; have := q.1; omega
    · exfalso; have := q.1; omega
    · exfalso; have := q.1; omega
    · exfalso; have := q.1; omega
    · exfalso; have := q.1; omega
    · exfalso; have := q.1; omega
    · exfalso; have := q.1; omega
    · exfalso; have := q.1; omega
  · rcases q with q | q | q | q | q | q | q | q | q | q | q
    · exfalso; have := q.1; omega
    · exfalso; have := q.1; omega
    · exfalso; have := q.1; omega
    · exfalso; have := q.1; omega
    · exfalso; have := q.1; omega
    · exfalso; have := q.1; omega
    · exfalso; have := q.1; omega
    · obtain ⟨-, -, -, f, n, h1, h2, h3, h4, h5, -⟩ := q
      exact ⟨f, n, h1, h2, h3, h4, h5⟩
    · exfalso; have := q.1; omega
    · exfalso; have := q.1; omega
    · exfalso; have := q.1; omega
  · rcases q with q | q | q | q | q | q | q | q | q
    · exfalso; have := q.1; omega
    · exfalso; have := q.1; omega
    · exfalso; have := q.1; omega
    · exfalso; have := q.1; omega
    · exfalso; have := q.1; omega
    · exfalso; omega
    · exfalso; have := q.1; omega
    · exfalso; have := q.1; omega
    · exfalso; have := q.1; omega
/-- a GUARD has held -/
theorem sk_23 {kd k sc : Nat} (ih : ∀ M1 v m w, SIA T Fv P Fv' AN TT CC pM pE ND CN PN SN UN FN p v m w → PP Q (qgo (SAf T Fv P p) N M1 m p (I ((v : Nat) : Int))) (gg_M_go N M2 w (I ((p : Nat) : Int)))) (s : STx T Fv P Fv' AN TT CC pM pE ND CN PN SN UN FN N PR p i v f b U B W Y l ow kw ow' kd' j nb Hs Os (some (kd, k, sc)) a n m w) (c0 : A m 23 a = 23) (cs : ∃ f, CHs (A m 23) (ROs w) (CRs (A m 23) (ROs w) (w.2.2.2 34) f) kd (a + 1) k (Hs j) (Os j)) : PP Q (q67 (SAf T Fv P p) N (qgo (SAf T Fv P p) N M1) m p (I ((v : Nat) : Int))) (bnd (fm_M_one N w (I ((n : Nat) : Int)) (I 23)) (fun u _ => KRs Fv' AN TT CC ND CN UN FN N p mu M2 w u)) := by
  obtain ⟨⟨r5, r8, r2⟩, ⟨ha, hn, hv, hpp, hj⟩, nd, ⟨pl, ru, bd⟩, ⟨n1, n2, n3⟩, bH, bW, bB, bY, nND, hN⟩ := st_b s
  obtain ⟨i2, h, mm, L, g2, x2, j2, wb, nb2, cb2, rk, M⟩ := cl_any s.2.2.2.1 r5 r8
  obtain ⟨-, -, st, ⟨ti, e5⟩, ⟨e26, e24⟩, gds, xx, un⟩ := id M
  have ei : a = i2 := by omega
  subst ei
  have wf := M.1.2.2.1 _ _ _ _ _ _ ti
  have eW : W = wb + h := by
    have := pl.2.2.1.1
    omega
  obtain ⟨⟨-, hpr, pr24, hi, hf⟩, ⟨per, hAN⟩, ba, lp, -, -, -, -, -, -, -, rb, rm, -, -, rgd, -⟩ := id s
  have gd := ru.2.2.2.2.1
  have hk : k < 100000 := by
    rcases gd with ⟨c, -⟩ | ⟨kd', k', sc', e, fl, W0, O0, X, z1, z2, z3, -⟩
    · cases c
    · cases e
      obtain ⟨-, g154, -⟩ := rgd z3.1
      have := z3.2.2.1
      omega
  have hx := wf.2.2.2.2.1.2 (by omega)
  have t1 := in_23 wf.2.2.2.2.2 c0
  have wf1 := (M.1.2.2.1 _ _ _ _ _ _ t1).2.2.2.2.2
  have h955 := ba.2.2.1.1
  have h956 := ba.2.2.1.2
  have Y7 : F m (pq p 7) = ((Y : Nat) : Int) := pl.2.2.2.1
  have b8 := (M.1.1.2 p hpr).1.2.1
  have bb : (kd = 0 → ∃ n0 : Nat, A w 41 k = ((n0 : Nat) : Int) ∧ n0 ≤ W) ∧ (kd = 1 → 1 ≤ W) ∧ (kd = 3 → Y ≤ 30 ∧ ∃ t : Nat, F m (pq p 8) = ((t : Nat) : Int) ∧ t < Y) := by
    obtain ⟨f1, b1, -, cs⟩ := cs
    rcases cs with ⟨rfl, z1, z2, -⟩ | ⟨rfl, z1, -⟩ | ⟨rfl, -⟩ | ⟨rfl, z1, -⟩
    · rw [ro_e (by unfold PRr; omega)] at z2
      obtain ⟨q, q1, q2⟩ := in_24 wf1 z1
      exact ⟨fun _ => ⟨q, by rw [← z2]; exact q1, by omega⟩, fun c => by omega, fun c => by omega⟩
    · have := in_15 wf1 z1
      exact ⟨fun c => by omega, fun _ => by omega, fun c => by omega⟩
    · exact ⟨fun c => by omega, fun c => by omega, fun c => by omega⟩
    · have z := in_33 wf1 z1
      have := xx z (by omega)
      exact ⟨fun c => by omega, fun c => by omega, fun _ => ⟨bY, (F m (pq p 8)).toNat, by omega, by omega⟩⟩
  rw [go_fl r5 r8 (by omega) r2 (by omega) c0 ⟨by omega, by omega⟩]
  refine op_gdend (K2 := fun u => KRs Fv' AN TT CC ND CN UN FN N p mu M2 w u) hpp pl ru (by omega) (by omega) hk (by omega) c0 bb.1 bb.2.1 bb.2.2 cs (fun M' vk' m3 w3 W3 Y3 y a n q1 q2 a1 a2 a3 a4 a5 => st_rv ih s (by omega) a1 a2 a3 a4 a5) (fun M' vk' m3 w3 a n q1 q2 a1 a2 a3 a4 a5 a6 => ?_)
  obtain ⟨k2, e, hs⟩ := a6
  obtain ⟨c, c1, c2⟩ := SAf_l (PR := PR) hs (by omega) a2.2.2.2.2.2.1.2.1 ((congrArg Int32.toInt (a3.2.2.2.2.2.2 942 (by omega))).trans ba.2.2.2.2.2.2.2.2.1)
  exact aft_67 per ba.2.2.2.1.1 ih ba (by omega) c2 a3 a4 a1 a5 a2
/-- catches: in which FRAME -/
theorem ct_mon3 (ct : CTs m w p j nb Hs Os) {nC c : Nat} (h : F m (pq p 28) = ((nC : Nat) : Int)) (hc : c < nC) : A w 106 p = ((nC : Nat) : Int) ∧ A w 102 (1600 * p + c) ≤ A w 102 (1600 * p + (nC - 1)) := by
  obtain ⟨n, c1, c2, -, c4, -⟩ := ct
  have en : n = nC := by omega
  subst en
  refine ⟨c2, ?_⟩
  have q : ∀ e, c + e < n → A w 102 (1600 * p + c) ≤ A w 102 (1600 * p + (c + e)) := by
    intro e
    induction e with
    | zero => intro _; exact Int.le_refl _
    | succ e ih =>
      intro he
      have h1 := ih (by omega)
      have h2 := (c4 (c + e) (by omega)).1
      rw [show c + (e + 1) = c + e + 1 by omega]
      omega
  have := q (n - 1 - c) (by omega)
  rw [show c + (n - 1 - c) = n - 1 by omega] at this
  exact this
/-- no catch of the uppermost FRAME -/
theorem sk_102 (s : STx T Fv P Fv' AN TT CC pM pE ND CN PN SN UN FN N PR p i v f b U B W Y l ow kw ow' kd' j nb Hs Os none a n m w) (hk : tK TT n = 0) : ∀ nC c : Nat, F m (pq p 28) = ((nC : Nat) : Int) → c < nC → A w 102 (1600 * p + c) < ((j : Nat) : Int) := fun nC c h1 h2 => by
  obtain ⟨-, -, -, -, -, ru, -, -, -, -, -, rb, rm, -, -, -, -, -, rk⟩ := s
  obtain ⟨y1, y2⟩ := ct_mon3 ru.1.2 h1 h2
  have := rk hk (nC - 1) (by rw [y1]; congr 1; omega)
  omega
/-- it RETURNS -/
theorem sk_29 (ih : ∀ M1 v m w, SIA T Fv P Fv' AN TT CC pM pE ND CN PN SN UN FN p v m w → PP Q (qgo (SAf T Fv P p) N M1 m p (I ((v : Nat) : Int))) (gg_M_go N M2 w (I ((p : Nat) : Int)))) (s : STx T Fv P Fv' AN TT CC pM pE ND CN PN SN UN FN N PR p i v f b U B W Y l ow kw ow' kd' j nb Hs Os none a n m w) (h23 : A w 23 n = 29) (c0 : A m 23 a = 35) : PP Q (q67 (SAf T Fv P p) N (qgo (SAf T Fv P p) N M1) m p (I ((v : Nat) : Int))) (bnd (fm_M_one N w (I ((n : Nat) : Int)) (I 29)) (fun u _ => KRs Fv' AN TT CC ND CN UN FN N p mu M2 w u)) := by
  obtain ⟨⟨r5, r8, r2⟩, ⟨ha, hn, hv, hpp, hj⟩, nd, ⟨pl, ru, bd⟩, ⟨n1, n2, n3⟩, bH, bW, bB, bY, nND, hN⟩ := st_b s
  obtain ⟨-, k1, k2, -⟩ := n2.2.2.2.2.2.2.2.2.2.2.2.2.2.1 h23
  obtain ⟨⟨-, hpr, pr24, hi, hf⟩, ⟨per, hAN⟩, ba, lp, -, -, -, -, -, -, wl, rb, rm, ⟨eW, -, -⟩, -, -, -, ⟨r100, -⟩, -⟩ := id s
  have hct := sk_102 s k2
  have cx : CTX Fv P m := (LPQ_dc lp).2
  have pb : PB (PWs AN) PR := wl.1.2.2
  have e22 := cx.2.2.2.1
  have h955 := ba.2.2.1.1
  have h150 := ba.2.2.2.1.2
  obtain ⟨W1, rfl⟩ : ∃ W1, W = W1 + 1 := ⟨W - 1, by omega⟩
  obtain ⟨bd1, bd2, bd3, bd4⟩ := bd
  rw [go_fl r5 r8 (by omega) r2 (by omega) c0 ⟨by omega, by omega⟩]
  cases j with
  | zero =>
    exact op_retE (K1 := fun u => q195 (SAf T Fv P p) N (qgo (SAf T Fv P p) N M1) u p (I ((v : Nat) : Int))) (K2 := fun u => KRs Fv' AN TT CC ND CN UN FN N p mu M2 w u) hpp hpr pl ru (by omega) r100 ⟨h955, hi⟩ (show F w 150 = ((0 : Nat) : Int) ∧ 0 < 4000 from ⟨h150, by decide⟩) (cx.2.2.2.2.2.1 4 (by omega) (by omega)) (pb.1 4 (by omega) (by omega)) (fun w3 a1 a2 a3 a4 => (aft_end hN per ba.2.2.2.1.1 ih ba (by omega) GGm.rf a1 a2 a3 ⟨h955, hi⟩ (show F w 150 = ((0 : Nat) : Int) ∧ 0 < 4000 from ⟨h150, by decide⟩) (Or.inl rfl) a4).1)
  | succ j =>
    exact op_ret (K1 := fun u => q195 (SAf T Fv P p) N (qgo (SAf T Fv P p) N M1) u p (I ((v : Nat) : Int))) (K2 := fun u => KRs Fv' AN TT CC ND CN UN FN N p mu M2 w u) hpp pl ru (by omega) (by omega) bd2 ⟨bd3, bd4⟩ r100 (by omega) hct (fun m3 w3 a2 n2 b1 b2 b3 b4 b5 => (st_ru ih s b1 b2 b3 b4 b5).1)
theorem SC_cb (s : SCs p (cbM m) (cbW w)) : SCs p m w := by
  have m1 : ∀ k, (cbM m).1 (pq p k) = m.1 (pq p k) := fun k => by
    unfold cbM
    rw [wi_1 (fun c => pq_n (by omega) c.symm), wi_1 (fun c => pq_n (by omega) c.symm)]
  obtain ⟨s1, s2, s3, s4, s5, s6⟩ := s
  rw [m1] at s1 s2 s3 s4 s5
  refine ⟨s1, s2, s3, s4, s5, fun i hi => s6 i ?_⟩
  have e : F (cbM m) (pq p 15) = F m (pq p 15) := congrArg Int32.toInt (m1 15)
  omega
/-- a CALL: its parts are tried -/
theorem st_ca {m4 w4 : MS} {B4 W4 Y4 j4 kd4 sc4 a4 : Nat} {nb4 : Nat → Nat} {Hs4 Os4 : Nat → List Nat} {k4 : Int} (ih : ∀ M1 v m w, SIA T Fv P Fv' AN TT CC pM pE ND CN PN SN UN FN p v m w → PP Q (qgo (SAf T Fv P p) N M1 m p (I ((v : Nat) : Int))) (gg_M_go N M2 w (I ((p : Nat) : Int)))) (s : STx T Fv P Fv' AN TT CC pM pE ND CN PN SN UN FN N PR p i v f b U B W Y l ow kw ow' kd' j nb Hs Os y a n m w) (t4 : TRs m4 w4 p j4 nb4 Hs4 Os4 kd4 sc4 a4 k4) (pl4 : PLs (bGd b U ow' kd') p m4 (wa w4 94 p ((B4 : Nat) : Int)) U B4 W4 Y4) (hW4 : W4 < 46000) (gm : GGm p (cbM m) m4) (gw : GGw p (cbW w) w4) (sc : SCs p m w → SCs p m4 w4) (e8 : w4.2.2.2 88 = w.2.2.2 88 ∧ w4.1 140 = w.1 140) : PP Q (q195 (SAf T Fv P p) N (qgo (SAf T Fv P p) N M1) m4 p (I ((v : Nat) : Int))) (bnd (gg_M_choose N (rc_M_error N 19) N w4 1) (fun u _ => KRs Fv' AN TT CC ND CN UN FN N p mu M2 w u)) := by
  obtain ⟨⟨hN, hpr, pr24, hi, hf⟩, ⟨per, hAN⟩, ba, lp, -, -, ⟨pt, xc, h140⟩, -⟩ := id s
  have bc := BA_cb ba
  have q5 : F m4 955 ≤ F m4 956 := by
    have y1 : F m4 955 = F (cbM m) 955 := congrArg Int32.toInt gm.2.2.1
    have y2 : F m4 956 = F (cbM m) 956 := congrArg Int32.toInt gm.2.2.2.2.1
    have y3 := bc.2.2.1.1
    have y4 := bc.2.2.1.2
    omega
  have hAN' : F (cbW w) 14 = ((AN : Nat) : Int) := by
    unfold cbW
    rw [wi_ne (by omega), wi_ne (by omega)]
    exact hAN
  refine go195 t4.1.2.2.2.1.2.1 q5 (fun hs => ?_)
  have e : hp w4 p = hp w p := by
    unfold hp
    rw [e8.1]
  exact st_tr (M := N) (d := 19) hN (by omega) per ba.2.2.2.1.1 hAN' ih bc rfl (by omega) hs t4 pl4 (by rw [e]; exact xc.2.1) ((congrArg Int32.toInt e8.2).trans h140) hW4 gm gw (fun s => sc (SC_cb s))
/-- no CALL is left: it stands still -/
theorem st_li {z : Int} {k : Int} (ih : ∀ M1 v m w, SIA T Fv P Fv' AN TT CC pM pE ND CN PN SN UN FN p v m w → PP Q (qgo (SAf T Fv P p) N M1 m p (I ((v : Nat) : Int))) (gg_M_go N M2 w (I ((p : Nat) : Int)))) (s : STx T Fv P Fv' AN TT CC pM pE ND CN PN SN UN FN N PR p i v f b U B W Y l ow kw ow' kd' j nb Hs Os none a n m w) : PP Q (q195 (SAf T Fv P p) N (qgo (SAf T Fv P p) N M1) (wi (wi m 1108 1) (pq p 29) z) p (I ((v : Nat) : Int))) (KRs Fv' AN TT CC ND CN UN FN N p mu M2 w (wa (wi (wi w 166 k) 151 1) 115 p z)) := by
  obtain ⟨⟨hN, hpr, pr24, hi, hf⟩, ⟨per, hAN⟩, ba, lp, pl, ru, -⟩ := id s
  obtain ⟨fc, ⟨r2, r3⟩, cr0, ⟨r5, r6⟩, -, ⟨r8, r9, r10⟩, r11, r12, -⟩ := id ru
  generalize hm3 : wi (wi m 1108 1) (pq p 29) z = m3
  generalize hw3 : wa (wi (wi w 166 k) 151 1) 115 p z = w3
  have mq : ∀ l, l ≠ 29 → m3.1 (pq p l) = m.1 (pq p l) := fun l h => by rw [← hm3, wi_1 (pq_inj h), wi_1 (fun c => pq_n (by omega) c.symm)]
  have mg : ∀ l, l < 2000 → l ≠ 1108 → m3.1 l = m.1 l := fun l h1 h2 => by rw [← hm3, wi_1 (pq_n h1), wi_1 h2]
  have m29 : m3.1 (pq p 29) = I z := by rw [← hm3, wi_s1]
  have m8 : F m3 1108 = 1 := by rw [← hm3, wi_ne (pq_n (by omega)), wi_sm (by omega) (by omega)]
  have mr : m3.2 = m.2 := by rw [← hm3]; rfl
  have wi3 : ∀ l, l ≠ 166 → l ≠ 151 → w3.1 l = w.1 l := fun l h1 h2 => by rw [← hw3]; show (wi (wi w 166 k) 151 1).1 l = _; rw [wi_1 h2, wi_1 h1]
  have w151 : F w3 151 = 1 := by rw [← hw3]; show F (wi (wi w 166 k) 151 1) 151 = 1; rw [wi_sm (by omega) (by omega)]
  have wR : ∀ K, K ≠ 115 → w3.2.2.1 K = w.2.2.1 K := fun K h => by rw [← hw3, wa_21 h]; rfl
  have wJ : w3.2.2.2 = w.2.2.2 := by rw [← hw3]; rfl
  have w115 : w3.2.2.1 115 p = I z := by rw [← hw3]; exact wa_s1
  have gm : GGm p m m3 := by rw [← hm3]; exact GGm.tr (GGm_reg (by omega)) (GGm_own (by omega))
  have gw : GGw p w w3 := by rw [← hw3]; exact GGw.tr (GGw.tr (GGw_reg (by omega) (by omega)) (GGw_reg (by omega) (by omega))) (GGw_own (Or.inl ⟨by omega, rfl⟩))
  have pr3 : ∀ K, PRr K → w3.2.2.1 K = w.2.2.1 K := fun K h => wR K (by unfold PRr at h; omega)
  have h23 : A m3 23 = A m 23 := by funext i; show (m3.2.2.1 23 i).toInt = _; rw [mr]; rfl
  have mF : ∀ l, l < 2000 → l ≠ 1108 → F m3 l = F m l := fun l h1 h2 => congrArg Int32.toInt (mg l h1 h2)
  have wA : ∀ K i, K ≠ 115 → A w3 K i = A w K i := fun K i h => by show (w3.2.2.1 K i).toInt = _; rw [wR K h]; rfl
  have q9 : F m3 (pq p 9) = 0 := (congrArg Int32.toInt (mq 9 (by omega))).trans r5
  have q109 : A w3 109 p = 0 := (wA 109 p (by omega)).trans r6
  have fc3 := FC_w fc (fun l h => mq l (by omega)) (fun l _ => by rw [mr]) (by rw [mr]) (fun K h => by rw [wR K (by omega)]) (fun K r h1 h2 h3 h4 => by rw [wR K (by omega)]) (fun K c h1 h2 _ => by rw [wR K (by omega)]) pr3 (by rw [wJ])
  have pl3 : PLs (bGd b U ow' kd') p m3 w3 U B W Y := PLs_cg pl (fun l hl => mq l (by simp at hl; omega)) (fun i _ => by rw [mr]) (fun i _ => by rw [mr]) (fun i _ => by rw [mr]) (fun i _ => by rw [mr]) (fun K hK => by rw [wR K (by simp at hK; omega)]) (fun i _ => by rw [wJ]) (fun i _ => by rw [wJ]) (fun i _ => by rw [wJ]) (fun i _ => by rw [wJ])
  have li : LIs m3 w3 p j nb Hs Os a n := ⟨fc3, ⟨(mF 1105 (by omega) (by omega)).trans r2, (wA 98 _ (by omega)).trans r3⟩, by rw [h23, ROs_eq pr3, wJ]; exact cr0, ⟨q9, q109⟩, ⟨by omega, (mF 1109 (by omega) (by omega)).trans r9, by omega⟩, (congrArg Int32.toInt (wi3 133 (by omega) (by omega))).trans r11, by rw [mg 1106 (by omega) (by omega), wi3 165 (by omega) (by omega)]; exact r12⟩
  refine (aft_gg hN per ba.2.2.2.1.1 ih ba (by omega) gm gw pl3 (fun s => ?_) (Or.inr (Or.inr ⟨j, nb, Hs, Os, a, n, li⟩)) (by omega) li.2.2.2.2.1.2.1).1
  obtain ⟨s1, s2, s3, s4, s5, s6⟩ := s
  exact ⟨by rw [mq 12 (by omega), wR 113 (by omega)]; exact s1, by rw [mq 13 (by omega), wR 114 (by omega)]; exact s2, by rw [mq 11 (by omega), wR 112 (by omega)]; exact s3, by rw [mq 15 (by omega), wR 117 (by omega)]; exact s4, by rw [m29, w115], fun i hi => by
    rw [mr, wR 116 (by omega)]
    exact s6 i (by
      have e : F m3 (pq p 15) = F m (pq p 15) := congrArg Int32.toInt (mq 15 (by omega))
      omega)⟩
/-- a CALL of a function by its name -/
theorem sk_12 (ih : ∀ M1 v m w, SIA T Fv P Fv' AN TT CC pM pE ND CN PN SN UN FN p v m w → PP Q (qgo (SAf T Fv P p) N M1 m p (I ((v : Nat) : Int))) (gg_M_go N M2 w (I ((p : Nat) : Int)))) (s : STx T Fv P Fv' AN TT CC pM pE ND CN PN SN UN FN N PR p i v f b U B W Y l ow kw ow' kd' j nb Hs Os none a n m w) (h27 : 0 ≤ A w 27 n ∧ A w 27 n < 2000) (c1 : A m 23 (a + 1) = A w 27 n) (c2 : A m 23 (a + 2) = A w 26 n) (c3 : ∃ t : Nat, A w 24 n = ((t : Nat) : Int) ∧ A m 23 (a + 3) = A w 8 t) (hh : (A w 30 n = 1 ∧ A m 23 a = 26 ∧ a + 3 < 24000) ∨ (A w 30 n = 0 ∧ A m 23 a = 25 ∧ ∃ f, CRs (A m 23) (ROs w) (w.2.2.2 34) f none (a + 4) (n + 1) (Hs j) (Os j))) (h23 : A w 23 n = 12) : PP Q (q67 (SAf T Fv P p) N (qgo (SAf T Fv P p) N M1) m p (I ((v : Nat) : Int))) (bnd (fm_M_one N w (I ((n : Nat) : Int)) (I 12)) (fun u _ => KRs Fv' AN TT CC ND CN UN FN N p mu M2 w u)) := by
  obtain ⟨⟨r5, r8, r2⟩, ⟨ha, hn, hv, hpp, hj⟩, nd, ⟨pl, ru, bd⟩, ⟨n1, n2, n3⟩, bH, bW, bB, bY, nND, hN⟩ := st_b s
  obtain ⟨i2, h, mm, L, g2, x2, j2, wb, nb2, cb2, rk, M⟩ := cl_any s.2.2.2.1 r5 r8
  obtain ⟨-, -, st, ⟨ti, e5⟩, ⟨e26, e24⟩, gds, xx, un⟩ := id M
  have ei : a = i2 := by omega
  subst ei
  have wf := M.1.2.2.1 _ _ _ _ _ _ ti
  have eW : W = wb + h := by
    have := pl.2.2.1.1
    omega
  obtain ⟨⟨-, hpr, pr24, hi, hf⟩, ⟨per, hAN⟩, ba, lp, -, -, -, -, -, -, wl, rb, rm, ⟨eW2, -, -⟩, -, -, -, ⟨r100, -⟩, -⟩ := id s
  obtain ⟨t, t1, t2⟩ := c3
  have hs12 := n3.2.2.2.2.2.2.2.2.1 h23
  have ht : t < 100000 := by
    have := n1.2.2.2.2.2.2.2.2.2.2.2.2.2.2
    omega
  obtain ⟨fu, hfu⟩ : ∃ fu : Nat, A w 27 n = ((fu : Nat) : Int) := ⟨(A w 27 n).toNat, by omega⟩
  obtain ⟨f2, ar, z1, z2, z3, z4, z5⟩ : ∃ f n : Nat, A m 23 (a + 1) = ((f : Nat) : Int) ∧ ((f : Nat) : Int) < F m 442 ∧ A m 23 (a + 2) = ((n : Nat) : Int) ∧ A m 25 f = ((n : Nat) : Int) ∧ n ≤ h := by
    rcases hh with ⟨-, c, -⟩ | ⟨-, c, -⟩
    · exact in_26 wf.2.2.2.2.2 c
    · exact in_25 wf.2.2.2.2.2 c
  have ef : f2 = fu := by omega
  subst ef
  have e26' : A w 26 n = ((ar : Nat) : Int) := by omega
  have ha3 : a + 3 < 24000 := by
    rcases hh with ⟨-, -, c⟩ | ⟨-, -, f3, c⟩
    · exact c
    · have := CR_b c
      omega
  have hb : tB TT n + ar ≤ tH TT n := by
    obtain ⟨⟨b9, y1, y2, y3, -⟩, -⟩ := hs12
    omega
  have cx : CTX Fv P m := (LPQ_dc lp).2
  have pb : PB (PWs AN) PR := wl.1.2.2
  have e22 := cx.2.2.2.1
  have h955 := ba.2.2.1.1
  have h150 := ba.2.2.2.1.2
  have ft := ba.2.2.2.2.2.2.1.1.1
  have g7 := M.1.2.2.2.2.2.2.2
  obtain ⟨P0, rfl⟩ : ∃ P0, W = P0 + ar := ⟨W - ar, by omega⟩
  obtain ⟨bd1, bd2, bd3, bd4⟩ := bd
  by_cases hge : F m 1107 ≤ F m 1106
  · have heq : m.1 1106 = m.1 1107 := Int32.toInt_inj.mp (by
      show F m 1106 = F m 1107
      omega)
    rcases hh with ⟨-, c0, -⟩ | ⟨-, c0, -⟩
    · rw [go_fl r5 r8 (by omega) r2 (by omega) c0 ⟨by omega, by omega⟩]
      exact op_callS (K1 := fun u => q195 (SAf T Fv P p) N (qgo (SAf T Fv P p) N M1) u p (I ((v : Nat) : Int))) (K2 := fun u => KRs Fv' AN TT CC ND CN UN FN N p mu M2 w u) hpp ru hge heq ha3 (Or.inr rfl) e26' hfu (by omega) t1 ht t2 (st_li ih s)
    · rw [go_fl r5 r8 (by omega) r2 (by omega) c0 ⟨by omega, by omega⟩]
      exact op_callS (K1 := fun u => q195 (SAf T Fv P p) N (qgo (SAf T Fv P p) N M1) u p (I ((v : Nat) : Int))) (K2 := fun u => KRs Fv' AN TT CC ND CN UN FN N p mu M2 w u) hpp ru hge heq ha3 (Or.inl rfl) e26' hfu (by omega) t1 ht t2 (st_li ih s)
  · rcases hh with ⟨h30, c0, -⟩ | ⟨h30, c0, cr⟩
    · have hk : tK TT n = 0 := hs12.2 (by omega)
      rw [go_fl r5 r8 (by omega) r2 (by omega) c0 ⟨by omega, by omega⟩]
      exact op_callT (K1 := fun u => q195 (SAf T Fv P p) N (qgo (SAf T Fv P p) N M1) u p (I ((v : Nat) : Int))) (K2 := fun u => KRs Fv' AN TT CC ND CN UN FN N p mu M2 w u) hpp pl ru (by omega) (by omega) (P0 := rb) (by omega) r100 bd2 ⟨bd3, bd4⟩ (sk_102 s hk) ft z2 (by omega) ha3 z1 z3 e26' hfu h30 (fun m4 w4 e c b1 b2 b3 b4 b5 b6 => st_ca ih s b1 b2 (by omega) b3 b4 b5 b6)
    · rw [go_fl r5 r8 (by omega) r2 (by omega) c0 ⟨by omega, by omega⟩]
      by_cases hj1 : j + 1 < 60
      · exact op_callN (K1 := fun u => q195 (SAf T Fv P p) N (qgo (SAf T Fv P p) N M1) u p (I ((v : Nat) : Int))) (K2 := fun u => KRs Fv' AN TT CC ND CN UN FN N p mu M2 w u) hpp pl ru (by omega) (by omega) hj1 ft z2 (by omega) ha3 z1 z3 e26' hfu h30 cr (fun m4 w4 e c b1 b2 b3 b4 b5 b6 => st_ca ih s b1 b2 (by omega) b3 b4 b5 b6)
      · have ej : j = 59 := by omega
        subst ej
        exact op_callE (K1 := fun u => q195 (SAf T Fv P p) N (qgo (SAf T Fv P p) N M1) u p (I ((v : Nat) : Int))) (K2 := fun u => KRs Fv' AN TT CC ND CN UN FN N p mu M2 w u) hpp hpr pl ru (by omega) ha3 e26' hfu (by omega) h30 ⟨h955, hi⟩ (show F w 150 = ((0 : Nat) : Int) ∧ 0 < 4000 from ⟨h150, by decide⟩) (cx.2.2.2.2.2.1 21 (by omega) (by omega)) (pb.1 21 (by omega) (by omega)) (fun w3 a1 a2 a3 a4 => (aft_end hN per ba.2.2.2.1.1 ih ba (by omega) GGm.rf a1 a2 a3 ⟨h955, hi⟩ (show F w 150 = ((0 : Nat) : Int) ∧ 0 < 4000 from ⟨h150, by decide⟩) (Or.inl rfl) a4).1)
end
