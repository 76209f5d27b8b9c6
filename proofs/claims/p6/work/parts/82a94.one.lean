section
variable {w w2 : MS} {T T1 : TY} {C C1 : CY} {Z Z1 a b c a2 b2 : Nat → Nat} {g q q2 q3 m m2 m3 lo mm X Y sh lo2 mm2 X2 Y2 sh2 rk SN n x y : Nat} {R R1 R2 : Nat → Prop}
def NEWN (w : MS) (n : Nat) (k : Int) : Prop := A w 23 n = k ∧ 0 ≤ A w 24 n ∧ A w 24 n < 4002 ∧ A w 28 n = -1 ∧ A w 29 n = -1 ∧ A w 30 n = 0
def ONE (a b : Nat → Nat) (n : Nat) : Prop := a 0 = n ∧ b 0 = n + 1 ∧ b 1 = a 1 ∧ b 3 = a 3 ∧ ∀ i, a i ≤ b i
def ty1 (Z : Nat → Nat) (h m h2 m2 rk n : Nat) : TY := fun k i => if i = n then (if k = 0 then h else if k = 1 then m else if k = 8 then rk + 1 else Z k) else (if k = 0 then h2 else if k = 1 then m2 else if k = 8 then rk else Z k)
theorem ty1_a {h h2 : Nat} : ETY (ty1 Z h m h2 m2 rk n) Z h m n := by
  unfold ETY ty1
  simp only [if_true, if_pos rfl]
  simp
theorem ty1_b {h h2 i : Nat} (hi : i ≠ n) : ETY (ty1 Z h m h2 m2 rk n) Z h2 m2 i := by
  unfold ETY ty1
  simp only [if_neg hi]
  simp
theorem NX_c {h mm2 h2 m3 i : Nat} (e : NX T n i h mm2) (h1 : h = h2) (h3 : mm2 = m3) : NX T n i h2 m3 := by subst h1; subst h3; exact e
theorem PAT_L {f g2 : Nat → Nat} {PN L L2 : Nat} {z : Int} (h : PAT w f g2 PN SN L m m2 z) (hl : L ≤ L2) : PAT w f g2 PN SN L2 m m2 z := by
  obtain ⟨q, pM, pE, q1, q2, q3, q4, q5, q6, q7⟩ := h
  refine ⟨q, pM, pE, q1, q2, q3, q4, q5, q6, fun k h1 h2 => ?_⟩
  obtain ⟨p1, p2, p3, p4, p5, p6, p7, p8, p9⟩ := q7 k h1 h2
  exact ⟨p1, p2, p3, p4, p5, p6, fun z => ⟨(p7 z).1, (p7 z).2.1, (p7 z).2.2.imp id (fun y => by omega)⟩, p8, p9⟩
theorem PATS_L {f g2 : Nat → Nat} {PN L L2 many : Nat} {z : Int} (h : PATS w f g2 PN SN L m m2 many z) (hl : L ≤ L2) : PATS w f g2 PN SN L2 m m2 many z := by
  rcases h with h | ⟨q0, q, pM, pE, q1, q2, q3, q4, q5, q6, q7, q8⟩
  · exact Or.inl h
  · refine Or.inr ⟨q0, q, pM, pE, q1, q2, q3, q4, q5, q6, q7, fun k h1 h2 => ?_⟩
    obtain ⟨p1, p2, p3, p4, p5, p6, p7, p8, p9⟩ := q8 k h1 h2
    exact ⟨p1, p2, p3, p4, p5, p6, fun z => ⟨(p7 z).1, (p7 z).2.1, (p7 z).2.2.imp id (fun y => by omega)⟩, p8, p9⟩
theorem SEQ_one (o : ONE a b n) (hk : 1 ≤ A w 23 n ∧ A w 23 n ≤ 31 ∧ 0 ≤ A w 24 n ∧ A w 24 n < 4002 ∧ A w 28 n = -1 ∧ A w 29 n = -1) (hj : (A w 23 n ≤ 8 ∨ (11 ≤ A w 23 n ∧ A w 23 n ≤ 13) ∨ (15 ≤ A w 23 n ∧ A w 23 n ≤ 18) ∨ A w 23 n = 22 ∨ A w 23 n = 30)) (hp : (g ≠ 0 → m2 = m) ∧ lo ≤ m ∧ lo ≤ m2 ∧ m ≤ mm ∧ m2 ≤ mm ∧ q ≤ X ∧ q2 ≤ X)
    (hN : ∀ (T : TY) (C : CY) (Z : Nat → Nat) (h : Nat), Z 5 ≤ h → sh ≤ Z 2 → (g = 0 → Z 4 = 0) ∧ (g = 2 → Z 4 ≠ 0) → Z 6 ≤ lo → ETY T Z (h + q) m n → NX T n (n + 1) (h + q2) m2 → (A w 23 n ≠ 15 → WNa w T C id id (b 0 + 1) (b 1) (b 2) SN (b 3) 0 n) ∧ (A w 23 n ≠ 12 → WNb w T C (b 0 + 1) SN 0 n) ∧ P12 w T n ∧ P15 w T n) : SEQ w SN g a b q q2 m m2 lo mm X Y sh (fun i => i = n) := by
  obtain ⟨o0, o1, o2, o3, o4⟩ := o
  obtain ⟨p1, p2, p3, p4, p5, p6, p7⟩ := hp
  refine ⟨⟨o4, p1, p2, p3, p4, p5, p6, p7, fun i hi => by omega⟩, fun Z h rk z1 z2 z3 z4 z5 z6 z7 z8 z9 => ?_⟩
  have ea : ETY (ty1 Z (h + q) m (h + q2) m2 rk n) Z (h + q) m n := ty1_a
  have eb : ETY (ty1 Z (h + q) m (h + q2) m2 rk n) Z (h + q2) m2 (n + 1) := ty1_b (by omega)
  have ra : tR (ty1 Z (h + q) m (h + q2) m2 rk n) n = rk + 1 := by unfold tR ty1; simp
  have rb : tR (ty1 Z (h + q) m (h + q2) m2 rk n) (n + 1) = rk := by unfold tR ty1; simp
  generalize ty1 Z (h + q) m (h + q2) m2 rk n = T at *
  obtain ⟨w1, w2, w3, w4⟩ := hN T (fun _ _ => 0) Z h z1 z5 z7 z2 ea (ETY_nx ea eb (by omega))
  obtain ⟨e0, e1, e2, e3, e4, e5, e6, e7⟩ := id ea
  refine ⟨T, fun _ _ => 0, by rw [o0]; exact ea, by rw [o1]; exact eb, by rw [o1]; exact rb, fun _ => by rw [o0]; omega, by rw [o0]; omega, fun i hi => by rw [hi]; unfold kq; rw [if_neg (by omega)]; exact e3, fun i h1 h2 => ?_, fun i h1 h2 => by omega, fun i h1 h2 => by omega⟩
  obtain rfl : i = n := by omega
  refine ⟨⟨⟨?_, ?_, ?_, ?_, ?_, by omega, by omega⟩, fun _ => Or.inr ⟨e7, e3, e2, Nat.le_of_eq e5.symm, Nat.le_of_eq e6.symm, by omega⟩, fun _ => Or.inr ⟨by omega, e1, e2, e3, e4, e5, e7, by omega⟩, by omega⟩, fun y _ => w1 y, w2, w3, w4, fun y => by omega, ⟨fun y => by omega, fun y => by omega, fun y => by omega, fun y => by omega, fun y => by omega, fun y => by omega⟩, Or.inl hk.2.2.2.2.1, Or.inr (Or.inl hk.2.2.2.2.2)⟩
  · show T 0 i ≤ 760; omega
  · show T 1 i + T 2 i ≤ 40; omega
  · show T 3 i ≤ 26; omega
  · show T 5 i ≤ T 0 i; omega
  · show T 6 i ≤ T 1 i; omega
theorem s1 (o : ONE a b n) (nw : NEWN w n 1) (hr : lo ≤ m ∧ m ≤ mm ∧ 1 ≤ X) (h25 : A w 25 n = 0 ∨ (A w 25 n = 1 ∧ 0 ≤ A w 26 n ∧ A w 26 n < F w 14)) : SEQ w SN g a b 0 1 m m lo mm X Y sh (fun i => i = n) := by
  obtain ⟨nk, n1, n2, n3, n4, n5⟩ := nw
  refine SEQ_one o ⟨by omega, by omega, n1, n2, n3, n4⟩ (by omega) ⟨fun z => rfl, by omega, by omega, by omega, by omega, by omega, by omega⟩ (fun T C Z h z1 z2 z3 z4 e nx => ?_)
  obtain ⟨e0, e1, e2, e3, e4, e5, e6, e7⟩ := e
  have r0 : tH T n = h + (0) := e0
  have r1 : tM T n = m := e1
  have r2 : tL T n = Z 2 := e2
  have r4 : tG T n = Z 4 := e4
  have r5 : tB T n = Z 5 := e5
  have r6 : tD T n = Z 6 := e6
  exact ⟨fun _ => ⟨fun z => by omega, fun z => by omega, fun z => by omega, fun z => by omega, fun z => by omega, fun z => by omega, fun z => by omega, fun z => by omega, fun z => by omega, fun z => by omega, fun z => by omega, fun z => by omega, fun z => by omega, fun z => by omega, fun z => by omega, fun z => by omega⟩, fun _ => ⟨fun _ => ⟨h25, NX_c nx (by omega) (by omega)⟩, fun z => by omega, fun z => by omega, fun z => by omega, fun z => by omega, fun z => by omega, fun z => by omega, fun z => by omega, fun z => by omega, fun z => by omega, fun z => by omega⟩, fun z => by omega, fun z => by omega⟩
theorem s2 (o : ONE a b n) (nw : NEWN w n 2) (hr : lo ≤ m ∧ m ≤ mm ∧ 1 ≤ X) (h25 : 0 ≤ A w 25 n ∧ A w 25 n < SN) : SEQ w SN g a b 0 1 m m lo mm X Y sh (fun i => i = n) := by
  obtain ⟨nk, n1, n2, n3, n4, n5⟩ := nw
  refine SEQ_one o ⟨by omega, by omega, n1, n2, n3, n4⟩ (by omega) ⟨fun z => rfl, by omega, by omega, by omega, by omega, by omega, by omega⟩ (fun T C Z h z1 z2 z3 z4 e nx => ?_)
  obtain ⟨e0, e1, e2, e3, e4, e5, e6, e7⟩ := e
  have r0 : tH T n = h + (0) := e0
  have r1 : tM T n = m := e1
  have r2 : tL T n = Z 2 := e2
  have r4 : tG T n = Z 4 := e4
  have r5 : tB T n = Z 5 := e5
  have r6 : tD T n = Z 6 := e6
  exact ⟨fun _ => ⟨fun z => by omega, fun z => by omega, fun z => by omega, fun z => by omega, fun z => by omega, fun z => by omega, fun z => by omega, fun z => by omega, fun z => by omega, fun z => by omega, fun z => by omega, fun z => by omega, fun z => by omega, fun z => by omega, fun z => by omega, fun z => by omega⟩, fun _ => ⟨fun z => by omega, fun _ => ⟨h25.1, h25.2, NX_c nx (by omega) (by omega)⟩, fun z => by omega, fun z => by omega, fun z => by omega, fun z => by omega, fun z => by omega, fun z => by omega, fun z => by omega, fun z => by omega, fun z => by omega⟩, fun z => by omega, fun z => by omega⟩
theorem s3 (o : ONE a b n) (nw : NEWN w n 3) (hr : lo ≤ m ∧ m ≤ mm ∧ 1 ≤ X) (h25 : NCO (A w 25 n) m sh) : SEQ w SN g a b 0 1 m m lo mm X Y sh (fun i => i = n) := by
  obtain ⟨nk, n1, n2, n3, n4, n5⟩ := nw
  refine SEQ_one o ⟨by omega, by omega, n1, n2, n3, n4⟩ (by omega) ⟨fun z => rfl, by omega, by omega, by omega, by omega, by omega, by omega⟩ (fun T C Z h z1 z2 z3 z4 e nx => ?_)
  obtain ⟨e0, e1, e2, e3, e4, e5, e6, e7⟩ := e
  have r0 : tH T n = h + (0) := e0
  have r1 : tM T n = m := e1
  have r2 : tL T n = Z 2 := e2
  have r4 : tG T n = Z 4 := e4
  have r5 : tB T n = Z 5 := e5
  have r6 : tD T n = Z 6 := e6
  exact ⟨fun _ => ⟨fun z => by omega, fun z => by omega, fun z => by omega, fun z => by omega, fun z => by omega, fun z => by omega, fun z => by omega, fun z => by omega, fun z => by omega, fun z => by omega, fun z => by omega, fun z => by omega, fun z => by omega, fun z => by omega, fun z => by omega, fun z => by omega⟩, fun _ => ⟨fun z => by omega, fun z => by omega, fun _ => ⟨by rw [r1, r2]; exact h25.imp id (fun y => by omega), NX_c nx (by omega) (by omega)⟩, fun z => by omega, fun z => by omega, fun z => by omega, fun z => by omega, fun z => by omega, fun z => by omega, fun z => by omega, fun z => by omega⟩, fun z => by omega, fun z => by omega⟩
theorem s4 (o : ONE a b n) (nw : NEWN w n 4) (hr : lo ≤ m ∧ m ≤ mm ∧ 1 ≤ X ∧ x ≤ X) (h25 : A w 25 n = x) (hx : x ≤ 8) : SEQ w SN g a b x 1 m m lo mm X Y sh (fun i => i = n) := by
  obtain ⟨nk, n1, n2, n3, n4, n5⟩ := nw
  refine SEQ_one o ⟨by omega, by omega, n1, n2, n3, n4⟩ (by omega) ⟨fun z => rfl, by omega, by omega, by omega, by omega, by omega, by omega⟩ (fun T C Z h z1 z2 z3 z4 e nx => ?_)
  obtain ⟨e0, e1, e2, e3, e4, e5, e6, e7⟩ := e
  have r0 : tH T n = h + (x) := e0
  have r1 : tM T n = m := e1
  have r2 : tL T n = Z 2 := e2
  have r4 : tG T n = Z 4 := e4
  have r5 : tB T n = Z 5 := e5
  have r6 : tD T n = Z 6 := e6
  exact ⟨fun _ => ⟨fun z => by omega, fun z => by omega, fun z => by omega, fun z => by omega, fun z => by omega, fun z => by omega, fun z => by omega, fun z => by omega, fun z => by omega, fun z => by omega, fun z => by omega, fun z => by omega, fun z => by omega, fun z => by omega, fun z => by omega, fun z => by omega⟩, fun _ => ⟨fun z => by omega, fun z => by omega, fun z => by omega, fun _ => ⟨x, h25, hx, by omega, NX_c nx (by omega) (by omega)⟩, fun z => by omega, fun z => by omega, fun z => by omega, fun z => by omega, fun z => by omega, fun z => by omega, fun z => by omega⟩, fun z => by omega, fun z => by omega⟩
theorem s5 (o : ONE a b n) (nw : NEWN w n 5) (hr : lo ≤ m ∧ m ≤ mm ∧ 1 ≤ X ∧ x + y ≤ X) (h25 : A w 25 n = x) (h26 : A w 26 n = y) (hx : x ≤ 8) (hy : y ≤ 1) : SEQ w SN g a b (x + y) 1 m m lo mm X Y sh (fun i => i = n) := by
  obtain ⟨nk, n1, n2, n3, n4, n5⟩ := nw
  refine SEQ_one o ⟨by omega, by omega, n1, n2, n3, n4⟩ (by omega) ⟨fun z => rfl, by omega, by omega, by omega, by omega, by omega, by omega⟩ (fun T C Z h z1 z2 z3 z4 e nx => ?_)
  obtain ⟨e0, e1, e2, e3, e4, e5, e6, e7⟩ := e
  have r0 : tH T n = h + ((x + y)) := e0
  have r1 : tM T n = m := e1
  have r2 : tL T n = Z 2 := e2
  have r4 : tG T n = Z 4 := e4
  have r5 : tB T n = Z 5 := e5
  have r6 : tD T n = Z 6 := e6
  exact ⟨fun _ => ⟨fun z => by omega, fun z => by omega, fun z => by omega, fun z => by omega, fun z => by omega, fun z => by omega, fun z => by omega, fun z => by omega, fun z => by omega, fun z => by omega, fun z => by omega, fun z => by omega, fun z => by omega, fun z => by omega, fun z => by omega, fun z => by omega⟩, fun _ => ⟨fun z => by omega, fun z => by omega, fun z => by omega, fun z => by omega, fun _ => ⟨x, y, h25, h26, hx, hy, by omega, NX_c nx (by omega) (by omega)⟩, fun z => by omega, fun z => by omega, fun z => by omega, fun z => by omega, fun z => by omega, fun z => by omega⟩, fun z => by omega, fun z => by omega⟩
theorem s6 (o : ONE a b n) (nw : NEWN w n 6) (hr : lo ≤ m ∧ m ≤ mm ∧ 2 ≤ X) (h25 : 100 ≤ A w 25 n ∨ (12 ≤ A w 25 n ∧ A w 25 n ≤ 20) ∨ A w 25 n = 22 ∨ A w 25 n = 23) : SEQ w SN g a b 2 1 m m lo mm X Y sh (fun i => i = n) := by
  obtain ⟨nk, n1, n2, n3, n4, n5⟩ := nw
  refine SEQ_one o ⟨by omega, by omega, n1, n2, n3, n4⟩ (by omega) ⟨fun z => rfl, by omega, by omega, by omega, by omega, by omega, by omega⟩ (fun T C Z h z1 z2 z3 z4 e nx => ?_)
  obtain ⟨e0, e1, e2, e3, e4, e5, e6, e7⟩ := e
  have r0 : tH T n = h + (2) := e0
  have r1 : tM T n = m := e1
  have r2 : tL T n = Z 2 := e2
  have r4 : tG T n = Z 4 := e4
  have r5 : tB T n = Z 5 := e5
  have r6 : tD T n = Z 6 := e6
  exact ⟨fun _ => ⟨fun z => by omega, fun z => by omega, fun z => by omega, fun z => by omega, fun z => by omega, fun z => by omega, fun z => by omega, fun z => by omega, fun z => by omega, fun z => by omega, fun z => by omega, fun z => by omega, fun z => by omega, fun z => by omega, fun z => by omega, fun z => by omega⟩, fun _ => ⟨fun z => by omega, fun z => by omega, fun z => by omega, fun z => by omega, fun z => by omega, fun _ => ⟨by omega, NX_c nx (by omega) (by omega), h25⟩, fun z => by omega, fun z => by omega, fun z => by omega, fun z => by omega, fun z => by omega⟩, fun z => by omega, fun z => by omega⟩
theorem s7 (o : ONE a b n) (nw : NEWN w n 7) (hr : lo ≤ m ∧ m ≤ mm ∧ 1 ≤ X) : SEQ w SN g a b 1 1 m m lo mm X Y sh (fun i => i = n) := by
  obtain ⟨nk, n1, n2, n3, n4, n5⟩ := nw
  refine SEQ_one o ⟨by omega, by omega, n1, n2, n3, n4⟩ (by omega) ⟨fun z => rfl, by omega, by omega, by omega, by omega, by omega, by omega⟩ (fun T C Z h z1 z2 z3 z4 e nx => ?_)
  obtain ⟨e0, e1, e2, e3, e4, e5, e6, e7⟩ := e
  have r0 : tH T n = h + (1) := e0
  have r1 : tM T n = m := e1
  have r2 : tL T n = Z 2 := e2
  have r4 : tG T n = Z 4 := e4
  have r5 : tB T n = Z 5 := e5
  have r6 : tD T n = Z 6 := e6
  exact ⟨fun _ => ⟨fun z => by omega, fun z => by omega, fun z => by omega, fun z => by omega, fun z => by omega, fun z => by omega, fun z => by omega, fun z => by omega, fun z => by omega, fun z => by omega, fun z => by omega, fun z => by omega, fun z => by omega, fun z => by omega, fun z => by omega, fun z => by omega⟩, fun _ => ⟨fun z => by omega, fun z => by omega, fun z => by omega, fun z => by omega, fun z => by omega, fun z => by omega, fun _ => ⟨by omega, NX_c nx (by omega) (by omega)⟩, fun z => by omega, fun z => by omega, fun z => by omega, fun z => by omega⟩, fun z => by omega, fun z => by omega⟩
theorem s8 (o : ONE a b n) (nw : NEWN w n 8) (hr : lo ≤ m ∧ m ≤ mm ∧ 1 ≤ X) : SEQ w SN g a b 1 1 m m lo mm X Y sh (fun i => i = n) := by
  obtain ⟨nk, n1, n2, n3, n4, n5⟩ := nw
  refine SEQ_one o ⟨by omega, by omega, n1, n2, n3, n4⟩ (by omega) ⟨fun z => rfl, by omega, by omega, by omega, by omega, by omega, by omega⟩ (fun T C Z h z1 z2 z3 z4 e nx => ?_)
  obtain ⟨e0, e1, e2, e3, e4, e5, e6, e7⟩ := e
  have r0 : tH T n = h + (1) := e0
  have r1 : tM T n = m := e1
  have r2 : tL T n = Z 2 := e2
  have r4 : tG T n = Z 4 := e4
  have r5 : tB T n = Z 5 := e5
  have r6 : tD T n = Z 6 := e6
  exact ⟨fun _ => ⟨fun z => by omega, fun z => by omega, fun z => by omega, fun z => by omega, fun z => by omega, fun z => by omega, fun z => by omega, fun z => by omega, fun z => by omega, fun z => by omega, fun z => by omega, fun z => by omega, fun z => by omega, fun z => by omega, fun z => by omega, fun z => by omega⟩, fun _ => ⟨fun z => by omega, fun z => by omega, fun z => by omega, fun z => by omega, fun z => by omega, fun z => by omega, fun _ => ⟨by omega, NX_c nx (by omega) (by omega)⟩, fun z => by omega, fun z => by omega, fun z => by omega, fun z => by omega⟩, fun z => by omega, fun z => by omega⟩
theorem s11 (o : ONE a b n) (nw : NEWN w n 11) (hr : lo ≤ m ∧ m ≤ mm ∧ 2 ≤ X) : SEQ w SN 0 a b 2 1 m m lo mm X Y sh (fun i => i = n) := by
  obtain ⟨nk, n1, n2, n3, n4, n5⟩ := nw
  refine SEQ_one o ⟨by omega, by omega, n1, n2, n3, n4⟩ (by omega) ⟨fun z => rfl, by omega, by omega, by omega, by omega, by omega, by omega⟩ (fun T C Z h z1 z2 z3 z4 e nx => ?_)
  obtain ⟨e0, e1, e2, e3, e4, e5, e6, e7⟩ := e
  have r0 : tH T n = h + (2) := e0
  have r1 : tM T n = m := e1
  have r2 : tL T n = Z 2 := e2
  have r4 : tG T n = Z 4 := e4
  have r5 : tB T n = Z 5 := e5
  have r6 : tD T n = Z 6 := e6
  have g0 : tG T n = 0 := by rw [r4]; exact z3.1 rfl
  exact ⟨fun _ => ⟨fun _ => ⟨g0, by omega, NX_c nx (by omega) (by omega)⟩, fun z => by omega, fun z => by omega, fun z => by omega, fun z => by omega, fun z => by omega, fun z => by omega, fun z => by omega, fun z => by omega, fun z => by omega, fun z => by omega, fun z => by omega, fun z => by omega, fun z => by omega, fun z => by omega, fun z => by omega⟩, fun _ => ⟨fun z => by omega, fun z => by omega, fun z => by omega, fun z => by omega, fun z => by omega, fun z => by omega, fun z => by omega, fun z => by omega, fun z => by omega, fun z => by omega, fun z => by omega⟩, fun z => by omega, fun z => by omega⟩
theorem s12 (o : ONE a b n) (nw : NEWN w n 12) (hr : lo ≤ m ∧ m ≤ mm ∧ 1 ≤ X ∧ x ≤ X) (h26 : A w 26 n = x) (hx : x ≤ 6) (h27 : g ≠ 0 → A w 27 n = 1) : SEQ w SN g a b x 1 m m lo mm X Y sh (fun i => i = n) := by
  obtain ⟨nk, n1, n2, n3, n4, n5⟩ := nw
  refine SEQ_one o ⟨by omega, by omega, n1, n2, n3, n4⟩ (by omega) ⟨fun z => rfl, by omega, by omega, by omega, by omega, by omega, by omega⟩ (fun T C Z h z1 z2 z3 z4 e nx => ?_)
  obtain ⟨e0, e1, e2, e3, e4, e5, e6, e7⟩ := e
  have r0 : tH T n = h + (x) := e0
  have r1 : tM T n = m := e1
  have r2 : tL T n = Z 2 := e2
  have r4 : tG T n = Z 4 := e4
  have r5 : tB T n = Z 5 := e5
  have r6 : tD T n = Z 6 := e6
  exact ⟨fun _ => ⟨fun z => by omega, fun z => by omega, fun z => by omega, fun z => by omega, fun z => by omega, fun z => by omega, fun z => by omega, fun z => by omega, fun z => by omega, fun z => by omega, fun z => by omega, fun z => by omega, fun z => by omega, fun z => by omega, fun z => by omega, fun z => by omega⟩, fun y => absurd nk y, fun _ => ⟨⟨x, h26, hx, by omega, NX_c nx (by omega) (by omega)⟩, fun y => h27 (fun e => y (by rw [r4]; exact z3.1 e)), fun y => absurd n5 y⟩, fun z => by omega⟩
theorem s13 (o : ONE a b n) (nw : NEWN w n 13) (hr : lo ≤ m ∧ m ≤ mm ∧ 1 ≤ X ∧ x + 1 ≤ X) (h26 : A w 26 n = x) (hx : x ≤ 6) : SEQ w SN 0 a b (x + 1) 1 m m lo mm X Y sh (fun i => i = n) := by
  obtain ⟨nk, n1, n2, n3, n4, n5⟩ := nw
  refine SEQ_one o ⟨by omega, by omega, n1, n2, n3, n4⟩ (by omega) ⟨fun z => rfl, by omega, by omega, by omega, by omega, by omega, by omega⟩ (fun T C Z h z1 z2 z3 z4 e nx => ?_)
  obtain ⟨e0, e1, e2, e3, e4, e5, e6, e7⟩ := e
  have r0 : tH T n = h + ((x + 1)) := e0
  have r1 : tM T n = m := e1
  have r2 : tL T n = Z 2 := e2
  have r4 : tG T n = Z 4 := e4
  have r5 : tB T n = Z 5 := e5
  have r6 : tD T n = Z 6 := e6
  have g0 : tG T n = 0 := by rw [r4]; exact z3.1 rfl
  exact ⟨fun _ => ⟨fun z => by omega, fun _ => ⟨g0, ⟨x, h26, hx, by omega, NX_c nx (by omega) (by omega)⟩, fun y => absurd n5 y⟩, fun z => by omega, fun z => by omega, fun z => by omega, fun z => by omega, fun z => by omega, fun z => by omega, fun z => by omega, fun z => by omega, fun z => by omega, fun z => by omega, fun z => by omega, fun z => by omega, fun z => by omega, fun z => by omega⟩, fun _ => ⟨fun z => by omega, fun z => by omega, fun z => by omega, fun z => by omega, fun z => by omega, fun z => by omega, fun z => by omega, fun z => by omega, fun z => by omega, fun z => by omega, fun z => by omega⟩, fun z => by omega, fun z => by omega⟩
theorem s15 (o : ONE a b n) (nw : NEWN w n 15) (hr : lo ≤ m ∧ m ≤ mm ∧ 1 ≤ X) : SEQ w SN 0 a b 0 1 m m lo mm X Y sh (fun i => i = n) := by
  obtain ⟨nk, n1, n2, n3, n4, n5⟩ := nw
  refine SEQ_one o ⟨by omega, by omega, n1, n2, n3, n4⟩ (by omega) ⟨fun z => rfl, by omega, by omega, by omega, by omega, by omega, by omega⟩ (fun T C Z h z1 z2 z3 z4 e nx => ?_)
  obtain ⟨e0, e1, e2, e3, e4, e5, e6, e7⟩ := e
  have r0 : tH T n = h + (0) := e0
  have r1 : tM T n = m := e1
  have r2 : tL T n = Z 2 := e2
  have r4 : tG T n = Z 4 := e4
  have r5 : tB T n = Z 5 := e5
  have r6 : tD T n = Z 6 := e6
  have g0 : tG T n = 0 := by rw [r4]; exact z3.1 rfl
  exact ⟨fun y => absurd nk y, fun _ => ⟨fun z => by omega, fun z => by omega, fun z => by omega, fun z => by omega, fun z => by omega, fun z => by omega, fun z => by omega, fun z => by omega, fun z => by omega, fun z => by omega, fun z => by omega⟩, fun z => by omega, fun _ => ⟨g0, NX_c nx (by omega) (by omega)⟩⟩
theorem s16 (o : ONE a b n) (nw : NEWN w n 16) (hr : lo ≤ m ∧ m ≤ mm ∧ 1 ≤ X ∧ lo ≤ m2 ∧ m2 ≤ mm) (h25 : PAT w id id (b 2) SN sh m m2 (A w 25 n)) : SEQ w SN 0 a b 1 1 m m2 lo mm X Y sh (fun i => i = n) := by
  obtain ⟨nk, n1, n2, n3, n4, n5⟩ := nw
  refine SEQ_one o ⟨by omega, by omega, n1, n2, n3, n4⟩ (by omega) ⟨fun z => by omega, by omega, by omega, by omega, by omega, by omega, by omega⟩ (fun T C Z h z1 z2 z3 z4 e nx => ?_)
  obtain ⟨e0, e1, e2, e3, e4, e5, e6, e7⟩ := e
  have r0 : tH T n = h + (1) := e0
  have r1 : tM T n = m := e1
  have r2 : tL T n = Z 2 := e2
  have r4 : tG T n = Z 4 := e4
  have r5 : tB T n = Z 5 := e5
  have r6 : tD T n = Z 6 := e6
  have g0 : tG T n = 0 := by rw [r4]; exact z3.1 rfl
  exact ⟨fun _ => ⟨fun z => by omega, fun z => by omega, fun z => by omega, fun z => by omega, fun _ => ⟨g0, by omega, m2, by rw [r1, r2]; exact PAT_L h25 z2, NX_c nx (by omega) (by omega)⟩, fun z => by omega, fun z => by omega, fun z => by omega, fun z => by omega, fun z => by omega, fun z => by omega, fun z => by omega, fun z => by omega, fun z => by omega, fun z => by omega, fun z => by omega⟩, fun _ => ⟨fun z => by omega, fun z => by omega, fun z => by omega, fun z => by omega, fun z => by omega, fun z => by omega, fun z => by omega, fun z => by omega, fun z => by omega, fun z => by omega, fun z => by omega⟩, fun z => by omega, fun z => by omega⟩
theorem s17 (o : ONE a b n) (nw : NEWN w n 17) (hr : lo ≤ m ∧ m ≤ mm ∧ 1 ≤ X) : SEQ w SN 0 a b 1 0 m m lo mm X Y sh (fun i => i = n) := by
  obtain ⟨nk, n1, n2, n3, n4, n5⟩ := nw
  refine SEQ_one o ⟨by omega, by omega, n1, n2, n3, n4⟩ (by omega) ⟨fun z => rfl, by omega, by omega, by omega, by omega, by omega, by omega⟩ (fun T C Z h z1 z2 z3 z4 e nx => ?_)
  obtain ⟨e0, e1, e2, e3, e4, e5, e6, e7⟩ := e
  have r0 : tH T n = h + (1) := e0
  have r1 : tM T n = m := e1
  have r2 : tL T n = Z 2 := e2
  have r4 : tG T n = Z 4 := e4
  have r5 : tB T n = Z 5 := e5
  have r6 : tD T n = Z 6 := e6
  have g0 : tG T n = 0 := by rw [r4]; exact z3.1 rfl
  exact ⟨fun _ => ⟨fun z => by omega, fun z => by omega, fun z => by omega, fun z => by omega, fun z => by omega, fun _ => ⟨g0, by omega, NX_c nx (by omega) (by omega)⟩, fun z => by omega, fun z => by omega, fun z => by omega, fun z => by omega, fun z => by omega, fun z => by omega, fun z => by omega, fun z => by omega, fun z => by omega, fun z => by omega⟩, fun _ => ⟨fun z => by omega, fun z => by omega, fun z => by omega, fun z => by omega, fun z => by omega, fun z => by omega, fun z => by omega, fun z => by omega, fun z => by omega, fun z => by omega, fun z => by omega⟩, fun z => by omega, fun z => by omega⟩
theorem s18 (o : ONE a b n) (nw : NEWN w n 18) (hr : lo ≤ m ∧ m ≤ mm ∧ lo ≤ x ∧ x ≤ m) (h25 : A w 25 n = x) : SEQ w SN 0 a b 0 0 m x lo mm X Y sh (fun i => i = n) := by
  obtain ⟨nk, n1, n2, n3, n4, n5⟩ := nw
  refine SEQ_one o ⟨by omega, by omega, n1, n2, n3, n4⟩ (by omega) ⟨fun z => by omega, by omega, by omega, by omega, by omega, by omega, by omega⟩ (fun T C Z h z1 z2 z3 z4 e nx => ?_)
  obtain ⟨e0, e1, e2, e3, e4, e5, e6, e7⟩ := e
  have r0 : tH T n = h + (0) := e0
  have r1 : tM T n = m := e1
  have r2 : tL T n = Z 2 := e2
  have r4 : tG T n = Z 4 := e4
  have r5 : tB T n = Z 5 := e5
  have r6 : tD T n = Z 6 := e6
  have g0 : tG T n = 0 := by rw [r4]; exact z3.1 rfl
  exact ⟨fun _ => ⟨fun z => by omega, fun z => by omega, fun z => by omega, fun z => by omega, fun z => by omega, fun z => by omega, fun _ => ⟨g0, x, h25, by omega, by omega, NX_c nx (by omega) (by omega)⟩, fun z => by omega, fun z => by omega, fun z => by omega, fun z => by omega, fun z => by omega, fun z => by omega, fun z => by omega, fun z => by omega, fun z => by omega⟩, fun _ => ⟨fun z => by omega, fun z => by omega, fun z => by omega, fun z => by omega, fun z => by omega, fun z => by omega, fun z => by omega, fun z => by omega, fun z => by omega, fun z => by omega, fun z => by omega⟩, fun z => by omega, fun z => by omega⟩
theorem s22 (o : ONE a b n) (nw : NEWN w n 22) (hr : lo ≤ m ∧ m ≤ mm ∧ 1 ≤ X) : SEQ w SN 2 a b 1 0 m m lo mm X Y sh (fun i => i = n) := by
  obtain ⟨nk, n1, n2, n3, n4, n5⟩ := nw
  refine SEQ_one o ⟨by omega, by omega, n1, n2, n3, n4⟩ (by omega) ⟨fun z => rfl, by omega, by omega, by omega, by omega, by omega, by omega⟩ (fun T C Z h z1 z2 z3 z4 e nx => ?_)
  obtain ⟨e0, e1, e2, e3, e4, e5, e6, e7⟩ := e
  have r0 : tH T n = h + (1) := e0
  have r1 : tM T n = m := e1
  have r2 : tL T n = Z 2 := e2
  have r4 : tG T n = Z 4 := e4
  have r5 : tB T n = Z 5 := e5
  have r6 : tD T n = Z 6 := e6
  exact ⟨fun _ => ⟨fun z => by omega, fun z => by omega, fun z => by omega, fun z => by omega, fun z => by omega, fun z => by omega, fun z => by omega, fun z => by omega, fun z => by omega, fun z => by omega, fun z => by omega, fun z => by omega, fun z => by omega, fun z => by omega, fun z => by omega, fun z => by omega⟩, fun _ => ⟨fun z => by omega, fun z => by omega, fun z => by omega, fun z => by omega, fun z => by omega, fun z => by omega, fun z => by omega, fun z => by omega, fun z => by omega, fun _ => ⟨by rw [r4]; exact z3.2 rfl, by omega, NX_c nx (by omega) (by omega)⟩, fun z => by omega⟩, fun z => by omega, fun z => by omega⟩
end
