set_option maxRecDepth 100000
def GDc (w : MS) (hi r : Nat) : Prop := F w 714 = 1000000000 ∧ F w 711 = 0 ∧ F w 441 < 24000 ∧ hi ≤ 1500 ∧ r ≤ 400
def OLQ (u w : MS) (q r : Nat) : Prop := (∀ j : Nat, ((j : Nat) : Int) < F u 441 → A w 23 j = A u 23 j) ∧ ∀ pl, pl < q ∨ r ≤ pl → A w 30 pl = A u 30 pl ∧ A w 31 pl = A u 31 pl ∧ A w 32 pl = A u 32 pl
abbrev szc (u : MS) : Nat := (F u 441).toNat
abbrev knc (u w : MS) : Nat := (F w 706 - F u 706).toNat
def PCQ (u w : MS) (lv : Nat) (W : Int) (t hi q r : Nat) (Y : Prop) : Prop := KMc u w lv ∧ (F u 706 ≤ F w 706 ∧ F w 706 ≤ F u 706 + ((t : Nat) : Int)) ∧ (F w 711 = 0 → F w 441 ≤ F u 441 + W) ∧ (GDc w hi r → OLQ u w q r ∧ Y)
def PREc (u w : MS) (lv lo o : Nat) (la : Prop) (h m : Nat) (L : List Nat) (g x : Nat) : Prop := 2 * h ≤ lo + 16 ∧ (F u 706 - A u 40 lv ≤ ((m : Nat) : Int) ∧ ((m : Nat) : Int) + A w 41 lv ≤ 40 + (F u 706 - A u 40 lv)) ∧ L.length ≤ o ∧ (la → L = []) ∧ (g ≠ 0 ↔ F u 712 = 1) ∧ (g = 0 → x = 0)
def TYX (u w : MS) (lv lo q r o : Nat) (la : Prop) (d : Nat) : Prop := ∀ h m L g x, PREc u w lv lo o la h m L g x → (g ≠ 0 → F w 706 = F u 706) ∧ SGc w (szc u) (szc w) q r [] h h m L g x (some (h + d, m + knc u w, L, g, x))
def CMX (u : MS) (c : Nat) (ps : Nat → Nat) (Q : Nat) : Prop := CSX u c ps ∧ (WDc u 36 ∧ WDc u 1) ∧ (0 ≤ F u 442 ∧ F u 442 ≤ 666) ∧ F u 449 = (if Q < 400 then ((Q : Nat) : Int) else 400)
section
variable {u v w : MS} {lv t t1 t2 hi hi1 lo lo2 o o2 q r s c h m g x d d1 d2 a b z : Nat} {W W1 W2 : Int} {Y Y1 Y2 la la2 : Prop} {L : List Nat} {H : List (Nat × Tyc)} {oo : Option Tyc} {l : List Int} {ps : Nat → Nat} {Q : Nat}
theorem CMX_k (h : CMX u c ps Q) (g : KMF u w) : CMX w c ps Q := by
  obtain ⟨h1, ⟨h2, h3⟩, h4, h5⟩ := h
  refine ⟨CSX_k h1 g, ⟨?_, ?_⟩, by rw [g.F (by simp)]; exact h4, by rw [g.F (by simp)]; exact h5⟩
  · unfold WDc at h2 ⊢
    rw [g.F (by simp)]
    refine ⟨h2.1, h2.2.1, h2.2.2.1, h2.2.2.2.1, fun k hk => ?_⟩
    rw [g.A (by simp), g.A (by simp)]; exact h2.2.2.2.2 k hk
  · unfold WDc at h3 ⊢
    rw [g.F (by simp)]
    refine ⟨h3.1, h3.2.1, h3.2.2.1, h3.2.2.2.1, fun k hk => ?_⟩
    rw [g.A (by simp), g.A (by simp)]; exact h3.2.2.2.2 k hk
theorem GD_u (cv : CVI v lv) (k : KMc v w lv) (g : GDc w hi r) (h1 : hi1 ≤ hi) (h2 : s ≤ r) : GDc v hi1 s := by
  obtain ⟨g1, g2, g3, g4, g5⟩ := g
  have := cv.2.2.2.2.1
  have := k.2.2.1
  have := k.2.2.2.1
  exact ⟨by omega, k.2.2.2.2.1 g2, by omega, by omega, by omega⟩
theorem OLQ.rf : OLQ u u q r := ⟨fun _ _ => rfl, fun _ _ => ⟨rfl, rfl, rfl⟩⟩
theorem OLQ.tr (k : F u 441 ≤ F v 441) (a : OLQ u v q s) (b : OLQ v w s r) (h1 : q ≤ s) (h2 : s ≤ r) : OLQ u w q r := ⟨fun j hj => (b.1 j (by omega)).trans (a.1 j hj), fun pl hp => by
  obtain ⟨a1, a2, a3⟩ := a.2 pl (by omega)
  obtain ⟨b1, b2, b3⟩ := b.2 pl (by omega)
  exact ⟨b1.trans a1, b2.trans a2, b3.trans a3⟩⟩
theorem OLQ.mo (a : OLQ u v q s) {q2 s2 : Nat} (h1 : q2 ≤ q) (h2 : s ≤ s2) : OLQ u v q2 s2 := ⟨a.1, fun pl hp => a.2 pl (by omega)⟩
theorem PC_seq (a : PCQ u v lv W1 t1 hi1 q s Y1) (b : PCQ v w lv W2 t2 hi s r Y2) (h1 : hi1 ≤ hi) (hq : q ≤ s) (hs : s ≤ r) (hY : GDc w hi r → OLQ u v q s → OLQ v w s r → Y1 → Y2 → Y) : PCQ u w lv (W1 + W2) (t1 + t2) hi q r Y := by
  obtain ⟨a1, a2, a3, a4⟩ := a
  obtain ⟨b1, b2, b3, b4⟩ := b
  refine ⟨KMc.tr a1 b1, by omega, fun e => ?_, fun g => ?_⟩
  · have := b3 e
    have := a3 (b1.2.2.2.2.1 e)
    omega
  · obtain ⟨o2, y2⟩ := b4 g
    obtain ⟨o1, y1⟩ := a4 (GD_u a1.2.1 b1 g h1 hs)
    exact ⟨OLQ.tr a1.2.2.1 o1 o2 hq hs, hY g o1 o2 y1 y2⟩
theorem PC_w (a : PCQ u w lv W1 t1 hi1 q r Y1) (h1 : W1 ≤ W) (h2 : t1 ≤ t) (h3 : hi1 ≤ hi) (hY : GDc w hi r → Y1 → Y) : PCQ u w lv W t hi q r Y := by
  obtain ⟨a1, a2, a3, a4⟩ := a
  refine ⟨a1, by omega, fun e => by have := a3 e; omega, fun g => ?_⟩
  obtain ⟨o1, y1⟩ := a4 ⟨g.1, g.2.1, g.2.2.1, by have := g.2.2.2.1; omega, g.2.2.2.2⟩
  exact ⟨o1, hY g y1⟩
theorem PC_q (a : PCQ u w lv W t hi q r Y) {q2 r2 : Nat} (h1 : q2 ≤ q) (h2 : r ≤ r2) : PCQ u w lv W t hi q2 r2 Y := by
  obtain ⟨a1, a2, a3, a4⟩ := a
  refine ⟨a1, a2, a3, fun g => ?_⟩
  obtain ⟨o1, y1⟩ := a4 ⟨g.1, g.2.1, g.2.2.1, g.2.2.2.1, by have := g.2.2.2.2; omega⟩
  exact ⟨o1.mo h1 h2, y1⟩
theorem PC_rf (h : CVI u lv) : PCQ u u lv 0 0 hi q q True := ⟨KMc.rf h, by omega, fun _ => by omega, fun _ => ⟨OLQ.rf, trivial⟩⟩
theorem PC_em (h : CVI u lv) (e : EMc u w l) : PCQ u w lv ((l.length : Nat) : Int) 0 hi q q (szc w = szc u + l.length ∧ ∀ k, k < l.length → A w 23 (szc u + k) = l.getD k 0) := by
  have e6 : F w 706 = F u 706 := congrArg _ (e.1.1 706 (by simp))
  refine ⟨EMc.km h e, by omega, fun _ => e.2.1.2.2, fun g => ⟨⟨e.2.2.1, fun pl _ => ?_⟩, ?_, fun k hk => (e.2.2.2 g.2.2.1).2 k hk⟩⟩
  · refine ⟨?_, ?_, ?_⟩
    · show (w.2.2.1 30 pl).toInt = _; rw [e.1.2.2.1 30 (by simp)]; rfl
    · show (w.2.2.1 31 pl).toInt = _; rw [e.1.2.2.1 31 (by simp)]; rfl
    · show (w.2.2.1 32 pl).toInt = _; rw [e.1.2.2.1 32 (by simp)]; rfl
  · have := (e.2.2.2 g.2.2.1).1
    have := h.1
    show (F w 441).toNat = (F u 441).toNat + _
    omega
theorem PC_fr (k : KMc u w lv) (f : FR [714] [] [42] [] u w) : PCQ u w lv 0 0 hi q q (szc w = szc u ∧ F w 706 = F u 706) := by
  have e6 : F w 706 = F u 706 := congrArg _ (f.1 706 (by simp))
  have e4 : F w 441 = F u 441 := congrArg _ (f.1 441 (by simp))
  refine ⟨k, by omega, fun _ => by omega, fun g => ⟨⟨fun j _ => ?_, fun pl _ => ⟨?_, ?_, ?_⟩⟩, by show (F w 441).toNat = _; rw [e4], e6⟩⟩
  · show (w.2.2.1 23 j).toInt = _; rw [f.2.2.1 23 (by simp)]; rfl
  · show (w.2.2.1 30 pl).toInt = _; rw [f.2.2.1 30 (by simp)]; rfl
  · show (w.2.2.1 31 pl).toInt = _; rw [f.2.2.1 31 (by simp)]; rfl
  · show (w.2.2.1 32 pl).toInt = _; rw [f.2.2.1 32 (by simp)]; rfl
theorem TBL_k (k : KMF v w) (o : OLQ v w s r) {q1 r1 : Nat} (hd : r1 ≤ s ∨ r ≤ q1) : TBLc v w q1 r1 := ⟨k.F (by simp), k.F (by simp), by rw [k.F (by simp)]; omega, fun f => k.A (by simp), fun pl h1 h2 => o.2 pl (by omega)⟩
theorem SG_kw (cv : CVI v lv) {q1 r1 : Nat} (y : SGc v a b q1 r1 H z h m L g x oo) (k : KMF v w) (o : OLQ v w s r) (hb : b ≤ szc v) (hd : r1 ≤ s ∨ r ≤ q1) : SGc w a b q1 r1 H z h m L g x oo := SG_k y (fun j _ j2 _ => o.1 j (by have := cv.1; have : b ≤ (F v 441).toNat := hb; omega)) (TBL_k k o hd)
theorem szc_le (cv : CVI u lv) (k : KMc u w lv) : szc u ≤ szc w := by
  have := cv.1
  have := k.2.2.1
  show (F u 441).toNat ≤ (F w 441).toNat
  omega
theorem PRE_b (cv : CVI w lv) (k : KMc u w lv) (h6 : F u 706 ≤ F w 706) (p : PREc u w lv lo o la h m L g x) : m + knc u w ≤ 40 ∧ 2 * h ≤ lo + 16 := by
  obtain ⟨p1, ⟨p2, p3⟩, -⟩ := p
  obtain ⟨-, -, -, -, -, -, -, c1, c2⟩ := cv
  have e40 := k.2.2.2.2.2.2.1 lv (Nat.le_refl _)
  refine ⟨?_, p1⟩
  show m + (F w 706 - F u 706).toNat ≤ 40
  omega
theorem PRE_1 (p : PREc u w lv lo o la h m L g x) (k : KMc v w lv) : PREc u v lv lo o la h m L g x := by
  obtain ⟨p1, ⟨p2, p3⟩, p4⟩ := p
  have := k.2.2.2.2.2.2.2.2
  exact ⟨p1, ⟨p2, by omega⟩, p4⟩
theorem PRE_2 (p : PREc u w lv lo o la h m L g x) (a : KMc u v lv) (h6 : F u 706 ≤ F v 706) (hd : lo + 2 * d ≤ lo2) : PREc v w lv lo2 o la (h + d) (m + knc u v) L g x := by
  obtain ⟨p1, ⟨p2, p3⟩, p4, p5, p6, p7⟩ := p
  have e40 := a.2.2.2.2.2.2.1 lv (Nat.le_refl _)
  have e12 := a.2.2.2.2.2.1.1
  have : ((knc u v : Nat) : Int) = F v 706 - F u 706 := by show (((F v 706 - F u 706).toNat : Nat) : Int) = _; omega
  exact ⟨by omega, ⟨by rw [e40]; omega, by rw [e40]; omega⟩, p4, p5, by rw [e12]; exact p6, p7⟩
theorem PRE_mo (p : PREc u w lv lo o la h m L g x) (h1 : lo ≤ lo2) (h2 : o ≤ o2) (h3 : la2 → la) : PREc u w lv lo2 o2 la2 h m L g x := by
  obtain ⟨p1, p2, p4, p5, p6⟩ := p
  exact ⟨by omega, p2, by omega, fun z => p5 (h3 z), p6⟩
theorem TY_mo (y : TYX u w lv lo2 q r o2 la2 d) (h1 : lo ≤ lo2) (h2 : o ≤ o2) (h3 : la2 → la) : TYX u w lv lo q r o la d := fun h m L g x p => y h m L g x (PRE_mo p h1 h2 h3)
theorem kn_tr (h1 : F u 706 ≤ F v 706) (h2 : F v 706 ≤ F w 706) : knc u v + knc v w = knc u w := by
  show (F v 706 - F u 706).toNat + (F w 706 - F v 706).toNat = (F w 706 - F u 706).toNat
  omega
theorem TY_seq (cu : CVI u lv) (a : KMc u v lv) (b : KMc v w lv) (h1 : F u 706 ≤ F v 706) (h2 : F v 706 ≤ F w 706) (ol : OLQ v w s r) (y1 : TYX u v lv lo q s o False d1) (y2 : TYX v w lv lo2 s r o la d2) (hd : lo + 2 * d1 ≤ lo2) : TYX u w lv lo q r o la (d1 + d2) := by
  intro h m L g x p
  obtain ⟨n1, i1⟩ := y1 h m L g x (PRE_mo (PRE_1 p b) (Nat.le_refl _) (Nat.le_refl _) (fun z => z.elim))
  obtain ⟨n2, i2⟩ := y2 (h + d1) (m + knc u v) L g x (PRE_2 p a h1 hd)
  refine ⟨fun hg => (n2 hg).trans (n1 hg), ?_⟩
  have j1 := SG_kw a.2.1 i1 b.1 ol (Nat.le_refl _) (Or.inl (Nat.le_refl _))
  have j := SG_seq j1 (SG_z (z2 := h) i2 (by omega)) (by omega) (fun hg => by
    have := n1 hg
    show m + (F v 706 - F u 706).toNat = m
    omega)
  rw [List.append_nil, Nat.add_assoc, Nat.add_assoc, kn_tr h1 h2] at j
  exact j
theorem TY_pre (a : KMc u v lv) (e1 : szc v = szc u) (e2 : F v 706 = F u 706) (y : TYX v w lv lo q r o la d) : TYX u w lv lo q r o la d := by
  intro h m L g x p
  have e0 : knc u v = 0 := by show (F v 706 - F u 706).toNat = 0; omega
  have p2 := PRE_2 (d := 0) p a (by omega) (Nat.le_refl _)
  rw [e0] at p2
  obtain ⟨n2, i2⟩ := y h m L g x p2
  refine ⟨fun hg => (n2 hg).trans e2, ?_⟩
  rw [e1, show knc v w = knc u w by show (F w 706 - F v 706).toNat = _; rw [e2]] at i2
  exact i2
theorem PC_tail (a : PCQ u v lv W1 t hi1 q r (TYX u v lv lo q r o la2 d1)) (e : EMc v w l) (hq : q ≤ r) (h1 : hi1 ≤ hi) (hW : W1 + ((l.length : Nat) : Int) ≤ W) (h3 : la2 → la) (hI : ∀ h m L g x, PREc u w lv lo o la h m L g x → GDc w hi r → hi ≤ 1500 → m + knc u v ≤ 40 → 2 * h ≤ lo + 16 → (∀ k, k < l.length → A w 23 (szc v + k) = l.getD k 0) → SGc w (szc v) (szc v + l.length) r r [] h (h + d1) (m + knc u v) L g x (some (h + d2, m + knc u v, L, g, x))) : PCQ u w lv W t hi q r (TYX u w lv lo q r o la d2) := by
  have cv := a.1.2.1
  have b := PC_em (hi := hi) (q := r) cv e
  have e6 : F w 706 = F v 706 := congrArg _ (e.1.1 706 (by simp))
  have h6 := a.2.1.1
  have k1 := a.1
  have k2 := b.1
  refine PC_w (PC_seq a b h1 hq (Nat.le_refl _) (fun gd o1 o2 y1 y2 h m L g x p => ?_)) hW (by omega) (Nat.le_refl _) (fun _ z => z)
  have p1 := PRE_1 p k2
  obtain ⟨n1, i1⟩ := y1 h m L g x (PRE_mo p1 (Nat.le_refl _) (Nat.le_refl _) h3)
  have pb := PRE_b cv k1 h6 p1
  have I := hI h m L g x p gd gd.2.2.2.1 pb.1 pb.2 y2.2
  have j1 := SG_kw cv i1 k2.1 o2 (Nat.le_refl _) (Or.inl (Nat.le_refl _))
  have j := SG_seq j1 I (by omega) (fun hg => by
    have := n1 hg
    show m + (F v 706 - F u 706).toNat = m
    omega)
  refine ⟨fun hg => e6.trans (n1 hg), ?_⟩
  rw [List.append_nil, ← y2.1, show knc u v = knc u w by show (F v 706 - F u 706).toNat = _; rw [← e6]] at j
  exact j
theorem PC_one (cu : CVI u lv) (e : EMc u w l) (hW : ((l.length : Nat) : Int) ≤ W) (hI : ∀ h m L g x, PREc u w lv lo o la h m L g x → GDc w hi q → hi ≤ 1500 → m ≤ 40 → 2 * h ≤ lo + 16 → (∀ k, k < l.length → A w 23 (szc u + k) = l.getD k 0) → SGc w (szc u) (szc u + l.length) q q [] h h m L g x (some (h + d, m, L, g, x))) : PCQ u w lv W t hi q q (TYX u w lv lo q q o la d) := by
  have b := PC_em (hi := hi) (q := q) cu e
  have e6 : F w 706 = F u 706 := congrArg _ (e.1.1 706 (by simp))
  refine PC_w b hW (by omega) (Nat.le_refl _) (fun gd y h m L g x p => ⟨fun _ => e6, ?_⟩)
  have pb := PRE_b b.1.2.1 b.1 (by omega) p
  have e0 : knc u w = 0 := by show (F w 706 - F u 706).toNat = 0; omega
  have I := hI h m L g x p gd gd.2.2.2.1 (by omega) pb.2 y.2
  rw [← y.1] at I
  rw [e0]
  exact I
theorem PC_pre (a : PCQ u v lv 0 0 hi1 q q (szc v = szc u ∧ F v 706 = F u 706)) (b : PCQ v w lv W t hi q r (TYX v w lv lo q r o la d)) (h1 : hi1 ≤ hi) (hq : q ≤ r) (hY : la → la2) : PCQ u w lv W t hi q r (TYX u w lv lo q r o la2 d) := PC_w (PC_seq a b h1 (Nat.le_refl _) hq (fun gd o1 o2 y1 y2 => TY_mo (TY_pre a.1 y1.1 y1.2 y2) (Nat.le_refl _) (Nat.le_refl _) hY)) (by omega) (by omega) (Nat.le_refl _) (fun _ z => z)
theorem PC_two (cu : CVI u lv) (a : PCQ u v lv W1 t1 hi1 q s (TYX u v lv lo q s o False d1)) (b : PCQ v w lv W2 t2 hi s r (TYX v w lv lo2 s r o la d2)) (h1 : hi1 ≤ hi) (hq : q ≤ s) (hs : s ≤ r) (hd : lo + 2 * d1 ≤ lo2) (hW : W1 + W2 ≤ W) (ht : t1 + t2 ≤ t) : PCQ u w lv W t hi q r (TYX u w lv lo q r o la (d1 + d2)) := PC_w (PC_seq a b h1 hq hs (fun gd o1 o2 y1 y2 => TY_seq cu a.1 b.1 a.2.1.1 b.2.1.1 o2 y1 y2 hd)) hW ht (Nat.le_refl _) (fun _ z => z)
end
