section
set_option maxRecDepth 100000
def GDc (w : MS) (hi r : Nat) : Prop := F w 714 = 1000000000 ∧ F w 711 = 0 ∧ F w 441 < 24000 ∧ hi ≤ 1500 ∧ r ≤ 400
def OLQ (u w : MS) (q r : Nat) : Prop := (∀ j : Nat, ((j : Nat) : Int) < F u 441 → A w 23 j = A u 23 j) ∧ ∀ pl, pl < q ∨ r ≤ pl → A w 30 pl = A u 30 pl ∧ A w 31 pl = A u 31 pl ∧ A w 32 pl = A u 32 pl
abbrev szc (u : MS) : Nat := (F u 441).toNat
abbrev knc (u w : MS) : Nat := (F w 706 - F u 706).toNat
def PCQ (u w : MS) (lv : Nat) (W : Int) (t hi q r : Nat) (Y : Prop) : Prop := KMc u w lv ∧ (F u 706 ≤ F w 706 ∧ F w 706 ≤ F u 706 + ((t : Nat) : Int)) ∧ (F w 711 = 0 → F w 441 ≤ F u 441 + W) ∧ (GDc w hi r → OLQ u w q r ∧ Y)
def PREc (u w : MS) (lv lo o : Nat) (la : Prop) (h m : Nat) (L : List Nat) (g x : Nat) : Prop := 2 * h ≤ lo + 16 ∧ (F u 706 - A u 40 lv ≤ ((m : Nat) : Int) ∧ ((m : Nat) : Int) + A w 41 lv ≤ 40 + (F u 706 - A u 40 lv)) ∧ L.length ≤ o ∧ (la → L = []) ∧ (g ≠ 0 ↔ F u 712 = 1) ∧ (g = 0 → x = 0)
def TYX (u w : MS) (lv lo q r o : Nat) (la : Prop) (d : Nat) : Prop := ∀ h m L g x, PREc u w lv lo o la h m L g x → (g ≠ 0 → F w 706 = F u 706) ∧ SGc w (szc u) (szc w) q r [] h h m L g x (some (h + d, m + knc u w, L, g, x))
def CMX (u : MS) (c : Nat) (ps : Nat → Nat) (Q : Nat) : Prop := CSX u c ps ∧ (WDc u 36 ∧ WDc u 1) ∧ (0 ≤ F u 442 ∧ F u 442 ≤ 666) ∧ F u 449 = (if Q < 400 then ((Q : Nat) : Int) else 400)
section
variable {u v w : MS} {lv t t1 t2 hi hi1 lo lo2 o o2 q r s c h m g x d d1 d2 a b z : Nat} {W W1 W2 : Int} {Y Y1 Y2 la la2 : Prop} {L : List Nat} {H : List (Nat × Tyc)} {oo : Option Tyc} {l : List Int} {ps : Nat → Nat} {Q : Nat}
theorem CMX_k (h : CMX u c ps Q) (g : KMF u w) : CMX w c ps Q := by
  obtain ⟨h1, ⟨h2, h3⟩, h4, h5⟩ := h
  refine ⟨CSX_k h1 g, ⟨?_, ?_⟩, by rw [g.F (by simp)]; exact h4, by rw [g.F (by simp)]; exact h5⟩
  · unfold WDc at h2 ⊢
    rw [g.F (by simp)]
    refine ⟨h2.1, h2.2.1, h2.2.2.1, h2.2.2.2.1, fun k hk => ?_⟩
    rw [g.A (by simp), g.A (by simp)]; exact h2.2.2.2.2 k hk
  · unfold WDc at h3 ⊢
    rw [g.F (by simp)]
    refine ⟨h3.1, h3.2.1, h3.2.2.1, h3.2.2.2.1, fun k hk => ?_⟩
    rw [g.A (by simp), g.A (by simp)]; exact h3.2.2.2.2 k hk
theorem GD_u (cv : CVI v lv) (k : KMc v w lv) (g : GDc w hi r) (h1 : hi1 ≤ hi) (h2 : s ≤ r) : GDc v hi1 s := by
  obtain ⟨g1, g2, g3, g4, g5⟩ := g
  have := cv.2.2.2.2.1
  have := k.2.2.1
  have := k.2.2.2.1
  exact ⟨by omega, k.2.2.2.2.1 g2, by omega, by omega, by omega⟩
theorem OLQ.rf : OLQ u u q r := ⟨fun _ _ => rfl, fun _ _ => ⟨rfl, rfl, rfl⟩⟩
theorem OLQ.tr (k : F u 441 ≤ F v 441) (a : OLQ u v q s) (b : OLQ v w s r) (h1 : q ≤ s) (h2 : s ≤ r) : OLQ u w q r := ⟨fun j hj => (b.1 j (by omega)).trans (a.1 j hj), fun pl hp => by
  obtain ⟨a1, a2, a3⟩ := a.2 pl (by omega)
  obtain ⟨b1, b2, b3⟩ := b.2 pl (by omega)
  exact ⟨b1.trans a1, b2.trans a2, b3.trans a3⟩⟩
theorem OLQ.mo (a : OLQ u v q s) {q2 s2 : Nat} (h1 : q2 ≤ q) (h2 : s ≤ s2) : OLQ u v q2 s2 := ⟨a.1, fun pl hp => a.2 pl (by omega)⟩
theorem PC_seq (a : PCQ u v lv W1 t1 hi1 q s Y1) (b : PCQ v w lv W2 t2 hi s r Y2) (h1 : hi1 ≤ hi) (hq : q ≤ s) (hs : s ≤ r) (hY : GDc w hi r → OLQ u v q s → OLQ v w s r → Y1 → Y2 → Y) : PCQ u w lv (W1 + W2) (t1 + t2) hi q r Y := by
  obtain ⟨a1, a2, a3, a4⟩ := a
  obtain ⟨b1, b2, b3, b4⟩ := b
  refine ⟨KMc.tr a1 b1, by omega, fun e => ?_, fun g => ?_⟩
  · have := b3 e
    have := a3 (b1.2.2.2.2.1 e)
    omega
  · obtain ⟨o2, y2⟩ := b4 g
    obtain ⟨o1, y1⟩ := a4 (GD_u a1.2.1 b1 g h1 hs)
    exact ⟨OLQ.tr a1.2.2.1 o1 o2 hq hs, hY g o1 o2 y1 y2⟩
theorem PC_w (a : PCQ u w lv W1 t1 hi1 q r Y1) (h1 : W1 ≤ W) (h2 : t1 ≤ t) (h3 : hi1 ≤ hi) (hY : GDc w hi r → Y1 → Y) : PCQ u w lv W t hi q r Y := by
  obtain ⟨a1, a2, a3, a4⟩ := a
  refine ⟨a1, by omega, fun e => by have := a3 e; omega, fun g => ?_⟩
  obtain ⟨o1, y1⟩ := a4 ⟨g.1, g.2.1, g.2.2.1, by have := g.2.2.2.1; omega, g.2.2.2.2⟩
  exact ⟨o1, hY g y1⟩
theorem PC_q (a : PCQ u w lv W t hi q r Y) {q2 r2 : Nat} (h1 : q2 ≤ q) (h2 : r ≤ r2) : PCQ u w lv W t hi q2 r2 Y := by
  obtain ⟨a1, a2, a3, a4⟩ := a
  refine ⟨a1, a2, a3, fun g => ?_⟩
  obtain ⟨o1, y1⟩ := a4 ⟨g.1, g.2.1, g.2.2.1, g.2.2.2.1, by have := g.2.2.2.2; omega⟩
  exact ⟨o1.mo h1 h2, y1⟩
theorem PC_rf (h : CVI u lv) : PCQ u u lv 0 0 hi q q True := ⟨KMc.rf h, by omega, fun _ => by omega, fun _ => ⟨OLQ.rf, trivial⟩⟩
theorem PC_em (h : CVI u lv) (e : EMc u w l) : PCQ u w lv ((l.length : Nat) : Int) 0 hi q q (szc w = szc u + l.length ∧ ∀ k, k < l.length → A w 23 (szc u + k) = l.getD k 0) := by
  have e6 : F w 706 = F u 706 := congrArg _ (e.1.1 706 (by simp))
  refine ⟨EMc.km h e, by omega, fun _ => e.2.1.2.2, fun g => ⟨⟨e.2.2.1, fun pl _ => ?_⟩, ?_, fun k hk => (e.2.2.2 g.2.2.1).2 k hk⟩⟩
  · refine ⟨?_, ?_, ?_⟩
    · show (w.2.2.1 30 pl).toInt = _; rw [e.1.2.2.1 30 (by simp)]; rfl
    · show (w.2.2.1 31 pl).toInt = _; rw [e.1.2.2.1 31 (by simp)]; rfl
    · show (w.2.2.1 32 pl).toInt = _; rw [e.1.2.2.1 32 (by simp)]; rfl
  · have := (e.2.2.2 g.2.2.1).1
    have := h.1
    show (F w 441).toNat = (F u 441).toNat + _
    omega
theorem PC_fr (k : KMc u w lv) (f : FR [714] [] [42] [] u w) : PCQ u w lv 0 0 hi q q (szc w = szc u ∧ F w 706 = F u 706) := by
  have e6 : F w 706 = F u 706 := congrArg _ (f.1 706 (by simp))
  have e4 : F w 441 = F u 441 := congrArg _ (f.1 441 (by simp))
  refine ⟨k, by omega, fun _ => by omega, fun g => ⟨⟨fun j _ => ?_, fun pl _ => ⟨?_, ?_, ?_⟩⟩, by show (F w 441).toNat = _; rw [e4], e6⟩⟩
  · show (w.2.2.1 23 j).toInt = _; rw [f.2.2.1 23 (by simp)]; rfl
  · show (w.2.2.1 30 pl).toInt = _; rw [f.2.2.1 30 (by simp)]; rfl
  · show (w.2.2.1 31 pl).toInt = _; rw [f.2.2.1 31 (by simp)]; rfl
  · show (w.2.2.1 32 pl).toInt = _; rw [f.2.2.1 32 (by simp)]; rfl
theorem TBL_k (k : KMF v w) (o : OLQ v w s r) {q1 r1 : Nat} (hd : r1 ≤ s ∨ r ≤ q1) : TBLc v w q1 r1 := ⟨k.F (by simp), k.F (by simp), by rw [k.F (by simp)]; omega, fun f => k.A (by simp), fun pl h1 h2 => o.2 pl (by omega)⟩
theorem SG_kw (cv : CVI v lv) {q1 r1 : Nat} (y : SGc v a b q1 r1 H z h m L g x oo) (k : KMF v w) (o : OLQ v w s r) (hb : b ≤ szc v) (hd : r1 ≤ s ∨ r ≤ q1) : SGc w a b q1 r1 H z h m L g x oo := SG_k y (fun j _ j2 _ => o.1 j (by have := cv.1; have : b ≤ (F v 441).toNat := hb; omega)) (TBL_k k o hd)
theorem szc_le (cv : CVI u lv) (k : KMc u w lv) : szc u ≤ szc w := by
  have := cv.1
  have := k.2.2.1
  show (F u 441).toNat ≤ (F w 441).toNat
  omega
theorem PRE_b (cv : CVI w lv) (k : KMc u w lv) (h6 : F u 706 ≤ F w 706) (p : PREc u w lv lo o la h m L g x) : m + knc u w ≤ 40 ∧ 2 * h ≤ lo + 16 := by
  obtain ⟨p1, ⟨p2, p3⟩, -⟩ := p
  obtain ⟨-, -, -, -, -, -, -, c1, c2⟩ := cv
  have e40 := k.2.2.2.2.2.2.1 lv (Nat.le_refl _)
  refine ⟨?_, p1⟩
  show m + (F w 706 - F u 706).toNat ≤ 40
  omega
theorem PRE_1 (p : PREc u w lv lo o la h m L g x) (k : KMc v w lv) : PREc u v lv lo o la h m L g x := by
  obtain ⟨p1, ⟨p2, p3⟩, p4⟩ := p
  have := k.2.2.2.2.2.2.2.2
  exact ⟨p1, ⟨p2, by omega⟩, p4⟩
theorem PRE_2 (p : PREc u w lv lo o la h m L g x) (a : KMc u v lv) (h6 : F u 706 ≤ F v 706) (hd : lo + 2 * d ≤ lo2) : PREc v w lv lo2 o la (h + d) (m + knc u v) L g x := by
  obtain ⟨p1, ⟨p2, p3⟩, p4, p5, p6, p7⟩ := p
  have e40 := a.2.2.2.2.2.2.1 lv (Nat.le_refl _)
  have e12 := a.2.2.2.2.2.1.1
  have : ((knc u v : Nat) : Int) = F v 706 - F u 706 := by show (((F v 706 - F u 706).toNat : Nat) : Int) = _; omega
  exact ⟨by omega, ⟨by rw [e40]; omega, by rw [e40]; omega⟩, p4, p5, by rw [e12]; exact p6, p7⟩
theorem PRE_mo (p : PREc u w lv lo o la h m L g x) (h1 : lo ≤ lo2) (h2 : o ≤ o2) (h3 : la2 → la) : PREc u w lv lo2 o2 la2 h m L g x := by
  obtain ⟨p1, p2, p4, p5, p6⟩ := p
  exact ⟨by omega, p2, by omega, fun z => p5 (h3 z), p6⟩
theorem TY_mo (y : TYX u w lv lo2 q r o2 la2 d) (h1 : lo ≤ lo2) (h2 : o ≤ o2) (h3 : la2 → la) : TYX u w lv lo q r o la d := fun h m L g x p => y h m L g x (PRE_mo p h1 h2 h3)
theorem kn_tr (h1 : F u 706 ≤ F v 706) (h2 : F v 706 ≤ F w 706) : knc u v + knc v w = knc u w := by
  show (F v 706 - F u 706).toNat + (F w 706 - F v 706).toNat = (F w 706 - F u 706).toNat
  omega
theorem TY_seq (cu : CVI u lv) (a : KMc u v lv) (b : KMc v w lv) (h1 : F u 706 ≤ F v 706) (h2 : F v 706 ≤ F w 706) (ol : OLQ v w s r) (y1 : TYX u v lv lo q s o False d1) (y2 : TYX v w lv lo2 s r o la d2) (hd : lo + 2 * d1 ≤ lo2) : TYX u w lv lo q r o la (d1 + d2) := by
  intro h m L g x p
  obtain ⟨n1, i1⟩ := y1 h m L g x (PRE_mo (PRE_1 p b) (Nat.le_refl _) (Nat.le_refl _) (fun z => z.elim))
  obtain ⟨n2, i2⟩ := y2 (h + d1) (m + knc u v) L g x (PRE_2 p a h1 hd)
  refine ⟨fun hg => (n2 hg).trans (n1 hg), ?_⟩
  have j1 := SG_kw a.2.1 i1 b.1 ol (Nat.le_refl _) (Or.inl (Nat.le_refl _))
  have j := SG_seq j1 (SG_z (z2 := h) i2 (by omega)) (by omega) (fun hg => by
    have := n1 hg
    show m + (F v 706 - F u 706).toNat = m
    omega)
  rw [List.append_nil, Nat.add_assoc, Nat.add_assoc, kn_tr h1 h2] at j
  exact j
theorem TY_pre (a : KMc u v lv) (e1 : szc v = szc u) (e2 : F v 706 = F u 706) (y : TYX v w lv lo q r o la d) : TYX u w lv lo q r o la d := by
  intro h m L g x p
  have e0 : knc u v = 0 := by show (F v 706 - F u 706).toNat = 0; omega
  have p2 := PRE_2 (d := 0) p a (by omega) (Nat.le_refl _)
  rw [e0] at p2
  obtain ⟨n2, i2⟩ := y h m L g x p2
  refine ⟨fun hg => (n2 hg).trans e2, ?_⟩
  rw [e1, show knc v w = knc u w by show (F w 706 - F v 706).toNat = _; rw [e2]] at i2
  exact i2
theorem PC_tail (a : PCQ u v lv W1 t hi1 q r (TYX u v lv lo q r o la2 d1)) (e : EMc v w l) (hq : q ≤ r) (h1 : hi1 ≤ hi) (hW : W1 + ((l.length : Nat) : Int) ≤ W) (h3 : la2 → la) (hI : ∀ h m L g x, PREc u w lv lo o la h m L g x → GDc w hi r → hi ≤ 1500 → m + knc u v ≤ 40 → 2 * h ≤ lo + 16 → (∀ k, k < l.length → A w 23 (szc v + k) = l.getD k 0) → SGc w (szc v) (szc v + l.length) r r [] h (h + d1) (m + knc u v) L g x (some (h + d2, m + knc u v, L, g, x))) : PCQ u w lv W t hi q r (TYX u w lv lo q r o la d2) := by
  have cv := a.1.2.1
  have b := PC_em (hi := hi) (q := r) cv e
  have e6 : F w 706 = F v 706 := congrArg _ (e.1.1 706 (by simp))
  have h6 := a.2.1.1
  have k1 := a.1
  have k2 := b.1
  refine PC_w (PC_seq a b h1 hq (Nat.le_refl _) (fun gd o1 o2 y1 y2 h m L g x p => ?_)) hW (by omega) (Nat.le_refl _) (fun _ z => z)
  have p1 := PRE_1 p k2
  obtain ⟨n1, i1⟩ := y1 h m L g x (PRE_mo p1 (Nat.le_refl _) (Nat.le_refl _) h3)
  have pb := PRE_b cv k1 h6 p1
  have I := hI h m L g x p gd gd.2.2.2.1 pb.1 pb.2 y2.2
  have j1 := SG_kw cv i1 k2.1 o2 (Nat.le_refl _) (Or.inl (Nat.le_refl _))
  have j := SG_seq j1 I (by omega) (fun hg => by
    have := n1 hg
    show m + (F v 706 - F u 706).toNat = m
    omega)
  refine ⟨fun hg => e6.trans (n1 hg), ?_⟩
  rw [List.append_nil, ← y2.1, show knc u v = knc u w by show (F v 706 - F u 706).toNat = _; rw [← e6]] at j
  exact j
theorem PC_one (cu : CVI u lv) (e : EMc u w l) (hW : ((l.length : Nat) : Int) ≤ W) (hI : ∀ h m L g x, PREc u w lv lo o la h m L g x → GDc w hi q → hi ≤ 1500 → m ≤ 40 → 2 * h ≤ lo + 16 → (∀ k, k < l.length → A w 23 (szc u + k) = l.getD k 0) → SGc w (szc u) (szc u + l.length) q q [] h h m L g x (some (h + d, m, L, g, x))) : PCQ u w lv W t hi q q (TYX u w lv lo q q o la d) := by
  have b := PC_em (hi := hi) (q := q) cu e
  have e6 : F w 706 = F u 706 := congrArg _ (e.1.1 706 (by simp))
  refine PC_w b hW (by omega) (Nat.le_refl _) (fun gd y h m L g x p => ⟨fun _ => e6, ?_⟩)
  have pb := PRE_b b.1.2.1 b.1 (by omega) p
  have e0 : knc u w = 0 := by show (F w 706 - F u 706).toNat = 0; omega
  have I := hI h m L g x p gd gd.2.2.2.1 (by omega) pb.2 y.2
  rw [← y.1] at I
  rw [e0]
  exact I
theorem PC_pre (a : PCQ u v lv 0 0 hi1 q q (szc v = szc u ∧ F v 706 = F u 706)) (b : PCQ v w lv W t hi q r (TYX v w lv lo q r o la d)) (h1 : hi1 ≤ hi) (hq : q ≤ r) (hY : la → la2) : PCQ u w lv W t hi q r (TYX u w lv lo q r o la2 d) := PC_w (PC_seq a b h1 (Nat.le_refl _) hq (fun gd o1 o2 y1 y2 => TY_mo (TY_pre a.1 y1.1 y1.2 y2) (Nat.le_refl _) (Nat.le_refl _) hY)) (by omega) (by omega) (Nat.le_refl _) (fun _ z => z)
theorem PC_two (cu : CVI u lv) (a : PCQ u v lv W1 t1 hi1 q s (TYX u v lv lo q s o False d1)) (b : PCQ v w lv W2 t2 hi s r (TYX v w lv lo2 s r o la d2)) (h1 : hi1 ≤ hi) (hq : q ≤ s) (hs : s ≤ r) (hd : lo + 2 * d1 ≤ lo2) (hW : W1 + W2 ≤ W) (ht : t1 + t2 ≤ t) : PCQ u w lv W t hi q r (TYX u w lv lo q r o la (d1 + d2)) := PC_w (PC_seq a b h1 hq hs (fun gd o1 o2 y1 y2 => TY_seq cu a.1 b.1 a.2.1.1 b.2.1.1 o2 y1 y2 hd)) hW ht (Nat.le_refl _) (fun _ z => z)
end
end
section
set_option maxRecDepth 100000
def WBc (ps : Nat → Nat) (lo hi : Nat) : Int := 12 * ((hi - lo : Nat) : Int) + ((ps hi - ps lo : Nat) : Int)
def CMP (u : MS) (lv c : Nat) (ps : Nat → Nat) (Q o lo : Nat) : Prop := CVI u lv ∧ CMX u c ps Q ∧ F u 713 = 0 ∧ lv ≤ o ∧ F u 706 ≤ ((lo : Nat) : Int)
def PXS (u w : MS) (lv : Nat) (ps : Nat → Nat) (lo hi q r o : Nat) (la : Prop) (d : Nat) : Prop := PCQ u w lv (WBc ps lo hi) (hi - lo) hi q r (TYX u w lv lo q r o la d)
def ExS (N : Nat) (S : SF_Cm_fun) (o cl : Nat) : Prop := ∀ (f : Nat) (u : MS) (lv c Q : Nat) (ps : Nat → Nat) (n lo hi a b q r la : Nat), f ≤ 120 → CMP u lv c ps Q o lo → XPc u f o cl n lo hi a b q r → b ≤ 8000 → hi ≤ c → r ≤ Q → la ≤ 1 → OK (fun w _ => PXS u w lv ps lo hi q r o (la = 1) 1) (S.2.2.2.2.2.2.2.2.2.2.1 u (I ((n : Nat) : Int)) (I ((la : Nat) : Int)))
def RoS (N : Nat) (S : SF_Cm_fun) (o : Nat) : Prop := ∀ (f k : Nat) (u : MS) (lv c Q : Nat) (ps : Nat → Nat) (n lo hi a b q r : Nat), f ≤ 120 → CMP u lv c ps Q o lo → ORc u 1 (XPc u f o 3) k n lo hi a b q r → b ≤ 8000 → hi ≤ c → r ≤ Q → OK (fun w _ => PXS u w lv ps lo hi q r o False k) (S.2.2.2.2.2.2.2.2.2.1 u (I ((n : Nat) : Int)))
section
variable {u v w : MS} {N lv t hi hi2 lo lo2 o o2 q r s c h m g x d a b k n f Q : Nat} {ps : Nat → Nat} {S : SF_Cm_fun} {la : Prop}
theorem WB_1 (hc : CSX u c ps) (h1 : lo ≤ lo2) (h2 : lo2 ≤ hi2) (h3 : hi2 ≤ hi) (h4 : hi ≤ c) : WBc ps lo2 hi2 + 12 * ((hi - hi2 : Nat) : Int) + 12 * ((lo2 - lo : Nat) : Int) ≤ WBc ps lo hi := by
  have := ps_le hc (a := lo) (b := lo2) h1 (by omega)
  have := ps_le hc (a := lo2) (b := hi2) h2 (by omega)
  have := ps_le hc (a := hi2) (b := hi) h3 (by omega)
  unfold WBc
  omega
theorem WB_2 (hc : CSX u c ps) (h1 : lo ≤ m) (h2 : m ≤ lo2) (h3 : lo2 ≤ hi) (h4 : hi ≤ c) : WBc ps lo m + WBc ps lo2 hi + 12 * ((lo2 - m : Nat) : Int) ≤ WBc ps lo hi := by
  have := ps_le hc (a := lo) (b := m) h1 (by omega)
  have := ps_le hc (a := m) (b := lo2) h2 (by omega)
  have := ps_le hc (a := lo2) (b := hi) h3 (by omega)
  unfold WBc
  omega
theorem WB_0 : 12 * ((hi - lo : Nat) : Int) ≤ WBc ps lo hi := by unfold WBc; omega
theorem CMP_k (h : CMP u lv c ps Q o lo) (k : KMc u w lv) (h6 : F w 706 ≤ ((lo2 : Nat) : Int)) (ho : o ≤ o2) : CMP w lv c ps Q o2 lo2 := ⟨k.2.1, CMX_k h.2.1 k.1, by rw [k.2.2.2.2.2.1.2]; exact h.2.2.1, by have := h.2.2.2.1; omega, h6⟩
theorem CMP_m (h : CMP u lv c ps Q o lo) (hl : lo ≤ lo2) (ho : o ≤ o2) : CMP u lv c ps Q o2 lo2 := ⟨h.1, h.2.1, h.2.2.1, by have := h.2.2.2.1; omega, by have := h.2.2.2.2; omega⟩
theorem CMP_s (h : CMP u lv c ps Q o lo) (p : PXS u w lv ps lo hi q r o la d) (hl : lo ≤ hi) (h2 : hi ≤ lo2) (ho : o ≤ o2) : CMP w lv c ps Q o2 lo2 := CMP_k h p.1 (by have := p.2.1.2; have := h.2.2.2.2; omega) ho
theorem CMP_c (h : CMP u lv c ps Q o lo) : CSX u c ps ∧ c ≤ 4000 := ⟨h.2.1.1, h.2.1.1.2.1.2⟩
theorem PX_0 (h : CVI u lv) : PXS u u lv ps lo lo q q o la 0 := PC_w (PC_rf h) (by unfold WBc; omega) (by omega) (Nat.le_refl _) (fun gd _ h m L g x p => ⟨fun _ => rfl, by
  rw [show knc u u = 0 by show (F u 706 - F u 706).toNat = 0; omega]
  exact SG_nl⟩)
theorem PX_mo (p : PXS u w lv ps lo2 hi2 q r o2 la d) (hc : CSX u c ps) (h1 : lo ≤ lo2) (h2 : lo2 ≤ hi2) (h3 : hi2 ≤ hi) (h4 : hi ≤ c) (ho : o ≤ o2) {la2 : Prop} (hl : la → la2) : PXS u w lv ps lo hi q r o la2 d := PC_w p (by have := WB_1 hc h1 h2 h3 h4; omega) (by omega) h3 (fun _ y => TY_mo y h1 ho hl)
theorem RW_2k {E : Nat → Nat → Nat → Nat → Nat → Nat → Nat → Prop} (hb : BdE E) : ∀ {k n lo hi a b q r : Nat}, RWc u 1 E k n lo hi a b q r → lo + 2 * k ≤ hi + 1
  | 0, _, _, _, _, _, _, _, h => h.elim
  | k + 1, n, lo, hi, a, b, q, r, h => by
    obtain ⟨m, c, s, e, h | ⟨h1, n2, h2, h3⟩⟩ := h
    · have := hb _ _ _ _ _ _ _ e
      unfold HDc at this
      omega
    · have := hb _ _ _ _ _ _ _ e
      unfold HDc at this
      have := RW_2k hb h3
      omega
theorem OR_2k {E : Nat → Nat → Nat → Nat → Nat → Nat → Nat → Prop} (hb : BdE E) (h : ORc u 1 E k n lo hi a b q r) : lo + 2 * k ≤ hi + 1 := by
  rcases h with h | ⟨-, h⟩
  · omega
  · exact RW_2k hb h
theorem rowX_ok (hE : ExS N S o 3) : ∀ (k M : Nat) (n lo hi a b q r : Nat) (u : MS), f ≤ 120 → CMP u lv c ps Q o lo → RWc u 1 (XPc u f o 3) k n lo hi a b q r → b ≤ 8000 → hi ≤ c → r ≤ Q → k + 1 ≤ M → OK (fun w _ => PXS u w lv ps lo hi q r o False k) (hg_Cm_row N S M u (I ((n : Nat) : Int)))
  | 0, _, _, _, _, _, _, _, _, _, _, _, h, _, _, _, _ => h.elim
  | k + 1, M, n, lo, hi, a, b, q, r, u, hf, hu, h, hb, hh, hQ, hM => by
    obtain ⟨M, rfl⟩ : ∃ M2, M = M2 + 1 + 1 := ⟨M - 2, by omega⟩
    show OK _ (hb_Cm_row_2 N S (hg_Cm_row N S (M + 1)) u (I ((n : Nat) : Int)))
    obtain ⟨m, c2, s, e, h⟩ := h
    have he := XP_bd f o 3 _ _ _ _ _ _ _ e
    unfold HDc at he
    have hms : m ≤ hi ∧ c2 ≤ b ∧ s ≤ r := by
      rcases h with ⟨-, -, h1, h2, h3⟩ | ⟨-, n2, -, h3⟩
      · omega
      · have := (RW_hd (XP_bd f o 3) h3).1; unfold HDc at this; omega
    unfold hb_Cm_row_2
    refine k_c (y := 0) rfl ⟨by omega, by omega⟩ ⟨by decide, by decide⟩ (fun z => absurd z (by omega)) (fun _ => ?_)
    rw [ok_bnd]
    refine ok_mono (hE f u lv c Q ps n lo m a c2 q s 0 hf hu e (by clear h; omega) (by clear h; omega) (by clear h; omega) (by omega)) (fun v _ p1 => e_in ⟨by omega, by omega⟩ (by decide) ?_)
    rw [tnI (n := n) rfl (by omega), I_A (k := 21), p1.1.1.A (j := 21) (by simp)]
    rcases h with ⟨k0, h0, rfl, -, rfl⟩ | ⟨-, n2, h2, h3⟩
    · rw [h0]
      subst k0
      show OK _ (hb_Cm_row_2 N S (hg_Cm_row N S M) v (I 0))
      unfold hb_Cm_row_2
      refine k_c (y := 0) rfl ⟨by decide, by decide⟩ ⟨by decide, by decide⟩ (fun _ => ok_some.mpr ?_) (fun z => absurd rfl z)
      exact PC_w p1 (Int.le_refl _) (Nat.le_refl _) (Nat.le_refl _) (fun _ y => TY_mo y (Nat.le_refl _) (Nat.le_refl _) (fun z => absurd z (by decide)))
    · rw [h2]
      have g1 := (RW_hd (XP_bd f o 3) h3).1
      unfold HDc at g1
      refine ok_mono (rowX_ok hE k (M + 1) n2 (m + 1) hi c2 b s r v hf (CMP_s hu p1 (by omega) (by omega) (Nat.le_refl _)) (RW_k (XP_k (Nat.le_refl _) (Nat.le_refl _)) (XP_bd f o 3) h3 (KN_m p1.1.1)) hb hh hQ (by omega)) (fun w _ p2 => ?_)
      have wb := WB_2 (CMP_c hu).1 (lo := lo) (m := m) (lo2 := m + 1) (hi := hi) (by omega) (by omega) (by omega) hh
      have p1' : PXS u v lv ps lo m q s o False 1 := PC_w p1 (Int.le_refl _) (Nat.le_refl _) (Nat.le_refl _) (fun _ y => TY_mo y (Nat.le_refl _) (Nat.le_refl _) (fun z => absurd z (by decide)))
      have := PC_two hu.1 p1' p2 (by omega) (by omega) (by omega) (hd := by omega) (W := WBc ps lo hi) (t := hi - lo) (by omega) (by omega)
      rw [Nat.add_comm] at this
      exact this
theorem rowC_ok (hE : ExS N S o 3) (hN : 10000 ≤ N) {S2 : SF_Cm_fun} (h2 : S2.2.2.2.2.2.2.2.2.2.1 = hm_Cm_row N S) : RoS N S2 o := by
  intro f k u lv c Q ps n lo hi a b q r hf hu h hb hh hQ
  rw [h2]
  obtain ⟨N, rfl⟩ : ∃ N2, N = N2 + 1 := ⟨N - 1, by omega⟩
  unfold hm_Cm_row hb_Cm_row_0
  rcases h with ⟨rfl, rfl, rfl, rfl, rfl⟩ | ⟨h1, h⟩
  · show OK _ (hb_Cm_row_2 (N + 1) S (hg_Cm_row (N + 1) S N) u (I 0))
    unfold hb_Cm_row_2
    exact k_c (y := 0) rfl ⟨by decide, by decide⟩ ⟨by decide, by decide⟩ (fun _ => ok_some.mpr (PX_0 hu.1)) (fun z => absurd rfl z)
  · have := RW_cnt (XP_bd f o 3) h
    exact rowX_ok hE k (N + 1) n lo hi a b q r u hf hu h hb hh hQ (by omega)
end
end
section
set_option maxRecDepth 100000
def LiSc (N : Nat) (S : SF_Cm_fun) (o : Nat) : Prop := ∀ (f : Nat) (u : MS) (lv c Q : Nat) (ps : Nat → Nat) (n lo hi a b q r : Nat), f ≤ 120 → CMP u lv c ps Q o lo → HDc n lo hi a b q r → TLc u (XPc u f (o + 1) 3) n lo hi a q r → b ≤ 8000 → hi ≤ c → r ≤ Q → OK (fun w _ => PXS u w lv ps lo hi q r o False 1) (S.2.2.2.2.2.2.2.2.1 u (I ((n : Nat) : Int)))
def CoS (N : Nat) (S : SF_Cm_fun) (o cl : Nat) : Prop := ∀ (f : Nat) (u : MS) (lv c Q : Nat) (ps : Nat → Nat) (n lo hi a b q r la : Nat), f ≤ 120 → CMP u lv c ps Q o lo → XPc u f o cl n lo hi a b q r → (8 ≤ A u 16 n ∧ A u 16 n ≤ 13) ∨ (17 ≤ A u 16 n ∧ A u 16 n ≤ 21) → b ≤ 8000 → hi ≤ c → r ≤ Q → la ≤ 1 → OK (fun w _ => PXS u w lv ps lo hi q r o (la = 1) 1) (S.2.2.2.2.1 u (I ((n : Nat) : Int)) (I ((la : Nat) : Int)))
def CaS (N : Nat) (S : SF_Cm_fun) (o cl : Nat) : Prop := ∀ (f : Nat) (u : MS) (lv c Q : Nat) (ps : Nat → Nat) (n lo hi a b q r la : Nat), f ≤ 120 → CMP u lv c ps Q o lo → XPc u f o cl n lo hi a b q r → A u 16 n = 14 → b ≤ 8000 → hi ≤ c → r ≤ Q → la ≤ 1 → OK (fun w _ => PXS u w lv ps lo hi q r o (la = 1) 1) (S.2.2.2.2.2.2.1 u (I ((n : Nat) : Int)) (I ((la : Nat) : Int)))
def ApS (N : Nat) (S : SF_Cm_fun) (o cl : Nat) : Prop := ∀ (f : Nat) (u : MS) (lv c Q : Nat) (ps : Nat → Nat) (n lo hi a b q r la : Nat), f ≤ 120 → CMP u lv c ps Q o lo → XPc u f o cl n lo hi a b q r → A u 16 n = 15 → b ≤ 8000 → hi ≤ c → r ≤ Q → la ≤ 1 → OK (fun w _ => PXS u w lv ps lo hi q r o (la = 1) 1) (S.2.2.2.2.2.1 u (I ((n : Nat) : Int)) (I ((la : Nat) : Int)))
def SiS (N : Nat) (S : SF_Cm_fun) (o : Nat) : Prop := ∀ (f j : Nat) (u : MS) (lv c Q : Nat) (ps : Nat → Nat) (m lo hi a b q r : Nat), f ≤ 120 → CMP u lv c ps Q o lo → SFc u (XPc u f o 1) hi b r j m lo a q 0 none none → lo < hi → b ≤ 8000 → hi ≤ c → r ≤ Q → OK (fun w _ => PXS u w lv ps lo hi q r o False 1) (S.2.2.2.2.2.2.2.1 u (I ((m : Nat) : Int)))
section
variable {u v w : MS} {N lv t hi hi2 lo lo2 o o2 q r s c h m g x d a b k n f Q cl : Nat} {ps : Nat → Nat} {S : SF_Cm_fun} {la : Prop}
theorem listC_ok (hE : ExS N S (o + 1) 3) (hR : RoS N S (o + 1)) {S2 : SF_Cm_fun} (h2 : S2.2.2.2.2.2.2.2.2.1 = hm_Cm_list N S) : LiSc N S2 o := by
  intro f u lv c Q ps n lo hi a b q r hf hu hd h hb hh hQ
  rw [h2]
  unfold HDc at hd
  obtain ⟨k, m, mid, c1, s, e18, e19, hk, hr, ht⟩ := h
  have hcs := CMP_c hu
  have g1 := OR_hd (XP_bd f (o + 1) 3) hr
  have g2k := OR_2k (XP_bd f (o + 1) 3) hr
  have hms : mid + 1 ≤ hi ∧ s ≤ r ∧ c1 ≤ b := by
    rcases ht with ⟨-, h1, h3, h4⟩ | ⟨-, x, c2, -, h3, h4⟩
    · omega
    · have := XP_bd f (o + 1) 3 _ _ _ _ _ _ _ h3; unfold HDc at this; omega
  have i1 : inb (I ((n : Nat) : Int)) 8016 = true := (I_inb (by omega) (by omega)).mpr ⟨by omega, by omega⟩
  unfold hm_Cm_list hb_Cm_list_0
  rw [i1, tnI (n := n) rfl (by omega), ck_t, I_A (k := 18), e18, ok_bnd]
  refine ok_mono (hR f k u lv c Q ps m (lo + 1) mid a c1 q s hf (CMP_m hu (by omega) (by omega)) hr (by clear ht; omega) (by clear ht; omega) (by clear ht; omega)) (fun v _ p1 => ?_)
  rw [ck_t, I_A (k := 20), p1.1.1.A (j := 20) (by simp)]
  have cv := CMP_s (o2 := o + 1) (CMP_m hu (lo2 := lo + 1) (o2 := o + 1) (by omega) (by omega)) p1 (by omega) (lo2 := mid + 1) (by omega) (Nat.le_refl _)
  have fin : ∀ v2, PCQ v v2 lv (WBc ps mid (hi - 1) + 3) (hi - 1 - mid) (hi - 1) s r (TYX v v2 lv (mid + 1) s r (o + 1) False 1) → OK (fun w _ => PXS u w lv ps lo hi q r o False 1) (hb_Cm_list_57 N S () v2 (I ((n : Nat) : Int))) := fun v2 p2 => by
    have wb := WB_2 hcs.1 (lo := lo + 1) (m := mid) (lo2 := mid) (hi := hi - 1) (by clear ht; omega) (by clear ht; omega) (by clear ht; omega) (by clear ht; omega)
    have wb2 := WB_1 hcs.1 (lo := lo) (lo2 := lo + 1) (hi2 := hi - 1) (hi := hi) (by omega) (by clear ht; omega) (by clear ht; omega) hh
    have p3 := PC_two hu.1 p1 p2 (by clear ht; omega) (by clear ht; omega) (by clear ht; omega) (hd := by clear ht; omega) (W := WBc ps (lo + 1) (hi - 1) + 3) (t := hi - lo) (by clear ht; omega) (by clear ht; omega)
    unfold hb_Cm_list_57 hb_Cm_list_93
    rw [i1, tnI (n := n) rfl (by omega), ck_t, I_A (k := 19), p3.1.1.A (j := 19) (by simp), e19, lit0q]
    refine k_le ⟨by omega, by omega⟩ ⟨by decide, by decide⟩ (fun z => ok_some.mpr ?_) (fun z => ?_)
    · have : k = 0 := by omega
      subst this
      exact PC_w p3 (by clear ht; omega) (by omega) (by omega) (fun _ y => TY_mo y (by omega) (by omega) (fun z => z))
    · refine put_1 (x := 5) p3.1.2.1.1 ⟨by decide, by decide⟩ (fun w1 e1 => ?_)
      rw [ck_t, I_A (k := 19), (EMc.km p3.1.2.1 e1).1.A (j := 19) (by simp), p3.1.1.A (j := 19) (by simp), e19]
      refine put_B (x := ((k : Nat) : Int)) p3.1.2.1.1.1 e1 ⟨by omega, by omega⟩ (fun w2 e2 => ok_some.mpr ?_)
      have p4 := PC_tail (hi := hi) (W := WBc ps lo hi) (la := False) (d2 := 1) p3 e2 (by clear ht; omega) (by omega) (by simp; clear ht; omega) (fun z => z) (fun h m L g x p _ l15 hm hh hw => by
        have j := SG_lst (u := w2) (a := szc v2) (n := k) (q := r) (z := h) (h := h + (k + 1)) (m := m + knc u v2) (L := L) (g := g) (x := x) (by omega) (by clear ht; omega) hm (hw 0 (by simp)) (hw 1 (by simp)) ⟨by omega, by omega⟩
        rw [show h + (k + 1) - k = h + 1 by omega] at j
        exact j)
      exact PC_w p4 (Int.le_refl _) (Nat.le_refl _) (Nat.le_refl _) (fun _ y => TY_mo y (by omega) (by omega) (fun z => z))
  rcases ht with ⟨e20, rfl, rfl, h4⟩ | ⟨h1, x, c2, e20, h3, h4⟩
  · rw [e20]
    refine k_c (y := 0) rfl ⟨by decide, by decide⟩ ⟨by decide, by decide⟩ (fun _ => ?_) (fun z => absurd rfl z)
    refine put_1 (x := 1) cv.1.1 ⟨by decide, by decide⟩ (fun w1 e1 => ?_)
    refine term_B (x := 6) (y := 0) cv.1.1.1 e1 ⟨by decide, by decide⟩ ⟨by decide, by decide⟩ (fun w2 e2 => fin w2 ?_)
    have p2 := PC_one (hi := mid) (W := 3) (t := 0) (q := s) (lo := mid + 1) (o := o + 1) (la := False) (d := 1) cv.1 e2 (by simp) (fun h m L g x p _ l15 hm hh hw => SG_term (Nat.le_refl _) (by omega) hm (hw 0 (by simp)) (Or.inr (Or.inr ⟨hw 1 (by simp), hw 2 (by simp)⟩)))
    have e0 : WBc ps mid (mid + 1 - 1) = 0 := by unfold WBc; simp
    rw [e0]
    exact PC_w p2 (by omega) (by omega) (by omega) (fun _ y => y)
  · have g2 := XP_bd f (o + 1) 3 _ _ _ _ _ _ _ h3
    unfold HDc at g2
    rw [e20]
    refine k_c (y := 0) rfl ⟨by omega, by omega⟩ ⟨by decide, by decide⟩ (fun z => absurd z (by omega)) (fun _ => ?_)
    rw [ck_t, ok_bnd]
    refine ok_mono (hE f v lv c Q ps x (mid + 1) (hi - 1) c1 c2 s r 0 hf cv (XP_k (Nat.le_refl _) (Nat.le_refl _) _ _ _ _ _ _ _ h3 (KN_m p1.1.1)) (by omega) (by omega) hQ (by omega)) (fun v2 _ p2 => fin v2 ?_)
    have wb := WB_1 hcs.1 (lo := mid) (lo2 := mid + 1) (hi2 := hi - 1) (hi := hi - 1) (by omega) (by omega) (by omega) (by omega)
    exact PC_w p2 (by omega) (by omega) (Nat.le_refl _) (fun _ y => TY_mo y (Nat.le_refl _) (Nat.le_refl _) (fun z => absurd z (by decide)))
theorem expr_okc (hE : ExS N S (o + 1) 3) (hR : RoS N S (o + 1)) (hL : LiSc N S o) (hC : CoS N S o cl) (hA : CaS N S o cl) (hP : ApS N S o cl) (hI : 2 ≤ cl → SiS N S o) (hN : 10000 ≤ N) {S2 : SF_Cm_fun} (h2 : S2.2.2.2.2.2.2.2.2.2.2.1 = hm_Cm_expression N S) : ExS N S2 o cl := by
  intro f u lv c Q ps n lo hi a b q r la hf hu hX hb hh hQ hla
  rw [h2]
  have hX0 := hX
  cases f with
  | zero => exact hX.elim
  | succ f =>
  obtain ⟨hd, htk, ho, hX⟩ := hX
  unfold HDc at hd
  have hcs := CMP_c hu
  have cu := hu.1
  unfold hm_Cm_expression hb_Cm_expression_0
  have i1 : inb (I ((n : Nat) : Int)) 8016 = true := (I_inb (by omega) (by omega)).mpr ⟨by omega, by omega⟩
  rw [i1, tnI (n := n) rfl (by omega), ck_t, ck_t, I_A (k := 16)]
  have dn : ∀ {x : Option (MS × Unit)}, OK (fun w _ => PXS u w lv ps lo hi q r o (la = 1) 1) x → OK (fun w _ => PXS u w lv ps lo hi q r o (la = 1) 1) (bnd x (fun u1 _ => hb_Cm_expression_359 N S () u1)) := fun hx => by
    rw [ok_bnd]
    exact ok_mono hx (fun w _ hw => ok_some.mpr hw)
  have w0 : 12 * ((hi - lo : Nat) : Int) ≤ WBc ps lo hi := WB_0
  rcases hX with ⟨⟨l16, l6, l17, l18⟩, rfl, rfl⟩ | ⟨e16, m, c1, e18, hx, hcn⟩ | ⟨e16, hx⟩ | ⟨e16, hx⟩ | ⟨e16, -⟩ | ⟨e16, -⟩ | ⟨e16, -⟩ | ⟨e16, -⟩ | ⟨e16, -⟩ | ⟨e16, -⟩ | ⟨e16, -⟩ | ⟨e16, -⟩ | ⟨e16, -⟩ | ⟨e16, -⟩ | ⟨e16, -⟩ | ⟨e16, -⟩ | ⟨e16, hcl, j, m, c1, e18, hx, hcn⟩
  · have tv := hcs.1.2.2.2.2.2 lo (by omega)
    obtain ⟨kk, tv1, tv2⟩ := tv
    rcases (by omega : A u 6 lo = 1 ∨ A u 6 lo = 2 ∨ A u 6 lo = 3 ∨ A u 6 lo = 4) with l | l | l | l
    · rw [l16.trans l]
      show OK _ (bnd (hm_Co_put N u 1) (fun u24 _ => ck true (bnd (hm_Cm_term N u24 0 (u24.2.2.1 18 n)) (fun u31 _ => hb_Cm_expression_359 N S () u31))))
      refine put_1 (x := 1) cu.1 ⟨by decide, by decide⟩ (fun w1 e1 => ?_)
      rw [ck_t, I_A (k := 18)]
      refine term_B (x := 0) cu.1.1 e1 ⟨by decide, by decide⟩ (A_r _ _ _) (fun w2 e2 => ok_some.mpr ?_)
      exact PC_one cu e2 (by simp; omega) (fun h m L g x p _ l15 hm hh hw => SG_term (Nat.le_refl _) (by omega) hm (hw 0 (by simp)) (Or.inl (hw 1 (by simp))))
    · rw [l16.trans l]
      show OK _ (bnd (hm_Co_put N u 1) (fun u24 _ => ck true (bnd (hm_Cm_term N u24 1 (u24.2.2.1 18 n)) (fun u31 _ => hb_Cm_expression_359 N S () u31))))
      refine put_1 (x := 1) cu.1 ⟨by decide, by decide⟩ (fun w1 e1 => ?_)
      rw [ck_t, I_A (k := 18)]
      refine term_B (x := 1) cu.1.1 e1 ⟨by decide, by decide⟩ (A_r _ _ _) (fun w2 e2 => ok_some.mpr ?_)
      refine PC_one cu e2 (by simp; omega) (fun h m L g x p _ l15 hm hh hw => SG_term (Nat.le_refl _) (by omega) hm (hw 0 (by simp)) (Or.inr (Or.inl ⟨hw 1 (by simp), ?_⟩)))
      have h2 : A w2 23 (szc u + 2) = A u 18 n := (hw 2 (by simp)).trans ((EMc.km cu e1).1.A (j := 18) (by simp))
      rw [show A w2 23 (szc u + 2) = A u 7 lo from h2.trans l18, show F w2 22 = F u 22 from congrArg _ (e2.1.1 22 (by simp))]
      exact tv2.2.1 (by omega)
    · rw [l16.trans l]
      show OK _ (ck true (br (decide ((u.2.2.1 18 n) = 0)) (hb_Cm_expression_221 N S () u (I ((n : Nat) : Int)) (u.2.2.1 17 n)) (ck true (bnd (hm_Cm_isBound N u (u.2.2.1 18 n) (u.2.2.1 17 n) 0) (fun u51 r51 => br (decide (r51 = 0)) (hb_Cm_expression_221 N S () u51 (I ((n : Nat) : Int)) (u.2.2.1 17 n)) (hb_Cm_expression_227 N S () u51 (I ((n : Nat) : Int))))))))
      have e227 : ∀ v, KMc u v lv → FR [714] [] [42] [] u v → OK (fun w _ => PXS u w lv ps lo (lo + 1) q q o (la = 1) 1) (hb_Cm_expression_227 N S () v (I ((n : Nat) : Int))) := fun v k1 f1 => by
        unfold hb_Cm_expression_227
        refine put_1 (x := 3) k1.2.1.1 ⟨by decide, by decide⟩ (fun w1 e1 => ?_)
        rw [i1, tnI (n := n) rfl (by omega), ck_t, I_A (k := 18)]
        refine put_B k1.2.1.1.1 e1 (A_r _ _ _) (fun w2 e2 => ok_some.mpr ?_)
        refine PC_pre (hi1 := 0) (PC_fr k1 f1) (PC_one k1.2.1 e2 (by simp; omega) (fun h m L g x p _ l15 hm hh hw => SG_name (Nat.le_refl _) (by omega) hm (hw 0 (by simp)))) (by omega) (Nat.le_refl _) (fun z => z)
      have e221 : ∀ v, KMc u v lv → FR [714] [] [42] [] u v → OK (fun w _ => PXS u w lv ps lo (lo + 1) q q o (la = 1) 1) (hb_Cm_expression_221 N S () v (I ((n : Nat) : Int)) (I ((lo : Nat) : Int))) := fun v k1 f1 => by
        unfold hb_Cm_expression_221
        exact fault_B (x := ((lo : Nat) : Int)) (y := 5) k1.2.1 ⟨by omega, by omega⟩ ⟨by decide, by decide⟩ (fun w k2 f2 _ => e227 w (KMc.tr k1 k2) (FR.tr f1 (FR.mo f2 (by simp) (by simp) (by simp) (by simp))))
      rw [ck_t, ck_t, I_A (k := 18), I_A (k := 17), l17]
      refine k_c (y := 0) rfl (A_r _ _ _) ⟨by decide, by decide⟩ (fun _ => e221 u (KMc.rf cu) FR.rf) (fun _ => ?_)
      rw [ok_bnd]
      refine ok_mono (isBound_ok (N := N) (fr := 0) cu (t := lo) (by omega) (by omega) hN) (fun v r hv => ?_)
      have k1 := KM_row cu (FR.mo hv.1 (by simp) (by simp) (by simp) (by simp))
      have f1 : FR [714] [] [42] [] u v := FR.mo hv.1 (by simp) (by simp) (by simp) (by simp)
      exact ok_br.mpr ⟨fun _ => e221 v k1 f1, fun _ => e227 v k1 f1⟩
    · rw [l16.trans l]
      show OK _ (bnd (hm_Cm_notInGuard N u (u.2.2.1 17 n)) (fun u52 _ => bnd (hm_Co_put N u52 2) (fun u54 _ => bnd (hm_Cm_string N u54 (I ((n : Nat) : Int))) (fun u56 _ => hb_Cm_expression_359 N S () u56))))
      rw [I_A (k := 17), l17]
      refine notIn_B cu ⟨by omega, by omega⟩ (fun v k1 f1 _ => ?_)
      refine put_1 (x := 2) k1.2.1.1 ⟨by decide, by decide⟩ (fun w1 e1 => ?_)
      have k2 := KMc.tr k1 (EMc.km k1.2.1 e1)
      refine string_B (t := lo) (n := n) (N := N) k1.2.1.1.1 e1 (CSX_k hcs.1 k2.1) (by omega) (by omega) (by rw [k2.1.A (j := 6) (by simp)]; exact l) (by rw [k2.1.A (j := 18) (by simp), k2.1.A (j := 7) (by simp)]; exact l18) (by omega) (fun w2 l2 e2 h40 hps => ok_some.mpr ?_)
      refine PC_pre (hi1 := 0) (PC_fr k1 (FR.mo f1 (by simp) (by simp) (by simp) (by simp))) (PC_one k1.2.1 e2 (by unfold WBc; simp; omega) (fun h m L g x p _ l15 hm hh hw => ?_)) (by omega) (Nat.le_refl _) (fun z => z)
      have j := SG_str (u := w2) (a := szc v) (n := l2.length) (q := q) (z := h) (h := h) (m := m) (L := L) (g := g) (x := x) (Nat.le_refl _) (by omega) hm (hw 0 (by simp)) (hw 1 (by simp)) h40
      have el : (([2] : List Int) ++ (((l2.length : Nat) : Int) :: l2)).length = 2 + l2.length := by simp; omega
      rw [el]
      exact j
  · rw [e16]
    show OK _ (ck true (bnd (S.2.2.2.2.2.2.2.2.2.2.1 u (u.2.2.1 18 n) (I ((la : Nat) : Int))) (fun u62 _ => hb_Cm_expression_359 N S () u62)))
    rw [ck_t, I_A (k := 18), e18]
    have g1 := XP_bd f (o + 1) 3 _ _ _ _ _ _ _ hx
    unfold HDc at g1
    exact dn (ok_mono (hE f u lv c Q ps m (lo + 1) (hi - 1) a c1 q r la (by omega) (CMP_m hu (by omega) (by omega)) hx (by omega) (by omega) hQ hla) (fun w _ p => PX_mo p hcs.1 (by omega) (by omega) (by omega) hh (by omega) (fun z => z)))
  · rw [e16]
    show OK _ (ck true (bnd (S.2.2.2.2.2.2.2.2.2.1 u (u.2.2.1 18 n)) (fun u68 _ => bnd (hm_Co_put N u68 4) (fun u70 _ => ck true (bnd (hm_Co_put N u70 (u70.2.2.1 19 n)) (fun u78 _ => hb_Cm_expression_359 N S () u78))))))
    obtain ⟨k, m, c1, e18, e19, hk, hr, hcn⟩ := hx
    have g1 := OR_hd (XP_bd f (o + 1) 3) hr
    rw [ck_t, I_A (k := 18), e18, ok_bnd]
    refine ok_mono (hR f k u lv c Q ps m (lo + 1) (hi - 1) a c1 q r (by omega) (CMP_m hu (by omega) (by omega)) hr (by omega) (by omega) hQ) (fun v _ p1 => ?_)
    refine put_1 (x := 4) p1.1.2.1.1 ⟨by decide, by decide⟩ (fun w1 e1 => ?_)
    rw [ck_t, I_A (k := 19), (EMc.km p1.1.2.1 e1).1.A (j := 19) (by simp), p1.1.1.A (j := 19) (by simp), e19]
    refine put_B (x := ((k : Nat) : Int)) p1.1.2.1.1.1 e1 ⟨by omega, by omega⟩ (fun w2 e2 => ok_some.mpr ?_)
    have wb := WB_1 hcs.1 (lo := lo) (lo2 := lo + 1) (hi2 := hi - 1) (hi := hi) (by omega) (by omega) (by omega) hh
    have p4 := PC_tail (hi := hi) (W := WBc ps lo hi) (la := la = 1) (d2 := 1) p1 e2 (by omega) (by omega) (by simp; omega) (fun z => z.elim) (fun h m L g x p _ l15 hm hh hw => by
      have j := SG_tup (u := w2) (a := szc v) (n := k) (q := r) (z := h) (h := h + k) (m := m + knc u v) (L := L) (g := g) (x := x) (by omega) (by omega) hm (hw 0 (by simp)) (hw 1 (by simp)) (by omega)
      rw [show h + k - k = h by omega] at j
      exact j)
    exact PC_w p4 (Int.le_refl _) (by omega) (Nat.le_refl _) (fun _ y => TY_mo y (by omega) (by omega) (fun z => z))
  · rw [e16]
    show OK _ (bnd (S.2.2.2.2.2.2.2.2.1 u (I ((n : Nat) : Int))) (fun u80 _ => hb_Cm_expression_359 N S () u80))
    exact dn (ok_mono (hL f u lv c Q ps n lo hi a b q r (by omega) hu hd hx hb hh hQ) (fun w _ p => PC_w p (Int.le_refl _) (Nat.le_refl _) (Nat.le_refl _) (fun _ y => TY_mo y (Nat.le_refl _) (Nat.le_refl _) (fun z => z.elim))))
  · have cc := hC (f + 1) u lv c Q ps n lo hi a b q r la hf hu hX0 (by omega) hb hh hQ hla
    rw [e16]
    exact dn cc
  · have cc := hC (f + 1) u lv c Q ps n lo hi a b q r la hf hu hX0 (by omega) hb hh hQ hla
    rw [e16]
    exact dn cc
  · have cc := hC (f + 1) u lv c Q ps n lo hi a b q r la hf hu hX0 (by omega) hb hh hQ hla
    rw [e16]
    exact dn cc
  · have cc := hC (f + 1) u lv c Q ps n lo hi a b q r la hf hu hX0 (by omega) hb hh hQ hla
    rw [e16]
    exact dn cc
  · have cc := hC (f + 1) u lv c Q ps n lo hi a b q r la hf hu hX0 (by omega) hb hh hQ hla
    rw [e16]
    exact dn cc
  · have cc := hC (f + 1) u lv c Q ps n lo hi a b q r la hf hu hX0 (by omega) hb hh hQ hla
    rw [e16]
    exact dn cc
  · have cc := hA (f + 1) u lv c Q ps n lo hi a b q r la hf hu hX0 e16 hb hh hQ hla
    rw [e16]
    exact dn cc
  · have cc := hP (f + 1) u lv c Q ps n lo hi a b q r la hf hu hX0 e16 hb hh hQ hla
    rw [e16]
    exact dn cc
  · have cc := hC (f + 1) u lv c Q ps n lo hi a b q r la hf hu hX0 (by omega) hb hh hQ hla
    rcases e16 with e16 | e16
    · rw [e16]
      exact dn cc
    · rw [e16]
      exact dn cc
  · have cc := hC (f + 1) u lv c Q ps n lo hi a b q r la hf hu hX0 (by omega) hb hh hQ hla
    rw [e16]
    exact dn cc
  · have cc := hC (f + 1) u lv c Q ps n lo hi a b q r la hf hu hX0 (by omega) hb hh hQ hla
    rw [e16]
    exact dn cc
  · have cc := hC (f + 1) u lv c Q ps n lo hi a b q r la hf hu hX0 (by omega) hb hh hQ hla
    rw [e16]
    exact dn cc
  · rw [e16]
    show OK _ (ck true (bnd (S.2.2.2.2.2.2.2.1 u (u.2.2.1 18 n)) (fun u100 _ => hb_Cm_expression_359 N S () u100)))
    rw [ck_t, I_A (k := 18), e18]
    exact dn (ok_mono (hI hcl f j u lv c Q ps m lo hi a c1 q r (by omega) hu hx (by omega) (by omega) hh hQ) (fun w _ p => PC_w p (Int.le_refl _) (Nat.le_refl _) (Nat.le_refl _) (fun _ y => TY_mo y (Nat.le_refl _) (Nat.le_refl _) (fun z => z.elim))))
end
end
section
set_option maxRecDepth 100000
section
variable {u v w : MS} {N lv t hi hi2 lo lo2 o o2 q r s c h m g x d a b k n f Q cl : Nat} {ps : Nat → Nat} {S : SF_Cm_fun} {la : Prop}
theorem call_okc2 (hR : RoS N S (o + 1)) (hN : 200010 ≤ N) {S2 : SF_Cm_fun} (h2 : S2.2.2.2.2.2.2.1 = hm_Cm_call N S) : CaS N S2 o cl := by
  intro f u lv c Q ps n lo hi a b q r la hf hu hX e16 hb hh hQ hla
  rw [h2]
  cases f with
  | zero => exact hX.elim
  | succ f =>
  obtain ⟨hd, htk, ho, hX⟩ := hX
  unfold HDc at hd
  have hcs := CMP_c hu
  have cu := hu.1
  obtain ⟨e17, k, m, a2, c1, e19, e20, hk, ha2, hr, hcn⟩ : A u 17 n = ((lo : Nat) : Int) ∧ ∃ k m a2 c : Nat, A u 19 n = ((m : Nat) : Int) ∧ A u 20 n = ((k : Nat) : Int) ∧ k ≤ 6 ∧ a ≤ a2 ∧ ORc u 1 (XPc u f (o + 1) 3) k m (lo + 2) (hi - 1) a2 c q r ∧ c < n := by
    rcases hX with ⟨⟨l16, l6, -⟩, -⟩ | ⟨e, -⟩ | ⟨e, -⟩ | ⟨e, -⟩ | ⟨e, -⟩ | ⟨e, -⟩ | ⟨e, -⟩ | ⟨e, -⟩ | ⟨e, -⟩ | ⟨e, -⟩ | ⟨e, hx⟩ | ⟨e, -⟩ | ⟨e, -⟩ | ⟨e, -⟩ | ⟨e, -⟩ | ⟨e, -⟩ | ⟨e, -⟩
    all_goals first | exact hx | (exfalso; omega)
  have g1 := OR_hd (XP_bd f (o + 1) 3) hr
  have i1 : inb (I ((n : Nat) : Int)) 8016 = true := (I_inb (by omega) (by omega)).mpr ⟨by omega, by omega⟩
  have i2 : inb (I ((lo : Nat) : Int)) 4002 = true := (I_inb (by omega) (by omega)).mpr ⟨by omega, by omega⟩
  have wb := WB_1 hcs.1 (lo := lo) (lo2 := lo + 2) (hi2 := hi - 1) (hi := hi) (by omega) (by omega) (by omega) hh
  have e96 : ∀ (v : MS) (y fv : Int), KMc u v lv → FR [714] [] [42] [] u v → RG fv → ((y = -1 ∧ (F v 714 = 1000000000 → F u 712 = 0 ∧ ∃ fn : Nat, fv = ((fn : Nat) : Int) ∧ ((fn : Nat) : Int) < F u 442 ∧ A u 25 fn = ((k : Nat) : Int))) ∨ ∃ d : Nat, y = ((d : Nat) : Int) ∧ ((d = 29 ∧ k = 2) ∨ (d < 29 ∧ tkc ((d : Nat) : Int) = k))) → OK (fun w _ => PXS u w lv ps lo hi q r o (la = 1) 1) (hb_Cm_call_96 N S () v (I ((n : Nat) : Int)) (I ((la : Nat) : Int)) (I ((lo : Nat) : Int)) (I ((k : Nat) : Int)) (I y) (I fv)) := fun v y fv k1 f1 hfv hy => by
    unfold hb_Cm_call_96
    rw [i1, ck_t, tnI (n := n) rfl (by omega), I_A (k := 19), k1.1.A (j := 19) (by simp), e19, ok_bnd]
    have hv : CMP v lv c ps Q (o + 1) (lo + 2) := CMP_k hu k1 (by rw [show F v 706 = F u 706 from congrArg _ (f1.1 706 (by simp))]; have := hu.2.2.2.2; omega) (by omega)
    refine ok_mono (hR f k v lv c Q ps m (lo + 2) (hi - 1) a2 c1 q r (by omega) hv (OR_k (XP_k (Nat.le_refl _) (Nat.le_refl _)) (XP_bd f (o + 1) 3) hr (KN_m k1.1)) (by omega) (by omega) hQ) (fun v2 _ p1 => ?_)
    have hdn : ∀ (w : MS) (l : List Int), EMc v2 w l → l.length ≤ 4 → (∀ h m L g x, PREc v w lv (lo + 2) (o + 1) (la = 1) h m L g x → GDc w hi r → hi ≤ 1500 → m + knc v v2 ≤ 40 → 2 * h ≤ (lo + 2) + 16 → (∀ k, k < l.length → A w 23 (szc v2 + k) = l.getD k 0) → SGc w (szc v2) (szc v2 + l.length) r r [] h (h + k) (m + knc v v2) L g x (some (h + 1, m + knc v v2, L, g, x))) → PXS u w lv ps lo hi q r o (la = 1) 1 := fun w l e hl hI => by
      have p2 := PC_tail (hi := hi) (W := WBc ps lo hi) (la := la = 1) (d2 := 1) p1 e (by omega) (by omega) (by omega) (fun z => z.elim) hI
      have p3 := PC_pre (hi1 := 0) (PC_fr k1 f1) p2 (by omega) (by omega) (fun z => z)
      exact PC_w p3 (Int.le_refl _) (by omega) (Nat.le_refl _) (fun _ y => TY_mo y (by omega) (by omega) (fun z => z))
    have c2 := p1.1.2.1
    rcases hy with ⟨rfl, hy⟩ | ⟨d, rfl, hd⟩
    · refine k_c (y := -1) rfl ⟨by decide, by decide⟩ ⟨by decide, by decide⟩ (fun _ => ?_) (fun z => absurd rfl z)
      have e198 : ∀ y : Int, (y = 25 ∨ (y = 26 ∧ la = 1)) → OK (fun w _ => PXS u w lv ps lo hi q r o (la = 1) 1) (hb_Cm_call_198 N S () v2 (I ((lo : Nat) : Int)) (I ((k : Nat) : Int)) (I fv) (I y)) := fun y hy2 => by
        unfold hb_Cm_call_198
        refine put_1 (x := y) c2.1 ⟨by omega, by omega⟩ (fun w1 e1 => ?_)
        refine put_B (x := fv) c2.1.1 e1 hfv (fun w2 e2 => ?_)
        refine put_B (x := ((k : Nat) : Int)) c2.1.1 e2 ⟨by omega, by omega⟩ (fun w3 e3 => ?_)
        rw [i2, ck_t, I_A (k := 8)]
        refine put_B c2.1.1 e3 (A_r _ _ _) (fun w4 e4 => ok_some.mpr (hdn w4 _ e4 (by simp) (fun h m L g x p gd l15 hm hh2 hw => ?_)))
        have k24 := KMc.tr p1.1 (EMc.km c2 e4)
        obtain ⟨gu, fn, rfl, hf1, hf2⟩ := hy (GD_u k1.2.1 k24 gd (Nat.le_refl _) (Nat.le_refl _)).1
        have g0 : g = 0 := by
          by_cases z : g = 0
          · exact z
          · have := p.2.2.2.2.1.mp z
            rw [k1.2.2.2.2.2.1.1, gu] at this
            exact absurd this (by decide)
        have x0 := p.2.2.2.2.2 g0
        subst g0 x0
        have k0 := KMc.tr k1 k24
        have j := SG_call (u := w4) (a := szc v2) (n := k) (f := fn) (q := r) (z := h) (h := h + k) (m := m + knc v v2) (L := L) (g := 0) (x := 0) (Nat.le_refl _) (by omega) hm (by
          rcases hy2 with z | ⟨z, z2⟩
          · exact Or.inl ((hw 0 (by simp)).trans z)
          · exact Or.inr ⟨(hw 0 (by simp)).trans z, p.2.2.2.1 z2⟩) ⟨rfl, rfl⟩ (hw 1 (by simp)) (by rw [k0.1.F (by simp)]; exact hf1) (hw 2 (by simp)) (by rw [k0.1.A (by simp)]; exact hf2)
        rw [show h + k - k = h by omega] at j
        exact j
      rcases (by omega : la = 0 ∨ la = 1) with rfl | rfl
      · refine k_c (y := 0) rfl ⟨by decide, by decide⟩ ⟨by decide, by decide⟩ (fun _ => e198 25 (Or.inl rfl)) (fun z => absurd rfl z)
      · refine k_c (y := 0) rfl ⟨by decide, by decide⟩ ⟨by decide, by decide⟩ (fun z => absurd z (by decide)) (fun _ => e198 26 (Or.inr ⟨rfl, rfl⟩))
    · have e170 : ∀ y : Int, ((y = 39 ∧ d < 29) ∨ (y = 40 ∧ (d = 2 ∨ d = 3 ∨ d = 4 ∨ d = 29 ∨ d = 15))) → OK (fun w _ => PXS u w lv ps lo hi q r o (la = 1) 1) (hb_Cm_call_170 N S () v2 (I ((d : Nat) : Int)) (I y)) := fun y hy => by
        unfold hb_Cm_call_170
        refine put_1 (x := y) c2.1 ⟨by omega, by omega⟩ (fun w1 e1 => ?_)
        refine put_B (x := ((d : Nat) : Int)) c2.1.1 e1 ⟨by omega, by omega⟩ (fun w2 e2 => ok_some.mpr (hdn w2 _ e2 (by simp) (fun h m L g x p gd l15 hm hh2 hw => ?_)))
        rcases hy with ⟨hy, h29⟩ | ⟨hy, h5⟩
        · have hk2 : tkc ((d : Nat) : Int) = k := by
            rcases hd with ⟨z, -⟩ | ⟨-, z⟩
            · omega
            · exact z
          have j := SG_pre (u := w2) (a := szc v2) (q := r) (z := h) (h := h + k) (m := m + knc v v2) (L := L) (g := g) (x := x) (y := ((d : Nat) : Int)) (by omega) (by omega) hm ((hw 0 (by simp)).trans hy) (hw 1 (by simp)) (by omega)
          rw [hk2, show h + k - k = h by omega] at j
          exact j
        · have hk2 : (if ((d : Nat) : Int) = 29 then 2 else 1) = k := by
            rcases h5 with rfl | rfl | rfl | rfl | rfl
            · rcases hd with ⟨z, -⟩ | ⟨-, z⟩
              · omega
              · rw [← z]; decide
            · rcases hd with ⟨z, -⟩ | ⟨-, z⟩
              · omega
              · rw [← z]; decide
            · rcases hd with ⟨z, -⟩ | ⟨-, z⟩
              · omega
              · rw [← z]; decide
            · rcases hd with ⟨-, z⟩ | ⟨z, -⟩
              · rw [z]; decide
              · omega
            · rcases hd with ⟨z, -⟩ | ⟨-, z⟩
              · omega
              · rw [← z]; decide
          have j := SG_tow (u := w2) (a := szc v2) (q := r) (z := h) (h := h + k) (m := m + knc v v2) (L := L) (g := g) (x := x) (y := ((d : Nat) : Int)) (by omega) (by omega) hm ((hw 0 (by simp)).trans hy) (hw 1 (by simp)) (by omega)
          rw [hk2, show h + k - k = h by omega] at j
          exact j
      have rd : RG ((d : Nat) : Int) := ⟨by omega, by omega⟩
      refine k_c (y := -1) rfl rd ⟨by decide, by decide⟩ (fun z => absurd z (by omega)) (fun _ => ?_)
      unfold hb_Cm_call_147 hb_Cm_call_152
      refine k_c (y := 2) rfl rd ⟨by decide, by decide⟩ (fun z => e170 40 (Or.inr ⟨rfl, by omega⟩)) (fun z1 => ?_)
      refine k_c (y := 3) rfl rd ⟨by decide, by decide⟩ (fun z => e170 40 (Or.inr ⟨rfl, by omega⟩)) (fun z2 => ?_)
      refine k_c (y := 4) rfl rd ⟨by decide, by decide⟩ (fun z => e170 40 (Or.inr ⟨rfl, by omega⟩)) (fun z3 => ?_)
      refine k_c (y := 29) rfl rd ⟨by decide, by decide⟩ (fun z => e170 40 (Or.inr ⟨rfl, by omega⟩)) (fun z4 => ?_)
      refine k_c (y := 15) rfl rd ⟨by decide, by decide⟩ (fun z => e170 40 (Or.inr ⟨rfl, by omega⟩)) (fun z5 => e170 39 (Or.inl ⟨rfl, by omega⟩))
  have e91 : ∀ (v : MS) (y fv : Int), KMc u v lv → FR [714] [] [42] [] u v → RG fv → ((y = -1 ∧ (F v 714 = 1000000000 → ∃ fn : Nat, fv = ((fn : Nat) : Int) ∧ ((fn : Nat) : Int) < F u 442 ∧ A u 25 fn = ((k : Nat) : Int))) ∨ ∃ d : Nat, y = ((d : Nat) : Int) ∧ ((d = 29 ∧ k = 2) ∨ (d < 29 ∧ tkc ((d : Nat) : Int) = k))) → OK (fun w _ => PXS u w lv ps lo hi q r o (la = 1) 1) (hb_Cm_call_91 N S () v (I ((n : Nat) : Int)) (I ((la : Nat) : Int)) (I ((lo : Nat) : Int)) (I ((k : Nat) : Int)) (I y) (I fv)) := fun v y fv k1 f1 hfv hy => by
    unfold hb_Cm_call_91
    refine notIn_B k1.2.1 ⟨by omega, by omega⟩ (fun v2 k2 f2 h2 => e96 v2 y fv (KMc.tr k1 k2) (FR.tr f1 (FR.mo f2 (by simp) (by simp) (by simp) (by simp))) hfv ?_)
    rcases hy with ⟨hy1, hy2⟩ | hy
    · refine Or.inl ⟨hy1, fun z => ⟨?_, hy2 ?_⟩⟩
      · rcases h2 with h2 | h2
        · rw [← k1.2.2.2.2.2.1.1]; exact h2
        · omega
      · have := k1.2.1.2.2.2.2.1
        have := k2.2.2.2.1
        omega
    · exact Or.inr hy
  have e77 : ∀ (v : MS) (y fv : Int), KMc u v lv → FR [714] [] [42] [] u v → RG fv → RG y → ((y = -1 ∧ (F v 714 = 1000000000 → ∃ fn : Nat, fv = ((fn : Nat) : Int) ∧ ((fn : Nat) : Int) < F u 442 ∧ A u 25 fn = ((k : Nat) : Int))) ∨ ∃ d : Nat, y = ((d : Nat) : Int) ∧ ((d = 29 ∧ k = 2) ∨ (d < 29 ∧ tkc ((d : Nat) : Int) = k))) → OK (fun w _ => PXS u w lv ps lo hi q r o (la = 1) 1) (hb_Cm_call_77 N S () v (I ((n : Nat) : Int)) (I ((la : Nat) : Int)) (I ((lo : Nat) : Int)) (I ((k : Nat) : Int)) (I y) (I fv)) := fun v y fv k1 f1 hfv hyr hy => by
    unfold hb_Cm_call_77
    rw [show (17 : Int32) = I 17 from rfl, show (28 : Int32) = I 28 from rfl]
    refine k_lt hyr ⟨by decide, by decide⟩ (fun _ => e91 v y fv k1 f1 hfv hy) (fun z => k_le hyr ⟨by decide, by decide⟩ (fun _ => e96 v y fv k1 f1 hfv ?_) (fun _ => e91 v y fv k1 f1 hfv hy))
    rcases hy with ⟨hy1, -⟩ | hy
    · omega
    · exact Or.inr hy
  unfold hm_Cm_call hb_Cm_call_0
  rw [i1, tnI (n := n) rfl (by omega), ck_t, ck_t, ck_t, I_A (k := 18), I_A (k := 20), I_A (k := 17), e17, e20, ok_bnd]
  refine ok_mono (preOf_ok (N := N) hu.2.1.2.1.1 hu.2.1.2.1.2 (A_r _ _ _) hk hN) (fun v1 r1 h1 => ?_)
  obtain ⟨rfl, h1⟩ := h1
  rw [ck_t, I_A (k := 18), ok_bnd]
  refine ok_mono (seekF_ok (N := N) hu.2.1.2.2.1 (A_r _ _ _) ⟨by omega, by omega⟩ (by omega)) (fun v2 r2 h2 => ?_)
  obtain ⟨rfl, h2⟩ := h2
  have f0 : FR [714] [] [42] [] v2 v2 := FR.rf
  rcases h1 with rfl | ⟨d, rfl, hd⟩
  · refine k_c (y := -1) rfl ⟨by decide, by decide⟩ ⟨by decide, by decide⟩ (fun _ => ?_) (fun z => absurd rfl z)
    rcases h2 with rfl | ⟨fn, rfl, hf1, -, hf2⟩
    · refine k_c (y := -1) rfl ⟨by decide, by decide⟩ ⟨by decide, by decide⟩ (fun _ => ?_) (fun z => absurd rfl z)
      exact fault_B (x := ((lo : Nat) : Int)) (y := 6) cu ⟨by omega, by omega⟩ ⟨by decide, by decide⟩ (fun w k2 f2 h9 => e77 w (-1) (-1) k2 (FR.mo f2 (by simp) (by simp) (by simp) (by simp)) ⟨by decide, by decide⟩ ⟨by decide, by decide⟩ (Or.inl ⟨rfl, fun z => by omega⟩))
    · have := hu.2.1.2.2.1
      refine k_c (y := -1) rfl ⟨by omega, by omega⟩ ⟨by decide, by decide⟩ (fun z => absurd z (by omega)) (fun _ => e77 v2 (-1) _ (KMc.rf cu) f0 ⟨by omega, by omega⟩ ⟨by decide, by decide⟩ (Or.inl ⟨rfl, fun _ => ⟨fn, rfl, hf1, hf2⟩⟩))
  · have hfv : ∃ fv : Int, RG fv ∧ r2 = I fv := by
      rcases h2 with rfl | ⟨fn, rfl, hf1, -⟩
      · exact ⟨-1, ⟨by decide, by decide⟩, rfl⟩
      · have := hu.2.1.2.2.1
        exact ⟨_, ⟨by omega, by omega⟩, rfl⟩
    obtain ⟨fv, hfv, rfl⟩ := hfv
    refine k_c (y := -1) rfl ⟨by omega, by omega⟩ ⟨by decide, by decide⟩ (fun z => absurd z (by omega)) (fun _ => e77 v2 _ fv (KMc.rf cu) f0 hfv ⟨by omega, by omega⟩ (Or.inr ⟨d, rfl, hd⟩))
end
end
section
set_option maxRecDepth 100000
section
variable {u v w : MS} {N lv t hi hi2 lo lo2 o o2 q r s c h m g x d a b k n f Q cl la : Nat} {ps : Nat → Nat} {S : SF_Cm_fun}
theorem applyX_ok (hR : RoS N S (o + 1)) (hu : CMP u lv c ps Q o lo) (hf : f ≤ 120) (ht : t ≤ 4000) (hla : la ≤ 1) : ∀ (k M : Nat) (n x hi a b s r : Nat) (v : MS), RWc v 0 (AGc v (XPc v f (o + 1) 3)) k n x hi a b s r → PXS u v lv ps lo x q s o False 1 → (F v 714 = 1000000000 → F u 712 = 0) → lo < x → q ≤ s → b ≤ 8000 → hi ≤ c → r ≤ Q → k + 1 ≤ M → OK (fun w _ => PXS u w lv ps lo hi q r o (la = 1) 1) (hg_Cm_apply N S M v (I ((la : Nat) : Int)) (I ((t : Nat) : Int)) (I ((n : Nat) : Int)))
  | 0, _, _, _, _, _, _, _, _, _, h, _, _, _, _, _, _, _, _ => h.elim
  | k + 1, M, n, x, hi, a, b, s, r, v, h, pv, hg, hlx, hqs, hb, hh, hQ, hM => by
    obtain ⟨M, rfl⟩ : ∃ M2, M = M2 + 1 + 1 := ⟨M - 2, by omega⟩
    show OK _ (hb_Cm_apply_40 N S (hg_Cm_apply N S (M + 1)) v (I ((la : Nat) : Int)) (I ((t : Nat) : Int)) (I ((n : Nat) : Int)))
    obtain ⟨m, c2, s2, e, h⟩ := h
    obtain ⟨he, e16, k2, m2, c3, e18, e19, hk2, hr, hc3⟩ := e
    unfold HDc at he
    have hms : m ≤ hi ∧ c2 ≤ b ∧ s2 ≤ r := by
      rcases h with ⟨-, -, h1, h2, h3⟩ | ⟨-, n2, -, h3⟩
      · omega
      · have := (RW_hd AG_bd h3).1; unfold HDc at this; omega
    have g1 := OR_hd (XP_bd f (o + 1) 3) hr
    have hcs := CMP_c hu
    have i1 : inb (I ((n : Nat) : Int)) 8016 = true := (I_inb (by omega) (by omega)).mpr ⟨by omega, by omega⟩
    have i2 : inb (I ((t : Nat) : Int)) 4002 = true := (I_inb (by omega) (by omega)).mpr ⟨by omega, by omega⟩
    unfold hb_Cm_apply_40
    refine k_c (y := 0) rfl ⟨by omega, by omega⟩ ⟨by decide, by decide⟩ (fun z => absurd z (by omega)) (fun _ => ?_)
    rw [i1, ck_t, tnI (n := n) rfl (by omega), I_A (k := 18), e18, ok_bnd]
    refine ok_mono (hR f k2 v lv c Q ps m2 (x + 1) (m - 1) a c3 s s2 hf (CMP_s hu pv (by omega) (by omega) (by omega)) hr (by clear h; omega) (by clear h; omega) (by clear h; omega)) (fun v2 _ p1 => ?_)
    have wb := WB_2 hcs.1 (lo := lo) (m := x) (lo2 := x + 1) (hi := m - 1) (by omega) (by omega) (by omega) (by clear h; omega)
    have wb2 := WB_1 hcs.1 (lo := lo) (lo2 := lo) (hi2 := m - 1) (hi := m) (by omega) (by omega) (by omega) (by clear h; omega)
    have p1' : PXS v v2 lv ps (x + 1) (m - 1) s s2 o False k2 := PC_w p1 (Int.le_refl _) (Nat.le_refl _) (Nat.le_refl _) (fun _ y => TY_mo y (Nat.le_refl _) (by omega) (fun z => z))
    have p2 := PC_two hu.1 pv p1' (by clear h; omega) hqs (by clear h; omega) (hd := by omega) (W := WBc ps lo (m - 1)) (t := m - lo) (by clear h; omega) (by clear h; omega)
    have c2v := p2.1.2.1
    have e87 : ∀ (y : Int) (la2 : Prop), (y = 27 ∨ (y = 28 ∧ la2)) → (∀ w, PXS u w lv ps lo m q s2 o la2 1 → KMF v w → (F w 714 = 1000000000 → F u 712 = 0) → OK (fun w _ => PXS u w lv ps lo hi q r o (la = 1) 1) (hg_Cm_apply N S (M + 1) w (I ((la : Nat) : Int)) (I ((t : Nat) : Int)) (w.2.2.1 21 n))) → OK (fun w _ => PXS u w lv ps lo hi q r o (la = 1) 1) (hb_Cm_apply_87 N S (hg_Cm_apply N S (M + 1)) v2 (I ((la : Nat) : Int)) (I ((t : Nat) : Int)) (I ((n : Nat) : Int)) (I y)) := fun y la2 hy kk => by
      unfold hb_Cm_apply_87
      refine put_1 (x := y) c2v.1 ⟨by omega, by omega⟩ (fun w1 e1 => ?_)
      rw [i1, ck_t, tnI (n := n) rfl (by omega), I_A (k := 19), (EMc.km c2v e1).1.A (j := 19) (by simp), p1.1.1.A (j := 19) (by simp), e19]
      refine put_B (x := ((k2 : Nat) : Int)) c2v.1.1 e1 ⟨by omega, by omega⟩ (fun w2 e2 => ?_)
      rw [i2, ck_t, I_A (k := 8)]
      refine put_B c2v.1.1 e2 (A_r _ _ _) (fun w3 e3 => kk w3 ?_ ?_ ?_)
      · have p4 := PC_tail (hi := m) (W := WBc ps lo m) (la := la2) (d2 := 1) p2 e3 (by clear h; omega) (by clear h; omega) (by simp; clear h; omega) (fun z => z.elim) (fun h m L g x p gd l15 hm hh hw => by
          have gd2 := GD_u (hi1 := 0) (s := 0) pv.1.2.1 (KMc.tr p1.1 (EMc.km c2v e3)) gd (by omega) (by omega)
          have gu := hg gd2.1
          have g0 : g = 0 := by
            by_cases z : g = 0
            · exact z
            · have := p.2.2.2.2.1.mp z
              rw [gu] at this
              exact absurd this (by decide)
          have x0 := p.2.2.2.2.2 g0
          subst g0 x0
          have j := SG_app (u := w3) (a := szc v2) (n := k2) (q := s2) (z := h) (h := h + (1 + k2)) (m := m + knc u v2) (L := L) (g := 0) (x := 0) (by omega) (by omega) hm (by
            rcases hy with z | ⟨z, z2⟩
            · exact Or.inl ((hw 0 (by simp)).trans z)
            · exact Or.inr ⟨(hw 0 (by simp)).trans z, p.2.2.2.1 z2⟩) ⟨rfl, rfl⟩ (hw 1 (by simp))
          rw [show h + (1 + k2) - k2 = h + 1 by omega] at j
          exact j)
        exact PC_w p4 (Int.le_refl _) (by omega) (Nat.le_refl _) (fun _ y => y)
      · exact KMF.tr p1.1.1 (EMc.km c2v e3).1
      · intro z
        have := pv.1.2.1.2.2.2.2.1
        have := (KMc.tr p1.1 (EMc.km c2v e3)).2.2.2.1
        exact hg (by omega)
    have last : A v 21 n = 0 → m = hi → s2 = r → ∀ w (la2 : Prop), (la2 → la = 1) → PXS u w lv ps lo m q s2 o la2 1 → KMF v w → OK (fun w _ => PXS u w lv ps lo hi q r o (la = 1) 1) (hg_Cm_apply N S (M + 1) w (I ((la : Nat) : Int)) (I ((t : Nat) : Int)) (w.2.2.1 21 n)) := fun h0 z1 z2 w la2 hl pw kw => by
      subst z1 z2
      rw [I_A (k := 21), kw.A (j := 21) (by simp), h0]
      show OK _ (hb_Cm_apply_40 N S (hg_Cm_apply N S M) w (I ((la : Nat) : Int)) (I ((t : Nat) : Int)) (I 0))
      unfold hb_Cm_apply_40
      exact k_c (y := 0) rfl ⟨by decide, by decide⟩ ⟨by decide, by decide⟩ (fun _ => ok_some.mpr (PC_w pw (Int.le_refl _) (Nat.le_refl _) (Nat.le_refl _) (fun _ y => TY_mo y (Nat.le_refl _) (Nat.le_refl _) hl))) (fun z => absurd rfl z)
    have more : ∀ n2 : Nat, A v 21 n = ((n2 : Nat) : Int) → RWc v 0 (AGc v (XPc v f (o + 1) 3)) k n2 m hi c2 b s2 r → ∀ w, PXS u w lv ps lo m q s2 o False 1 → KMF v w → (F w 714 = 1000000000 → F u 712 = 0) → OK (fun w _ => PXS u w lv ps lo hi q r o (la = 1) 1) (hg_Cm_apply N S (M + 1) w (I ((la : Nat) : Int)) (I ((t : Nat) : Int)) (w.2.2.1 21 n)) := fun n2 e21 h3 w pw kw gw => by
      rw [I_A (k := 21), kw.A (j := 21) (by simp), e21]
      exact applyX_ok hR hu hf ht hla k (M + 1) n2 m hi c2 b s2 r w (RW_k (AG_k (XP_k (Nat.le_refl _) (Nat.le_refl _)) (XP_bd f (o + 1) 3)) AG_bd h3 (KN_m kw)) pw gw (by omega) (by omega) hb hh hQ (by omega)
    have h21 : A v2 21 n = A v 21 n := p1.1.1.A (j := 21) (by simp)
    unfold hb_Cm_apply_85
    rw [ck_t, I_A (k := 21), h21]
    rcases h with ⟨k0, h0, z1, -, z2⟩ | ⟨hk, n2, e21, h3⟩
    · rw [h0]
      rcases (by omega : la = 0 ∨ la = 1) with l | l
      · refine k_c (y := 0) rfl ⟨by omega, by omega⟩ ⟨by decide, by decide⟩ (fun _ => e87 27 False (Or.inl rfl) (fun w pw kw _ => last h0 z1 z2 w False (fun z => z.elim) pw kw)) (fun z => absurd z (by omega))
      · refine k_c (y := 0) rfl ⟨by omega, by omega⟩ ⟨by decide, by decide⟩ (fun z => absurd z (by omega)) (fun _ => ?_)
        refine k_c (y := 0) rfl ⟨by decide, by decide⟩ ⟨by decide, by decide⟩ (fun _ => e87 28 (la = 1) (Or.inr ⟨rfl, l⟩) (fun w pw kw _ => last h0 z1 z2 w (la = 1) (fun z => z) pw kw)) (fun z => absurd rfl z)
    · rw [e21]
      have g2 := (RW_hd AG_bd h3).1
      unfold HDc at g2
      refine k_c (y := 0) rfl ⟨by omega, by omega⟩ ⟨by decide, by decide⟩ (fun _ => e87 27 False (Or.inl rfl) (fun w pw kw gw => more n2 e21 h3 w pw kw gw)) (fun _ => ?_)
      refine k_c (y := 0) rfl ⟨by omega, by omega⟩ ⟨by decide, by decide⟩ (fun z => absurd z (by omega)) (fun _ => e87 27 False (Or.inl rfl) (fun w pw kw gw => more n2 e21 h3 w pw kw gw))
theorem apply_okc2 (hE : ExS N S o 0) (hR : RoS N S (o + 1)) (hN : 10000 ≤ N) {S2 : SF_Cm_fun} (h2 : S2.2.2.2.2.2.1 = hm_Cm_apply N S) : ApS N S2 o cl := by
  intro f u lv c Q ps n lo hi a b q r la hf hu hX e16 hb hh hQ hla
  rw [h2]
  cases f with
  | zero => exact hX.elim
  | succ f =>
  obtain ⟨hd, htk, ho, hX⟩ := hX
  unfold HDc at hd
  have hcs := CMP_c hu
  have cu := hu.1
  obtain ⟨x, mid, c1, s, k, m, e18, hx, hcn, e19, hr⟩ : ∃ x mid c s k m : Nat, A u 18 n = ((x : Nat) : Int) ∧ XPc u f o 0 x lo mid a c q s ∧ c < n ∧ A u 19 n = ((m : Nat) : Int) ∧ RWc u 0 (AGc u (XPc u f (o + 1) 3)) k m mid hi n b s r := by
    rcases hX with ⟨⟨l16, l6, -⟩, -⟩ | ⟨e, -⟩ | ⟨e, -⟩ | ⟨e, -⟩ | ⟨e, -⟩ | ⟨e, -⟩ | ⟨e, -⟩ | ⟨e, -⟩ | ⟨e, -⟩ | ⟨e, -⟩ | ⟨e, -⟩ | ⟨e, -, hx⟩ | ⟨e, -⟩ | ⟨e, -⟩ | ⟨e, -⟩ | ⟨e, -⟩ | ⟨e, -⟩
    all_goals first | exact hx | (exfalso; omega)
  obtain ⟨t, e17, ht1, ht2⟩ := htk
  have g1 := XP_bd f o 0 _ _ _ _ _ _ _ hx
  unfold HDc at g1
  have g2 := (RW_hd AG_bd hr).1
  unfold HDc at g2
  have g3 := RW_cnt AG_bd hr
  have i1 : inb (I ((n : Nat) : Int)) 8016 = true := (I_inb (by omega) (by omega)).mpr ⟨by omega, by omega⟩
  unfold hm_Cm_apply hb_Cm_apply_0
  rw [i1, tnI (n := n) rfl (by omega), ck_t, I_A (k := 17), e17]
  refine notIn_B cu ⟨by omega, by omega⟩ (fun v k1 f1 h1 => ?_)
  rw [ck_t, I_A (k := 18), k1.1.A (j := 18) (by simp), e18, ok_bnd]
  have hv : CMP v lv c ps Q o lo := CMP_k hu k1 (by rw [show F v 706 = F u 706 from congrArg _ (f1.1 706 (by simp))]; exact hu.2.2.2.2) (Nat.le_refl _)
  refine ok_mono (hE f v lv c Q ps x lo mid a c1 q s 0 (by omega) hv (XP_k (Nat.le_refl _) (Nat.le_refl _) _ _ _ _ _ _ _ hx (KN_m k1.1)) (by omega) (by omega) (by omega) (by omega)) (fun v2 _ p1 => ?_)
  have p2 : PXS u v2 lv ps lo mid q s o False 1 := PC_pre (hi1 := 0) (PC_fr k1 (FR.mo f1 (by simp) (by simp) (by simp) (by simp))) p1 (by omega) (by omega) (fun z => absurd z (by decide))
  rw [ck_t, I_A (k := 19), p2.1.1.A (j := 19) (by simp), e19]
  refine applyX_ok hR hu (by omega) (by omega) hla k N m mid hi n b s r v2 (RW_k (AG_k (XP_k (Nat.le_refl _) (Nat.le_refl _)) (XP_bd f (o + 1) 3)) AG_bd hr (KN_m p2.1.1)) p2 (fun z => ?_) (by omega) (by omega) hb hh hQ (by omega)
  rcases h1 with h1 | h1
  · exact h1
  · have := p1.1.2.2.2.1
    omega
end
end
section
set_option maxRecDepth 100000
section
variable {u v w : MS} {N lv t hi lo o q r s c h m g x d a b k n f Q cl : Nat} {ps : Nat → Nat} {S : SF_Cm_fun} {la : Prop} {W : Int} {Y Y1 Y2 : Prop} {L : List Nat} {H1 H2 : List (Nat × Tyc)} {Hp : List Nat} {oo : Option Tyc} {y1 : Tyc} {cc : Int}
theorem KM_23 (h : CVI u lv) (g : FR [] [] [23] [] u w) : KMc u w lv := by
  have eF : ∀ k, F w k = F u k := fun k => congrArg _ (g.1 k (by simp))
  have eA : ∀ r k, r ≠ 23 → A w r k = A u r k := fun r k hr => by show (w.2.2.1 r k).toInt = _; rw [g.2.2.1 r (by simp; exact hr)]; rfl
  obtain ⟨g1, g2, g3, g4, g5, g6, g7, g8, g9⟩ := h
  refine ⟨FR.mo g (by simp) (by simp) (by simp) (by simp), ⟨by rw [eF]; exact g1, by rw [eF]; exact g2, by rw [eF]; exact g3, by rw [eF, eF]; exact g4, by rw [eF]; exact g5, by rw [eF]; exact g6, fun j hj => by rw [eA 40 j (by decide), eA 41 j (by decide)]; exact g7 j hj, by rw [eF, eA 40 lv (by decide)]; exact g8, by rw [eF, eA 40 lv (by decide), eA 41 lv (by decide)]; exact g9⟩, by rw [eF]; omega, by rw [eF]; omega, fun z => by rw [eF] at z; exact z, ⟨eF _, eF _⟩, fun j _ => eA 40 j (by decide), fun j _ => eA 41 j (by decide), by rw [eA 41 lv (by decide)]; omega⟩
theorem PC_arr (a : PCQ u v lv W t hi q r Y) (f : FR [] [] [23] [] v w) (ho : GDc v hi r → Y → ∀ j : Nat, ((j : Nat) : Int) < F u 441 → A w 23 j = A v 23 j) (hY : GDc w hi r → GDc v hi r → Y → Y1) : PCQ u w lv W t hi q r Y1 := by
  obtain ⟨a1, a2, a3, a4⟩ := a
  have k := KM_23 a1.2.1 f
  have eF : ∀ k, F w k = F v k := fun k => congrArg _ (f.1 k (by simp))
  have eA : ∀ r k, r ≠ 23 → A w r k = A v r k := fun r k hr => by show (w.2.2.1 r k).toInt = _; rw [f.2.2.1 r (by simp; exact hr)]; rfl
  refine ⟨KMc.tr a1 k, by rw [eF]; exact a2, fun e => by rw [eF] at e ⊢; exact a3 e, fun g => ?_⟩
  have gv : GDc v hi r := by
    unfold GDc at g ⊢
    rw [eF, eF, eF] at g; exact g
  obtain ⟨o1, y⟩ := a4 gv
  refine ⟨⟨fun j hj => (ho gv y j hj).trans (o1.1 j hj), fun pl hp => ?_⟩, hY g gv y⟩
  obtain ⟨b1, b2, b3⟩ := o1.2 pl hp
  exact ⟨(eA 30 pl (by decide)).trans b1, (eA 31 pl (by decide)).trans b2, (eA 32 pl (by decide)).trans b3⟩
theorem TBL_23 (f : FR [] [] [23] [] v w) : TBLc v w q r := by
  have eF : ∀ k, F w k = F v k := fun k => congrArg _ (f.1 k (by simp))
  have eA : ∀ r k, r ≠ 23 → A w r k = A v r k := fun r k hr => by show (w.2.2.1 r k).toInt = _; rw [f.2.2.1 r (by simp; exact hr)]; rfl
  exact ⟨eF _, eF _, by rw [eF]; omega, fun k => eA 25 k (by decide), fun pl _ _ => ⟨eA 30 pl (by decide), eA 31 pl (by decide), eA 32 pl (by decide)⟩⟩
theorem SG_arc (cv : CVI v lv) (f : FR [] [] [23] [] v w) (ar : (∀ p, p ∈ Hp → A w 23 p = F v 441) ∧ ∀ j, j ∉ Hp → A w 23 j = A v 23 j) (y : SGc v a (szc v) q r (H1 ++ H2) h c m L g x oo) (hab : a < szc v) (ho : oo = none ∨ oo = some y1) (h1 : ∀ p t, (p, t) ∈ H1 → t = y1 ∧ p ∈ Hp) (h2 : ∀ p, p ∈ Hp → ∃ t, (p, t) ∈ H1) (hd : ∀ p t t2, (p, t) ∈ H1 → (p, t2) ∉ H2) : SGc w a (szc w) q r H2 h c m L g x (some y1) := by
  have e4 : F w 441 = F v 441 := congrArg _ (f.1 441 (by simp))
  have es : szc w = szc v := by show (F w 441).toNat = _; rw [e4]
  rw [es]
  refine SG_arr y hab ho (fun p t hp => ⟨(h1 p t hp).1, ?_⟩) hd (fun j _ _ hj => ar.2 j (fun hp => ?_)) (TBL_23 f)
  · rw [ar.1 p (h1 p t hp).2]
    have := cv.1
    show F v 441 = (((F v 441).toNat : Nat) : Int)
    omega
  · obtain ⟨t, ht⟩ := h2 j hp
    exact hj t ht
theorem PC_fgt {l : List Int} {m0 : Int} (k : KMc v w lv) (e6 : F w 706 = m0) (fr : FR [441, 706] [] [23] [] v w) (e : EMd v w l) (hl : (l = [] ∧ F v 706 = m0) ∨ (l = [16, F v 706 - m0] ∧ m0 < F v 706)) (p : PCQ u v lv W t hi q r Y) (h6 : F u 706 ≤ m0) (hq : q ≤ r) (hY : GDc w hi r → GDc v hi r → OLQ v w r r → Y → (∀ z h m L g x, z ≤ h → h ≤ 1090 → m ≤ 40 → (F v 706 - m0).toNat ≤ m → ((F v 706 - m0).toNat = 0 ∨ g = 0) → SGc w (szc v) (szc w) r r [] z h m L g x (some (h, m - (F v 706 - m0).toNat, L, g, x))) → Y1) : PCQ u w lv (W + 2) t hi q r Y1 := by
  have cv := p.1.2.1
  have hm : F w 706 ≤ F v 706 := by omega
  obtain ⟨p1, p2, p3, p4⟩ := p
  have ll : l.length ≤ 2 := by rcases hl with ⟨rfl, -⟩ | ⟨rfl, -⟩ <;> simp
  have e4 := e.1
  refine ⟨KMc.tr p1 k, by omega, fun z => ?_, fun gw => ?_⟩
  · have := p3 (k.2.2.2.2.1 z)
    omega
  · have gv := GD_u (hi1 := hi) (s := r) cv k gw (Nat.le_refl _) (Nat.le_refl _)
    obtain ⟨o1, y⟩ := p4 gv
    have o2 : OLQ v w r r := ⟨e.2.1, fun pl _ => by
      refine ⟨?_, ?_, ?_⟩
      · show (w.2.2.1 30 pl).toInt = _; rw [fr.2.2.1 30 (by simp)]; rfl
      · show (w.2.2.1 31 pl).toInt = _; rw [fr.2.2.1 31 (by simp)]; rfl
      · show (w.2.2.1 32 pl).toInt = _; rw [fr.2.2.1 32 (by simp)]; rfl⟩
    refine ⟨OLQ.tr p1.2.2.1 o1 o2 hq (Nat.le_refl _), hY gw gv o2 y (fun z h m L g x hz hh hm hk hg => ?_)⟩
    obtain ⟨e5, e7⟩ := e.2.2 gw.2.2.1
    have c1 := cv.1
    have es : szc w = szc v + l.length := by
      show (F w 441).toNat = (F v 441).toNat + l.length
      omega
    rw [es]
    rcases hl with ⟨rfl, h0⟩ | ⟨rfl, h0⟩
    · rw [show (F v 706 - m0).toNat = 0 by omega]
      exact SG_nl
    · refine SG_fgt (a := szc v) (n := (F v 706 - m0).toNat) hz hh hm (e7 0 (by simp)) (by omega) ?_ hk
      have : A w 23 ((F v 441).toNat + 1) = F v 706 - m0 := e7 1 (by simp)
      rw [show A w 23 (szc v + 1) = F v 706 - m0 from this]
      omega
theorem joining_ok {y : Int} (h : CVI v lv) (hy : RG y) (ht : 0 ≤ x ∧ x ≤ 4001) : OK (fun w _ => PCQ v w lv 2 0 hi q q (szc w = szc v + 2 ∧ F w 706 = F v 706 ∧ (A w 23 (szc v) = 8 ∨ A w 23 (szc v) = 9 ∨ A w 23 (szc v) = 10))) (hm_Cm_joining N v (I y) (I ((x : Nat) : Int))) := by
  have pt : ∀ (v2 : MS) (y2 : Int), KMc v v2 lv → FR [714] [] [42] [] v v2 → (y2 = 8 ∨ y2 = 9 ∨ y2 = 10) → OK (fun w _ => PCQ v w lv 2 0 hi q q (szc w = szc v + 2 ∧ F w 706 = F v 706 ∧ (A w 23 (szc v) = 8 ∨ A w 23 (szc v) = 9 ∨ A w 23 (szc v) = 10))) (bnd (hm_Co_put N v2 (I y2)) (fun u5 _ => hb_Cm_joining_106 N () u5 (I y))) := fun v2 y2 k1 f1 hy2 => by
    unfold hb_Cm_joining_106
    refine put_1 (x := y2) k1.2.1.1 ⟨by omega, by omega⟩ (fun w1 e1 => put_B k1.2.1.1.1 e1 hy (fun w2 e2 => ok_some.mpr ?_))
    have e6 : F w2 706 = F v2 706 := congrArg _ (e2.1.1 706 (by simp))
    refine PC_w (PC_seq (PC_fr (hi := 0) k1 f1) (PC_em (hi := hi) k1.2.1 e2) (by omega) (Nat.le_refl _) (Nat.le_refl _) (fun gd o1 o2 y1 y2 => ?_)) (by simp) (by omega) (Nat.le_refl _) (fun _ z => z)
    rw [← y1.1, ← y1.2]
    refine ⟨y2.1, e6, ?_⟩
    have := y2.2 0 (by simp)
    have e0 : A w2 23 (szc v2) = _ := this
    rw [e0]
    exact hy2
  have ng : ∀ y2 : Int, (y2 = 8 ∨ y2 = 9 ∨ y2 = 10) → OK (fun w _ => PCQ v w lv 2 0 hi q q (szc w = szc v + 2 ∧ F w 706 = F v 706 ∧ (A w 23 (szc v) = 8 ∨ A w 23 (szc v) = 9 ∨ A w 23 (szc v) = 10))) (bnd (hm_Cm_notInGuard N v (I ((x : Nat) : Int))) (fun u19 _ => bnd (hm_Co_put N u19 (I y2)) (fun u5 _ => hb_Cm_joining_106 N () u5 (I y)))) := fun y2 hy2 => notIn_B h ⟨by omega, by omega⟩ (fun v2 k1 f1 _ => pt v2 y2 k1 (FR.mo f1 (by simp) (by simp) (by simp) (by simp)) hy2)
  have p0 := fun y2 => pt v y2 (KMc.rf h) FR.rf
  unfold hm_Cm_joining hb_Cm_joining_0
  refine ok_br.mpr ⟨fun _ => p0 9 (by omega), fun _ => ok_br.mpr ⟨fun _ => p0 9 (by omega), fun _ => ok_br.mpr ⟨fun _ => p0 9 (by omega), fun _ => ok_br.mpr ⟨fun _ => p0 9 (by omega), fun _ => ok_br.mpr ⟨fun _ => p0 9 (by omega), fun _ => ok_br.mpr ⟨fun _ => ng 10 (by omega), fun _ => ok_br.mpr ⟨fun _ => ng 10 (by omega), fun _ => p0 8 (by omega)⟩⟩⟩⟩⟩⟩⟩
theorem XP_16 : ∀ {f : Nat}, XPc u f o cl n lo hi a b q r → 1 ≤ A u 16 n ∧ A u 16 n ≤ 22
  | 0, h => h.elim
  | f + 1, h => by
    obtain ⟨-, -, -, h⟩ := h
    rcases h with ⟨⟨e, l6, -⟩, -⟩ | ⟨e, -⟩ | ⟨e, -⟩ | ⟨e, -⟩ | ⟨e, -⟩ | ⟨e, -⟩ | ⟨e, -⟩ | ⟨e, -⟩ | ⟨e, -⟩ | ⟨e, -⟩ | ⟨e, -⟩ | ⟨e, -⟩ | ⟨e, -⟩ | ⟨e, -⟩ | ⟨e, -⟩ | ⟨e, -⟩ | ⟨e, -⟩
    all_goals omega
end
end
section
set_option maxRecDepth 100000
def HKm (u : MS) (Hk : List (Nat × Nat × Int)) (h m : Nat) (L : List Nat) (g x : Nat) : List (Nat × Tyc) := Hk.map (fun e => (e.1, (h + (e.2.1 + 1), m + (e.2.2 - F u 706).toNat, L, g, x)))
def SGH (u v : MS) (lv lo q r o s : Nat) (Hk : List (Nat × Nat × Int)) : Prop := (∀ e, e ∈ Hk → A v 23 e.1 = 0 ∧ szc u ≤ e.1 ∧ e.1 < szc v) ∧ (Hk.map (fun e => e.1)).Nodup ∧ ∀ h m L g x, PREc u v lv lo o False h m L g x → (g ≠ 0 → F v 706 = F u 706) ∧ SGc v (szc u) (szc v) q r (HKm u Hk h m L g x) h h m L g x (some (h + s, m + knc u v, L, g, x))
def HL (aa oo : Option Nat) (pa pb : Nat) (ka kb : Int) : List (Nat × Nat × Int) := (match aa with
  | none => []
  | some sa => [(pa, sa, ka)]) ++ (match oo with
  | none => []
  | some sb => [(pb, sb, kb)])
def evc (aa : Option Nat) : Int := match aa with
  | none => 0
  | some _ => 1
section
variable {u v w : MS} {N lv t hi lo o q r s c h m g x d a b k n f Q q2 q3 p : Nat} {ps : Nat → Nat} {S : SF_Cm_fun} {W W2 ka cc : Int} {Z : Prop} {L : List Nat} {H H2 : List (Nat × Tyc)} {z : Nat} {oo : Option Tyc} {Hk : List (Nat × Nat × Int)}
theorem SG_pm (hm : ∀ p t, (p, t) ∈ H ↔ (p, t) ∈ H2) (y : SGc u a b q r H z h m L g x oo) : SGc u a b q r H2 z h m L g x oo := by
  obtain ⟨z1, z2, z3, T0, z4, z5⟩ := y
  exact ⟨z1, z2, fun p t hp => z3 p t ((hm p t).mpr hp), T0, z4, fun v T h1 h2 h3 h4 h5 h6 => z5 v T (fun j j1 j2 j3 => h1 j j1 j2 (fun t hp => j3 t ((hm j t).mpr hp))) h2 h3 h4 (fun p t hp => h5 p t ((hm p t).mp hp)) h6⟩
theorem SGH_0 (cu : CVI u lv) : SGH u u lv lo q q o 0 [] := ⟨fun e he => absurd he (by simp), List.nodup_nil, fun h m L g x p => ⟨fun _ => rfl, by
  rw [show knc u u = 0 by show (F u 706 - F u 706).toNat = 0; omega]
  exact SG_nl⟩⟩
theorem SGH_seq (ku : KMc u v lv) (kv : KMc v w lv) (h1 : F u 706 ≤ F v 706) (h2 : F v 706 ≤ F w 706) (ol : OLQ v w q2 q3) (y1 : SGH u v lv lo q q2 o s Hk) (y2 : TYX v w lv x q2 q3 o False d) (hd : lo + 2 * s ≤ x) : SGH u w lv lo q q3 o (s + d) Hk := by
  have cv := ku.2.1.1
  refine ⟨fun e he => ?_, y1.2.1, fun h m L g x0 p => ?_⟩
  · obtain ⟨a1, a2, a3⟩ := y1.1 e he
    have a3' : e.1 < (F v 441).toNat := a3
    exact ⟨by rw [ol.1 e.1 (by omega)]; exact a1, a2, Nat.lt_of_lt_of_le a3 (szc_le ku.2.1 kv)⟩
  · obtain ⟨n1, i1⟩ := y1.2.2 h m L g x0 (PRE_1 p kv)
    obtain ⟨n2, i2⟩ := y2 (h + s) (m + knc u v) L g x0 (PRE_2 p ku h1 hd)
    refine ⟨fun hg => (n2 hg).trans (n1 hg), ?_⟩
    have j1 := SG_kw ku.2.1 i1 kv.1 ol (Nat.le_refl _) (Or.inl (Nat.le_refl _))
    have j := SG_seq j1 (SG_z (z2 := h) i2 (by omega)) (by omega) (fun hg => by
      have := n1 hg
      show m + (F v 706 - F u 706).toNat = m
      omega)
    rw [List.append_nil, Nat.add_assoc, Nat.add_assoc, kn_tr h1 h2] at j
    exact j
theorem SGH_and {y : Int} (ku : KMc u v lv) (h1 : F u 706 ≤ F v 706) (e : EMc v w [y, 0]) (hy : y = 13 ∨ y = 14) (gd : GDc w hi q2) (l15 : lo + 2 * s ≤ hi + 2) (hs : 1 ≤ s) (y1 : SGH u v lv lo q q2 o s Hk) : SGH u w lv lo q q2 o (s - 1) ((szc v + 1, s - 1, F v 706) :: Hk) ∧ F w 441 - 1 = ((szc v + 1 : Nat) : Int) := by
  have cv := ku.2.1
  have pe := PC_em (hi := hi) (q := q2) cv e
  obtain ⟨ol, e1, e2⟩ := pe.2.2.2 gd
  have kv := pe.1
  have e6 : F w 706 = F v 706 := congrArg _ (e.1.1 706 (by simp))
  have es : szc w = szc v + 2 := e1
  have c1 := cv.1
  have hl15 := gd.2.2.2.1
  have hw1 : A w 23 (szc v + 1) = 0 := e2 1 (by simp)
  have hle : szc u ≤ szc v + 1 := by
    have h4 := ku.2.2.1
    show (F u 441).toNat ≤ (F v 441).toNat + 1
    omega
  refine ⟨⟨fun e he => ?_, ?_, fun h m L g x0 p => ?_⟩, ?_⟩
  · simp only [List.mem_cons] at he
    rcases he with rfl | he
    · exact ⟨hw1, hle, by rw [es]; show szc v + 1 < szc v + 2; omega⟩
    · obtain ⟨a1, a2, a3⟩ := y1.1 e he
      have a3' : e.1 < (F v 441).toNat := a3
      exact ⟨by rw [ol.1 e.1 (by omega)]; exact a1, a2, by rw [es]; omega⟩
  · rw [List.map_cons, List.nodup_cons]
    refine ⟨fun hm => ?_, y1.2.1⟩
    obtain ⟨e, he, h5⟩ := List.mem_map.mp hm
    have a3 := (y1.1 e he).2.2
    have h6 : e.1 = szc v + 1 := h5
    omega
  · have p1 := PRE_1 p kv
    obtain ⟨n1, i1⟩ := y1.2.2 h m L g x0 p1
    have pb := PRE_b cv ku h1 p1
    refine ⟨fun hg => e6.trans (n1 hg), ?_⟩
    have j1 := SG_kw cv i1 kv.1 ol (Nat.le_refl _) (Or.inl (Nat.le_refl _))
    have j2 := SG_and (u := w) (a := szc v) (q := q2) (z := h) (h := h + s) (m := m + knc u v) (L := L) (g := g) (x := x0) (by omega) (by omega) pb.1 (by
      have h0 : A w 23 (szc v) = y := e2 0 (by simp)
      rw [h0]; exact hy) (by omega)
    have j := SG_seq j1 j2 (by omega) (fun hg => by
      have := n1 hg
      show m + (F v 706 - F u 706).toNat = m
      omega)
    rw [← es, show knc u v = knc u w by show (F v 706 - F u 706).toNat = _; rw [← e6], show h + s - 1 = h + (s - 1) by omega] at j
    refine SG_pm (fun p t => ?_) j
    have e7 : (F v 706 - F u 706).toNat = knc u w := by rw [← e6]
    simp only [List.mem_append, HKm, List.map_cons, List.mem_cons, List.not_mem_nil, or_false]
    rw [e7, show s - 1 + 1 = s by omega]
    exact Or.comm
  · have : F w 441 = ((szc w : Nat) : Int) := by
      have := kv.2.1.1
      show F w 441 = (((F w 441).toNat : Nat) : Int)
      omega
    rw [this, es]
    omega
theorem close_B {α : Type} {K : MS → α → Prop} {fn : MS → Unit → Option (MS × α)} (hN : 24002 ≤ N) (pv : PCQ u v lv W t hi q q2 (SGH u v lv lo q q2 o s ((p, s - 1, ka) :: Hk) ∧ cc = ((p : Nat) : Int) ∧ Z)) (cu : CVI u lv) (hq : q ≤ q2) (hs : 1 ≤ s) (h15 : lo + 2 * s ≤ hi + 2) (h1 : F u 706 ≤ ka) (h2 : ka ≤ F v 706) (hc : RG cc) (kk : ∀ w, KMF v w → PCQ u w lv (W + 2) t hi q q2 (SGH u w lv lo q q2 o s Hk ∧ Z) → F w 706 = ka → OK K (fn w ())) : OK K (bnd (hm_Cm_forget N v (I ka)) (fun u1 _ => bnd (hm_Co_arrive N u1 (I cc)) fn)) := by
  have cv := pv.1.2.1
  have e40 := pv.1.2.2.2.2.2.2.1 lv (Nat.le_refl _)
  have c40 := cu.2.2.2.2.2.2.2.1
  refine forget_B cv (by omega) h2 (fun v1 l k1 e6 f1 em hl => ?_)
  have p1 : PCQ u v1 lv (W + 2) t hi q q2 ((SGH u v1 lv lo q q2 o s ((p, s - 1, ka) :: Hk) ∧ cc = ((p : Nat) : Int) ∧ Z)) := PC_fgt k1 e6 f1 em hl pv h1 hq (fun gw gv ol y fg => by
    obtain ⟨y1, y2, y3⟩ := y
    refine ⟨⟨fun e he => ?_, y1.2.1, fun h m L g x0 p => ?_⟩, y2, y3⟩
    · obtain ⟨a1, a2, a3⟩ := y1.1 e he
      have a3' : e.1 < (F v 441).toNat := a3
      exact ⟨by rw [ol.1 e.1 (by omega)]; exact a1, a2, Nat.lt_of_lt_of_le a3 (szc_le cv k1)⟩
    · have q1 := PRE_1 p k1
      obtain ⟨n1, i1⟩ := y1.2.2 h m L g x0 q1
      have pb := PRE_b cv pv.1 pv.2.1.1 q1
      have l15 := gw.2.2.2.1
      have kn : ((knc u v : Nat) : Int) = F v 706 - F u 706 := by show (((F v 706 - F u 706).toNat : Nat) : Int) = _; omega
      have kn2 : ((knc u v1 : Nat) : Int) = ka - F u 706 := by show (((F v1 706 - F u 706).toNat : Nat) : Int) = _; omega
      refine ⟨fun hg => by have := n1 hg; omega, ?_⟩
      have j1 := SG_kw cv i1 k1.1 ol (Nat.le_refl _) (Or.inl (Nat.le_refl _))
      have j2 := fg h (h + s) (m + knc u v) L g x0 (by omega) (by omega) pb.1 (by omega) (by
        by_cases hg : g = 0
        · exact Or.inr hg
        · have := n1 hg
          exact Or.inl (by omega))
      have j := SG_seq j1 j2 (by omega) (fun hg => by
        have := n1 hg
        omega)
      rw [List.append_nil, show m + knc u v - (F v 706 - ka).toNat = m + knc u v1 by omega] at j
      exact j)
  rw [ok_bnd]
  refine ok_mono (arrive_ok (N := N) (u := v1) hc hN) (fun w _ hw => kk w (KMF.tr k1.1 (FR.mo hw.1 (by simp) (by simp) (by simp) (by simp))) ?_ ?_)
  · have c1 := p1.1.2.1
    have arr : SGH u v1 lv lo q q2 o s ((p, s - 1, ka) :: Hk) → GDc v1 hi q2 → cc = ((p : Nat) : Int) → (∀ p2, p2 ∈ [p] → A w 23 p2 = F v1 441) ∧ ∀ j, j ∉ [p] → A w 23 j = A v1 23 j := fun y gv hcc => by
      obtain ⟨a1, a2, a3⟩ := y.1 _ (List.mem_cons_self ..)
      have a3' : p < (F v1 441).toNat := a3
      have a2' : (F u 441).toNat ≤ p := a2
      have := cu.1
      have := gv.2.2.1
      exact hw.2 [p] ⟨hcc, ⟨by omega, by omega⟩, fun q hq => absurd hq (by simp), a1⟩
    refine PC_arr p1 hw.1 (fun gv y j hj => ?_) (fun gw gv y => ?_)
    · refine (arr y.1 gv y.2.1).2 j (fun hj2 => ?_)
      simp only [List.mem_singleton] at hj2
      have a2 : (F u 441).toNat ≤ p := (y.1.1 _ (List.mem_cons_self ..)).2.1
      omega
    · obtain ⟨y1, y2, y3⟩ := y
      have ar := arr y1 gv y2
      have nd := y1.2.1
      rw [List.map_cons, List.nodup_cons] at nd
      have e4 : szc w = szc v1 := by show (F w 441).toNat = (F v1 441).toNat; rw [show F w 441 = F v1 441 from congrArg _ (hw.1.1 441 (by simp))]
      have e6w : F w 706 = F v1 706 := congrArg _ (hw.1.1 706 (by simp))
      have np : ∀ e, e ∈ Hk → e.1 ≠ p := fun e he z => nd.1 (List.mem_map.mpr ⟨e, he, z⟩)
      have pl := y1.1 _ (List.mem_cons_self ..)
      refine ⟨⟨fun e he => ?_, nd.2, fun h m L g x0 pp => ?_⟩, y3⟩
      · obtain ⟨a1, a2, a3⟩ := y1.1 e (List.mem_cons_of_mem _ he)
        exact ⟨by rw [ar.2 e.1 (by simp; exact np e he)]; exact a1, a2, by rw [e4]; exact a3⟩
      · obtain ⟨n1, i1⟩ := y1.2.2 h m L g x0 (PRE_1 pp (KM_23 c1 hw.1))
        refine ⟨fun hg => e6w.trans (n1 hg), ?_⟩
        have ek : knc u w = (ka - F u 706).toNat := by show (F w 706 - F u 706).toNat = _; rw [e6w, e6]
        have ek1 : knc u v1 = (ka - F u 706).toNat := by show (F v1 706 - F u 706).toNat = _; rw [e6]
        rw [ek1] at i1
        rw [ek]
        have hpl : szc u < szc v1 := Nat.lt_of_le_of_lt pl.2.1 pl.2.2
        refine SG_arc (H1 := [(p, (h + (s - 1 + 1), m + (ka - F u 706).toNat, L, g, x0))]) (H2 := HKm u Hk h m L g x0) (Hp := [p]) (y1 := (h + s, m + (ka - F u 706).toNat, L, g, x0)) c1 hw.1 ar i1 hpl (Or.inr rfl) (fun p2 t hp => ?_) (fun p2 hp => ?_) (fun p2 t t2 hp hp2 => ?_)
        · simp only [List.mem_singleton] at hp
          injection hp with hp1 hp2
          rw [hp2, show s - 1 + 1 = s by omega]
          exact ⟨rfl, by simp [hp1]⟩
        · simp only [List.mem_singleton] at hp
          exact ⟨_, by rw [hp]; exact List.mem_singleton.mpr rfl⟩
        · simp only [List.mem_singleton] at hp
          injection hp with hp1 hp3
          obtain ⟨e, he, h5⟩ := List.mem_map.mp hp2
          injection h5 with h6 h7
          exact np e he (h6.trans hp1)
  · rw [show F w 706 = F v1 706 from congrArg _ (hw.1.1 706 (by simp))]
    exact e6
theorem SF_hd {E : Nat → Nat → Nat → Nat → Nat → Nat → Nat → Prop} (hb : BdE E) : ∀ {j n x c q s : Nat} {aa oo : Option Nat}, SFc u E hi b r j n x c q s aa oo → c + j ≤ b ∧ x ≤ hi + 1 ∧ q ≤ r
  | 0, _, _, _, _, _, _, _, h => by
    obtain ⟨-, h1, h2, h3, -⟩ := h
    omega
  | j + 1, n, x, c, q, s, aa, oo, h => by
    obtain ⟨-, n2, x2, c2, q2, s2, aa2, oo2, h1, -, h2⟩ := h
    have a := STP_hd hb h1
    have b := SF_hd hb h2
    omega
end
end
section
set_option maxRecDepth 100000
def WSc (ps : Nat → Nat) (lo x : Nat) : Int := if x ≤ lo then 0 else WBc ps lo (x - 1) + 4
section
variable {u v w : MS} {N lv t hi lo o q r s c h m g x d a b k n f Q q2 q3 p : Nat} {ps : Nat → Nat} {S : SF_Cm_fun}
theorem signsX_ok (hE : ExS N S o 1) (hu : CMP u lv c ps Q o lo) (hf : f ≤ 120) (hN : 24002 ≤ N) (hh : hi ≤ c) (hb : b ≤ 8000) (hQ : r ≤ Q) (hlh : lo < hi) : ∀ (j M n x c2 q2 s : Nat) (aa oo : Option Nat) (ca ka cb kb : Int) (pa pb : Nat) (v : MS), SFc v (XPc v f o 1) hi b r j n x c2 q2 s aa oo → PCQ u v lv (WSc ps lo x - 4 * ((s : Nat) : Int) - 2 * evc aa - 2 * evc oo) (x - 1 - lo) hi q q2 (SGH u v lv lo q q2 o s (HL aa oo pa pb ka kb) ∧ (aa ≠ none → ca = ((pa : Nat) : Int)) ∧ (oo ≠ none → cb = ((pb : Nat) : Int))) → (lo + 2 * s ≤ x ∧ q ≤ q2 ∧ lo ≤ x) → (RG ca ∧ RG cb) → ((aa ≠ none → F u 706 ≤ ka ∧ ka ≤ F v 706) ∧ (oo ≠ none → F u 706 ≤ kb ∧ kb ≤ F v 706) ∧ (aa ≠ none → oo ≠ none → kb ≤ ka)) → j + 1 ≤ M → OK (fun w _ => PXS u w lv ps lo hi q r o False 1) (hg_Cm_signs N S M v (I ca) (I ka) (I cb) (I kb) (I ((n : Nat) : Int))) := by
  intro j
  induction j with
  | zero =>
    intro M n x c2 q2 s aa oo ca ka cb kb pa pb v h pv hx hr hk hM
    obtain ⟨rfl, rfl, -, rfl, rfl, rfl, rfl⟩ := h
    obtain ⟨M, rfl⟩ : ∃ M2, M = M2 + 1 := ⟨M - 1, by omega⟩
    show OK _ (hb_Cm_signs_13 N S (hg_Cm_signs N S M) v (I ca) (I ka) (I cb) (I kb) (I 0))
    unfold hb_Cm_signs_13
    refine k_c (y := 0) rfl ⟨by decide, by decide⟩ ⟨by decide, by decide⟩ (fun _ => ok_some.mpr ?_) (fun z => absurd rfl z)
    exact PC_w pv (by simp only [evc]; unfold WSc; rw [show hi + 1 - 1 = hi by omega, if_neg (by omega)]; omega) (by omega) (Nat.le_refl _) (fun _ y h m L g x p => y.1.2.2 h m L g x p)
  | succ j ih =>
    intro M n x c2 q2 s aa oo ca ka cb kb pa pb v h pv hx hr hk hM
    obtain ⟨hn1, n2, x2, c3, q3, s2, aa2, oo2, hs, e21, hnx⟩ := h
    obtain ⟨M, rfl⟩ : ∃ M2, M = M2 + 1 := ⟨M - 1, by omega⟩
    have hd := STP_hd (XP_bd f o 1) hs
    have hd2 := SF_hd (XP_bd f o 1) hnx
    have hcs := CMP_c hu
    have cv := pv.1.2.1
    have cu := hu.1
    have i1 : inb (I ((n : Nat) : Int)) 8016 = true := (I_inb (by omega) (by omega)).mpr ⟨by omega, by omega⟩
    have nx : ∀ (w : MS) (ca ka cb kb : Int) (pa pb : Nat), KMF v w → PCQ u w lv (WSc ps lo x2 - 4 * ((s2 : Nat) : Int) - 2 * evc aa2 - 2 * evc oo2) (x2 - 1 - lo) hi q q3 (SGH u w lv lo q q3 o s2 (HL aa2 oo2 pa pb ka kb) ∧ (aa2 ≠ none → ca = ((pa : Nat) : Int)) ∧ (oo2 ≠ none → cb = ((pb : Nat) : Int))) → (lo + 2 * s2 ≤ x2 ∧ q ≤ q3 ∧ lo ≤ x2) → (RG ca ∧ RG cb) → ((aa2 ≠ none → F u 706 ≤ ka ∧ ka ≤ F w 706) ∧ (oo2 ≠ none → F u 706 ≤ kb ∧ kb ≤ F w 706) ∧ (aa2 ≠ none → oo2 ≠ none → kb ≤ ka)) → OK (fun w _ => PXS u w lv ps lo hi q r o False 1) (hb_Cm_signs_198 N S (hg_Cm_signs N S M) w (I ca) (I ka) (I cb) (I kb) (I ((n : Nat) : Int))) := fun w ca ka cb kb pa pb kw pw h1 h2 h3 => by
      unfold hb_Cm_signs_198
      rw [i1, ck_t, tnI (n := n) rfl (by omega), I_A (k := 21), kw.A (j := 21) (by simp), e21]
      exact ih M n2 x2 c3 q3 s2 aa2 oo2 ca ka cb kb pa pb w (SF_k (XP_k (Nat.le_refl _) (Nat.le_refl _)) (XP_bd f o 1) hnx (KN_m kw)) pw h1 h2 h3 (by omega)
    show OK _ (hb_Cm_signs_13 N S (hg_Cm_signs N S M) v (I ca) (I ka) (I cb) (I kb) (I ((n : Nat) : Int)))
    unfold hb_Cm_signs_13
    refine k_c (y := 0) rfl ⟨by omega, by omega⟩ ⟨by decide, by decide⟩ (fun z => absurd z (by omega)) (fun _ => ?_)
    rw [i1, ck_t, ck_t, tnI (n := n) rfl (by omega), I_A (k := 16), I_A (k := 18)]
    rcases hs with ⟨⟨m, e, rfl⟩, rfl, rfl, rfl⟩ | ⟨⟨rfl, hcn, -, rfl⟩, ⟨tk, e17, -, htk⟩, hs⟩
    · have e16 := XP_16 e
      have ge := XP_bd f o 1 _ _ _ _ _ _ _ e
      unfold HDc at ge
      have un : OK (fun w _ => PXS u w lv ps lo hi q r o False 1) (bnd (S.2.2.2.2.2.2.2.2.2.2.1 v (I ((n : Nat) : Int)) 0) (fun u20 _ => hb_Cm_signs_198 N S (hg_Cm_signs N S M) u20 (I ca) (I ka) (I cb) (I kb) (I ((n : Nat) : Int)))) := by
        rw [ok_bnd]
        refine ok_mono (hE f v lv c Q ps n x m c2 c3 q2 q3 0 hf (CMP_k hu pv.1 (by have := pv.2.1.2; have := hu.2.2.2.2; omega) (Nat.le_refl _)) e (by omega) (by omega) (by omega) (by omega)) (fun w _ p1 => ?_)
        have wb2 : WSc ps lo x + WBc ps x m + 4 ≤ WSc ps lo (m + 1) := by
          unfold WSc
          rw [if_neg (show ¬ m + 1 ≤ lo by omega), show m + 1 - 1 = m by omega]
          by_cases hxl : x = lo
          · subst hxl
            rw [if_pos (Nat.le_refl _)]
            omega
          · rw [if_neg (by omega)]
            have := WB_2 hcs.1 (lo := lo) (m := x - 1) (lo2 := x) (hi := m) (by omega) (by omega) (by omega) (by omega)
            omega
        have p1' : PCQ v w lv (WBc ps x m) (m - x) hi q2 q3 (TYX v w lv x q2 q3 o False 1) := PC_w p1 (Int.le_refl _) (Nat.le_refl _) (by omega) (fun _ y => TY_mo y (Nat.le_refl _) (Nat.le_refl _) (fun z => absurd z (by decide)))
        have kp := p1.2.1
        have pw := PC_seq (Y := SGH u w lv lo q q3 o (s + 1) (HL aa2 oo2 pa pb ka kb) ∧ (aa2 ≠ none → ca = ((pa : Nat) : Int)) ∧ (oo2 ≠ none → cb = ((pb : Nat) : Int))) pv p1' (Nat.le_refl _) hx.2.1 (by omega) (fun gd o1 o2 y1 y2 => ⟨SGH_seq pv.1 p1.1 pv.2.1.1 kp.1 o2 y1.1 y2 hx.1, y1.2⟩)
        refine nx w ca ka cb kb pa pb p1.1.1 (PC_w pw ?_ (by clear wb2; omega) (Nat.le_refl _) (fun _ z => z)) ⟨by clear wb2; omega, by clear wb2; omega, by clear wb2; omega⟩ hr ⟨fun z => ?_, fun z => ?_, hk.2.2⟩
        · omega
        · have := hk.1 z
          omega
        · have := hk.2.1 z
          omega
      have n24 : A v 16 n ≠ 24 := by omega
      have n23 : A v 16 n ≠ 23 := by omega
      unfold hb_Cm_signs_82
      refine k_c (y := 24) rfl (A_r _ _ _) ⟨by decide, by decide⟩ (fun z => absurd z n24) (fun _ => ?_)
      refine k_c (y := 24) rfl (A_r _ _ _) ⟨by decide, by decide⟩ (fun z => absurd z n24) (fun _ => ?_)
      exact k_c (y := 23) rfl (A_r _ _ _) ⟨by decide, by decide⟩ (fun z => absurd z n23) (fun _ => un)
    · have h6 := pv.2.1
      have c6 := cv.1
      have nh : ∀ (y : Int) (w : MS), (y = 13 ∨ y = 14) → EMc v w [y, 0] → 1 ≤ s → PCQ u w lv (WSc ps lo x2 - 4 * ((s : Nat) : Int) - 2 * evc aa - 2 * evc oo + 2) (x2 - 1 - lo) hi q q3 ((SGH u w lv lo q q3 o (s - 1) ((szc v + 1, s - 1, F v 706) :: HL aa oo pa pb ka kb) ∧ F w 441 - 1 = ((szc v + 1 : Nat) : Int)) ∧ (aa ≠ none → ca = ((pa : Nat) : Int)) ∧ (oo ≠ none → cb = ((pb : Nat) : Int))) := fun y w hy e hs1 => by
        have pw := PC_seq (Y := (SGH u w lv lo q q3 o (s - 1) ((szc v + 1, s - 1, F v 706) :: HL aa oo pa pb ka kb) ∧ F w 441 - 1 = ((szc v + 1 : Nat) : Int)) ∧ (aa ≠ none → ca = ((pa : Nat) : Int)) ∧ (oo ≠ none → cb = ((pb : Nat) : Int))) pv (PC_em (hi := hi) (q := q3) cv e) (Nat.le_refl _) hx.2.1 (Nat.le_refl _) (fun gd o1 o2 y1 y2 => ⟨SGH_and pv.1 h6.1 e hy gd (by omega) hs1 y1.1, y1.2⟩)
        exact PC_w pw (by simp) (by omega) (Nat.le_refl _) (fun _ z => z)
      rcases hs with ⟨e16, e18, hs1, rfl, rfl, rfl, rfl⟩ | ⟨e16, e18, hs1, rfl, rfl, rfl, rfl, rfl⟩ | ⟨e16, e18, hs1, rfl, rfl, rfl, rfl⟩ | ⟨e16, e18, hs1, rfl, rfl, rfl, rfl, rfl⟩ | ⟨e16, e18, e18b, hs1, rfl, rfl, rfl⟩
      · rw [e16, e18]
        show OK _ (bnd (hm_Co_put N v 13) (fun u39 _ => bnd (hm_Co_hook N u39 0) (fun u42 r42 => hb_Cm_signs_198 N S (hg_Cm_signs N S M) u42 r42 (u42.1 706) (I cb) (I kb) (I ((n : Nat) : Int)))))
        refine put_1 (x := 13) c6 ⟨by decide, by decide⟩ (fun w1 e1 => hook_B (x := 0) c6.1 e1 ⟨by decide, by decide⟩ (fun w2 e2 => ?_))
        have e6 : F w2 706 = F v 706 := congrArg _ (e2.1.1 706 (by simp))
        have k2 := EMc.km cv e2
        have c2' := k2.2.1.1
        rw [I_F (k := 706), e6]
        refine nx w2 (F w2 441 - 1) (F v 706) cb kb (szc v + 1) pb k2.1 (PC_w (nh 13 w2 (Or.inl rfl) e2 hs1) (by simp only [evc]; omega) (Nat.le_refl _) (Nat.le_refl _) (fun _ z => ⟨z.1.1, fun _ => z.1.2, z.2.2⟩)) ⟨by omega, hx.2⟩ ⟨⟨by omega, by omega⟩, hr.2⟩ ⟨fun _ => by omega, fun z => by have := hk.2.1 z; omega, fun _ z => (hk.2.1 z).2⟩
      · rw [e16, e18]
        show OK _ (bnd (hm_Co_put N v 14) (fun u39 _ => bnd (hm_Co_hook N u39 0) (fun u42 r42 => hb_Cm_signs_198 N S (hg_Cm_signs N S M) u42 (I ca) (I ka) r42 (u42.1 706) (I ((n : Nat) : Int)))))
        refine put_1 (x := 14) c6 ⟨by decide, by decide⟩ (fun w1 e1 => hook_B (x := 0) c6.1 e1 ⟨by decide, by decide⟩ (fun w2 e2 => ?_))
        have e6 : F w2 706 = F v 706 := congrArg _ (e2.1.1 706 (by simp))
        have k2 := EMc.km cv e2
        have c2' := k2.2.1.1
        rw [I_F (k := 706), e6]
        refine nx w2 ca ka (F w2 441 - 1) (F v 706) pa (szc v + 1) k2.1 (PC_w (nh 14 w2 (Or.inr rfl) e2 hs1) (by simp only [evc]; omega) (Nat.le_refl _) (Nat.le_refl _) (fun _ z => ⟨z.1.1, fun z => absurd rfl z, fun _ => z.1.2⟩)) ⟨by omega, hx.2⟩ ⟨hr.1, ⟨by omega, by omega⟩⟩ ⟨fun z => absurd rfl z, fun _ => by omega, fun z => absurd rfl z⟩
      · rw [e16, e18]
        show OK _ (bnd (hm_Cm_forget N v (I ka)) (fun u16 _ => bnd (hm_Co_arrive N u16 (I ca)) (fun u18 _ => hb_Cm_signs_198 N S (hg_Cm_signs N S M) u18 (I ca) (I ka) (I cb) (I kb) (I ((n : Nat) : Int)))))
        have hka := hk.1 (by simp)
        refine close_B (p := pa) (s := s2) (Hk := HL none oo2 pa pb ka kb) (Z := oo2 ≠ none → cb = ((pb : Nat) : Int)) (o := o) (lo := lo) hN (PC_w pv (Int.le_refl _) (Nat.le_refl _) (Nat.le_refl _) (fun _ y => ⟨y.1, y.2.1 (by simp), y.2.2⟩)) cu hx.2.1 hs1 (by omega) hka.1 hka.2 hr.1 (fun w kw pw e6 => ?_)
        refine nx w ca ka cb kb pa pb kw (PC_w pw (by simp only [evc]; omega) (Nat.le_refl _) (Nat.le_refl _) (fun _ z => ⟨z.1, fun z => absurd rfl z, z.2⟩)) hx hr ⟨fun z => absurd rfl z, fun z => by have := hk.2.1 z; have := hk.2.2 (by simp) z; omega, fun z => absurd rfl z⟩
      · rw [e16, e18]
        show OK _ (bnd (hm_Cm_forget N v (I kb)) (fun u16 _ => bnd (hm_Co_arrive N u16 (I cb)) (fun u18 _ => hb_Cm_signs_198 N S (hg_Cm_signs N S M) u18 (I ca) (I ka) (I cb) (I kb) (I ((n : Nat) : Int)))))
        have hka := hk.2.1 (by simp)
        refine close_B (p := pb) (s := s2) (Hk := []) (Z := True) (o := o) (lo := lo) hN (PC_w pv (Int.le_refl _) (Nat.le_refl _) (Nat.le_refl _) (fun _ y => ⟨y.1, y.2.2 (by simp), trivial⟩)) cu hx.2.1 hs1 (by omega) hka.1 hka.2 hr.2 (fun w kw pw e6 => ?_)
        refine nx w ca ka cb kb pa pb kw (PC_w pw (by simp only [evc]; omega) (Nat.le_refl _) (Nat.le_refl _) (fun _ z => ⟨z.1, fun z => absurd rfl z, fun z => absurd rfl z⟩)) hx hr ⟨fun z => absurd rfl z, fun z => absurd rfl z, fun z => absurd rfl z⟩
      · rw [e16]
        have r18 := A_r v 18 n
        have jn : OK (fun w _ => PXS u w lv ps lo hi q r o False 1) (bnd (hm_Cm_joining N v (I (A v 18 n)) (v.2.2.1 17 n)) (fun u11 _ => hb_Cm_signs_198 N S (hg_Cm_signs N S M) u11 (I ca) (I ka) (I cb) (I kb) (I ((n : Nat) : Int)))) := by
          rw [I_A (k := 17), e17, ok_bnd]
          refine ok_mono (joining_ok (N := N) (hi := hi) (q := q3) cv r18 ⟨Nat.zero_le _, by omega⟩) (fun w _ pj => ?_)
          have kj := pj.2.1
          have pw := PC_seq (Y := SGH u w lv lo q q3 o (s - 1) (HL aa2 oo2 pa pb ka kb) ∧ (aa2 ≠ none → ca = ((pa : Nat) : Int)) ∧ (oo2 ≠ none → cb = ((pb : Nat) : Int))) pv pj (Nat.le_refl _) hx.2.1 (Nat.le_refl _) (fun gd o1 o2 y1 y2 => ⟨?_, y1.2⟩)
          · exact nx w ca ka cb kb pa pb pj.1.1 (PC_w pw (by omega) (by omega) (Nat.le_refl _) (fun _ z => z)) ⟨by omega, hx.2⟩ hr ⟨fun z => by have := hk.1 z; omega, fun z => by have := hk.2.1 z; omega, hk.2.2⟩
          · have l15 := gd.2.2.2.1
            refine ⟨fun e he => ?_, y1.1.2.1, fun h m L g x0 p => ?_⟩
            · obtain ⟨a1, a2, a3⟩ := y1.1.1 e he
              have a3' : e.1 < (F v 441).toNat := a3
              exact ⟨by rw [o2.1 e.1 (by omega)]; exact a1, a2, by rw [y2.1]; omega⟩
            · have p1 := PRE_1 p pj.1
              obtain ⟨n1, i1⟩ := y1.1.2.2 h m L g x0 p1
              have pb := PRE_b cv pv.1 h6.1 p1
              refine ⟨fun hg => y2.2.1.trans (n1 hg), ?_⟩
              have j1 := SG_kw cv i1 pj.1.1 o2 (Nat.le_refl _) (Or.inl (Nat.le_refl _))
              have j2 := SG_bin (u := w) (a := szc v) (q := q3) (z := h) (h := h + s) (m := m + knc u v) (L := L) (g := g) (x := x0) (by omega) (by omega) pb.1 y2.2.2 (by omega)
              have j := SG_seq j1 j2 (by omega) (fun hg => by
                have := n1 hg
                show m + (F v 706 - F u 706).toNat = m
                omega)
              rw [List.append_nil, ← y2.1, show knc u v = knc u w by show (F v 706 - F u 706).toNat = _; rw [← y2.2.1], show h + s - 1 = h + (s - 1) by omega] at j
              exact j
        refine k_c (x := 23) (y := 24) rfl ⟨by decide, by decide⟩ ⟨by decide, by decide⟩ (fun z => absurd z (by decide)) (fun _ => ?_)
        unfold hb_Cm_signs_82
        refine k_c (x := 23) (y := 24) rfl ⟨by decide, by decide⟩ ⟨by decide, by decide⟩ (fun z => absurd z (by decide)) (fun _ => ?_)
        refine k_c (x := 23) (y := 23) rfl ⟨by decide, by decide⟩ ⟨by decide, by decide⟩ (fun _ => ?_) (fun z => absurd rfl z)
        refine k_c (y := 6) rfl r18 ⟨by decide, by decide⟩ (fun z => absurd z e18) (fun _ => ?_)
        refine k_c (y := 16) rfl r18 ⟨by decide, by decide⟩ (fun z => absurd z e18b) (fun _ => ?_)
        rw [i1, ck_t, tnI (n := n) rfl (by omega)]
        exact jn
theorem signsC_ok (hE : ExS N S o 1) (hN : 24002 ≤ N) {S2 : SF_Cm_fun} (h2 : S2.2.2.2.2.2.2.2.1 = hm_Cm_signs N S) : SiS N S2 o := by
  intro f j u lv c Q ps m lo hi a b q r hf hu h hlo hb hh hQ
  rw [h2]
  unfold hm_Cm_signs hb_Cm_signs_0
  have hd := SF_hd (XP_bd f o 1) h
  refine signsX_ok hE hu hf hN hh hb hQ hlo j N m lo a q 0 none none 0 0 0 0 0 0 u h (PC_w (PC_rf (hi := hi) (q := q) hu.1) ?_ (by omega) (Nat.le_refl _) (fun _ _ => ⟨SGH_0 hu.1, fun z => absurd rfl z, fun z => absurd rfl z⟩)) ⟨by omega, Nat.le_refl _, Nat.le_refl _⟩ ⟨⟨by decide, by decide⟩, ⟨by decide, by decide⟩⟩ ⟨fun z => absurd rfl z, fun z => absurd rfl z, fun z => absurd rfl z⟩ (by omega)
  simp only [evc]
  unfold WSc
  rw [if_pos (Nat.le_refl _)]
  omega
end
end
section
set_option maxRecDepth 100000
def BoS (N : Nat) (S : SF_Cm_fun) (o : Nat) : Prop := ∀ (f k : Nat) (u : MS) (lv c Q : Nat) (ps : Nat → Nat) (n lo hi a b q r la : Nat), f ≤ 120 → CMP u lv c ps Q o lo → RWc u 1 (XPc u f o 3) k n lo hi a b q r → b ≤ 8000 → hi ≤ c → r ≤ Q → la ≤ 1 → OK (fun w _ => PXS u w lv ps lo hi q r o (la = 1) 1) (S.2.2.2.1 u (I ((n : Nat) : Int)) (I ((la : Nat) : Int)))
section
variable {u v w : MS} {N lv t hi lo o q r s c h m g x d a b k n f Q la : Nat} {ps : Nat → Nat} {S : SF_Cm_fun} {W B : Int} {Y : Prop}
theorem bodyX_ok (hE : ExS N S o 3) (hla : la ≤ 1) : ∀ (k M : Nat) (n lo hi a b q r : Nat) (u : MS), f ≤ 120 → CMP u lv c ps Q o lo → RWc u 1 (XPc u f o 3) k n lo hi a b q r → b ≤ 8000 → hi ≤ c → r ≤ Q → k + 1 ≤ M → OK (fun w _ => PXS u w lv ps lo hi q r o (la = 1) 1) (hg_Cm_body N S M u (I ((la : Nat) : Int)) (I ((n : Nat) : Int)))
  | 0, _, _, _, _, _, _, _, _, _, _, _, h, _, _, _, _ => h.elim
  | k + 1, M, n, lo, hi, a, b, q, r, u, hf, hu, h, hb, hh, hQ, hM => by
    obtain ⟨M, rfl⟩ : ∃ M2, M = M2 + 1 + 1 := ⟨M - 2, by omega⟩
    show OK _ (hb_Cm_body_2 N S (hg_Cm_body N S (M + 1)) u (I ((la : Nat) : Int)) (I ((n : Nat) : Int)))
    obtain ⟨m, c2, s, e, h⟩ := h
    have he := XP_bd f o 3 _ _ _ _ _ _ _ e
    unfold HDc at he
    have hms : m ≤ hi ∧ c2 ≤ b ∧ s ≤ r := by
      rcases h with ⟨-, -, h1, h2, h3⟩ | ⟨-, n2, -, h3⟩
      · omega
      · have := (RW_hd (XP_bd f o 3) h3).1; unfold HDc at this; omega
    have hcs := CMP_c hu
    have i1 : inb (I ((n : Nat) : Int)) 8016 = true := (I_inb (by omega) (by omega)).mpr ⟨by omega, by omega⟩
    unfold hb_Cm_body_2 hb_Cm_body_23 hb_Cm_body_40
    refine k_c (y := 0) rfl ⟨by omega, by omega⟩ ⟨by decide, by decide⟩ (fun z => absurd z (by omega)) (fun _ => ?_)
    rw [i1, ck_t, tnI (n := n) rfl (by omega), I_A (k := 21)]
    rcases h with ⟨k0, h0, rfl, rfl, rfl⟩ | ⟨-, n2, h2, h3⟩
    · rw [h0]
      refine k_c (y := 0) rfl ⟨by decide, by decide⟩ ⟨by decide, by decide⟩ (fun _ => ?_) (fun z => absurd rfl z)
      have e41 : OK (fun w _ => PXS u w lv ps lo m q s o (la = 1) 1) (hb_Cm_body_41 N S (hg_Cm_body N S (M + 1)) u (I ((la : Nat) : Int)) (I ((n : Nat) : Int)) 0 (I ((n : Nat) : Int)) (I ((la : Nat) : Int))) := by
        unfold hb_Cm_body_41
        rw [ok_bnd]
        refine ok_mono (hE f u lv c Q ps n lo m a c2 q s la hf hu e hb hh hQ hla) (fun v _ p1 => ?_)
        refine ok_br.mpr ⟨fun _ => ?_, fun z => absurd z (by decide)⟩
        unfold hb_Cm_body_58
        rw [i1, ck_t, tnI (n := n) rfl (by omega), I_A (k := 21), p1.1.1.A (j := 21) (by simp), h0]
        show OK _ (hb_Cm_body_2 N S (hg_Cm_body N S M) v (I ((la : Nat) : Int)) (I 0))
        unfold hb_Cm_body_2
        exact k_c (y := 0) rfl ⟨by decide, by decide⟩ ⟨by decide, by decide⟩ (fun _ => ok_some.mpr p1) (fun z => absurd rfl z)
      rcases (by omega : la = 0 ∨ la = 1) with rfl | rfl
      · exact k_c (y := 0) rfl ⟨by decide, by decide⟩ ⟨by decide, by decide⟩ (fun _ => e41) (fun z => absurd rfl z)
      · refine k_c (y := 0) rfl ⟨by decide, by decide⟩ ⟨by decide, by decide⟩ (fun z => absurd z (by decide)) (fun _ => ?_)
        exact ok_br.mpr ⟨fun _ => e41, fun z => absurd z (by decide)⟩
    · rw [h2]
      have g1 := (RW_hd (XP_bd f o 3) h3).1
      unfold HDc at g1
      refine k_c (y := 0) rfl ⟨by omega, by omega⟩ ⟨by decide, by decide⟩ (fun z => absurd z (by omega)) (fun _ => ?_)
      have e41 : OK (fun w _ => PXS u w lv ps lo hi q r o (la = 1) 1) (hb_Cm_body_41 N S (hg_Cm_body N S (M + 1)) u (I ((la : Nat) : Int)) (I ((n : Nat) : Int)) 1 (I ((n : Nat) : Int)) 0) := by
        unfold hb_Cm_body_41
        rw [ok_bnd]
        refine ok_mono (hE f u lv c Q ps n lo m a c2 q s 0 hf hu e (by omega) (by omega) (by omega) (by omega)) (fun v _ p1 => ?_)
        refine ok_br.mpr ⟨fun z => absurd z (by decide), fun _ => ?_⟩
        refine put_1 (x := 15) p1.1.2.1.1 ⟨by decide, by decide⟩ (fun w1 e1 => ?_)
        have p2 := PC_tail (hi := m) (W := WBc ps lo m + 1) (la := False) (d2 := 0) p1 e1 (by omega) (Nat.le_refl _) (by simp) (fun z => absurd z (by decide)) (fun h m L g x p gd l15 hm hh hw => SG_drop (by omega) (by omega) hm (hw 0 (by simp)) (by omega))
        unfold hb_Cm_body_58
        rw [i1, ck_t, tnI (n := n) rfl (by omega), I_A (k := 21), p2.1.1.A (j := 21) (by simp), h2]
        have hw : CMP w1 lv c ps Q o (m + 1) := CMP_k hu p2.1 (by have := p2.2.1.2; have := hu.2.2.2.2; omega) (Nat.le_refl _)
        refine ok_mono (bodyX_ok hE hla k (M + 1) n2 (m + 1) hi c2 b s r w1 hf hw (RW_k (XP_k (Nat.le_refl _) (Nat.le_refl _)) (XP_bd f o 3) h3 (KN_m p2.1.1)) hb hh hQ (by omega)) (fun w _ p3 => ?_)
        have wb := WB_2 hcs.1 (lo := lo) (m := m) (lo2 := m + 1) (hi := hi) (by omega) (by omega) (by omega) hh
        have p4 := PC_two hu.1 p2 p3 (by omega) (by omega) (by omega) (hd := by omega) (W := WBc ps lo hi) (t := hi - lo) (by omega) (by omega)
        rw [Nat.zero_add] at p4
        exact p4
      refine ok_br.mpr ⟨fun _ => e41, fun _ => ok_br.mpr ⟨fun z => absurd z (by decide), fun _ => e41⟩⟩
theorem bodyC_ok (hE : ExS N S o 3) (hN : 10000 ≤ N) {S2 : SF_Cm_fun} (h2 : S2.2.2.2.1 = hm_Cm_body N S) : BoS N S2 o := by
  intro f k u lv c Q ps n lo hi a b q r la hf hu h hb hh hQ hla
  rw [h2]
  have := RW_cnt (XP_bd f o 3) h
  exact bodyX_ok hE hla k N n lo hi a b q r u hf hu h hb hh hQ (by omega)
theorem PC_flag {y : Int} (hk : k = 712 ∨ k = 713) (cu : CVI u lv) (hy : y = 0 ∨ y = 1) (p : PCQ (wi u k y) w lv W t hi q r Y) : PCQ u (wi w k (F u k)) lv W t hi q r (szc (wi u k y) = szc u ∧ Y) := by
  have hr : RG y := ⟨by omega, by omega⟩
  have fr := FRG1 u k
  have eu : ∀ j, j ≠ k → F (wi u k y) j = F u j := fun j hj => by rw [F_wi hr.1 hr.2, if_neg hj]
  have ew : ∀ j, j ≠ k → F (wi w k (F u k)) j = F w j := fun j hj => by rw [F_wi fr.1 fr.2, if_neg hj]
  have ek : F (wi w k (F u k)) k = F u k := by rw [F_wi fr.1 fr.2, if_pos rfl]
  have eA : ∀ r j, A (wi w k (F u k)) r j = A w r j := fun _ _ => rfl
  have eB : ∀ r j, A (wi u k y) r j = A u r j := fun _ _ => rfl
  have n4 : 441 ≠ k := by omega
  have n6 : 706 ≠ k := by omega
  have n9 : 709 ≠ k := by omega
  have n11 : 711 ≠ k := by omega
  have n14 : 714 ≠ k := by omega
  have h12 := cu.2.2.2.1
  obtain ⟨⟨k1, k2, k3, k4, k5, k6, k7, k8, k9⟩, p2, p3, p4⟩ := p
  obtain ⟨g1, g2, g3, g4, g5, g6, g7, g8, g9⟩ := k2
  rw [eu 441 n4] at k3
  rw [eu 714 n14] at k4
  rw [eu 711 n11] at k5
  rw [eu 706 n6] at p2
  rw [eu 441 n4] at p3
  have km : KMF u (wi w k (F u k)) := by
    have f1 : KMF u (wi u k y) := FR.wi FR.rf (by rcases hk with rfl | rfl <;> simp)
    exact FR.wi (FR.tr f1 k1) (by rcases hk with rfl | rfl <;> simp)
  have f12 : F (wi w k (F u k)) 712 = F u 712 := by
    rcases hk with rfl | rfl
    · exact ek
    · rw [ew 712 (by decide), k6.1, eu 712 (by decide)]
  have f13 : F (wi w k (F u k)) 713 = F u 713 := by
    rcases hk with rfl | rfl
    · rw [ew 713 (by decide), k6.2, eu 713 (by decide)]
    · exact ek
  refine ⟨⟨km, ⟨by rw [ew 441 n4]; exact g1, by rw [ew 706 n6]; exact g2, by rw [ew 709 n9]; exact g3, by rw [f12, f13]; exact h12, by rw [ew 714 n14]; exact g5, by rw [ew 711 n11]; exact g6, g7, by rw [ew 706 n6]; exact g8, by rw [ew 706 n6]; exact g9⟩, by rw [ew 441 n4]; exact k3, by rw [ew 714 n14]; exact k4, fun z => k5 (by rw [ew 711 n11] at z; exact z), ⟨f12, f13⟩, fun j hj => k7 j hj, fun j hj => k8 j hj, k9⟩, by rw [ew 706 n6]; exact p2, fun z => by rw [ew 711 n11] at z; rw [ew 441 n4]; exact p3 z, fun gd => ?_⟩
  have gw : GDc w hi r := by
    unfold GDc at gd ⊢
    rw [ew 714 n14, ew 711 n11, ew 441 n4] at gd
    exact gd
  obtain ⟨o1, y1⟩ := p4 gw
  exact ⟨⟨fun j hj => o1.1 j (by rw [eu 441 n4]; exact hj), o1.2⟩, by show (F (wi u k y) 441).toNat = _; rw [eu 441 n4], y1⟩
theorem CVI_flag {y : Int} (hk : k = 712 ∨ k = 713) (cu : CVI u lv) (hy : y = 0 ∨ y = 1) : CVI (wi u k y) lv := by
  have hr : RG y := ⟨by omega, by omega⟩
  have eu : ∀ j, j ≠ k → F (wi u k y) j = F u j := fun j hj => by rw [F_wi hr.1 hr.2, if_neg hj]
  have ek : F (wi u k y) k = y := by rw [F_wi hr.1 hr.2, if_pos rfl]
  have n4 : 441 ≠ k := by omega
  have n6 : 706 ≠ k := by omega
  have n9 : 709 ≠ k := by omega
  have n11 : 711 ≠ k := by omega
  have n14 : 714 ≠ k := by omega
  obtain ⟨g1, g2, g3, g4, g5, g6, g7, g8, g9⟩ := cu
  refine ⟨by rw [eu 441 n4]; exact g1, by rw [eu 706 n6]; exact g2, by rw [eu 709 n9]; exact g3, ?_, by rw [eu 714 n14]; exact g5, by rw [eu 711 n11]; exact g6, g7, by rw [eu 706 n6]; exact g8, by rw [eu 706 n6]; exact g9⟩
  rcases hk with rfl | rfl
  · exact ⟨by rw [ek]; exact hy, by rw [eu 713 (by decide)]; exact g4.2⟩
  · exact ⟨by rw [eu 712 (by decide)]; exact g4.1, by rw [ek]; exact hy⟩
theorem PQ_pc (p : PQc u w lv B t) : PCQ u w lv B t hi q q (PTSc w (szc u) (szc w) (knc u w)) := by
  obtain ⟨f, k1, o1, hB, kn, h1, h2, h3⟩ := p
  refine ⟨k1, by omega, fun _ => hB, fun gd => ⟨⟨o1, fun pl _ => ⟨?_, ?_, ?_⟩⟩, ?_⟩⟩
  · show (w.2.2.1 30 pl).toInt = _; rw [f.2.2.1 30 (by simp)]; rfl
  · show (w.2.2.1 31 pl).toInt = _; rw [f.2.2.1 31 (by simp)]; rfl
  · show (w.2.2.1 32 pl).toInt = _; rw [f.2.2.1 32 (by simp)]; rfl
  · have e : knc u w = kn := by show (F w 706 - F u 706).toNat = kn; omega
    rw [e]
    exact h3 gd.2.2.1
end
end
section
set_option maxRecDepth 100000
def TPRc (u w : MS) (lv lo o k : Nat) (wh : Int) (z h m : Nat) (L : List Nat) (x : Nat) : Prop := z ≤ h ∧ 2 * h ≤ lo + 16 ∧ (F u 706 - A u 40 lv ≤ ((m : Nat) : Int) ∧ ((m : Nat) : Int) + A w 41 lv ≤ 40 + (F u 706 - A u 40 lv)) ∧ L.length ≤ o ∧ (k = 0 ∨ (∃ n : Nat, wh = ((n : Nat) : Int) ∧ n ≤ h) ∨ (wh = -1 ∧ 1 ≤ h) ∨ (wh = -2 ∧ x ≠ 0))
def TRYc (u w : MS) (lv lo q s o k : Nat) (wh c : Int) : Prop := ∃ Hp : List Nat, CHNc w Hp c ∧ (∀ p, p ∈ Hp → szc u ≤ p ∧ p < szc w) ∧ (Hp = [] → szc w = szc u) ∧ ∀ z h m L x, TPRc u w lv lo o k wh z h m L x → SGc w (szc u) (szc w) q s (Hp.map (fun p => (p, (h, m, L, 0, x)))) z h m L 0 x (some (h, m + knc u w, L, 0, x))
def TrS (N : Nat) (S : SF_Cm_fun) (o : Nat) : Prop := ∀ (f k kg g m : Nat) (u : MS) (lv cc Q : Nat) (ps : Nat → Nat) (n pl ph rg m2 hi a c c1 q s : Nat) (wh : Int), f ≤ 120 → CMP u lv cc ps Q (o + 1) pl → F u 706 ≤ ((pl : Nat) : Int) → (1 ≤ n ∧ n ≤ 8000) → (A u 18 n = ((m : Nat) : Int) ∧ ORc u 1 (PAc u f) k m pl ph a c q q) → (A u 19 n = ((g : Nat) : Int) ∧ ((g = 0 ∧ rg = m2 ∧ s = q) ∨ (1 ≤ g ∧ RWc u 1 (XPc u f (o + 1) 3) kg g rg m2 c c1 q s))) → ph ≤ rg → rg ≤ m2 → m2 ≤ hi → hi ≤ cc → c ≤ 8000 → (1 ≤ g → c1 ≤ 8000) → s ≤ Q → RG wh → OK (fun w r => ∃ ch : Int, r = I ch ∧ RG ch ∧ PCQ u w lv (WBc ps pl ph + WBc ps rg m2 + ((if k = 0 then 0 else 4) + (if g = 0 then 0 else 5))) (ph - pl + (m2 - rg)) hi q s (TRYc u w lv pl q s o k wh ch)) (S.2.2.2.2.2.2.2.2.2.2.2.1 u (I wh) (I ((n : Nat) : Int)))
section
variable {u v w : MS} {N lv t hi lo o q r s c h m g x d a b k n f Q : Nat} {ps : Nat → Nat} {S : SF_Cm_fun} {W B wh : Int} {Y : Prop}
theorem guardsX {K : MS → Int32 → Prop} {v4 v5 : Int32} (hE : ExS N S o 3) : ∀ (k M : Nat) (n lo hi a b q r : Nat) (u : MS), f ≤ 120 → CMP u lv c ps Q o lo → F u 712 = 1 → RWc u 1 (XPc u f o 3) k n lo hi a b q r → b ≤ 8000 → hi ≤ c → r ≤ Q → k + 1 ≤ M → (∀ w M2, PCQ u w lv (WBc ps lo hi + 1) (hi - lo) hi q r (TYX u w lv lo q r o False 0) → OK K (hb_Cm_tries_181 N S (hg_Cm_tries N S M2) w v4 v5 0)) → OK K ((hg_Cm_tries N S M).2 u v4 v5 (I ((n : Nat) : Int)))
  | 0, _, _, _, _, _, _, _, _, _, _, _, _, h, _, _, _, _, _ => h.elim
  | k + 1, M, n, lo, hi, a, b, q, r, u, hf, hu, h12, h, hb, hh, hQ, hM, kk => by
    obtain ⟨M, rfl⟩ : ∃ M2, M = M2 + 1 + 1 := ⟨M - 2, by omega⟩
    show OK _ (hb_Cm_tries_181 N S (hg_Cm_tries N S (M + 1)) u v4 v5 (I ((n : Nat) : Int)))
    obtain ⟨m, c2, s, e, h⟩ := h
    have he := XP_bd f o 3 _ _ _ _ _ _ _ e
    unfold HDc at he
    have hms : m ≤ hi ∧ c2 ≤ b ∧ s ≤ r := by
      rcases h with ⟨-, -, h1, h2, h3⟩ | ⟨-, n2, -, h3⟩
      · omega
      · have := (RW_hd (XP_bd f o 3) h3).1; unfold HDc at this; omega
    have hcs := CMP_c hu
    have i1 : inb (I ((n : Nat) : Int)) 8016 = true := (I_inb (by omega) (by omega)).mpr ⟨by omega, by omega⟩
    unfold hb_Cm_tries_181
    refine k_c (y := 0) rfl ⟨by omega, by omega⟩ ⟨by decide, by decide⟩ (fun z => absurd z (by omega)) (fun _ => ?_)
    rw [ok_bnd]
    refine ok_mono (hE f u lv c Q ps n lo m a c2 q s 0 hf hu e (by clear h; omega) (by clear h; omega) (by clear h; omega) (by omega)) (fun v _ p1 => ?_)
    refine put_1 (x := 22) p1.1.2.1.1 ⟨by decide, by decide⟩ (fun w1 e1 => ?_)
    have p2 := PC_tail (hi := m) (W := WBc ps lo m + 1) (la := False) (d2 := 0) p1 e1 (by omega) (Nat.le_refl _) (by simp) (fun z => absurd z (by decide)) (fun h m L g x p gd l15 hm hh hw => SG_hold (by omega) (by omega) hm (hw 0 (by simp)) (p.2.2.2.2.1.mpr h12) (by omega))
    rw [i1, ck_t, tnI (n := n) rfl (by omega), I_A (k := 21), p2.1.1.A (j := 21) (by simp)]
    rcases h with ⟨k0, h0, rfl, rfl, rfl⟩ | ⟨-, n2, h2, h3⟩
    · rw [h0]
      show OK _ (hb_Cm_tries_181 N S (hg_Cm_tries N S M) w1 v4 v5 0)
      exact kk w1 M p2
    · rw [h2]
      have g1 := (RW_hd (XP_bd f o 3) h3).1
      unfold HDc at g1
      have hw : CMP w1 lv c ps Q o (m + 1) := CMP_k hu p2.1 (by have := p2.2.1.2; have := hu.2.2.2.2; omega) (Nat.le_refl _)
      refine guardsX hE k (M + 1) n2 (m + 1) hi c2 b s r w1 hf hw (by rw [p2.1.2.2.2.2.2.1.1]; exact h12) (RW_k (XP_k (Nat.le_refl _) (Nat.le_refl _)) (XP_bd f o 3) h3 (KN_m p2.1.1)) hb hh hQ (by omega) (fun w M2 p3 => kk w M2 ?_)
      have wb := WB_2 hcs.1 (lo := lo) (m := m) (lo2 := m + 1) (hi := hi) (by omega) (by omega) (by omega) hh
      exact PC_two hu.1 p2 p3 (by omega) (by omega) (by omega) (hd := by omega) (W := WBc ps lo hi + 1) (t := hi - lo) (by omega) (by omega)
theorem patsX {K : MS → Int32 → Prop} {v2 v3 v4 : Int32} (hP : ∀ (u : MS) (lv c : Nat) (ps : Nat → Nat) (n lo hi a b q r : Nat), CVI u lv → CSX u c ps → PAc u f n lo hi a b q r → b ≤ 8000 → hi ≤ c → F u 706 + ((hi - lo : Nat) : Int) ≤ 4000 → OK (fun w _ => PQc u w lv (WBc ps lo hi) (hi - lo)) (hr_Cm_pattern N u (I ((n : Nat) : Int)))) : ∀ (k M : Nat) (n lo hi a b q r : Nat) (u : MS), CVI u lv → CSX u c ps → RWc u 1 (PAc u f) k n lo hi a b q r → b ≤ 8000 → hi ≤ c → F u 706 + ((hi - lo : Nat) : Int) ≤ 4000 → k + 1 ≤ M → (∀ w M2, M ≤ M2 + k + 1 → PQc u w lv (WBc ps lo hi) (hi - lo) → OK K (hb_Cm_tries_71 N S (hg_Cm_tries N S M2) w v2 v3 v4 0)) → OK K ((hg_Cm_tries N S M).1 u v2 v3 v4 (I ((n : Nat) : Int)))
  | 0, _, _, _, _, _, _, _, _, _, _, _, h, _, _, _, _, _ => h.elim
  | k + 1, M, n, lo, hi, a, b, q, r, u, hv, hc, h, hb, hh, ht, hM, kk => by
    obtain ⟨M, rfl⟩ : ∃ M2, M = M2 + 1 + 1 := ⟨M - 2, by omega⟩
    show OK _ (hb_Cm_tries_71 N S (hg_Cm_tries N S (M + 1)) u v2 v3 v4 (I ((n : Nat) : Int)))
    obtain ⟨m, c2, s, e, h⟩ := h
    have he := PA_bd f _ _ _ _ _ _ _ e
    unfold HDc at he
    have hms : m ≤ hi ∧ c2 ≤ b := by
      rcases h with ⟨-, -, h1, h2, -⟩ | ⟨-, n2, -, h3⟩
      · omega
      · have := (RW_hd (PA_bd f) h3).1; unfold HDc at this; omega
    have i1 : inb (I ((n : Nat) : Int)) 8016 = true := (I_inb (by omega) (by omega)).mpr ⟨by omega, by omega⟩
    unfold hb_Cm_tries_71
    refine k_c (y := 0) rfl ⟨by omega, by omega⟩ ⟨by decide, by decide⟩ (fun z => absurd z (by omega)) (fun _ => ?_)
    rw [ok_bnd]
    refine ok_mono (hP u lv c ps n lo m a c2 q s hv hc e (by clear h; omega) (by clear h; omega) (by clear h; omega)) (fun v _ p1 => ?_)
    rw [i1, ck_t, tnI (n := n) rfl (by omega), I_A (k := 21), p1.2.1.1.A (j := 21) (by simp)]
    rcases h with ⟨k0, h0, rfl, rfl, rfl⟩ | ⟨-, n2, h2, h3⟩
    · rw [h0]
      subst k0
      show OK _ (hb_Cm_tries_71 N S (hg_Cm_tries N S M) v v2 v3 v4 0)
      exact kk v M (by omega) p1
    · rw [h2]
      have g1 := (RW_hd (PA_bd f) h3).1
      unfold HDc at g1
      have tp := PQ_top p1
      have wb := WB_2 hc (lo := lo) (m := m) (lo2 := m + 1) (hi := hi) (by omega) (by omega) (by omega) hh
      exact patsX hP k (M + 1) n2 (m + 1) hi c2 b s r v p1.2.1.2.1 (CSX_k hc p1.2.1.1) (RW_k (PA_k (Nat.le_refl _)) (PA_bd f) h3 (KN_m p1.2.1.1)) hb hh (by omega) (by omega) (fun w M2 h5 p2 => kk w M2 (by omega) (PQ_w (PQ_tr hv.1.1 p1 p2) (by omega) (by omega)))
theorem pattern_300 (hN : 10000 ≤ N) (hf : f ≤ 120) (u : MS) (lv c : Nat) (ps : Nat → Nat) (n lo hi a b q r : Nat) (h1 : CVI u lv) (h2 : CSX u c ps) (h3 : PAc u f n lo hi a b q r) (h4 : b ≤ 8000) (h5 : hi ≤ c) (h6 : F u 706 + ((hi - lo : Nat) : Int) ≤ 4000) : OK (fun w _ => PQc u w lv (WBc ps lo hi) (hi - lo)) (hr_Cm_pattern N u (I ((n : Nat) : Int))) := (grpA_ok hN 300 f).1 (by omega) u lv c ps n lo hi a b q r h1 h2 h3 h4 h5 h6
end
end
section
set_option maxRecDepth 100000
section
variable {u v w : MS} {N lv t hi lo o q r s c h m g x d a b k n f Q z : Nat} {ps : Nat → Nat} {S : SF_Cm_fun} {W B wh : Int} {L : List Nat} {H : List (Nat × Tyc)} {oo : Option Tyc}
theorem SG_wi {y : Int} (hy : RG y) (hk : k ≠ 22 ∧ k ≠ 442 ∧ k ≠ 449) (p : SGc w a b q r H z h m L g x oo) : SGc (wi w k y) a b q r H z h m L g x oo := SG_k p (fun _ _ _ _ => rfl) ⟨by rw [F_wi hy.1 hy.2, if_neg (by omega)], by rw [F_wi hy.1 hy.2, if_neg (by omega)], by rw [F_wi hy.1 hy.2, if_neg (by omega)]; omega, fun _ => rfl, fun _ _ _ => ⟨rfl, rfl, rfl⟩⟩
theorem triesC_ok (hE : ExS N S (o + 1) 3) (hN : 30000 ≤ N) {S2 : SF_Cm_fun} (h2 : S2.2.2.2.2.2.2.2.2.2.2.2.1 = hm_Cm_tries N S) : TrS N S2 o := by
  intro f k kg g m u lv cc Q ps n pl ph rg m2 hi a c c1 q s wh hf hu h706 hn h18 h19 hpr hrm hmh hhc hc8 hc18 hsQ hwh
  rw [h2]
  have hcs := CMP_c hu
  have cu := hu.1
  have gp := OR_hd (PA_bd f) h18.2
  have i1 : inb (I ((n : Nat) : Int)) 8016 = true := (I_inb (by omega) (by omega)).mpr ⟨by omega, by omega⟩
  have hqs : q ≤ s ∧ (1 ≤ g → kg ≤ 8000) := by
    rcases h19.2 with ⟨z1, z2, z3⟩ | ⟨z1, z2⟩
    · exact ⟨by omega, fun z => by omega⟩
    · have := (RW_hd (XP_bd f (o + 1) 3) z2).1
      have h5 := RW_cnt (XP_bd f (o + 1) 3) z2
      unfold HDc at this
      exact ⟨by omega, fun z => by have := hc18 z; omega⟩
  have e111 : ∀ (v : MS) (ch0 : Int) (M : Nat), PCQ u v lv (WBc ps pl ph + (if k = 0 then 0 else 4)) (ph - pl) hi q q (TRYc u v lv pl q q o k wh ch0) → RG ch0 → 8001 ≤ M → OK (fun w r => ∃ ch : Int, r = I ch ∧ RG ch ∧ PCQ u w lv (WBc ps pl ph + WBc ps rg m2 + ((if k = 0 then 0 else 4) + (if g = 0 then 0 else 5))) (ph - pl + (m2 - rg)) hi q s (TRYc u w lv pl q s o k wh ch)) (hb_Cm_tries_111 N S (hg_Cm_tries N S M) v (I ((n : Nat) : Int)) (I (F u 706)) (I ch0)) := fun v ch0 M pv hch hM => by
    unfold hb_Cm_tries_111
    rw [i1, ck_t, tnI (n := n) rfl (by omega), I_A (k := 19), pv.1.1.A (j := 19) (by simp), h19.1]
    rcases h19.2 with ⟨z1, z2, z3⟩ | ⟨hg1, hrw⟩
    · subst z1 z2 z3
      refine k_c (y := 0) rfl ⟨by decide, by decide⟩ ⟨by decide, by decide⟩ (fun _ => ok_some.mpr ⟨ch0, rfl, hch, ?_⟩) (fun z => absurd rfl z)
      have : WBc ps rg rg = 0 := by unfold WBc; simp
      exact PC_w pv (by rw [this]; simp) (by omega) (Nat.le_refl _) (fun _ y => y)
    · have cv := pv.1.2.1
      have kv := pv.1
      have pv6 := pv.2.1
      have hu6 := hu.2.2.2.2
      have gr := (RW_hd (XP_bd f (o + 1) 3) hrw).1
      unfold HDc at gr
      have hkg := hqs.2 hg1
      have hc1 := hc18 hg1
      refine k_c (y := 0) rfl ⟨by omega, by omega⟩ ⟨by decide, by decide⟩ (fun z => absurd z (by omega)) (fun _ => ok_lt.mpr ?_)
      rw [lit1q, wi_e]
      have cv1 : CVI (wi v 712 1) lv := CVI_flag (Or.inl rfl) cv (Or.inr rfl)
      have ev : ∀ j, j ≠ 712 → F (wi v 712 1) j = F v j := fun j hj => by rw [F_wi (by decide) (by decide), if_neg hj]
      have ev12 : F (wi v 712 1) 712 = 1 := by rw [F_wi (by decide) (by decide), if_pos rfl]
      have ef1 : KMF v (wi v 712 1) := FR.wi FR.rf (by simp)
      have eA1 : ∀ r j, A (wi v 712 1) r j = A v r j := fun _ _ => rfl
      have flag : ∀ w W t Y, PCQ (wi v 712 1) w lv W t hi q s Y → PCQ v (wi w 712 (F v 712)) lv W t hi q s (szc (wi v 712 1) = szc v ∧ Y) := fun w W t Y p => PC_flag (Or.inl rfl) cv (Or.inr rfl) p
      generalize wi v 712 1 = v1 at cv1 ev ev12 ef1 eA1 flag ⊢
      refine put_1 (x := 21) cv1.1 ⟨by decide, by decide⟩ (fun w1 e1 => ?_)
      have e16 : F w1 706 = F v 706 := (congrArg _ (e1.1.1 706 (by simp)) : F w1 706 = F v1 706).trans (ev 706 (by decide))
      rw [I_F (k := 706), e16, I_sub]
      refine put_B (x := F v 706 - F u 706) cv1.1.1 e1 ⟨by omega, by omega⟩ (fun w2 e2 => ?_)
      refine hook_B (x := ch0) cv1.1.1 e2 hch (fun v2 e3 => ?_)
      have k2 := EMc.km cv1 e3
      have kf2 : KMF u v2 := KMF.tr kv.1 (KMF.tr ef1 k2.1)
      have e26 : F v2 706 = F v 706 := (congrArg _ (e3.1.1 706 (by simp)) : F v2 706 = F v1 706).trans (ev 706 (by decide))
      rw [ck_t, I_A (k := 19), kf2.A (j := 19) (by simp), h19.1]
      have hv2 : CMP v2 lv cc ps Q (o + 1) rg := ⟨k2.2.1, CMX_k hu.2.1 kf2, by rw [k2.2.2.2.2.2.1.2, ev 713 (by decide), kv.2.2.2.2.2.1.2]; exact hu.2.2.1, by have := hu.2.2.2.1; omega, by omega⟩
      refine guardsX hE kg M g rg m2 c c1 q s v2 hf hv2 (by rw [k2.2.2.2.2.2.1.1]; exact ev12) (RW_k (XP_k (Nat.le_refl _) (Nat.le_refl _)) (XP_bd f (o + 1) 3) hrw (KN_m kf2)) hc1 (by omega) hsQ (by omega) (fun w M2 p3 => ?_)
      unfold hb_Cm_tries_181
      refine ok_br.mpr ⟨fun _ => ?_, fun z => absurd z (by decide)⟩
      refine put_1 (x := 23) p3.1.2.1.1 ⟨by decide, by decide⟩ (fun w1 e4 => ?_)
      have v12 := cv.2.2.2.1.1
      rw [I_F (k := 712)]
      refine ok_ck.mpr ⟨by rcases v12 with z | z <;> rw [z] <;> decide, ok_lt.mpr (ok_some.mpr ⟨F v2 441 - 1, rfl, ⟨by have := k2.2.1.1; omega, by have := k2.2.1.1; omega⟩, ?_⟩)⟩
      rw [wi_e]
      have p3' : PCQ v2 w lv (WBc ps rg m2 + 1) (m2 - rg) hi q s (TYX v2 w lv rg q s (o + 1) False 0) := PC_w p3 (Int.le_refl _) (Nat.le_refl _) hmh (fun _ y => y)
      have c3 := p3.1.2.1
      have q1 := PC_seq (Y := (szc v2 = szc v1 + 3 ∧ (A w 23 (szc v1) = 21 ∧ A w 23 (szc v1 + 1) = F v 706 - F u 706 ∧ A w 23 (szc v1 + 2) = ch0)) ∧ TYX v2 w lv rg q s (o + 1) False 0) (PC_em (hi := hi) (q := q) cv1 e3) p3' (Nat.le_refl _) (Nat.le_refl _) hqs.1 (fun gd o1 o2 y1 y2 => by
        have cc2 := k2.2.1.1
        have s3 : szc v2 = szc v1 + 3 := y1.1
        have lt : ∀ j, j < 3 → A w 23 (szc v1 + j) = A v2 23 (szc v1 + j) := fun j hj => o2.1 _ (by
          have h5 : (F v2 441).toNat = szc v1 + 3 := s3
          omega)
        exact ⟨⟨s3, (lt 0 (by omega)).trans (y1.2 0 (by simp)), (lt 1 (by omega)).trans (y1.2 1 (by simp)), (lt 2 (by omega)).trans (y1.2 2 (by simp))⟩, y2⟩)
      have q2 := PC_seq (Y := (szc v2 = szc v1 + 3 ∧ (A w1 23 (szc v1) = 21 ∧ A w1 23 (szc v1 + 1) = F v 706 - F u 706 ∧ A w1 23 (szc v1 + 2) = ch0)) ∧ (szc w1 = szc w + 1 ∧ A w1 23 (szc w) = 23 ∧ OLQ w w1 s s) ∧ TYX v2 w lv rg q s (o + 1) False 0) q1 (PC_em (hi := hi) (q := s) c3 e4) (Nat.le_refl _) hqs.1 (Nat.le_refl _) (fun gd o1 o2 y1 y2 => by
        have s3 := y1.1.1
        have le := szc_le k2.2.1 p3.1
        have cc3 := c3.1
        have lt : ∀ j, j < 3 → A w1 23 (szc v1 + j) = A w 23 (szc v1 + j) := fun j hj => o2.1 _ (by
          have h5 : szc v1 + 3 ≤ (F w 441).toNat := by rw [← s3]; exact le
          omega)
        exact ⟨⟨s3, (lt 0 (by omega)).trans y1.1.2.1, (lt 1 (by omega)).trans y1.1.2.2.1, (lt 2 (by omega)).trans y1.1.2.2.2⟩, ⟨y2.1, y2.2 0 (by simp), o2⟩, y1.2⟩)
      have q3 := flag _ _ _ _ q2
      have frv := FRG1 v 712
      have ew : ∀ j, j ≠ 712 → F (wi w1 712 (F v 712)) j = F w1 j := fun j hj => by rw [F_wi frv.1 frv.2, if_neg hj]
      have eAw : ∀ r j, A (wi w1 712 (F v 712)) r j = A w1 r j := fun _ _ => rfl
      have ef4 : F w1 706 = F w 706 := congrArg _ (e4.1.1 706 (by simp))
      have esz : szc (wi w1 712 (F v 712)) = szc w1 := by show (F (wi w1 712 (F v 712)) 441).toNat = _; rw [ew 441 (by decide)]
      have q4 := PC_seq (Y := TRYc u (wi w1 712 (F v 712)) lv pl q s o k wh (F v2 441 - 1)) pv q3 (Nat.le_refl _) (Nat.le_refl _) hqs.1 (fun gd o1 o2 y1 y2 => ?_)
      · exact PC_w q4 (by rw [if_neg (show ¬ g = 0 by omega)]; simp; omega) (by omega) (Nat.le_refl _) (fun _ z => z)
      · obtain ⟨Hp, ch1, hp1, -, ty⟩ := y1
        obtain ⟨es1, ⟨s3, w0, w1w, w2w⟩, ⟨s4, w3, ol4⟩, tg⟩ := y2
        rw [es1] at s3 w0 w1w w2w
        have le2 := szc_le k2.2.1 p3.1
        have c2f := k2.2.1.1
        have l15 := gd.2.2.2.1
        have c441 : F v2 441 - 1 = ((szc v + 2 : Nat) : Int) := by
          have h5 : (F v2 441).toNat = szc v + 3 := s3
          omega
        have vlt : szc v + 3 ≤ szc w := by rw [← s3]; exact le2
        have v24 : szc w < 24000 := by
          have h5 := gd.2.2.1
          have h6 : szc (wi w1 712 (F v 712)) = szc w + 1 := esz.trans s4
          have h7 : (F (wi w1 712 (F v 712)) 441).toNat = szc w + 1 := h6
          omega
        have kvw : KMc v (wi w1 712 (F v 712)) lv := q3.1
        have old : ∀ p, p < szc v → A (wi w1 712 (F v 712)) 23 p = A v 23 p := fun p hp => o2.1 p (by have : p < (F v 441).toNat := hp; have := cv.1; omega)
        have v1p : 1 ≤ szc v := by have := cv.1; show 1 ≤ (F v 441).toNat; omega
        have uv := szc_le cu kv
        refine ⟨(szc v + 2) :: Hp, ⟨c441, ⟨by omega, by omega⟩, fun p hp => by have := (hp1 p hp).2; omega, ?_⟩, fun p hp => ?_, fun z => absurd z (by simp), fun z h m L x tp => ?_⟩
        · rw [eAw, w2w]
          exact CHNc_k (fun p hp => old p (hp1 p hp).2) ch1
        · simp only [List.mem_cons] at hp
          rcases hp with rfl | hp
          · exact ⟨by omega, by rw [esz, s4]; omega⟩
          · have := hp1 p hp
            exact ⟨this.1, by rw [esz, s4]; omega⟩
        · obtain ⟨t1, t2, ⟨t3, t4⟩, t5, t6⟩ := tp
          have e41 := kvw.2.2.2.2.2.2.2.2
          have e40 := kv.2.2.2.2.2.2.1 lv (Nat.le_refl _)
          have i1 := ty z h m L x ⟨t1, t2, ⟨t3, by omega⟩, t5, t6⟩
          have j1 := SG_kw cv i1 kvw.1 o2 (Nat.le_refl _) (Or.inl (Nat.le_refl _))
          have kn : ((knc u v : Nat) : Int) = F v 706 - F u 706 := by show (((F v 706 - F u 706).toNat : Nat) : Int) = _; omega
          have e40v : A v2 40 lv = A v 40 lv := (k2.2.2.2.2.2.2.1 lv (Nat.le_refl _)).trans (eA1 40 lv)
          have e41w : A w 41 lv ≤ A (wi w1 712 (F v 712)) 41 lv := (EMc.km c3 e4).2.2.2.2.2.2.2.2
          obtain ⟨n1, i2⟩ := tg h (m + knc u v) L (szc v) x ⟨by omega, ⟨by rw [e26, e40v, e40]; omega, by rw [e26, e40v, e40]; omega⟩, by omega, fun z => z.elim, ⟨fun _ => by rw [k2.2.2.2.2.2.1.1]; exact ev12, fun _ => by omega⟩, fun z => by omega⟩
          have n2 : F w 706 = F v 706 := (n1 (by omega)).trans e26
          rw [s3, show knc v2 w = 0 by show (F w 706 - F v2 706).toNat = 0; omega, Nat.add_zero, Nat.add_zero] at i2
          have i3 := SG_wi (y := F v 712) (k := 712) frv ⟨by decide, by decide, by decide⟩ (SG_kw c3 i2 (EMc.km c3 e4).1 ol4 (Nat.le_refl _) (Or.inl (Nat.le_refl _)))
          have cfw := kvw.2.1
          have hm40 : m + knc u v ≤ 40 := by
            have c8 := cfw.2.2.2.2.2.2.2.2
            have e706 : F (wi w1 712 (F v 712)) 706 = F v 706 := by rw [ew 706 (by decide), ef4, n2]
            have e40f := kvw.2.2.2.2.2.2.1 lv (Nat.le_refl _)
            omega
          have j2 := SG_grd (z := z) (n := knc u v) t1 (by omega) hm40 w0 (by rw [w1w]; omega) (by omega) v1p i3 w3
          rw [show m + knc u v - knc u v = m by omega, ← s4, ← esz] at j2
          have j := SG_seq j1 j2 (by omega) (fun hg => absurd rfl hg)
          have ekf : knc u (wi w1 712 (F v 712)) = knc u v := by show (F (wi w1 712 (F v 712)) 706 - F u 706).toNat = _; rw [ew 706 (by decide), ef4, n2]
          rw [ekf]
          refine SG_pm (fun p t => ?_) j
          simp only [List.mem_append, List.map_cons, List.mem_cons, List.not_mem_nil, or_false]
          exact Or.comm
  unfold hm_Cm_tries hb_Cm_tries_0
  rw [i1, ck_t, tnI (n := n) rfl (by omega), I_A (k := 18), h18.1, I_F (k := 706)]
  rcases h18.2 with ⟨z1, z2, z3, z4, -⟩ | ⟨hk1, hrw⟩
  · subst z1 z2 z3
    refine k_c (y := 0) rfl ⟨by decide, by decide⟩ ⟨by decide, by decide⟩ (fun _ => ?_) (fun z => absurd rfl z)
    refine e111 u 0 N (PC_w (PC_rf (hi := hi) (q := q) cu) ?_ (by omega) (Nat.le_refl _) (fun _ _ => ⟨[], rfl, fun p hp => absurd hp (by simp), fun _ => rfl, fun z h m L x tp => ?_⟩)) ⟨by decide, by decide⟩ (by omega)
    · unfold WBc; simp
    · rw [show knc u u = 0 by show (F u 706 - F u 706).toNat = 0; omega]
      exact SG_nl
  · have gr := (RW_hd (PA_bd f) hrw).1
    have hk8 := RW_cnt (PA_bd f) hrw
    unfold HDc at gr
    refine k_c (y := 0) rfl ⟨by omega, by omega⟩ ⟨by decide, by decide⟩ (fun z => absurd z (by omega)) (fun _ => ?_)
    refine put_1 (x := 19) cu.1 ⟨by decide, by decide⟩ (fun w1 e1 => ?_)
    refine put_B (x := wh) cu.1.1 e1 hwh (fun w2 e2 => ?_)
    refine hook_B (x := 0) cu.1.1 e2 ⟨by decide, by decide⟩ (fun v0 e3 => ?_)
    have k0 := EMc.km cu e3
    have cv0 := k0.2.1
    have e57 : ∀ y : Int, (y = 0 ∨ y = 1) → OK (fun w r => ∃ ch : Int, r = I ch ∧ RG ch ∧ PCQ u w lv (WBc ps pl ph + WBc ps rg m2 + ((if k = 0 then 0 else 4) + (if g = 0 then 0 else 5))) (ph - pl + (m2 - rg)) hi q s (TRYc u w lv pl q s o k wh ch)) (hb_Cm_tries_57 N S (hg_Cm_tries N S N) v0 (I ((n : Nat) : Int)) (I (F u 706)) (I (F v0 441 - 1)) (I y)) := fun y hy => by
      unfold hb_Cm_tries_57
      refine ok_ck.mpr ⟨by rcases hy with rfl | rfl <;> decide, ok_lt.mpr ?_⟩
      rw [wi_e, i1, ck_t, tnI (n := n) rfl (by omega)]
      have hry : RG y := ⟨by omega, by omega⟩
      have cv1 : CVI (wi v0 713 y) lv := CVI_flag (Or.inr rfl) cv0 hy
      have ef1 : KMF v0 (wi v0 713 y) := FR.wi FR.rf (by simp)
      have ev : ∀ j, j ≠ 713 → F (wi v0 713 y) j = F v0 j := fun j hj => by rw [F_wi hry.1 hry.2, if_neg hj]
      have flag : ∀ w W t Y, PCQ (wi v0 713 y) w lv W t hi q q Y → PCQ v0 (wi w 713 (F v0 713)) lv W t hi q q (szc (wi v0 713 y) = szc v0 ∧ Y) := fun w W t Y p => PC_flag (Or.inr rfl) cv0 hy p
      generalize wi v0 713 y = v1 at cv1 ef1 ev flag ⊢
      have kf1 : KMF u v1 := KMF.tr k0.1 ef1
      have e06 : F v0 706 = F u 706 := congrArg _ (e3.1.1 706 (by simp))
      rw [I_A (k := 18), kf1.A (j := 18) (by simp), h18.1]
      refine patsX (fun u lv c ps n lo hi a b q r => pattern_300 (by omega) hf u lv c ps n lo hi a b q r) k N m pl ph a c q q v1 cv1 (CSX_k hcs.1 kf1) (RW_k (PA_k (Nat.le_refl _)) (PA_bd f) hrw (KN_m kf1)) hc8 (by omega) (by rw [ev 706 (by decide), e06]; omega) (by omega) (fun w M2 hM2 pq => ?_)
      unfold hb_Cm_tries_71
      refine ok_br.mpr ⟨fun _ => ok_lt.mpr ?_, fun z => absurd z (by decide)⟩
      have f713 : F v0 713 = 0 := by rw [k0.2.2.2.2.2.1.2]; exact hu.2.2.1
      have q1 := flag _ _ _ _ (PQ_pc (hi := hi) (q := q) pq)
      rw [f713] at q1
      rw [lit0q, wi_e]
      have c1w := q1.1.2.1
      have esz : szc (wi w 713 0) = szc w := by show (F (wi w 713 0) 441).toNat = _; rw [F_wi (by decide) (by decide), if_neg (by decide)]
      have e6w : F (wi w 713 0) 706 = F w 706 := by rw [F_wi (by decide) (by decide), if_neg (by decide)]
      have eAw : ∀ r j, A (wi w 713 0) r j = A w r j := fun _ _ => rfl
      generalize wi w 713 0 = w' at q1 c1w esz e6w eAw ⊢
      refine put_1 (x := 8) c1w.1 ⟨by decide, by decide⟩ (fun v2 e4 => ?_)
      have c0r := cv0.1
      refine e111 v2 (F v0 441 - 1) M2 ?_ ⟨by omega, by omega⟩ (by omega)
      have p1 := PC_seq (Y := (szc v0 = szc u + 3 ∧ A w' 23 (szc u) = 19 ∧ A w' 23 (szc u + 1) = wh ∧ A w' 23 (szc u + 2) = 0) ∧ PTSc w' (szc u + 3) (szc w') (knc u w')) (PC_em (hi := hi) (q := q) cu e3) q1 (Nat.le_refl _) (Nat.le_refl _) (Nat.le_refl _) (fun gd o1 o2 y1 y2 => by
        have s3 : szc v0 = szc u + 3 := y1.1
        have lt : ∀ j, j < 3 → A w' 23 (szc u + j) = A v0 23 (szc u + j) := fun j hj => o2.1 _ (by
          have h5 : (F v0 441).toNat = szc u + 3 := s3
          omega)
        refine ⟨⟨s3, (lt 0 (by omega)).trans (y1.2 0 (by simp)), (lt 1 (by omega)).trans (y1.2 1 (by simp)), (lt 2 (by omega)).trans (y1.2 2 (by simp))⟩, ?_⟩
        obtain ⟨y3, y4⟩ := y2
        rw [y3, s3, ← esz] at y4
        have : knc v1 w = knc u w' := by show (F w 706 - F v1 706).toNat = (F w' 706 - F u 706).toNat; rw [e6w, ev 706 (by decide), e06]
        rw [this] at y4
        exact PTS_k y4 (fun j _ _ => eAw 23 j))
      have p2 := PC_seq (Y := TRYc u v2 lv pl q q o k wh (F v0 441 - 1)) p1 (PC_em (hi := hi) (q := q) c1w e4) (Nat.le_refl _) (Nat.le_refl _) (Nat.le_refl _) (fun gd o1 o2 y1 y2 => ?_)
      · exact PC_w p2 (by rw [if_neg (show ¬ k = 0 by omega)]; simp; omega) (by omega) (Nat.le_refl _) (fun _ z => z)
      · obtain ⟨⟨s3, w0, w1w, w2w⟩, pt⟩ := y1
        have s4 : szc v2 = szc w' + 1 := y2.1
        have w3 : A v2 23 (szc w') = 8 := y2.2 0 (by simp)
        have ptl := pt.1
        have cu1 := cu.1
        have v24 : szc w' < 24000 := by
          have h5 := gd.2.2.1
          have h7 : (F v2 441).toNat = szc w' + 1 := s4
          omega
        have c441 : F v0 441 - 1 = ((szc u + 2 : Nat) : Int) := by
          have h5 : (F v0 441).toNat = szc u + 3 := s3
          omega
        have lt : ∀ j, j < szc w' → A v2 23 j = A w' 23 j := fun j hj => o2.1 _ (by
          have h5 : j < (F w' 441).toNat := hj
          omega)
        have u1 : 1 ≤ szc u := by show 1 ≤ (F u 441).toNat; omega
        have e6v : F v2 706 = F w' 706 := congrArg _ (e4.1.1 706 (by simp))
        have ekv : knc u v2 = knc u w' := by show (F v2 706 - F u 706).toNat = _; rw [e6v]
        have kuv := KMc.tr p1.1 (EMc.km c1w e4)
        refine ⟨[szc u + 2], ⟨c441, ⟨by omega, by omega⟩, fun p hp => absurd hp (by simp), ?_⟩, fun p hp => ?_, fun z => absurd z (by simp), fun z h m L x tp => ?_⟩
        · show A v2 23 (szc u + 2) = 0
          rw [lt _ (by omega)]; exact w2w
        · simp only [List.mem_singleton] at hp
          rw [hp, s4]
          exact ⟨by omega, by omega⟩
        · obtain ⟨t1, t2, ⟨t3, t4⟩, t5, t6⟩ := tp
          have l15 := gd.2.2.2.1
          have c8 := kuv.2.1.2.2.2.2.2.2.2.2
          have e40 := kuv.2.2.2.2.2.2.1 lv (Nat.le_refl _)
          have h61 := p1.2.1.1
          have kn : ((knc u w' : Nat) : Int) = F w' 706 - F u 706 := by show (((F w' 706 - F u 706).toNat : Nat) : Int) = _; omega
          rw [ekv, s4]
          refine SG_fit (e := szc w') (b2 := knc u w') t1 (by omega) (by omega) (by rw [lt _ (by omega)]; exact w0) rfl ?_ (PTS_k pt (fun j _ hj => lt j hj)) w3 v24
          rw [lt _ (by omega), w1w]
          rcases t6 with z | z
          · omega
          · exact z
    rw [lit0q]
    exact ok_br.mpr ⟨fun _ => e57 0 (Or.inl rfl), fun _ => e57 1 (Or.inr rfl)⟩
end
end
section
set_option maxRecDepth 100000
def NMc (u w : MS) (lv m : Nat) : Prop := F u 706 - A u 40 lv ≤ ((m : Nat) : Int) ∧ ((m : Nat) : Int) + A w 41 lv ≤ 40 + (F u 706 - A u 40 lv)
def ClS (N : Nat) (S : SF_Cm_fun) (o : Nat) : Prop := ∀ (f k : Nat) (u : MS) (lv cc Q : Nat) (ps : Nat → Nat) (n pl ph r0 hi a b q r : Nat) (line : Int), f ≤ 120 → CMP u lv cc ps Q (o + 1) pl → F u 712 = 0 → PRTc u (PAc u f) (XPc u f (o + 2) 3) (XPc u f (o + 1) 3) k n pl ph r0 hi a b q r → ph ≤ r0 → b ≤ 8000 → hi ≤ cc → r ≤ Q → k ≤ 6 → RG line → OK (fun w _ => PCQ u w lv (WBc ps pl hi - 12 * ((r0 - ph : Nat) : Int) - 4) 0 hi q r (F w 706 = F u 706 ∧ szc u < szc w ∧ ∀ m, NMc u w lv m → SGc w (szc u) (szc w) q r [] 0 k m [] 0 0 (some (k, m, [], 0, 0)))) (S.2.2.2.2.2.2.2.2.2.2.2.2 u (I ((n : Nat) : Int)) (I ((k : Nat) : Int)) (I line))
section
variable {u v w : MS} {N lv t hi lo o q r s c h m g x d a b k n f Q z : Nat} {ps : Nat → Nat} {S : SF_Cm_fun} {W B wh : Int} {L : List Nat} {H : List (Nat × Tyc)} {oo : Option Tyc} {Y Y1 : Prop}
theorem PC_706 {m0 : Int} (p : PCQ u v lv W t hi q r Y) (h1 : m0 = F u 706) (hc : A u 40 lv ≤ m0) : PCQ u (wi v 706 m0) lv W 0 hi q r Y := by
  have cv := p.1.2.1
  have hr : RG m0 := by rw [h1]; exact FRG1 u 706
  have e40 := p.1.2.2.2.2.2.2.1 lv (Nat.le_refl _)
  have h6 := p.2.1
  have km := top_km (m := m0) cv (by omega) (by omega)
  have ev : ∀ j, j ≠ 706 → F (wi v 706 m0) j = F v j := fun j hj => by rw [F_wi hr.1 hr.2, if_neg hj]
  have e6 : F (wi v 706 m0) 706 = m0 := by rw [F_wi hr.1 hr.2, if_pos rfl]
  refine ⟨KMc.tr p.1 km, by rw [e6]; omega, fun z => by rw [ev 711 (by decide)] at z; rw [ev 441 (by decide)]; exact p.2.2.1 z, fun gd => ?_⟩
  have gv : GDc v hi r := by
    unfold GDc at gd ⊢
    rw [ev 714 (by decide), ev 711 (by decide), ev 441 (by decide)] at gd
    exact gd
  obtain ⟨o1, y⟩ := p.2.2.2 gv
  exact ⟨⟨o1.1, o1.2⟩, y⟩
theorem clauseC_ok (hT : TrS N S o) (hB : BoS N S (o + 2)) (hN : 30000 ≤ N) {S2 : SF_Cm_fun} (h2 : S2.2.2.2.2.2.2.2.2.2.2.2.2 = hm_Cm_clause N S) : ClS N S2 o := by
  intro f k u lv cc Q ps n pl ph r0 hi a b q r line hf hu h12 hX hpr hb hh hQ hk hline
  rw [h2]
  have hcs := CMP_c hu
  have cu := hu.1
  obtain ⟨hn, -, -, m, c, g, m2, c1, s, kb, mb, c2, h18, h19, h20, hc2n⟩ := hX
  have gp := OR_hd (PA_bd f) h18.2
  have gb := (RW_hd (XP_bd f (o + 2) 3) h20.2).1
  unfold HDc at gb
  have i1 : inb (I ((n : Nat) : Int)) 8016 = true := (I_inb (by omega) (by omega)).mpr ⟨by omega, by omega⟩
  obtain ⟨rg, kg, h19b, hg1, hg2, hg3, hqs⟩ : ∃ rg kg : Nat, (A u 19 n = ((g : Nat) : Int) ∧ ((g = 0 ∧ rg = m2 ∧ s = q) ∨ (1 ≤ g ∧ RWc u 1 (XPc u f (o + 1) 3) kg g rg m2 c c1 q s))) ∧ r0 ≤ rg ∧ rg ≤ m2 ∧ (g ≠ 0 → r0 + 1 ≤ rg) ∧ (q ≤ s ∧ c ≤ c1) := by
    rcases h19.2 with ⟨z1, z2, z3, z4⟩ | ⟨z1, kg, z2⟩
    · exact ⟨m2, 0, ⟨h19.1, Or.inl ⟨z1, rfl, z4⟩⟩, by omega, by omega, fun z => absurd z1 z, by omega⟩
    · have gr := (RW_hd (XP_bd f (o + 1) 3) z2).1
      unfold HDc at gr
      exact ⟨r0 + 1, kg, ⟨h19.1, Or.inr ⟨z1, z2⟩⟩, by omega, by omega, fun _ => by omega, by omega⟩
  have wb : WBc ps pl ph + WBc ps rg m2 + WBc ps (m2 + 1) hi + 12 * ((rg - ph : Nat) : Int) + 12 ≤ WBc ps pl hi := by
    have w1 := WB_2 hcs.1 (lo := pl) (m := ph) (lo2 := rg) (hi := m2) (by omega) (by omega) (by omega) (by omega)
    have w2 := WB_2 hcs.1 (lo := pl) (m := m2) (lo2 := m2 + 1) (hi := hi) (by omega) (by omega) (by omega) (by omega)
    omega
  unfold hm_Cm_clause hb_Cm_clause_0
  rw [ok_bnd]
  refine ok_mono (hT f k kg g m u lv cc Q ps n pl ph rg m2 m2 a c c1 q s ((k : Nat) : Int) hf hu hu.2.2.2.2 (by omega) h18 h19b (by omega) hg2 (Nat.le_refl _) (by omega) (by omega) (fun _ => by omega) (by omega) ⟨by omega, by omega⟩) (fun v r1 hv => ?_)
  obtain ⟨ch, rfl, hch, pv⟩ := hv
  have cv := pv.1.2.1
  refine put_1 (x := 24) cv.1 ⟨by decide, by decide⟩ (fun w1 e1 => ?_)
  refine put_B (x := ((k : Nat) : Int)) cv.1.1 e1 ⟨by omega, by omega⟩ (fun w2 e2 => ?_)
  refine put_B (x := line) cv.1.1 e2 hline (fun v1 e3 => ?_)
  have k1 := EMc.km cv e3
  have kf1 := KMF.tr pv.1.1 k1.1
  have e16 : F v1 706 = F v 706 := congrArg _ (e3.1.1 706 (by simp))
  have pv6 := pv.2.1
  have hu6 := hu.2.2.2.2
  rw [i1, ck_t, tnI (n := n) rfl (by omega), I_A (k := 20), kf1.A (j := 20) (by simp), h20.1, ok_bnd]
  have hv1 : CMP v1 lv cc ps Q (o + 2) (m2 + 1) := CMP_k hu (KMc.tr pv.1 k1) (by rw [e16]; omega) (by omega)
  refine ok_mono (hB f kb v1 lv cc Q ps mb (m2 + 1) hi c1 c2 s r 1 hf hv1 (RW_k (XP_k (Nat.le_refl _) (Nat.le_refl _)) (XP_bd f (o + 2) 3) h20.2 (KN_m kf1)) (by omega) hh hQ (by omega)) (fun v2 _ p2 => ?_)
  have c2v := p2.1.2.1
  refine put_1 (x := 35) c2v.1 ⟨by decide, by decide⟩ (fun v3 e4 => ok_lt.mpr ?_)
  have k3 := EMc.km c2v e4
  have e36 : F v3 706 = F v2 706 := congrArg _ (e4.1.1 706 (by simp))
  have q1 := PC_seq (Y := (szc v1 = szc v + 3 ∧ A v1 23 (szc v) = 24 ∧ A v1 23 (szc v + 1) = ((k : Nat) : Int)) ∧ OLQ v v1 s s ∧ TRYc u v lv pl q s o k ((k : Nat) : Int) ch) pv (PC_em (hi := m2) (q := s) cv e3) (Nat.le_refl _) hqs.1 (Nat.le_refl _) (fun gd o1 o2 y1 y2 => ⟨⟨y2.1, y2.2 0 (by simp), y2.2 1 (by simp)⟩, o2, y1⟩)
  have q2 := PC_seq (Y := ((szc v1 = szc v + 3 ∧ A v1 23 (szc v) = 24 ∧ A v1 23 (szc v + 1) = ((k : Nat) : Int)) ∧ OLQ v v1 s s ∧ TRYc u v lv pl q s o k ((k : Nat) : Int) ch) ∧ OLQ v1 v2 s r ∧ TYX v1 v2 lv (m2 + 1) s r (o + 2) (1 = 1) 1) q1 p2 (by omega) hqs.1 (by omega) (fun gd o1 o2 y1 y2 => ⟨y1, o2, y2⟩)
  have q3 := PC_seq (Y := (((szc v1 = szc v + 3 ∧ A v1 23 (szc v) = 24 ∧ A v1 23 (szc v + 1) = ((k : Nat) : Int)) ∧ OLQ v v1 s s ∧ TRYc u v lv pl q s o k ((k : Nat) : Int) ch) ∧ OLQ v1 v2 s r ∧ TYX v1 v2 lv (m2 + 1) s r (o + 2) (1 = 1) 1) ∧ szc v3 = szc v2 + 1 ∧ A v3 23 (szc v2) = 35 ∧ OLQ v2 v3 r r ∧ GDc v3 hi r) q2 (PC_em (hi := hi) (q := r) c2v e4) (Nat.le_refl _) (by omega) (Nat.le_refl _) (fun gd o1 o2 y1 y2 => ⟨y1, y2.1, y2.2 0 (by simp), o2, gd⟩)
  have kuv3 := q3.1
  have fru := FRG1 u 706
  have q4 := PC_706 (m0 := F u 706) q3 rfl cu.2.2.2.2.2.2.2.1
  rw [I_F (k := 706), wi_e, ok_bnd]
  have c4 := q4.1.2.1
  have ev4 : ∀ j, j ≠ 706 → F (wi v3 706 (F u 706)) j = F v3 j := fun j hj => by rw [F_wi fru.1 fru.2, if_neg hj]
  have e46 : F (wi v3 706 (F u 706)) 706 = F u 706 := by rw [F_wi fru.1 fru.2, if_pos rfl]
  have esz4 : szc (wi v3 706 (F u 706)) = szc v3 := by show (F (wi v3 706 (F u 706)) 441).toNat = _; rw [ev4 441 (by decide)]
  have eA4 : ∀ r j, A (wi v3 706 (F u 706)) r j = A v3 r j := fun _ _ => rfl
  have sg4 : ∀ {a b q r : Nat} {H : List (Nat × Tyc)} {z h m : Nat} {L : List Nat} {g x : Nat} {oo : Option Tyc}, SGc v3 a b q r H z h m L g x oo → SGc (wi v3 706 (F u 706)) a b q r H z h m L g x oo := fun p => SG_wi fru ⟨by decide, by decide, by decide⟩ p
  generalize wi v3 706 (F u 706) = v4 at q4 c4 e46 esz4 eA4 sg4 ⊢
  refine ok_mono (arrive_ok (N := N) (u := v4) hch (by omega)) (fun w _ hw => ok_some.mpr ?_)
  have k35 := KM_23 c4 hw.1
  have e6w : F w 706 = F u 706 := (congrArg _ (hw.1.1 706 (by simp)) : F w 706 = F v4 706).trans e46
  have e41 : A w 41 lv = A v3 41 lv := by
    have : A w 41 lv = A v4 41 lv := by show (w.2.2.1 41 lv).toInt = _; rw [hw.1.2.2.1 41 (by simp)]; rfl
    rw [this, eA4]
  have chn : TRYc u v lv pl q s o k ((k : Nat) : Int) ch → OLQ v v1 s s → OLQ v1 v2 s r → OLQ v2 v3 r r → ∃ Hp, CHNc v4 Hp ch ∧ (∀ p, p ∈ Hp → szc u ≤ p ∧ p < szc v) ∧ ∀ z h m L x, TPRc u v lv pl o k ((k : Nat) : Int) z h m L x → SGc v (szc u) (szc v) q s (Hp.map (fun p => (p, (h, m, L, 0, x)))) z h m L 0 x (some (h, m + knc u v, L, 0, x)) := fun ⟨Hp, c1, c2, _, c3⟩ o1 o2 o3 => by
    refine ⟨Hp, CHNc_k (fun p hp => ?_) c1, c2, c3⟩
    have hp2 : p < (F v 441).toNat := (c2 p hp).2
    have hcv := cv.1
    have f1 := k1.2.2.1
    have f2 := p2.1.2.2.1
    rw [eA4, o3.1 p (by omega), o2.1 p (by omega), o1.1 p (by omega)]
  have q5 := PC_arr (Y1 := F w 706 = F u 706 ∧ szc u < szc w ∧ ∀ m, NMc u w lv m → SGc w (szc u) (szc w) q r [] 0 k m [] 0 0 (some (k, m, [], 0, 0))) q4 hw.1 (fun gv y j hj => ?_) (fun gw gv y => ⟨e6w, ?_⟩)
  · refine PC_w q5 ?_ (Nat.le_refl _) (Nat.le_refl _) (fun _ z => z)
    have : (if g = 0 then (0 : Int) else 5) ≤ 12 * ((rg - r0 : Nat) : Int) := by
      by_cases z : g = 0
      · rw [if_pos z]; omega
      · rw [if_neg z]; have := hg3 z; omega
    have : (if k = 0 then (0 : Int) else 4) ≤ 4 := by split <;> omega
    simp only [List.length_append, List.length_cons, List.length_nil]
    omega
  · obtain ⟨⟨⟨-, o1, ty⟩, o2, -⟩, -, -, o3, -⟩ := y
    obtain ⟨Hp, c1, c2, -⟩ := chn ty o1 o2 o3
    refine (hw.2 Hp c1).2 j (fun hj2 => ?_)
    have : (F u 441).toNat ≤ j := (c2 j hj2).1
    omega
  · obtain ⟨⟨⟨⟨s1, w0, w1w⟩, o1, ty⟩, o2, yb⟩, s3, w3, o3, gd⟩ := y
    obtain ⟨Hp, ch1, hp1, tyt⟩ := chn ty o1 o2 o3
    have ar := hw.2 Hp ch1
    have uv := szc_le cu pv.1
    have v12 := szc_le k1.2.1 p2.1
    have esw : szc w = szc v3 := by
      rw [← esz4]
      show (F w 441).toNat = (F v4 441).toNat
      rw [show F w 441 = F v4 441 from congrArg _ (hw.1.1 441 (by simp))]
    refine ⟨by rw [esw]; omega, fun m nm => ?_⟩
    have l15 := gd.2.2.2.1
    obtain ⟨nm1, nm2⟩ := nm
    have a41a := k1.2.2.2.2.2.2.2.2
    have a41b := p2.1.2.2.2.2.2.2.2.2
    have a41c := k3.2.2.2.2.2.2.2.2
    have a40 := pv.1.2.2.2.2.2.2.1 lv (Nat.le_refl _)
    have a40b := k1.2.2.2.2.2.2.1 lv (Nat.le_refl _)
    have kn : ((knc u v : Nat) : Int) = F v 706 - F u 706 := by show (((F v 706 - F u 706).toNat : Nat) : Int) = _; omega
    have b6 := p2.2.1
    have kn2 : ((knc v1 v2 : Nat) : Int) = F v2 706 - F v1 706 := by show (((F v2 706 - F v1 706).toNat : Nat) : Int) = _; omega
    have c38 := k3.2.1.2.2.2.2.2.2.2.2
    have a40c := kuv3.2.2.2.2.2.2.1 lv (Nat.le_refl _)
    have hm40 : m + knc u v + knc v1 v2 ≤ 40 := by omega
    have h12b : F v1 712 = 0 := by rw [k1.2.2.2.2.2.1.1, pv.1.2.2.2.2.2.1.1]; exact h12
    have i1 := tyt 0 k m [] 0 ⟨by omega, by omega, ⟨nm1, by omega⟩, by simp, Or.inr (Or.inl ⟨k, rfl, Nat.le_refl _⟩)⟩
    obtain ⟨-, i3⟩ := yb 0 (m + knc u v) [] 0 0 ⟨by omega, ⟨by rw [a40b, a40, e16]; omega, by rw [a40b, a40, e16]; omega⟩, by simp, fun _ => rfl, ⟨fun z => absurd rfl z, fun z => by rw [h12b] at z; exact absurd z (by decide)⟩, fun _ => rfl⟩
    have i2 := SG_chos (u := v1) (a := szc v) (n := k) (q := s) (z := 0) (h := k) (m := m + knc u v) (L := []) (g := 0) (x := 0) (by omega) (by omega) (by omega) w0 w1w (Nat.le_refl _)
    rw [Nat.sub_self, ← s1] at i2
    have i4 := SG_ret (u := v3) (a := szc v2) (q := r) (z := 0) (h := 0 + 1) (m := m + knc u v + knc v1 v2) (L := []) (g := 0) (x := 0) (by omega) (by omega) hm40 w3 ⟨rfl, rfl, by omega, rfl⟩
    rw [← s3] at i4
    have j1 := SG_kw cv i1 k1.1 o1 (Nat.le_refl _) (Or.inl (Nat.le_refl _))
    have j12 := SG_seq j1 i2 (by omega) (fun hg => absurd rfl hg)
    have j12' := SG_kw k1.2.1 j12 p2.1.1 o2 (Nat.le_refl _) (Or.inl (Nat.le_refl _))
    have j13 := SG_seq j12' i3 (by omega) (fun hg => absurd rfl hg)
    have j13' := SG_kw c2v j13 k3.1 o3 (Nat.le_refl _) (Or.inl (Nat.le_refl _))
    have j14 := SG_seq j13' i4 (by omega) (fun hg => absurd rfl hg)
    rw [List.append_nil, List.append_nil, List.append_nil, ← List.append_nil (Hp.map _), ← esz4] at j14
    refine SG_arc (lv := lv) (H2 := []) (Hp := Hp) c4 hw.1 ar (sg4 j14) (by rw [esz4]; omega) (Or.inl rfl) (fun p t hp => ?_) (fun p hp => ?_) (fun p t t2 _ hp => by simp at hp)
    · obtain ⟨p2, hp2, h5⟩ := List.mem_map.mp hp
      injection h5 with h6 h7
      exact ⟨h7.symm, h6 ▸ hp2⟩
    · exact ⟨_, List.mem_map.mpr ⟨p, hp, rfl⟩⟩
end
end
section
set_option maxRecDepth 100000
def PPc (u : MS) (f o k n lo hi a b q r : Nat) : Prop := HDc n lo hi a b q r ∧ ∃ m c g m2 c1 s kb mb c2 kg rg ph : Nat, (A u 18 n = ((m : Nat) : Int) ∧ ORc u 1 (PAc u f) k m lo ph a c q q) ∧ (A u 19 n = ((g : Nat) : Int) ∧ ((g = 0 ∧ rg = m2 ∧ s = q) ∨ (1 ≤ g ∧ RWc u 1 (XPc u f (o + 1) 3) kg g rg m2 c c1 q s))) ∧ (A u 20 n = ((mb : Nat) : Int) ∧ RWc u 1 (XPc u f (o + 2) 3) kb mb (m2 + 1) hi c1 c2 s r) ∧ (c ≤ c1 ∧ c2 < n) ∧ (ph ≤ rg ∧ rg ≤ m2 ∧ q ≤ s) ∧ (g ≠ 0 → k ≠ 0 → ph + 1 ≤ rg)
def ddc (th : Int) : Nat := if th = 15 then 1 else 0
def PPRc (u w : MS) (lv lo o : Nat) (th : Int) (la : Prop) (z h m : Nat) (L : List Nat) (x : Nat) : Prop := z + ddc th ≤ h ∧ 2 * h ≤ lo + 16 ∧ NMc u w lv m ∧ L.length ≤ o ∧ (la → L = []) ∧ (th = 33 → x ≠ 0) ∧ (th ≠ 33 → x = 0)
def PTYc (u w : MS) (lv lo q r o : Nat) (th : Int) (la : Prop) (ce : Int) : Prop := F w 706 = F u 706 ∧ ∃ Hp : List Nat, CHNc w Hp ce ∧ (∀ p, p ∈ Hp → szc u ≤ p ∧ p < szc w) ∧ ∀ z h m L x, PPRc u w lv lo o th la z h m L x → SGc w (szc u) (szc w) q r (Hp.map (fun p => (p, (h - ddc th + 1, m, L, 0, 0)))) z h m L 0 x (some (h, m, L, 0, x))
def PaS (N : Nat) (S : SF_Cm_fun) (o k : Nat) : Prop := ∀ (f kk : Nat) (u : MS) (lv cc Q : Nat) (ps : Nat → Nat) (n lo hi a b q r la : Nat) (wh th : Int), f ≤ 120 → CMP u lv cc ps Q o lo → F u 712 = 0 ∨ F u 714 < 1000000000 → ORc u 1 (PPc u f o k) kk n lo hi a b q r → b ≤ 8000 → hi ≤ cc → r ≤ Q → la ≤ 1 → ((wh = -1 ∧ th = 15 ∧ k = 1) ∨ (wh = -1 ∧ th = 0 ∧ k = 0) ∨ (wh = -2 ∧ th = 33 ∧ k = 1)) → OK (fun w r1 => ∃ ce : Int, r1 = I ce ∧ RG ce ∧ PCQ u w lv (WBc ps lo hi) 0 hi q r (PTYc u w lv lo q r o th (la = 1) ce)) (S.2.2.1 u (I ((n : Nat) : Int)) (I wh) (I th) (I ((la : Nat) : Int)))
section
variable {u v w : MS} {N lv t hi lo o q r s c h m g x d a b k n f Q z la : Nat} {ps : Nat → Nat} {S : SF_Cm_fun} {W B wh th ce : Int} {L : List Nat} {H : List (Nat × Tyc)} {oo : Option Tyc} {Y Y1 : Prop}
theorem SG_seqx {x2 m1 h1 : Nat} {H2 : List (Nat × Tyc)} (y0 : SGc u a b q s H z h m L 0 x (some (h1, m1, L, 0, x2))) (y : SGc u b c s r H2 z h1 m1 L 0 x2 oo) (hx : x2 = x ∨ x2 = 0) (hm : m ≤ m1) : SGc u a c q r (H ++ H2) z h m L 0 x oo := by
  have ab := y0.1.1
  have bc := y.1.1
  refine SP_to (SP_seq (P := fun T v => ARc T v a c z m L 0 x) (SP_of y0) (SP_of y) (fun v T hA hTa hTb hTc hH hX => ⟨AR_l hX bc, ?_⟩))
  have X := AR_r hX ab hm (fun z => absurd rfl z)
  rcases hx with rfl | rfl
  · exact X
  · have := X.1.1
    exact ⟨X.1, X.2.1, fun z => absurd rfl z, by omega, fun z => by omega⟩
theorem PP_bd (f o k : Nat) : BdE (PPc u f o k) := fun _ _ _ _ _ _ _ h => h.1
theorem PP_k (hk : KMF u w) : StE u w (PPc u f o k) (PPc w f o k) := fun n lo hi a b q r h _ => by
  obtain ⟨hd, m, c, g, m2, c1, s, kb, mb, c2, kg, rg, ph, h18, h19, h20, h⟩ := h
  refine ⟨hd, m, c, g, m2, c1, s, kb, mb, c2, kg, rg, ph, ⟨by rw [hk.A (by simp)]; exact h18.1, OR_k (PA_k (Nat.le_refl _)) (PA_bd f) h18.2 (KN_m hk)⟩, ⟨by rw [hk.A (by simp)]; exact h19.1, ?_⟩, ⟨by rw [hk.A (by simp)]; exact h20.1, RW_k (XP_k (Nat.le_refl _) (Nat.le_refl _)) (XP_bd f (o + 2) 3) h20.2 (KN_m hk)⟩, h⟩
  rcases h19.2 with z | ⟨z1, z2⟩
  · exact Or.inl z
  · exact Or.inr ⟨z1, RW_k (XP_k (Nat.le_refl _) (Nat.le_refl _)) (XP_bd f (o + 1) 3) z2 (KN_m hk)⟩
theorem partC_ok {cc : Nat} {K : MS → Int32 → Prop} {G : MS → Int32 → Int32 → Int32 → Int32 → Int32 → Option (MS × Int32)} (hT : TrS N S o) (hB : BoS N S (o + 2)) (hN : 30000 ≤ N) (hf : f ≤ 120) (hu : CMP u lv cc ps Q o lo) (h12 : F u 712 = 0 ∨ F u 714 < 1000000000) (hX : PPc u f o k n lo hi a b q r) (hb : b ≤ 8000) (hh : hi ≤ cc) (hQ : r ≤ Q) (hla : la ≤ 1) (hw : (wh = -1 ∧ th = 15 ∧ k = 1) ∨ (wh = -1 ∧ th = 0 ∧ k = 0) ∨ (wh = -2 ∧ th = 33 ∧ k = 1)) (hce : RG ce) (kk : ∀ w (pj : Int), RG pj → KMF u w → PCQ u w lv (WBc ps lo hi) 0 hi q r (F w 706 = F u 706 ∧ ∃ p : Nat, pj = ((p : Nat) : Int) ∧ (szc u ≤ p ∧ p < szc w) ∧ A w 23 p = ce ∧ ∀ z h m L x, PPRc u w lv lo o th (la = 1) z h m L x → SGc w (szc u) (szc w) q r [(p, (h - ddc th + 1, m, L, 0, 0))] z h m L 0 x (some (h, m, L, 0, x))) → OK K (G w (I wh) (I th) (I ((la : Nat) : Int)) (I pj) (I (A u 21 n)))) :
    OK K (bnd (S.2.2.2.2.2.2.2.2.2.2.2.1 u (I wh) (I ((n : Nat) : Int))) (fun u23 r23 => br (decide (I th = 0)) (hb_Cm_parts_38 N S G u23 (I wh) (I th) (I ((la : Nat) : Int)) (I ce) (I ((n : Nat) : Int)) (I (F u 706)) r23) (bnd (hm_Co_put N u23 (I th)) (fun u25 _ => hb_Cm_parts_38 N S G u25 (I wh) (I th) (I ((la : Nat) : Int)) (I ce) (I ((n : Nat) : Int)) (I (F u 706)) r23)))) := by
  have hcs := CMP_c hu
  have cu := hu.1
  obtain ⟨hd, m, c, g, m2, c1, s, kb, mb, c2, kg, rg, ph, h18, h19, h20, ⟨hcc1, hc2n⟩, ⟨hpr, hrm, hqs⟩, hgk⟩ := hX
  unfold HDc at hd
  have gp := OR_hd (PA_bd f) h18.2
  have gb := (RW_hd (XP_bd f (o + 2) 3) h20.2).1
  unfold HDc at gb
  have i1 : inb (I ((n : Nat) : Int)) 8016 = true := (I_inb (by omega) (by omega)).mpr ⟨by omega, by omega⟩
  have wb : WBc ps lo ph + WBc ps rg m2 + WBc ps (m2 + 1) hi + 12 * ((rg - ph : Nat) : Int) + 12 ≤ WBc ps lo hi := by
    have w1 := WB_2 hcs.1 (lo := lo) (m := ph) (lo2 := rg) (hi := m2) (by omega) (by omega) (by omega) (by omega)
    have w2 := WB_2 hcs.1 (lo := lo) (m := m2) (lo2 := m2 + 1) (hi := hi) (by omega) (by omega) (by omega) (by omega)
    omega
  have hu6 := hu.2.2.2.2
  have dth : ddc th = (if th = 15 then 1 else 0) := rfl
  rw [ok_bnd]
  refine ok_mono (hT f k kg g m u lv cc Q ps n lo ph rg m2 m2 a c c1 q s wh hf (CMP_m hu (Nat.le_refl _) (by omega)) hu6 (by omega) h18 h19 hpr hrm (Nat.le_refl _) (by omega) (by omega) (fun _ => by omega) (by omega) ⟨by omega, by omega⟩) (fun v r1 hv => ?_)
  obtain ⟨ch, rfl, hch, pv⟩ := hv
  have cv := pv.1.2.1
  have pv6 := pv.2.1
  have e38 : ∀ (v1 : MS) (l : List Int), EMc v v1 l → ((l = [] ∧ th = 0) ∨ (l = [th] ∧ th ≠ 0)) → OK K (hb_Cm_parts_38 N S G v1 (I wh) (I th) (I ((la : Nat) : Int)) (I ce) (I ((n : Nat) : Int)) (I (F u 706)) (I ch)) := fun v1 l e3 hl => by
    have k1 := EMc.km cv e3
    have kf1 := KMF.tr pv.1.1 k1.1
    have e16 : F v1 706 = F v 706 := congrArg _ (e3.1.1 706 (by simp))
    unfold hb_Cm_parts_38
    rw [i1, ck_t, tnI (n := n) rfl (by omega), I_A (k := 20), kf1.A (j := 20) (by simp), h20.1, ok_bnd]
    have hv1 : CMP v1 lv cc ps Q (o + 2) (m2 + 1) := CMP_k hu (KMc.tr pv.1 k1) (by rw [e16]; omega) (by omega)
    refine ok_mono (hB f kb v1 lv cc Q ps mb (m2 + 1) hi c1 c2 s r la hf hv1 (RW_k (XP_k (Nat.le_refl _) (Nat.le_refl _)) (XP_bd f (o + 2) 3) h20.2 (KN_m kf1)) (by omega) hh hQ hla) (fun v2 _ p2 => ?_)
    have c2v := p2.1.2.1
    have b6 := p2.2.1
    have q1 := PC_seq (Y := (szc v1 = szc v + l.length ∧ ∀ j, j < l.length → A v1 23 (szc v + j) = l.getD j 0) ∧ OLQ v v1 s s ∧ TRYc u v lv lo q s o k wh ch) pv (PC_em (hi := m2) (q := s) cv e3) (Nat.le_refl _) hqs (Nat.le_refl _) (fun gd o1 o2 y1 y2 => ⟨y2, o2, y1⟩)
    have q2 := PC_seq (Y := ((szc v1 = szc v + l.length ∧ ∀ j, j < l.length → A v1 23 (szc v + j) = l.getD j 0) ∧ OLQ v v1 s s ∧ TRYc u v lv lo q s o k wh ch) ∧ OLQ v1 v2 s r ∧ TYX v1 v2 lv (m2 + 1) s r (o + 2) (la = 1) 1) q1 p2 (by omega) hqs (by omega) (fun gd o1 o2 y1 y2 => ⟨y1, o2, y2⟩)
    have e40 := q2.1.2.2.2.2.2.2.1 lv (Nat.le_refl _)
    have c40 := cu.2.2.2.2.2.2.2.1
    refine forget_B c2v (by omega) (by omega) (fun v3 l3 k3 e36 f3 em3 hl3 => ?_)
    have q3 := PC_fgt (Y1 := (((szc v1 = szc v + l.length ∧ ∀ j, j < l.length → A v1 23 (szc v + j) = l.getD j 0) ∧ OLQ v v1 s s ∧ TRYc u v lv lo q s o k wh ch) ∧ OLQ v1 v2 s r ∧ TYX v1 v2 lv (m2 + 1) s r (o + 2) (la = 1) 1) ∧ OLQ v2 v3 r r ∧ (∀ z h m L g x, z ≤ h → h ≤ 1090 → m ≤ 40 → (F v2 706 - F u 706).toNat ≤ m → ((F v2 706 - F u 706).toNat = 0 ∨ g = 0) → SGc v3 (szc v2) (szc v3) r r [] z h m L g x (some (h, m - (F v2 706 - F u 706).toNat, L, g, x)))) k3 e36 f3 em3 hl3 q2 (Int.le_refl _) (by omega) (fun gw gv ol y fg => ⟨y, ol, fg⟩)
    have c3v := k3.2.1
    refine put_1 (x := 18) c3v.1 ⟨by decide, by decide⟩ (fun w1 e4 => hook_B (x := ce) c3v.1.1 e4 hce (fun v4 e5 => ?_))
    have k4 := EMc.km c3v e5
    have c4v := k4.2.1
    have e46 : F v4 706 = F v3 706 := congrArg _ (e5.1.1 706 (by simp))
    have q4 := PC_seq (Y := ((((szc v1 = szc v + l.length ∧ ∀ j, j < l.length → A v1 23 (szc v + j) = l.getD j 0) ∧ OLQ v v1 s s ∧ TRYc u v lv lo q s o k wh ch) ∧ OLQ v1 v2 s r ∧ TYX v1 v2 lv (m2 + 1) s r (o + 2) (la = 1) 1) ∧ OLQ v2 v3 r r ∧ (∀ z h m L g x, z ≤ h → h ≤ 1090 → m ≤ 40 → (F v2 706 - F u 706).toNat ≤ m → ((F v2 706 - F u 706).toNat = 0 ∨ g = 0) → SGc v3 (szc v2) (szc v3) r r [] z h m L g x (some (h, m - (F v2 706 - F u 706).toNat, L, g, x)))) ∧ (szc v4 = szc v3 + 2 ∧ A v4 23 (szc v3) = 18 ∧ A v4 23 (szc v3 + 1) = ce) ∧ OLQ v3 v4 r r ∧ GDc v4 hi r) q3 (PC_em (hi := hi) (q := r) c3v e5) (Nat.le_refl _) (by omega) (Nat.le_refl _) (fun gd o1 o2 y1 y2 => ⟨y1, ⟨y2.1, y2.2 0 (by simp), y2.2 1 (by simp)⟩, o2, gd⟩)
    rw [ok_bnd]
    refine ok_mono (arrive_ok (N := N) (u := v4) hch (by omega)) (fun w _ hw5 => ?_)
    have kuv4 := q4.1
    have k5 := KM_23 c4v hw5.1
    have kuw := KMc.tr kuv4 k5
    rw [ck_t, I_A (k := 21), kuw.1.A (j := 21) (by simp)]
    have e6w : F w 706 = F u 706 := ((congrArg _ (hw5.1.1 706 (by simp)) : F w 706 = F v4 706).trans e46).trans e36
    have c4r := c4v.1
    refine kk w (F v4 441 - 1) ⟨by omega, by omega⟩ kuw.1 ?_
    have chn : TRYc u v lv lo q s o k wh ch → OLQ v v1 s s → OLQ v1 v2 s r → OLQ v2 v3 r r → OLQ v3 v4 r r → ∃ Hp, CHNc v4 Hp ch ∧ (∀ p, p ∈ Hp → szc u ≤ p ∧ p < szc v) ∧ ∀ z h m L x, TPRc u v lv lo o k wh z h m L x → SGc v (szc u) (szc v) q s (Hp.map (fun p => (p, (h, m, L, 0, x)))) z h m L 0 x (some (h, m + knc u v, L, 0, x)) := fun ⟨Hp, c1, c2, _, c3⟩ o1 o2 o3 o4 => by
      refine ⟨Hp, CHNc_k (fun p hp => ?_) c1, c2, c3⟩
      have hp2 : p < (F v 441).toNat := (c2 p hp).2
      have hcv := cv.1
      have f1 := k1.2.2.1
      have f2 := p2.1.2.2.1
      have f3 := k3.2.2.1
      rw [o4.1 p (by omega), o3.1 p (by omega), o2.1 p (by omega), o1.1 p (by omega)]
    have ll : ((l.length : Nat) : Int) ≤ 1 ∧ (l.length = 0 ∨ th ≠ 0) := by
      rcases hl with ⟨rfl, -⟩ | ⟨rfl, z⟩
      · exact ⟨by simp, Or.inl rfl⟩
      · exact ⟨by simp, Or.inr z⟩
    refine PC_w (PC_arr (Y1 := F w 706 = F u 706 ∧ ∃ p : Nat, F v4 441 - 1 = ((p : Nat) : Int) ∧ (szc u ≤ p ∧ p < szc w) ∧ A w 23 p = ce ∧ ∀ z h m L x, PPRc u w lv lo o th (la = 1) z h m L x → SGc w (szc u) (szc w) q r [(p, (h - ddc th + 1, m, L, 0, 0))] z h m L 0 x (some (h, m, L, 0, x))) (t := 0) ⟨q4.1, ?_, q4.2.2.1, q4.2.2.2⟩ hw5.1 (fun gv y j hj => ?_) (fun gw gv y => ⟨e6w, ?_⟩)) ?_ (Nat.le_refl _) (Nat.le_refl _) (fun _ z => z)
    · rw [e46, e36]; omega
    · obtain ⟨⟨⟨⟨-, o1, ty⟩, o2, -⟩, o3, -⟩, -, o4, -⟩ := y
      obtain ⟨Hp, c1, c2, -⟩ := chn ty o1 o2 o3 o4
      refine (hw5.2 Hp c1).2 j (fun hj2 => ?_)
      have : (F u 441).toNat ≤ j := (c2 j hj2).1
      omega
    · obtain ⟨⟨⟨⟨⟨s1, w0⟩, o1, ty⟩, o2, yb⟩, o3, fg⟩, ⟨s4, w4, w4b⟩, o4, gd⟩ := y
      obtain ⟨Hp, ch1, hp1, tyt⟩ := chn ty o1 o2 o3 o4
      have ar := hw5.2 Hp ch1
      have uv := szc_le cu pv.1
      have vv1 := szc_le cv k1
      have v12 := szc_le k1.2.1 p2.1
      have v23 := szc_le c2v k3
      have esw : szc w = szc v4 := by
        show (F w 441).toNat = (F v4 441).toNat
        rw [show F w 441 = F v4 441 from congrArg _ (hw5.1.1 441 (by simp))]
      have pj : F v4 441 - 1 = ((szc v3 + 1 : Nat) : Int) := by
        have h5 : (F v4 441).toNat = szc v3 + 2 := s4
        omega
      have npj : szc v3 + 1 ∉ Hp := fun hp => by have := (hp1 _ hp).2; omega
      refine ⟨szc v3 + 1, pj, ⟨by omega, by rw [esw]; omega⟩, by rw [ar.2 _ npj]; exact w4b, fun z h m L x pp => ?_⟩
      have l15 := gd.2.2.2.1
      obtain ⟨pz, ph2, ⟨nm1, nm2⟩, pL, pla, px1, px2⟩ := pp
      have a41z : A w 41 lv = A v4 41 lv := by show (w.2.2.1 41 lv).toInt = _; rw [hw5.1.2.2.1 41 (by simp)]; rfl
      have a41a := k1.2.2.2.2.2.2.2.2
      have a41b := p2.1.2.2.2.2.2.2.2.2
      have a41c := k3.2.2.2.2.2.2.2.2
      have a41d := k4.2.2.2.2.2.2.2.2
      have a40 := pv.1.2.2.2.2.2.2.1 lv (Nat.le_refl _)
      have a40b := k1.2.2.2.2.2.2.1 lv (Nat.le_refl _)
      have a40c := q2.1.2.2.2.2.2.2.1 lv (Nat.le_refl _)
      have kn : ((knc u v : Nat) : Int) = F v 706 - F u 706 := by show (((F v 706 - F u 706).toNat : Nat) : Int) = _; omega
      have kn2 : ((knc v1 v2 : Nat) : Int) = F v2 706 - F v1 706 := by show (((F v2 706 - F v1 706).toNat : Nat) : Int) = _; omega
      have c28 := c2v.2.2.2.2.2.2.2.2
      have hm40 : m + knc u v + knc v1 v2 ≤ 40 := by omega
      have u12 : F u 712 = 0 := by
        rcases h12 with h12 | h12
        · exact h12
        · have := kuv4.2.2.2.1
          have := gd.1
          omega
      have h12b : F v1 712 = 0 := by rw [k1.2.2.2.2.2.1.1, pv.1.2.2.2.2.2.1.1]; exact u12
      have i1 := tyt z h m L x ⟨by omega, ph2, ⟨nm1, by omega⟩, pL, by
        rcases hw with ⟨z1, z2, -⟩ | ⟨-, -, z3⟩ | ⟨z1, z2, -⟩
        · have : ddc th = 1 := by rw [dth, if_pos z2]
          exact Or.inr (Or.inr (Or.inl ⟨z1, by omega⟩))
        · exact Or.inl z3
        · exact Or.inr (Or.inr (Or.inr ⟨z1, px1 z2⟩))⟩
      have i2 : SGc v1 (szc v) (szc v1) s s [] z h (m + knc u v) L 0 x (some (h - ddc th, m + knc u v, L, 0, 0)) := by
        rw [s1]
        rcases hw with ⟨-, z2, -⟩ | ⟨-, z2, -⟩ | ⟨-, z2, -⟩
        · rcases hl with ⟨-, z3⟩ | ⟨rfl, -⟩
          · omega
          · have x0 := px2 (by omega)
            subst x0
            rw [show ddc th = 1 by rw [dth, if_pos z2]] at pz ⊢
            exact SG_drop (by omega) (by omega) (by omega) ((w0 0 (by simp)).trans z2) (by omega)
        · rcases hl with ⟨rfl, -⟩ | ⟨-, z3⟩
          · have x0 := px2 (by omega)
            subst x0
            rw [show ddc th = 0 by rw [dth, if_neg (by omega)]]
            exact SG_nl
          · omega
        · rcases hl with ⟨-, z3⟩ | ⟨rfl, -⟩
          · omega
          · rw [show ddc th = 0 by rw [dth, if_neg (by omega)]] at pz ⊢
            exact SG_take (by omega) (by omega) (by omega) ((w0 0 (by simp)).trans z2) ⟨rfl, px1 z2⟩
      obtain ⟨-, i3⟩ := yb (h - ddc th) (m + knc u v) L 0 0 ⟨by omega, ⟨by rw [a40b, a40, e16]; omega, by rw [a40b, a40, e16]; omega⟩, by omega, pla, ⟨fun z => absurd rfl z, fun z => by rw [h12b] at z; exact absurd z (by decide)⟩, fun _ => rfl⟩
      have i4 := fg z (h - ddc th + 1) (m + knc u v + knc v1 v2) L 0 0 (by omega) (by omega) hm40 (by omega) (Or.inr rfl)
      rw [show m + knc u v + knc v1 v2 - (F v2 706 - F u 706).toNat = m by omega] at i4
      have i5 := SG_jump (u := v4) (a := szc v3) (q := r) (z := z) (h := h - ddc th + 1) (m := m) (L := L) (g := 0) (x := 0) (by omega) (by omega) (by omega) w4
      rw [← s4] at i5
      have j1 := SG_kw cv i1 k1.1 o1 (Nat.le_refl _) (Or.inl (Nat.le_refl _))
      have j12 := SG_seqx j1 i2 (Or.inl rfl) (by omega)
      have j12' := SG_kw k1.2.1 j12 p2.1.1 o2 (Nat.le_refl _) (Or.inl (Nat.le_refl _))
      have j13 := SG_seqx j12' (SG_z (z2 := z) i3 (by omega)) (Or.inr rfl) (by omega)
      have j13' := SG_kw c2v j13 k3.1 o3 (Nat.le_refl _) (Or.inl (Nat.le_refl _))
      have j14 := SG_seqx j13' i4 (Or.inr rfl) (by omega)
      have j14' := SG_kw c3v j14 k4.1 o4 (Nat.le_refl _) (Or.inl (Nat.le_refl _))
      have j15 := SG_seqx j14' i5 (Or.inr rfl) (Nat.le_refl _)
      rw [List.append_nil, List.append_nil, List.append_nil] at j15
      refine SG_arc (lv := lv) (H2 := [(szc v3 + 1, (h - ddc th + 1, m, L, 0, 0))]) (Hp := Hp) c4v hw5.1 ar j15 (by omega) (Or.inl rfl) (fun p t hp => ?_) (fun p hp => ?_) (fun p t t2 hp hp2 => ?_)
      · obtain ⟨p2, hp2, h5⟩ := List.mem_map.mp hp
        injection h5 with h6 h7
        exact ⟨h7.symm, h6 ▸ hp2⟩
      · exact ⟨_, List.mem_map.mpr ⟨p, hp, rfl⟩⟩
      · obtain ⟨p3, hp3, h5⟩ := List.mem_map.mp hp
        injection h5 with h6 h7
        simp only [List.mem_singleton] at hp2
        injection hp2 with h8 h9
        exact npj (h8 ▸ h6 ▸ hp3)
    · have : (if g = 0 then (0 : Int) else 5) ≤ 12 * ((rg - ph : Nat) : Int) ∨ k = 0 := by
        by_cases z : g = 0
        · rw [if_pos z]; exact Or.inl (by omega)
        · rw [if_neg z]
          by_cases z2 : k = 0
          · exact Or.inr z2
          · have := hgk z z2; exact Or.inl (by omega)
      have h5 : (if g = 0 then (0 : Int) else 5) ≤ 5 := by split <;> omega
      simp only [List.length_append, List.length_cons, List.length_nil]
      rcases hw with ⟨-, z2, z3⟩ | ⟨-, z2, z3⟩ | ⟨-, z2, z3⟩
      · rw [if_neg (by omega)]; omega
      · rw [if_pos z3]
        have : l.length = 0 := by rcases ll.2 with z | z <;> omega
        omega
      · rw [if_neg (by omega)]; omega
  refine ok_br.mpr ⟨fun zt => ?_, fun zt => ?_⟩
  · have : th = 0 := by
      rcases hw with ⟨-, z2, -⟩ | ⟨-, z2, -⟩ | ⟨-, z2, -⟩
      · rw [z2] at zt; exact absurd zt (by decide)
      · exact z2
      · rw [z2] at zt; exact absurd zt (by decide)
    exact e38 v [] (EMc.nl cv.1.2) (Or.inl ⟨rfl, this⟩)
  · have : th ≠ 0 := fun z => by rw [z] at zt; exact absurd zt (by decide)
    exact put_1 (x := th) cv.1 ⟨by omega, by omega⟩ (fun v1 e1 => e38 v1 [th] e1 (Or.inr ⟨rfl, this⟩))
theorem partsX_ok {cc : Nat} (hT : TrS N S o) (hB : BoS N S (o + 2)) (hN : 30000 ≤ N) (hf : f ≤ 120) (hu : CMP u lv cc ps Q o lo) (h12 : F u 712 = 0 ∨ F u 714 < 1000000000) (hla : la ≤ 1) (hw : (wh = -1 ∧ th = 15 ∧ k = 1) ∨ (wh = -1 ∧ th = 0 ∧ k = 0) ∨ (wh = -2 ∧ th = 33 ∧ k = 1)) : ∀ (kk M n x hi a b q2 r : Nat) (ce : Int) (v : MS), RWc v 1 (PPc v f o k) kk n x hi a b q2 r → PCQ u v lv (WBc ps lo x) 0 x q q2 (PTYc u v lv lo q q2 o th (la = 1) ce) → lo ≤ x → q ≤ q2 → RG ce → b ≤ 8000 → hi ≤ cc → r ≤ Q → kk + 1 ≤ M → OK (fun w r1 => ∃ ce : Int, r1 = I ce ∧ RG ce ∧ PCQ u w lv (WBc ps lo hi) 0 hi q r (PTYc u w lv lo q r o th (la = 1) ce)) (hg_Cm_parts N S M v (I wh) (I th) (I ((la : Nat) : Int)) (I ce) (I ((n : Nat) : Int)))
  | 0, _, _, _, _, _, _, _, _, _, _, h, _, _, _, _, _, _, _, _ => h.elim
  | kk + 1, M, n, x, hi, a, b, q2, r, ce, v, h, pv, hlx, hqq, hce, hb, hh, hQ, hM => by
    obtain ⟨M, rfl⟩ : ∃ M2, M = M2 + 1 + 1 := ⟨M - 2, by omega⟩
    show OK _ (hb_Cm_parts_6 N S (hg_Cm_parts N S (M + 1)) v (I wh) (I th) (I ((la : Nat) : Int)) (I ce) (I ((n : Nat) : Int)))
    obtain ⟨m, c2, s, e, h⟩ := h
    have he := PP_bd f o k _ _ _ _ _ _ _ e
    unfold HDc at he
    have hms : m ≤ hi ∧ c2 ≤ b ∧ s ≤ r := by
      rcases h with ⟨-, -, h1, h2, h3⟩ | ⟨-, n2, -, h3⟩
      · omega
      · have := (RW_hd (PP_bd f o k) h3).1; unfold HDc at this; omega
    have hcs := CMP_c hu
    have cv := pv.1.2.1
    have pv6 := pv.2.1
    unfold hb_Cm_parts_6
    refine k_c (y := 0) rfl ⟨by omega, by omega⟩ ⟨by decide, by decide⟩ (fun z => absurd z (by omega)) (fun _ => ?_)
    rw [I_F (k := 706)]
    have h12v : F v 712 = 0 ∨ F v 714 < 1000000000 := by
      rcases h12 with z | z
      · exact Or.inl (by rw [pv.1.2.2.2.2.2.1.1]; exact z)
      · have := pv.1.2.2.2.1
        exact Or.inr (by omega)
    refine partC_ok (k := k) (f := f) (o := o) (lo := x) (hi := m) (a := a) (b := c2) (q := q2) (r := s) (lv := lv) (Q := Q) (ps := ps) hT hB hN hf (CMP_k hu pv.1 (by have := hu.2.2.2.2; omega) (Nat.le_refl _)) h12v e (by clear h; omega) (by clear h; omega) (by clear h; omega) hla hw hce (fun w pj hpj kw pw => ?_)
    have wb := WB_2 hcs.1 (lo := lo) (m := x) (lo2 := x) (hi := m) (by omega) (by omega) (by omega) (by clear h; omega)
    have p2 : PCQ u w lv (WBc ps lo m) 0 m q s (PTYc u w lv lo q s o th (la = 1) pj) := by
      refine PC_w (PC_seq pv pw (by omega) hqq (by omega) (fun gd o1 o2 y1 y2 => ?_)) (by omega) (by omega) (Nat.le_refl _) (fun _ z => z)
      obtain ⟨e6, Hp, ch, hp, ty⟩ := y1
      obtain ⟨e6b, p, z1, z2, z3, tw⟩ := y2
      have uv := szc_le hu.1 pv.1
      have vw := szc_le cv pw.1
      have cu1 := hu.1.1
      refine ⟨e6b.trans e6, p :: Hp, ⟨z1, ⟨?_, ?_⟩, fun p2 hp2 => by have := (hp p2 hp2).2; omega, ?_⟩, fun p2 hp2 => ?_, fun z h m L x0 pp => ?_⟩
      · have : (F u 441).toNat ≤ szc v := uv
        omega
      · have h5 := gd.2.2.1
        have h6 : p < (F w 441).toNat := z2.2
        omega
      · rw [z3]
        exact CHNc_k (fun p2 hp2 => o2.1 p2 (by have h5 : p2 < (F v 441).toNat := (hp p2 hp2).2; omega)) ch
      · simp only [List.mem_cons] at hp2
        rcases hp2 with rfl | hp2
        · exact ⟨by omega, z2.2⟩
        · have := hp p2 hp2
          exact ⟨this.1, by omega⟩
      · obtain ⟨p1, p2, ⟨p3, p4⟩, p5⟩ := pp
        have a41 := pw.1.2.2.2.2.2.2.2.2
        have a40 := pv.1.2.2.2.2.2.2.1 lv (Nat.le_refl _)
        have i1 := ty z h m L x0 ⟨p1, p2, ⟨p3, by omega⟩, p5⟩
        have i2 := tw z h m L x0 ⟨p1, by omega, ⟨by rw [a40, e6]; exact p3, by rw [a40, e6]; exact p4⟩, p5⟩
        have j1 := SG_kw cv i1 pw.1.1 o2 (Nat.le_refl _) (Or.inl (Nat.le_refl _))
        have j := SG_seq j1 i2 (Nat.le_refl _) (fun _ => rfl)
        refine SG_pm (fun p t => ?_) j
        simp only [List.mem_append, List.map_cons, List.mem_cons, List.not_mem_nil, or_false]
        exact Or.comm
    rcases h with ⟨k0, h0, rfl, rfl, rfl⟩ | ⟨-, n2, h2, h3⟩
    · rw [h0]
      show OK _ (hb_Cm_parts_6 N S (hg_Cm_parts N S M) w (I wh) (I th) (I ((la : Nat) : Int)) (I pj) (I 0))
      unfold hb_Cm_parts_6
      exact k_c (y := 0) rfl ⟨by decide, by decide⟩ ⟨by decide, by decide⟩ (fun _ => ok_some.mpr ⟨pj, rfl, hpj, p2⟩) (fun z => absurd rfl z)
    · rw [h2]
      have g1 := (RW_hd (PP_bd f o k) h3).1
      unfold HDc at g1
      have wb2 := WB_1 hcs.1 (lo := lo) (lo2 := lo) (hi2 := m) (hi := m + 1) (by omega) (by omega) (by omega) (by omega)
      refine partsX_ok hT hB hN hf hu h12 hla hw kk (M + 1) n2 (m + 1) hi c2 b s r pj w (RW_k (PP_k kw) (PP_bd f o k) h3 (KN_m kw)) (PC_w p2 (by omega) (by omega) (by omega) (fun _ z => z)) (by omega) (by omega) hpj hb hh hQ (by omega)
theorem partsC_ok (hT : TrS N S o) (hB : BoS N S (o + 2)) (hN : 30000 ≤ N) {S2 : SF_Cm_fun} (h2 : S2.2.2.1 = hm_Cm_parts N S) : PaS N S2 o k := by
  intro f kk u lv cc Q ps n lo hi a b q r la wh th hf hu h12 h hb hh hQ hla hw
  rw [h2]
  unfold hm_Cm_parts hb_Cm_parts_0
  have p0 : PCQ u u lv (WBc ps lo lo) 0 lo q q (PTYc u u lv lo q q o th (la = 1) 0) := PC_w (PC_rf (hi := lo) (q := q) hu.1) (by unfold WBc; simp) (Nat.le_refl _) (Nat.le_refl _) (fun _ _ => ⟨rfl, [], rfl, fun p hp => absurd hp (by simp), fun z h m L x pp => SG_nl⟩)
  rcases h with ⟨rfl, rfl, rfl, rfl, rfl⟩ | ⟨h1, h⟩
  · obtain ⟨N, rfl⟩ : ∃ N2, N = N2 + 1 := ⟨N - 1, by omega⟩
    show OK _ (hb_Cm_parts_6 (N + 1) S (hg_Cm_parts (N + 1) S N) u (I wh) (I th) (I ((la : Nat) : Int)) (I 0) (I 0))
    unfold hb_Cm_parts_6
    exact k_c (y := 0) rfl ⟨by decide, by decide⟩ ⟨by decide, by decide⟩ (fun _ => ok_some.mpr ⟨0, rfl, ⟨by decide, by decide⟩, p0⟩) (fun z => absurd rfl z)
  · have := RW_cnt (PP_bd f o k) h
    exact partsX_ok hT hB hN hf hu h12 hla hw kk N n lo hi a b q r 0 u h p0 (Nat.le_refl _) (Nat.le_refl _) ⟨by decide, by decide⟩ hb hh hQ (by omega)
end
end
section
set_option maxRecDepth 100000
def ReS (N : Nat) (S : SF_Cm_fun) (o cl : Nat) : Prop := ∀ (f : Nat) (u : MS) (lv c Q : Nat) (ps : Nat → Nat) (n lo hi a b q r la : Nat), f ≤ 120 → CMP u lv c ps Q o lo → F u 712 = 0 ∨ F u 714 < 1000000000 → XPc u f o cl n lo hi a b q r → A u 16 n = 11 → b ≤ 8000 → hi ≤ c → r ≤ Q → la ≤ 1 → OK (fun w _ => PXS u w lv ps lo hi q r o (la = 1) 1) (S.2.1 u (I ((n : Nat) : Int)) (I ((la : Nat) : Int)))
section
variable {u v w : MS} {N lv t t1 t2 hi hi1 lo o q r s c h m g x d a b k n f Q z la qa ra qb rb : Nat} {ps : Nat → Nat} {S : SF_Cm_fun} {W W1 W2 B wh th ce : Int} {L : List Nat} {H H1 H2 : List (Nat × Tyc)} {oo : Option Tyc} {Y Y1 Y2 : Prop} {P P1 P2 : (Nat → Option Tyc) → MS → Prop} {y y1 : Tyc} {E E2 : Nat → Nat → Nat → Nat → Nat → Nat → Nat → Prop}
theorem RW_mp (h : ∀ n lo hi a b q r, E n lo hi a b q r → E2 n lo hi a b q r) : ∀ {k n lo hi a b q r : Nat}, RWc u d E k n lo hi a b q r → RWc u d E2 k n lo hi a b q r
  | 0, _, _, _, _, _, _, _, z => z
  | k + 1, n, lo, hi, a, b, q, r, z => by
    obtain ⟨m, c, s, e, z⟩ := z
    refine ⟨m, c, s, h _ _ _ _ _ _ _ e, ?_⟩
    rcases z with z | ⟨z1, n2, z2, z3⟩
    · exact Or.inl z
    · exact Or.inr ⟨z1, n2, z2, RW_mp h z3⟩
theorem OR_mp (h : ∀ n lo hi a b q r, E n lo hi a b q r → E2 n lo hi a b q r) (z : ORc u d E k n lo hi a b q r) : ORc u d E2 k n lo hi a b q r := by
  rcases z with z | ⟨z1, z2⟩
  · exact Or.inl z
  · exact Or.inr ⟨z1, RW_mp h z2⟩
theorem CSP_pp : CSPc u (PAc u f) (XPc u f (o + 2) 3) (XPc u f (o + 1) 3) n lo hi a b q r → PPc u f o 1 n lo hi a b q r := fun ⟨hd, m1, hn, _, _, m, c, g, m2, c1, s, kb, mb, c2, h18, h19, h20, hc2⟩ => by
  have gp := OR_hd (PA_bd f) h18.2
  rcases h19 with ⟨e19, ⟨z1, z2, z3, z4⟩ | ⟨z1, kg, z2⟩⟩
  · exact ⟨hd, m, c, g, m2, c1, s, kb, mb, c2, 0, m2, m1, h18, ⟨e19, Or.inl ⟨z1, rfl, z4⟩⟩, h20, ⟨by omega, hc2⟩, ⟨by omega, by omega, by omega⟩, fun z => absurd z1 z⟩
  · have gr := (RW_hd (XP_bd f (o + 1) 3) z2).1
    unfold HDc at gr
    exact ⟨hd, m, c, g, m2, c1, s, kb, mb, c2, kg, m1 + 1, m1, h18, ⟨e19, Or.inr ⟨z1, z2⟩⟩, h20, ⟨by omega, hc2⟩, ⟨by omega, by omega, by omega⟩, fun _ _ => Nat.le_refl _⟩
theorem CHP_pp : CHPc u (XPc u f (o + 2) 3) (XPc u f (o + 1) 3) n lo hi a b q r → PPc u f o 0 n lo hi a b q r := fun ⟨hd, _, _, e18, g, kg, m2, c1, s, kb, mb, c2, h19, h20, hc2⟩ => by
  have gr := (RW_hd (XP_bd f (o + 1) 3) h19.2.2).1
  unfold HDc at gr
  exact ⟨hd, 0, a, g, m2, c1, s, kb, mb, c2, kg, lo, lo, ⟨e18, Or.inl ⟨rfl, rfl, rfl, rfl, rfl⟩⟩, ⟨h19.1, Or.inr ⟨h19.2.1, h19.2.2⟩⟩, h20, ⟨by omega, hc2⟩, ⟨by omega, by omega, by omega⟩, fun _ z => absurd rfl z⟩
theorem PC_seqw (a : PCQ u v lv W1 t1 hi1 qa ra Y1) (b : PCQ v w lv W2 t2 hi qb rb Y2) (h1 : hi1 ≤ hi) (ha : q ≤ qa ∧ q ≤ qb) (hr : ra ≤ r ∧ rb ≤ r) (hY : GDc w hi r → OLQ u v qa ra → OLQ v w qb rb → Y1 → Y2 → Y) : PCQ u w lv (W1 + W2) (t1 + t2) hi q r Y := by
  obtain ⟨a1, a2, a3, a4⟩ := a
  obtain ⟨b1, b2, b3, b4⟩ := b
  refine ⟨KMc.tr a1 b1, by omega, fun e => ?_, fun g => ?_⟩
  · have := b3 e
    have := a3 (b1.2.2.2.2.1 e)
    omega
  · obtain ⟨o2, y2⟩ := b4 ⟨g.1, g.2.1, g.2.2.1, g.2.2.2.1, by have := g.2.2.2.2; omega⟩
    obtain ⟨o1, y1⟩ := a4 (GD_u a1.2.1 b1 g h1 hr.1)
    refine ⟨⟨fun j hj => (o2.1 j (by have := a1.2.2.1; omega)).trans (o1.1 j hj), fun pl hp => ?_⟩, hY g o1 o2 y1 y2⟩
    obtain ⟨a1, a2, a3⟩ := o1.2 pl (by omega)
    obtain ⟨b1, b2, b3⟩ := o2.2 pl (by omega)
    exact ⟨b1.trans a1, b2.trans a2, b3.trans a3⟩
theorem SP_seqr (y0 : SGp P1 u a b s r H1 y (some y1)) (y2 : SGp P2 u b c q s H2 y1 oo) (f1 : ∀ v T, P T v → P1 T v ∧ P2 T v) : SGp P u a c q r (H1 ++ H2) y oo := by
  obtain ⟨⟨z1, z1'⟩, z2, z3, T1, z4, z5⟩ := y0
  obtain ⟨⟨w1, w1'⟩, y2, y3, T2, y4, y5⟩ := y2
  have ab : a = b → _ := fun e => z2 e
  refine ⟨⟨by omega, by omega⟩, fun e => ?_, fun p t hp => ?_, fun i => if i < b then T1 i else T2 i, fun hac => ?_, fun v T ha ht hT ho hH hX => ?_⟩
  · have e1 := ab (by omega)
    rw [y2 (by omega)]
    exact e1
  · rcases List.mem_append.mp hp with hp | hp
    · have := z3 p t hp; omega
    · have := y3 p t hp; omega
  · show (if a < b then T1 a else T2 a) = _
    by_cases e : a < b
    · rw [if_pos e]; exact z4 e
    · have e2 : a = b := by omega
      have e3 := ab e2
      rw [if_neg e, e2, y4 (by omega)]
      exact e3
  · have hT1 : ∀ i, a ≤ i → i < b → T i = T1 i := fun i i1 i2 => by
      rw [hT i i1 (by omega)]
      show (if i < b then T1 i else T2 i) = _
      rw [if_pos i2]
    have hT2 : ∀ i, b ≤ i → i < c → T i = T2 i := fun i i1 i2 => by
      rw [hT i (by omega) i2]
      show (if i < b then T1 i else T2 i) = _
      rw [if_neg (by omega)]
    have hb : T b = some y1 := by
      by_cases e : b < c
      · rw [hT2 b (Nat.le_refl _) e]; exact y4 e
      · have e2 : b = c := by omega
        rw [e2]; exact ho _ (y2 e2)
    obtain ⟨hX1, hX2⟩ := f1 v T hX
    obtain ⟨r1, r2⟩ := z5 v T (fun j j1 j2 j3 => ha j j1 (by omega) (fun t hp => by
      rcases List.mem_append.mp hp with hp | hp
      · exact j3 t hp
      · have := y3 j t hp; omega)) (ht.mo w1' (Nat.le_refl _)) hT1 (fun y9 e => by injection e with e; rw [← e]; exact hb) (fun p t hp => by
        obtain ⟨d, d1, d2, d3⟩ := hH p t (List.mem_append.mpr (Or.inl hp))
        exact ⟨d, d1, by omega, d3⟩) hX1
    obtain ⟨r3, r4⟩ := y5 v T (fun j j1 j2 j3 => ha j (by omega) j2 (fun t hp => by
      rcases List.mem_append.mp hp with hp | hp
      · have := z3 j t hp; omega
      · exact j3 t hp)) (ht.mo (Nat.le_refl _) z1') hT2 ho (fun p t hp => hH p t (List.mem_append.mpr (Or.inr hp))) hX2
    refine ⟨fun i h m L g x i1 i2 e => ?_, fun pl p1 p2 => ?_⟩
    · rcases Nat.lt_or_ge i b with i3 | i3
      · exact r1 i h m L g x i1 i3 e
      · exact r3 i h m L g x i3 i2 e
    · rcases Nat.lt_or_ge pl s with p3 | p3
      · exact r4 pl p1 p3
      · exact r2 pl p3 p2
theorem SG_seqr {h1 : Nat} (y0 : SGc u a b s r H1 z h m L 0 0 (some (h1, m, L, 0, 0))) (y2 : SGc u b c q s H2 z h1 m L 0 0 oo) : SGc u a c q r (H1 ++ H2) z h m L 0 0 oo := SP_to (SP_seqr (P := fun T v => ARc T v a c z m L 0 0) (SP_of y0) (SP_of y2) (fun v T hX => ⟨AR_l hX y2.1.1, AR_r hX y0.1.1 (Nat.le_refl _) (fun _ => rfl)⟩))
theorem recv1 {K : MS → Unit → Prop} {F1 : MS → Int32 → Option (MS × Unit)} {tt : Int} {cc mm m1 kk s1 : Nat} (hPa : PaS N S o 1) (hN : 30000 ≤ N) (hf : f ≤ 120) (hv : CMP v lv cc ps Q o (lo + 1)) (h12 : F v 712 = 0 ∨ F v 714 < 1000000000) (hi1 : n ≤ 8000) (e19 : A v 19 n = ((mm : Nat) : Int)) (hr : ORc v 1 (PPc v f o 1) kk mm (lo + 1) m1 a b q s1) (hb : b ≤ 8000) (hh : m1 ≤ cc) (hQ : s1 ≤ Q) (hla : la ≤ 1) (ht : tt = 0 ∨ tt = 1) (kk2 : ∀ w (ce : Int), RG ce → PCQ v w lv (WBc ps (lo + 1) m1 + 6) 0 m1 q s1 (F w 706 = F v 706 ∧ szc v + 6 ≤ szc w ∧ ∃ Hp : List Nat, CHNc w Hp ce ∧ (∀ p, p ∈ Hp → szc v ≤ p ∧ p < szc w) ∧ ∀ z h m L, z ≤ h → 2 * h ≤ lo + 1 + 16 → NMc v w lv m → L.length ≤ o → (la = 1 → L = []) → SGc w (szc v) (szc w) q s1 (Hp.map (fun p => (p, (h + 1, m, L, 0, 0)))) z (if tt = 1 then h + 1 else h) m L 0 0 (if tt = 1 then some (h, m, L, 0, 0) else none)) → OK K (F1 w (I ce))) :
    OK K (bnd (hm_Co_put N v 31) (fun u38 _ => bnd (hm_Co_put N u38 (I tt)) (fun u4 _ => bnd (hm_Co_put N u4 32) (fun u10 _ => bnd (hm_Co_hook N u10 0) (fun u13 r13 => ck (inb (I ((n : Nat) : Int)) 8016) (bnd (S.2.2.1 u13 (u13.2.2.1 19 (I ((n : Nat) : Int)).toNatClampNeg) (-2) 33 (I ((la : Nat) : Int))) (fun u20 r20 => bnd (hm_Co_put N u20 34) (fun u22 _ => bnd (hm_Co_put N u22 (u4.1 441)) (fun u25 _ => bnd (hm_Co_arrive N u25 r13) (fun u28 _ => F1 u28 r20)))))))))) := by
  have hcs := CMP_c hv
  have cv := hv.1
  have i1 : inb (I ((n : Nat) : Int)) 8016 = true := (I_inb (by omega) (by omega)).mpr ⟨by omega, by omega⟩
  have gp := OR_hd (PP_bd f o 1) hr
  refine put_1 (x := 31) cv.1 ⟨by decide, by decide⟩ (fun w1 e1 => put_B (x := tt) cv.1.1 e1 ⟨by omega, by omega⟩ (fun w2 e2 => put_B (x := 32) cv.1.1 e2 ⟨by decide, by decide⟩ (fun w3 e3 => hook_B (x := 0) cv.1.1 e3 ⟨by decide, by decide⟩ (fun v4 e4 => ?_))))
  have k4 := EMc.km cv e4
  have c4 := k4.2.1
  have e46 : F v4 706 = F v 706 := congrArg _ (e4.1.1 706 (by simp))
  rw [i1, ck_t, tnI (n := n) rfl (by omega), I_A (k := 19), k4.1.A (j := 19) (by simp), e19, ok_bnd]
  have hv4 : CMP v4 lv cc ps Q o (lo + 1) := CMP_k hv k4 (by rw [e46]; exact hv.2.2.2.2) (Nat.le_refl _)
  have h124 : F v4 712 = 0 ∨ F v4 714 < 1000000000 := by
    rcases h12 with z | z
    · exact Or.inl (by rw [k4.2.2.2.2.2.1.1]; exact z)
    · have := k4.2.2.2.1
      exact Or.inr (by omega)
  refine ok_mono (hPa f kk v4 lv cc Q ps mm (lo + 1) m1 a b q s1 la (-2) 33 hf hv4 h124 (OR_k (PP_k k4.1) (PP_bd f o 1) hr (KN_m k4.1)) hb hh hQ hla (Or.inr (Or.inr ⟨rfl, rfl, rfl⟩))) (fun v5 r20 h5 => ?_)
  obtain ⟨ce, rfl, hce, p5⟩ := h5
  have c5 := p5.1.2.1
  have c2r := (EMc.km cv e2).2.1.1
  refine put_1 (x := 34) c5.1 ⟨by decide, by decide⟩ (fun w5 e5 => ?_)
  rw [I_F (k := 441)]
  refine put_B (x := F w2 441) c5.1.1 e5 ⟨by omega, by omega⟩ (fun v6 e6 => ?_)
  have c4r := c4.1
  have k6 := EMc.km c5 e6
  have c6 := k6.2.1
  rw [ok_bnd]
  refine ok_mono (arrive_ok (N := N) (u := v6) (c := F v4 441 - 1) ⟨by omega, by omega⟩ (by omega)) (fun w _ hw => ?_)
  refine kk2 w ce hce ?_
  have e66 : F v6 706 = F v5 706 := congrArg _ (e6.1.1 706 (by simp))
  have q1 := PC_seq (Y := (szc v4 = szc v + 4 ∧ A v5 23 (szc v) = 31 ∧ A v5 23 (szc v + 1) = tt ∧ A v5 23 (szc v + 2) = 32 ∧ A v5 23 (szc v + 3) = 0) ∧ PTYc v4 v5 lv (lo + 1) q s1 o 33 (la = 1) ce) (PC_em (hi := m1) (q := q) cv e4) p5 (Nat.le_refl _) (Nat.le_refl _) (by omega) (fun gd o1 o2 y1 y2 => by
    have s4 : szc v4 = szc v + 4 := y1.1
    have lt : ∀ j, j < 4 → A v5 23 (szc v + j) = A v4 23 (szc v + j) := fun j hj => o2.1 _ (by
      have h5 : (F v4 441).toNat = szc v + 4 := s4
      omega)
    exact ⟨⟨s4, (lt 0 (by omega)).trans (y1.2 0 (by simp)), (lt 1 (by omega)).trans (y1.2 1 (by simp)), (lt 2 (by omega)).trans (y1.2 2 (by simp)), (lt 3 (by omega)).trans (y1.2 3 (by simp))⟩, y2⟩)
  have q2 := PC_seq (Y := ((szc v4 = szc v + 4 ∧ A v6 23 (szc v) = 31 ∧ A v6 23 (szc v + 1) = tt ∧ A v6 23 (szc v + 2) = 32 ∧ A v6 23 (szc v + 3) = 0) ∧ PTYc v4 v5 lv (lo + 1) q s1 o 33 (la = 1) ce) ∧ (szc v6 = szc v5 + 2 ∧ A v6 23 (szc v5) = 34 ∧ A v6 23 (szc v5 + 1) = ((szc v + 2 : Nat) : Int)) ∧ OLQ v5 v6 s1 s1 ∧ GDc v6 m1 s1) q1 (PC_em (hi := m1) (q := s1) c5 e6) (Nat.le_refl _) (by omega) (Nat.le_refl _) (fun gd o1 o2 y1 y2 => by
    have s4 := y1.1.1
    have le := szc_le c4 p5.1
    have cc5 := c5.1
    have lt : ∀ j, j < 4 → A v6 23 (szc v + j) = A v5 23 (szc v + j) := fun j hj => o2.1 _ (by
      have h5 : szc v + 4 ≤ (F v5 441).toNat := by rw [← s4]; exact le
      omega)
    refine ⟨⟨⟨s4, (lt 0 (by omega)).trans y1.1.2.1, (lt 1 (by omega)).trans y1.1.2.2.1, (lt 2 (by omega)).trans y1.1.2.2.2.1, (lt 3 (by omega)).trans y1.1.2.2.2.2⟩, y1.2⟩, ⟨y2.1, y2.2 0 (by simp), ?_⟩, o2, gd⟩
    have : A v6 23 (szc v5 + 1) = F w2 441 := y2.2 1 (by simp)
    rw [this]
    have m1 := p5.1.2.2.1
    have m2 := k6.2.2.1
    have g4 := gd.2.2.1
    have x4 : F v4 441 = F v 441 + 4 := (e4.2.2.2 (by omega)).1
    have x2l : F w2 441 < 24000 := by have := e2.2.1.2.2; have e2l : (([31] ++ [tt]).length : Int) = 2 := rfl; omega
    have x2 : F w2 441 = F v 441 + 2 := (e2.2.2.2 x2l).1
    have cvr := cv.1
    rw [x2]
    show F v 441 + 2 = (((F v 441).toNat + 2 : Nat) : Int)
    omega)
  have e41 : A w 41 lv = A v6 41 lv := by show (w.2.2.1 41 lv).toInt = _; rw [hw.1.2.2.1 41 (by simp)]; rfl
  have esw : szc w = szc v6 := by
    show (F w 441).toNat = (F v6 441).toNat
    rw [show F w 441 = F v6 441 from congrArg _ (hw.1.1 441 (by simp))]
  have e6w : F w 706 = F v6 706 := congrArg _ (hw.1.1 706 (by simp))
  have cvr := cv.1
  have c441 : szc v4 = szc v + 4 → F v4 441 - 1 = ((szc v + 3 : Nat) : Int) := fun s4 => by
    have h5 : (F v4 441).toNat = szc v + 4 := s4
    omega
  have arr : szc v4 = szc v + 4 → szc v4 ≤ szc v5 → A v6 23 (szc v + 3) = 0 → GDc v6 m1 s1 → (∀ p, p ∈ [szc v + 3] → A w 23 p = F v6 441) ∧ ∀ j, j ∉ [szc v + 3] → A w 23 j = A v6 23 j := fun s4 s5 z gd => by
    have g4 := gd.2.2.1
    have m2 := k6.2.2.1
    have h5 : szc v + 4 ≤ (F v5 441).toNat := by rw [← s4]; exact s5
    exact hw.2 [szc v + 3] ⟨c441 s4, ⟨by omega, by omega⟩, fun q hq => absurd hq (by simp), z⟩
  refine PC_w (PC_arr (Y1 := F w 706 = F v 706 ∧ szc v + 6 ≤ szc w ∧ ∃ Hp : List Nat, CHNc w Hp ce ∧ (∀ p, p ∈ Hp → szc v ≤ p ∧ p < szc w) ∧ ∀ z h m L, z ≤ h → 2 * h ≤ lo + 1 + 16 → NMc v w lv m → L.length ≤ o → (la = 1 → L = []) → SGc w (szc v) (szc w) q s1 (Hp.map (fun p => (p, (h + 1, m, L, 0, 0)))) z (if tt = 1 then h + 1 else h) m L 0 0 (if tt = 1 then some (h, m, L, 0, 0) else none)) q2 hw.1 (fun gv y j hj => ?_) (fun gw gv y => ?_)) (by simp; omega) (by omega) (Nat.le_refl _) (fun _ z => z)
  · obtain ⟨⟨⟨s4, -, -, -, w3⟩, -⟩, -, -, gd⟩ := y
    refine (arr s4 (szc_le c4 p5.1) w3 gd).2 j (fun hj2 => ?_)
    simp only [List.mem_singleton] at hj2
    have : j = (F v 441).toNat + 3 := hj2
    omega
  · obtain ⟨⟨⟨s4, w0, w1w, w2w, w3⟩, e56, Hp, ch, hp, ty⟩, ⟨s6, w6, w7⟩, o6, gd⟩ := y
    have le5 := szc_le c4 p5.1
    have ar := arr s4 le5 w3 gd
    have l15 := gd.2.2.2.1
    refine ⟨e6w.trans (e66.trans (e56.trans e46)), by rw [esw, s6]; omega, Hp, CHNc_k (fun p hp2 => ?_) ch, fun p hp2 => ?_, fun z h m L hz h2 nm hL hLa => ?_⟩
    · have := hp p hp2
      rw [ar.2 p (by simp; omega)]
      have h5 : p < (F v5 441).toNat := this.2
      exact o6.1 p (by have := c5.1; omega)
    · have := hp p hp2
      exact ⟨by omega, by rw [esw, s6]; omega⟩
    · obtain ⟨nm1, nm2⟩ := nm
      have a41 := k6.2.2.2.2.2.2.2.2
      have a40 := k4.2.2.2.2.2.2.1 lv (Nat.le_refl _)
      have c58 := c5.2.2.2.2.2.2.2.2
      have a40b := p5.1.2.2.2.2.2.2.1 lv (Nat.le_refl _)
      have hm40 : m ≤ 40 := by omega
      have i1 := ty z h m L (szc v + 2) ⟨by show z + 0 ≤ h; omega, h2, ⟨by rw [a40, e46]; exact nm1, by rw [a40, e46]; omega⟩, hL, hLa, fun _ => by omega, fun z => absurd rfl z⟩
      have ed : h - ddc 33 + 1 = h + 1 := by show h - 0 + 1 = h + 1; omega
      rw [ed, s4] at i1
      have j1 := SG_kw c5 i1 k6.1 o6 (Nat.le_refl _) (Or.inl (Nat.le_refl _))
      have j2 : SGc w (szc v + 4) (szc v5) q s1 (Hp.map (fun p => (p, (h + 1, m, L, 0, 0)))) z h m L 0 (szc v + 2) (some (h, m, L, 0, szc v + 2)) := SG_k j1 (fun j j3 _ _ => ar.2 j (by simp; omega)) (TBL_23 hw.1)
      have wd : ∀ j, j ≠ szc v + 3 → A w 23 j = A v6 23 j := fun j hj => ar.2 j (by simp; exact hj)
      rw [esw, s6]
      refine SG_rcv (n := h) (b := szc v5) hz (by split <;> omega) hm40 (by rw [wd _ (by omega)]; exact w0) ?_ (by rw [wd _ (by omega)]; exact w2w) j2 (by rw [wd _ (by omega)]; exact w6) (by rw [wd _ (by omega)]; exact w7)
      rw [wd _ (by omega), w1w]
      rcases ht with rfl | rfl
      · exact Or.inr ⟨rfl, by simp⟩
      · refine Or.inl ⟨rfl, by simp, ?_, by simp⟩
        rw [ar.1 (szc v + 3) (by simp)]
        have h5 : (F v6 441).toNat = szc v5 + 2 := s6
        have := c6.1
        omega
end
end
