set_option maxRecDepth 100000
section
variable {u v w : MS} {N lv t hi lo o q r s c h m g x d a b k n f Q cl : Nat} {ps : Nat → Nat} {S : SF_Cm_fun} {la : Prop} {W : Int} {Y Y1 Y2 : Prop} {L : List Nat} {H1 H2 : List (Nat × Tyc)} {Hp : List Nat} {oo : Option Tyc} {y1 : Tyc} {cc : Int}
theorem KM_23 (h : CVI u lv) (g : FR [] [] [23] [] u w) : KMc u w lv := by
  have eF : ∀ k, F w k = F u k := fun k => congrArg _ (g.1 k (by simp))
  have eA : ∀ r k, r ≠ 23 → A w r k = A u r k := fun r k hr => by show (w.2.2.1 r k).toInt = _; rw [g.2.2.1 r (by simp; exact hr)]; rfl
  obtain ⟨g1, g2, g3, g4, g5, g6, g7, g8, g9⟩ := h
  refine ⟨FR.mo g (by simp) (by simp) (by simp) (by simp), ⟨by rw [eF]; exact g1, by rw [eF]; exact g2, by rw [eF]; exact g3, by rw [eF, eF]; exact g4, by rw [eF]; exact g5, by rw [eF]; exact g6, fun j hj => by rw [eA 40 j (by decide), eA 41 j (by decide)]; exact g7 j hj, by rw [eF, eA 40 lv (by decide)]; exact g8, by rw [eF, eA 40 lv (by decide), eA 41 lv (by decide)]; exact g9⟩, by rw [eF]; omega, by rw [eF]; omega, fun z => by rw [eF] at z; exact z, ⟨eF _, eF _⟩, fun j _ => eA 40 j (by decide), fun j _ => eA 41 j (by decide), by rw [eA 41 lv (by decide)]; omega⟩
theorem PC_arr (a : PCQ u v lv W t hi q r Y) (f : FR [] [] [23] [] v w) (ho : GDc v hi r → Y → ∀ j : Nat, ((j : Nat) : Int) < F u 441 → A w 23 j = A v 23 j) (hY : GDc w hi r → GDc v hi r → Y → Y1) : PCQ u w lv W t hi q r Y1 := by
  obtain ⟨a1, a2, a3, a4⟩ := a
  have k := KM_23 a1.2.1 f
  have eF : ∀ k, F w k = F v k := fun k => congrArg _ (f.1 k (by simp))
  have eA : ∀ r k, r ≠ 23 → A w r k = A v r k := fun r k hr => by show (w.2.2.1 r k).toInt = _; rw [f.2.2.1 r (by simp; exact hr)]; rfl
  refine ⟨KMc.tr a1 k, by rw [eF]; exact a2, fun e => by rw [eF] at e ⊢; exact a3 e, fun g => ?_⟩
  have gv : GDc v hi r := by
    unfold GDc at g ⊢
    rw [eF, eF, eF] at g; exact g
  obtain ⟨o1, y⟩ := a4 gv
  refine ⟨⟨fun j hj => (ho gv y j hj).trans (o1.1 j hj), fun pl hp => ?_⟩, hY g gv y⟩
  obtain ⟨b1, b2, b3⟩ := o1.2 pl hp
  exact ⟨(eA 30 pl (by decide)).trans b1, (eA 31 pl (by decide)).trans b2, (eA 32 pl (by decide)).trans b3⟩
theorem TBL_23 (f : FR [] [] [23] [] v w) : TBLc v w q r := by
  have eF : ∀ k, F w k = F v k := fun k => congrArg _ (f.1 k (by simp))
  have eA : ∀ r k, r ≠ 23 → A w r k = A v r k := fun r k hr => by show (w.2.2.1 r k).toInt = _; rw [f.2.2.1 r (by simp; exact hr)]; rfl
  exact ⟨eF _, eF _, by rw [eF]; omega, fun k => eA 25 k (by decide), fun pl _ _ => ⟨eA 30 pl (by decide), eA 31 pl (by decide), eA 32 pl (by decide)⟩⟩
theorem SG_arc (cv : CVI v lv) (f : FR [] [] [23] [] v w) (ar : (∀ p, p ∈ Hp → A w 23 p = F v 441) ∧ ∀ j, j ∉ Hp → A w 23 j = A v 23 j) (y : SGc v a (szc v) q r (H1 ++ H2) h c m L g x oo) (hab : a < szc v) (ho : oo = none ∨ oo = some y1) (h1 : ∀ p t, (p, t) ∈ H1 → t = y1 ∧ p ∈ Hp) (h2 : ∀ p, p ∈ Hp → ∃ t, (p, t) ∈ H1) (hd : ∀ p t t2, (p, t) ∈ H1 → (p, t2) ∉ H2) : SGc w a (szc w) q r H2 h c m L g x (some y1) := by
  have e4 : F w 441 = F v 441 := congrArg _ (f.1 441 (by simp))
  have es : szc w = szc v := by show (F w 441).toNat = _; rw [e4]
  rw [es]
  refine SG_arr y hab ho (fun p t hp => ⟨(h1 p t hp).1, ?_⟩) hd (fun j _ _ hj => ar.2 j (fun hp => ?_)) (TBL_23 f)
  · rw [ar.1 p (h1 p t hp).2]
    have := cv.1
    show F v 441 = (((F v 441).toNat : Nat) : Int)
    omega
  · obtain ⟨t, ht⟩ := h2 j hp
    exact hj t ht
theorem PC_fgt {l : List Int} {m0 : Int} (k : KMc v w lv) (e6 : F w 706 = m0) (fr : FR [441, 706] [] [23] [] v w) (e : EMd v w l) (hl : (l = [] ∧ F v 706 = m0) ∨ (l = [16, F v 706 - m0] ∧ m0 < F v 706)) (p : PCQ u v lv W t hi q r Y) (h6 : F u 706 ≤ m0) (hq : q ≤ r) (hY : GDc w hi r → GDc v hi r → OLQ v w r r → Y → (∀ z h m L g x, z ≤ h → h ≤ 1090 → m ≤ 40 → (F v 706 - m0).toNat ≤ m → ((F v 706 - m0).toNat = 0 ∨ g = 0) → SGc w (szc v) (szc w) r r [] z h m L g x (some (h, m - (F v 706 - m0).toNat, L, g, x))) → Y1) : PCQ u w lv (W + 2) t hi q r Y1 := by
  have cv := p.1.2.1
  have hm : F w 706 ≤ F v 706 := by omega
  obtain ⟨p1, p2, p3, p4⟩ := p
  have ll : l.length ≤ 2 := by rcases hl with ⟨rfl, -⟩ | ⟨rfl, -⟩ <;> simp
  have e4 := e.1
  refine ⟨KMc.tr p1 k, by omega, fun z => ?_, fun gw => ?_⟩
  · have := p3 (k.2.2.2.2.1 z)
    omega
  · have gv := GD_u (hi1 := hi) (s := r) cv k gw (Nat.le_refl _) (Nat.le_refl _)
    obtain ⟨o1, y⟩ := p4 gv
    have o2 : OLQ v w r r := ⟨e.2.1, fun pl _ => by
      refine ⟨?_, ?_, ?_⟩
      · show (w.2.2.1 30 pl).toInt = _; rw [fr.2.2.1 30 (by simp)]; rfl
      · show (w.2.2.1 31 pl).toInt = _; rw [fr.2.2.1 31 (by simp)]; rfl
      · show (w.2.2.1 32 pl).toInt = _; rw [fr.2.2.1 32 (by simp)]; rfl⟩
    refine ⟨OLQ.tr p1.2.2.1 o1 o2 hq (Nat.le_refl _), hY gw gv o2 y (fun z h m L g x hz hh hm hk hg => ?_)⟩
    obtain ⟨e5, e7⟩ := e.2.2 gw.2.2.1
    have c1 := cv.1
    have es : szc w = szc v + l.length := by
      show (F w 441).toNat = (F v 441).toNat + l.length
      omega
    rw [es]
    rcases hl with ⟨rfl, h0⟩ | ⟨rfl, h0⟩
    · rw [show (F v 706 - m0).toNat = 0 by omega]
      exact SG_nl
    · refine SG_fgt (a := szc v) (n := (F v 706 - m0).toNat) hz hh hm (e7 0 (by simp)) (by omega) ?_ hk
      have : A w 23 ((F v 441).toNat + 1) = F v 706 - m0 := e7 1 (by simp)
      rw [show A w 23 (szc v + 1) = F v 706 - m0 from this]
      omega
theorem joining_ok {y : Int} (h : CVI v lv) (hy : RG y) (ht : 0 ≤ x ∧ x ≤ 4001) : OK (fun w _ => PCQ v w lv 2 0 hi q q (szc w = szc v + 2 ∧ F w 706 = F v 706 ∧ (A w 23 (szc v) = 8 ∨ A w 23 (szc v) = 9 ∨ A w 23 (szc v) = 10))) (hm_Cm_joining N v (I y) (I ((x : Nat) : Int))) := by
  have pt : ∀ (v2 : MS) (y2 : Int), KMc v v2 lv → FR [714] [] [42] [] v v2 → (y2 = 8 ∨ y2 = 9 ∨ y2 = 10) → OK (fun w _ => PCQ v w lv 2 0 hi q q (szc w = szc v + 2 ∧ F w 706 = F v 706 ∧ (A w 23 (szc v) = 8 ∨ A w 23 (szc v) = 9 ∨ A w 23 (szc v) = 10))) (bnd (hm_Co_put N v2 (I y2)) (fun u5 _ => hb_Cm_joining_106 N () u5 (I y))) := fun v2 y2 k1 f1 hy2 => by
    unfold hb_Cm_joining_106
    refine put_1 (x := y2) k1.2.1.1 ⟨by omega, by omega⟩ (fun w1 e1 => put_B k1.2.1.1.1 e1 hy (fun w2 e2 => ok_some.mpr ?_))
    have e6 : F w2 706 = F v2 706 := congrArg _ (e2.1.1 706 (by simp))
    refine PC_w (PC_seq (PC_fr (hi := 0) k1 f1) (PC_em (hi := hi) k1.2.1 e2) (by omega) (Nat.le_refl _) (Nat.le_refl _) (fun gd o1 o2 y1 y2 => ?_)) (by simp) (by omega) (Nat.le_refl _) (fun _ z => z)
    rw [← y1.1, ← y1.2]
    refine ⟨y2.1, e6, ?_⟩
    have := y2.2 0 (by simp)
    have e0 : A w2 23 (szc v2) = _ := this
    rw [e0]
    exact hy2
  have ng : ∀ y2 : Int, (y2 = 8 ∨ y2 = 9 ∨ y2 = 10) → OK (fun w _ => PCQ v w lv 2 0 hi q q (szc w = szc v + 2 ∧ F w 706 = F v 706 ∧ (A w 23 (szc v) = 8 ∨ A w 23 (szc v) = 9 ∨ A w 23 (szc v) = 10))) (bnd (hm_Cm_notInGuard N v (I ((x : Nat) : Int))) (fun u19 _ => bnd (hm_Co_put N u19 (I y2)) (fun u5 _ => hb_Cm_joining_106 N () u5 (I y)))) := fun y2 hy2 => notIn_B h ⟨by omega, by omega⟩ (fun v2 k1 f1 _ => pt v2 y2 k1 (FR.mo f1 (by simp) (by simp) (by simp) (by simp)) hy2)
  have p0 := fun y2 => pt v y2 (KMc.rf h) FR.rf
  unfold hm_Cm_joining hb_Cm_joining_0
  refine ok_br.mpr ⟨fun _ => p0 9 (by omega), fun _ => ok_br.mpr ⟨fun _ => p0 9 (by omega), fun _ => ok_br.mpr ⟨fun _ => p0 9 (by omega), fun _ => ok_br.mpr ⟨fun _ => p0 9 (by omega), fun _ => ok_br.mpr ⟨fun _ => p0 9 (by omega), fun _ => ok_br.mpr ⟨fun _ => ng 10 (by omega), fun _ => ok_br.mpr ⟨fun _ => ng 10 (by omega), fun _ => p0 8 (by omega)⟩⟩⟩⟩⟩⟩⟩
theorem XP_16 : ∀ {f : Nat}, XPc u f o cl n lo hi a b q r → 1 ≤ A u 16 n ∧ A u 16 n ≤ 22
  | 0, h => h.elim
  | f + 1, h => by
    obtain ⟨-, -, -, h⟩ := h
    rcases h with ⟨⟨e, l6, -⟩, -⟩ | ⟨e, -⟩ | ⟨e, -⟩ | ⟨e, -⟩ | ⟨e, -⟩ | ⟨e, -⟩ | ⟨e, -⟩ | ⟨e, -⟩ | ⟨e, -⟩ | ⟨e, -⟩ | ⟨e, -⟩ | ⟨e, -⟩ | ⟨e, -⟩ | ⟨e, -⟩ | ⟨e, -⟩ | ⟨e, -⟩ | ⟨e, -⟩
    all_goals omega
end
