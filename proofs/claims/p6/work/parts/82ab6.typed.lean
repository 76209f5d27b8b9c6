def mks (u : MS) (i : Nat) : Nat := (F u (if i = 0 then 32 else if i = 1 then 46 else if i = 2 then 39 else if i = 3 then 56 else 58)).toNat
def nmo (σ : Nat) (u : MS) : Nat := (A u 60 σ).toNat
def hlo (σ : Nat) (u : MS) : Nat := (A u 63 σ).toNat
def LGS (σ : Nat) (u : MS) : Prop := F u 66 = 0 → A u 60 σ ≤ 40
def gq (g : Int) : Nat := if g = 0 then 0 else 1
def TYG (TN SN σ : Nat) (g lv xb : Int) (u v : MS) (q q2 : Nat) (R : Nat → Prop) : Prop := F v 72 = 0 → F v 66 = 0 → TN ≤ 1500 → ∃ mm X Y : Nat, SEQ v SN (gq g) (mks u) (mks v) q q2 (nmo σ u) (nmo σ v) (nmo σ u) mm X Y (hlo σ v) R ∧ mm ≤ 40 ∧ (mm : Int) ≤ A v 64 σ ∧ 2 * (X : Int) ≤ xb ∧ (Y : Int) + lv ≤ 25
section
variable {u0 u v w x : MS} {N σ TN SN q0 q1 q2 q3 e : Nat} {p o n q c f h s wt g lv xb xb1 xb2 k t : Int} {R R1 R2 : Nat → Prop} {a b : Nat → Nat}
theorem SEQ_kp {g q q2 m m2 lo mm X Y sh : Nat} (s : SEQ v SN g a b q q2 m m2 lo mm X Y sh R) (hb : ∀ i, b i ≤ mks v i) (k : KPR σ v w) : SEQ w SN g a b q q2 m m2 lo mm X Y sh R := by
  obtain ⟨k0, ⟨k1, k2, k3, k4, k5⟩, -⟩ := k
  have b0 : b 0 ≤ (F v 32).toNat := hb 0
  have b1 : b 1 ≤ (F v 46).toNat := hb 1
  have b2 : b 2 ≤ (F v 39).toNat := hb 2
  have b3 : b 3 ≤ (F v 56).toNat := hb 3
  have b4 : b 4 ≤ (F v 58).toNat := hb 4
  have m1 : ∀ r, r ∈ [23, 24, 25, 26, 27, 31] → r ∈ [23, 24, 25, 26, 27, 28, 29, 30, 31] := by decide
  have m2 : ∀ r, r ∈ [28, 29, 30] → r ∈ [23, 24, 25, 26, 27, 28, 29, 30, 31] := by decide
  exact SEQ_st s ⟨k0.F (by decide), fun r i hr _ hi => k1 r i (m1 r hr) (by omega), fun r i hr _ hi => k3 r i hr (by omega), fun r i hr hi => k2 r i hr (by omega), fun r i hr _ hi => k4 r i hr (by omega), fun i hi => k5 i (by omega)⟩ (fun r i hr _ hi _ => k1 r i (m2 r hr) (by omega))
theorem KPR_n (k : KPR σ v w) : nmo σ v ≤ nmo σ w ∧ hlo σ v ≤ hlo σ w ∧ A v 64 σ ≤ A w 64 σ := by
  have := k.2.2.1.2.2.2 σ (Nat.le_refl σ)
  unfold nmo hlo
  omega
theorem TYG_app (a : TYG TN SN σ g lv xb1 u v q0 q1 R1) (k : KPR σ v w) (b : TYG TN SN σ g lv xb2 v w q2 q3 R2) (hq : q1 = q2 + e) (h1 : xb1 ≤ xb) (h2 : xb2 + 2 * e ≤ xb) : TYG TN SN σ g lv xb u w q0 (q3 + e) (fun n => R1 n ∨ R2 n) := by
  intro z1 z2 z3
  obtain ⟨m1, X1, Y1, s1, a1, a2, a3, a4⟩ := a (k.2.2.2.2.2.1 z1) (k.2.2.2.2.2.2 z2) z3
  obtain ⟨m2, X2, Y2, s2, b1, b2, b3, b4⟩ := b z1 z2 z3
  have kn := KPR_n k
  have t1 := SEQ_kp s1 (fun i => Nat.le_refl _) k
  have lo := s1.1.2.2.2.1
  refine ⟨max m1 m2, max X1 (X2 + e), max Y1 Y2, SEQ_app (SEQ_mo t1 (Nat.le_refl _) (Nat.le_max_left _ _) (Nat.le_max_left _ _) (Nat.le_max_left _ _) kn.2.1) (by rw [hq]; exact SEQ_mo (SEQ_up s2 e) lo (Nat.le_max_right _ _) (Nat.le_max_right _ _) (Nat.le_max_right _ _) (Nat.le_refl _)), ?_, ?_, ?_, ?_⟩
  all_goals omega
theorem TYG_mo {lv2 : Int} (a : TYG TN SN σ g lv xb1 u v q0 q1 R1) (h1 : xb1 ≤ xb) (h2 : lv2 ≤ lv) : TYG TN SN σ g lv2 xb u v q0 q1 R1 := by
  intro z1 z2 z3
  obtain ⟨m1, X1, Y1, s1, a1, a2, a3, a4⟩ := a z1 z2 z3
  exact ⟨m1, X1, Y1, s1, a1, a2, by omega, by omega⟩
theorem TYG_ro (a : TYG TN SN σ g lv xb u v q0 q1 R1) (h6 : ∀ n, R2 n → R1 n) (h7 : ∀ n, R1 n → R2 n ∨ A v 29 n = -1) : TYG TN SN σ g lv xb u v q0 q1 R2 := by
  intro z1 z2 z3
  obtain ⟨m1, X1, Y1, s1, a1⟩ := a z1 z2 z3
  exact ⟨m1, X1, Y1, SEQ_ro s1 h6 h7, a1⟩
theorem TYG_u (a : TYG TN SN σ g lv xb v w q0 q1 R1) (h1 : mks v = mks u) (h2 : nmo σ v = nmo σ u) : TYG TN SN σ g lv xb u w q0 q1 R1 := by
  unfold TYG at a ⊢
  rw [h1, h2] at a
  exact a
theorem TYG_v (a : TYG TN SN σ g lv xb u v q0 q1 R1) (k : KPR σ v w) (h1 : mks w = mks v) (h2 : nmo σ w = nmo σ v) : TYG TN SN σ g lv xb u w q0 q1 R1 := by
  intro z1 z2 z3
  obtain ⟨m1, X1, Y1, s1, a1, a2, a3⟩ := a (k.2.2.2.2.2.1 z1) (k.2.2.2.2.2.2 z2) z3
  have kn := KPR_n k
  refine ⟨m1, X1, Y1, ?_, a1, by omega, a3⟩
  rw [h1, h2]
  exact SEQ_mo (SEQ_kp s1 (fun i => Nat.le_refl _) k) (Nat.le_refl _) (Nat.le_refl _) (Nat.le_refl _) (Nat.le_refl _) kn.2.1
theorem TYG_mk {nm xx : Nat} (l1 : LGS σ w) (l0 : F w 66 = 0 → A v 60 σ ≤ 40) (h64 : A v 60 σ ≤ A w 64 σ ∧ A w 60 σ ≤ A w 64 σ ∧ 0 ≤ A w 64 σ) (s : ∀ mm X Y : Nat, nmo σ v ≤ mm → nmo σ w ≤ mm → xx ≤ X → SEQ w SN (gq g) (mks v) (mks w) q0 q1 (nmo σ v) (nmo σ w) (nmo σ v) mm X Y (hlo σ w) R) (hx : 2 * (xx : Int) ≤ xb) (hlv : lv ≤ 25) : TYG TN SN σ g lv xb v w q0 q1 R := by
  intro z1 z2 z3
  have t1 := l1 z2
  have t0 := l0 z2
  refine ⟨max (nmo σ v) (nmo σ w), xx, 0, s _ _ _ (Nat.le_max_left _ _) (Nat.le_max_right _ _) (Nat.le_refl _), ?_, ?_, hx, by omega⟩
  · unfold nmo; omega
  · unfold nmo; omega
theorem ONE_nd (a : NDW v w k t) (h : 0 ≤ F v 32) : ONE (mks v) (mks w) (F v 32).toNat := by
  obtain ⟨a1, a2, -⟩ := a
  refine ⟨rfl, ?_, ?_, ?_, fun i => ?_⟩
  · show (F w 32).toNat = _; omega
  · show (F w 46).toNat = (F v 46).toNat; rw [a1.F (by decide)]
  · show (F w 56).toNat = (F v 56).toNat; rw [a1.F (by decide)]
  · unfold mks
    by_cases z : i = 0
    · rw [if_pos z]; omega
    · rw [if_neg z]
      have : ∀ j : Nat, j ≠ 32 → (F v j).toNat ≤ (F w j).toNat := fun j hj => by rw [a1.F (by simpa using hj)]; exact Nat.le_refl _
      apply this
      by_cases z1 : i = 1
      · rw [if_pos z1]; decide
      · rw [if_neg z1]
        by_cases z2 : i = 2
        · rw [if_pos z2]; decide
        · rw [if_neg z2]
          by_cases z3 : i = 3
          · rw [if_pos z3]; decide
          · rw [if_neg z3]; decide
theorem NEWN_of (a : NDV v w k t) (ht : 0 ≤ t ∧ t < 4002) : NEWN w (F v 32).toNat k := ⟨a.1.2.2.1, by rw [a.1.2.2.2.1]; exact ht.1, by rw [a.1.2.2.2.1]; exact ht.2, a.2.2.2.2.1, a.2.2.2.2.2.1, a.2.2.2.2.2.2⟩
theorem NEWN_wa {r i : Nat} {y : Int} (a : NEWN w i k) (hr : r ∈ [25, 26, 27, 31]) : NEWN (wa w r i y) i k := by
  have : ∀ r, r ∈ [25, 26, 27, 31] → 23 ≠ r ∧ 24 ≠ r ∧ 28 ≠ r ∧ 29 ≠ r ∧ 30 ≠ r := by decide
  obtain ⟨b1, b2, b3, b4, b5⟩ := this r hr
  unfold NEWN
  rw [wa_rne b1, wa_rne b2, wa_rne b3, wa_rne b4, wa_rne b5]
  exact a
theorem TYG_nd {xx : Nat} (a : NDW v w k t) (h : 0 ≤ F v 32) (hs : SCP (F u0 17) σ v) (l : LGS σ v) (s : ∀ mm X Y : Nat, nmo σ v ≤ mm → xx ≤ X → SEQ w SN (gq g) (mks v) (mks w) q0 q1 (nmo σ v) (nmo σ v) (nmo σ v) mm X Y (hlo σ w) R) (hx : 2 * (xx : Int) ≤ xb) (hlv : lv ≤ 25) : TYG TN SN σ g lv xb v w q0 q1 R := by
  have a60 : A w 60 σ = A v 60 σ := a.1.A (by decide)
  have a64 : A w 64 σ = A v 64 σ := a.1.A (by decide)
  have f66 : F w 66 = F v 66 := a.1.F (by decide)
  have hn : nmo σ w = nmo σ v := by unfold nmo; rw [a60]
  have s1 := (hs σ (Nat.le_refl σ)).1
  refine TYG_mk (nm := 0) (xx := xx) (by unfold LGS; rw [a60, f66]; exact l) (by rw [f66]; exact l) (by omega) (fun mm X Y h1 h2 h3 => ?_) hx hlv
  rw [hn]
  exact s mm X Y h1 h3
def LVL (u : MS) (l : Int) : Prop := l = 0 ∨ ((l = 1 ∨ l = 2) ∧ TSO u = 3) ∨ (3 ≤ l ∧ l ≤ 6 ∧ (TSO u = 3 ∨ (TSO u = 6 ∧ ((12 ≤ A u 7 (F u 69).toNat ∧ A u 7 (F u 69).toNat ≤ 20) ∨ A u 7 (F u 69).toNat = 22 ∨ A u 7 (F u 69).toNat = 23))))
theorem level_ok (hp : 0 ≤ F u 69 ∧ F u 69 ≤ 4001) : OK (fun v r => v = u ∧ ∃ l, r = I l ∧ LVL u l) (fm_M_level N u) := by
  unfold fm_M_level fb_M_level_0 fb_M_level_61 fb_M_level_55 fb_M_level_104 fb_M_level_116 fb_M_level_132 fb_M_level_148
  refine k_at (k := 6) (n := 4002) rfl (by decide) (by omega) ?_
  rw [tn_F]
  refine k_A (y := 3) rfl ⟨by decide, by decide⟩ (fun z => ?_) (fun z => ?_)
  · refine k_isWord (s := 11) rfl ⟨by decide, by decide⟩ hp (fun _ => ok_some.mpr ⟨rfl, 1, rfl, Or.inr (Or.inl ⟨by omega, z⟩)⟩) (fun _ => ?_)
    refine k_isWord (s := 1) rfl ⟨by decide, by decide⟩ hp (fun _ => ok_some.mpr ⟨rfl, 2, rfl, Or.inr (Or.inl ⟨by omega, z⟩)⟩) (fun _ => ?_)
    refine k_isWord (s := 5) rfl ⟨by decide, by decide⟩ hp (fun _ => ok_some.mpr ⟨rfl, 6, rfl, Or.inr (Or.inr ⟨by omega, by omega, Or.inl z⟩)⟩) (fun _ => ?_)
    exact k_isWord (s := 13) rfl ⟨by decide, by decide⟩ hp (fun _ => ok_some.mpr ⟨rfl, 6, rfl, Or.inr (Or.inr ⟨by omega, by omega, Or.inl z⟩)⟩) (fun _ => ok_some.mpr ⟨rfl, 0, rfl, Or.inl rfl⟩)
  · refine k_at (k := 6) (n := 4002) rfl (by decide) (by omega) (k_A (y := 6) rfl ⟨by decide, by decide⟩ (fun z6 => ?_) (fun _ => ok_some.mpr ⟨rfl, 0, rfl, Or.inl rfl⟩))
    refine k_at (k := 7) (n := 4002) rfl (by decide) (by omega) (ok_lt.mpr ?_)
    have big : ∀ l : Int, 3 ≤ l ∧ l ≤ 6 → ((12 ≤ A u 7 (F u 69).toNat ∧ A u 7 (F u 69).toNat ≤ 20) ∨ A u 7 (F u 69).toNat = 22 ∨ A u 7 (F u 69).toNat = 23) → OK (fun v r => v = u ∧ ∃ l, r = I l ∧ LVL u l) (some (u, I l)) := fun l h1 h2 => ok_some.mpr ⟨rfl, l, rfl, Or.inr (Or.inr ⟨h1.1, h1.2, Or.inr ⟨z6, h2⟩⟩)⟩
    have t104 : OK (fun v r => v = u ∧ ∃ l, r = I l ∧ LVL u l) (br (decide (I (A u 7 (F u 69).toNat) = I 22)) (some (u, I 4)) (br (decide (I (A u 7 (F u 69).toNat) = I 23)) (some (u, I 4)) (br (decide (I (A u 7 (F u 69).toNat) = I 18)) (some (u, I 5)) (br (decide (I (A u 7 (F u 69).toNat) = I 19)) (some (u, I 5)) (br (decide (I (A u 7 (F u 69).toNat) = I 20)) (some (u, I 6)) (some (u, I 0))))))) := by
      refine k_eq (ARG1 u 7 _) ⟨by decide, by decide⟩ (fun z => big 4 (by omega) (by omega)) (fun _ => ?_)
      refine k_eq (ARG1 u 7 _) ⟨by decide, by decide⟩ (fun z => big 4 (by omega) (by omega)) (fun _ => ?_)
      refine k_eq (ARG1 u 7 _) ⟨by decide, by decide⟩ (fun z => big 5 (by omega) (by omega)) (fun _ => ?_)
      refine k_eq (ARG1 u 7 _) ⟨by decide, by decide⟩ (fun z => big 5 (by omega) (by omega)) (fun _ => ?_)
      exact k_eq (ARG1 u 7 _) ⟨by decide, by decide⟩ (fun z => big 6 (by omega) (by omega)) (fun _ => ok_some.mpr ⟨rfl, 0, rfl, Or.inl rfl⟩)
    rw [I_A (k := 7), show (12 : Int32) = I 12 from rfl, show (17 : Int32) = I 17 from rfl]
    refine k_lt (ARG1 u 7 _) ⟨by decide, by decide⟩ (fun _ => t104) (fun e1 => k_lt ⟨by decide, by decide⟩ (ARG1 u 7 _) (fun _ => t104) (fun e2 => big 3 (by omega) (by omega)))
theorem begins_ok (hp : 0 ≤ F u 69 ∧ F u 69 ≤ 4001) : OK (fun v r => v = u ∧ (r = 0 ∨ r = 1)) (fm_M_beginsUnit N u) := by
  unfold fm_M_beginsUnit fb_M_beginsUnit_0 fb_M_beginsUnit_137 fb_M_beginsUnit_142
  have y1 : OK (fun v r => v = u ∧ (r = (0 : Int32) ∨ r = 1)) (ck (isb 1) (some (u, (1 : Int32)))) := ok_ck.mpr ⟨rfl, ok_some.mpr ⟨rfl, Or.inr rfl⟩⟩
  have y0 : OK (fun v r => v = u ∧ (r = (0 : Int32) ∨ r = 1)) (ck (isb 0) (some (u, (0 : Int32)))) := ok_ck.mpr ⟨rfl, ok_some.mpr ⟨rfl, Or.inl rfl⟩⟩
  have ib : ∀ (y : Option (MS × Int32)), OK (fun v r => v = u ∧ (r = (0 : Int32) ∨ r = 1)) y → OK (fun v r => v = u ∧ (r = (0 : Int32) ∨ r = 1)) (ck (inb (u.1 69) (ln 6)) y) := fun y hy => k_at (k := 6) (n := 4002) rfl (by decide) (by omega) hy
  refine ib _ (ok_br.mpr ⟨fun _ => y1, fun _ => ib _ (ok_br.mpr ⟨fun _ => y1, fun _ => ib _ (ok_br.mpr ⟨fun _ => y1, fun _ => ib _ (ok_br.mpr ⟨fun _ => y1, fun _ => ?_⟩)⟩)⟩)⟩)
  refine k_isSign (s := 0) rfl ⟨by decide, by decide⟩ hp (fun _ => y1) (fun _ => ?_)
  refine k_isSign (s := 2) rfl ⟨by decide, by decide⟩ hp (fun _ => y1) (fun _ => ?_)
  refine k_isSign (s := 4) rfl ⟨by decide, by decide⟩ hp (fun _ => y1) (fun _ => ?_)
  refine k_isSign (s := 19) rfl ⟨by decide, by decide⟩ hp (fun _ => y1) (fun _ => ?_)
  refine k_isWord (s := 2) rfl ⟨by decide, by decide⟩ hp (fun _ => y1) (fun _ => ?_)
  refine k_isWord (s := 3) rfl ⟨by decide, by decide⟩ hp (fun _ => y1) (fun _ => ?_)
  refine k_isWord (s := 7) rfl ⟨by decide, by decide⟩ hp (fun _ => y1) (fun _ => ?_)
  refine k_isWord (s := 8) rfl ⟨by decide, by decide⟩ hp (fun _ => y1) (fun _ => ?_)
  refine k_isWord (s := 9) rfl ⟨by decide, by decide⟩ hp (fun _ => y1) (fun _ => ?_)
  exact k_isWord (s := 12) rfl ⟨by decide, by decide⟩ hp (fun _ => y1) (fun _ => y0)
theorem k_begins {α : Type} {Q : MS → α → Prop} {f g : MS → Int32 → Option (MS × α)} (hp : 0 ≤ F u 69 ∧ F u 69 ≤ 4001) (a : OK Q (g u 1)) (b : OK Q (f u 0)) : OK Q (bnd (fm_M_beginsUnit N u) (fun u1 r1 => br (decide (r1 = 0)) (f u1 r1) (g u1 r1))) := by
  refine ok_bnd.mpr (ok_mono (begins_ok hp) (fun v r hv => ?_))
  obtain ⟨rfl, h⟩ := hv
  rcases h with h | h
  · rw [h, br00]; exact b
  · rw [h, br10]; exact a
def adr (u : MS) (i x : Nat) : MS := wa (wa u 29 x (A u 28 i)) 28 i x
theorem addRoot_0 {i : Int32} : fm_M_addRoot N u i (-1) = some (u, ()) := by
  unfold fm_M_addRoot fb_M_addRoot_0
  rw [show decide ((-1 : Int32) = -1) = true from rfl, br_tq]
  rfl
theorem addRoot_1 {i x : Nat} (hi : i < 16000) (hx : x < 16000) : fm_M_addRoot N u (I i) (I x) = some (adr u i x, ()) := by
  unfold fm_M_addRoot fb_M_addRoot_0 fb_M_addRoot_24
  rw [show (-1 : Int32) = I (-1) from rfl, decE (by omega) (by omega) (by omega) (by omega), decide_eq_false (by omega), br_fq]
  simp only [lt_e]
  have ti : (I (i : Int)).toNatClampNeg = i := by rw [I_tn (by omega) (by omega)]; omega
  have tx : (I (x : Int)).toNatClampNeg = x := by rw [I_tn (by omega) (by omega)]; omega
  rw [inb_at (k := 28) (n := 16000) rfl (by omega) (by omega) (by decide), inb_at (k := 29) (n := 16000) rfl (by omega) (by omega) (by decide), ck_t, ck_t, ck_t, ti, tx, I_A (k := 28), wa_e, wa_e]
  rfl
end
