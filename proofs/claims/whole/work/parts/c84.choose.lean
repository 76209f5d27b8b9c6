/-! choose: one part is tried -/
set_option maxRecDepth 100000
/-- behind the PATTERNS, here -/
def chC (N : Nat) (S : SG_M_error) (M : Nat) (u2 : MS) (r2 : Int32) : Option (MS × Unit) := br (decide (r2 = 0)) (ck (inb (u2.1 154) (ln 45)) (lt (upI u2 154 (u2.2.2.1 45 (u2.1 154).toNatClampNeg)) (fun w3 => gg_M_choose N S M w3 1))) (ck (inb (u2.1 154) (ln 42)) (br (decide ((u2.2.2.1 42 (u2.1 154).toNatClampNeg) = (-1))) (bnd (fm_M_chosen N u2) (fun u7 _ => gg_M_choose N S M u7 0)) (gdR N u2 (fun u6 => gg_M_choose N S M u6 0))))
section
variable {Sf : MS → Int32 → Prop} {α β : Type} {N p B M k : Nat} {m w w2 : MS} {Q : MS → α → MS → β → Prop} {D : Option (MS × α)} {K : MS → Unit → Option (MS × β)} {S : SG_M_error}
theorem ro_e {i k : Nat} (h : PRr k) : ROs w k i = A w k i := if_pos h
/-- names are as they were: the next part is looked at -/
theorem cho_1 (hpp : p < 24) (h133 : F w 133 = ((p : Nat) : Int)) (h156 : F w 156 = ((B : Nat) : Int)) (h : PP Q D (bnd (br (decide ((wa w 94 p ((B : Nat) : Int)).1 154 = (-1))) (bnd (S.2.2.1 (wa w 94 p ((B : Nat) : Int))) (fun u8 r8 => gg_M_choose N S M u8 r8)) (bnd (fm_M_fitsPart N (wa w 94 p ((B : Nat) : Int))) (fun u2 r2 => chC N S M u2 r2))) K)) : PP Q D (bnd (gg_M_choose N S (M + 1) w 1) K) := by
  show PP Q D (bnd (fb_M_choose_2 N S (gg_M_choose N S M) w 1) K)
  unfold fb_M_choose_2
  rw [show decide ((1 : Int32) = 0) = false from rfl, br_f]
  refine rb_ck (fun _ => ?_)
  rw [I_F' h133, tnI (n := p) rfl (by omega), I_F' h156, wa_e, lt_e]
  exact h
theorem cho_p (hpp : p < 24) (h133 : F w 133 = ((p : Nat) : Int)) (h156 : F w 156 = ((B : Nat) : Int)) (h154 : F w 154 = ((k : Nat) : Int)) (h : PP Q D (bnd (fm_M_fitsPart N (wa w 94 p ((B : Nat) : Int))) (fun u2 r2 => bnd (chC N S M u2 r2) K))) : PP Q D (bnd (gg_M_choose N S (M + 1) w 1) K) := by
  refine cho_1 hpp h133 h156 ?_
  have r := F_r w 154
  rw [h154] at r
  have e : F (wa w 94 p ((B : Nat) : Int)) 154 = ((k : Nat) : Int) := h154
  rw [I_F' e, m1I, decE (by omega) (by omega) (by omega) (by omega), decide_eq_false (by omega), br_f]
  exact r_bb h
theorem cho_n (hpp : p < 24) (h133 : F w 133 = ((p : Nat) : Int)) (h156 : F w 156 = ((B : Nat) : Int)) (h154 : F w 154 = -1) (h : PP Q D (bnd (S.2.2.1 (wa w 94 p ((B : Nat) : Int))) (fun u8 r8 => bnd (gg_M_choose N S M u8 r8) K))) : PP Q D (bnd (gg_M_choose N S (M + 1) w 1) K) := by
  refine cho_1 hpp h133 h156 ?_
  have e : F (wa w 94 p ((B : Nat) : Int)) 154 = -1 := h154
  rw [I_F' e, show decide (I (-1) = -1) = true from rfl, br_t]
  exact r_bb h
/-- it does not fit -/
theorem cho_f (h154 : F w 154 = ((k : Nat) : Int)) (hk : k < 100000) (h : PP Q D (bnd (gg_M_choose N S M (wi w 154 (A w 45 k)) 1) K)) : PP Q D (bnd (chC N S M w 0) K) := by
  unfold chC
  rw [show decide ((0 : Int32) = 0) = true from rfl, br_t]
  refine rb_ck (fun _ => ?_)
  rw [I_F' h154, tnI (n := k) rfl (by omega), I_A (k := 45), wi_e, lt_e]
  exact h
end
section
variable {Sf : MS → Int32 → Prop} {b : Int → Nat → Nat → Prop} {p j : Nat} {m w : MS} {nb : Nat → Nat} {Hs Os : Nat → List Nat}
theorem RUb_152 (ru : RUb m w p j nb Hs Os none) : RUb m (wi w 152 0) p j nb Hs Os none := by
  obtain ⟨⟨fa, ct⟩, ⟨r5, r6⟩, r7, ⟨r8, r9, r10⟩, r11, r12, r13⟩ := ru
  have h12 : F m 1112 = 0 := by
    rcases r7 with ⟨_, c3, _⟩ | ⟨_, _, _, c, _⟩
    · exact c3
    · cases c
  exact ⟨⟨fa, ct⟩, ⟨r5, r6⟩, Or.inl ⟨rfl, h12, wi_sm (by omega) (by omega)⟩, ⟨r8, r9, (wi_ne (by omega)).trans r10⟩, (wi_ne (by omega)).trans r11, r12.trans (wi_1 (by omega)).symm, r13.trans (wi_1 (by omega)).symm⟩
end
section
variable {Sf : MS → Int32 → Prop} {β : Type} {b : Int → Nat → Nat → Prop} {N p U B W Y j e k0 kd sc M vk : Nat} {m w m2 w2 : MS} {nb : Nat → Nat} {Hs Os : Nat → List Nat} {O0 X : List Nat} {Q : MS → Int32 → MS → β → Prop} {K : MS → Unit → Option (MS × β)} {S : SG_M_error} {G : MS → Nat → Int32 → Option (MS × Int32)}
/-- it is chosen -/
theorem chosen_pp {K2 : MS → Option (MS × β)} (hpp : p < 24) (pl : PLs b p m w U B W Y) (ru : RUb m (wi w 152 0) p j nb Hs Os none) (hW : W < 46000) (hvk : vk < 1000000000) (hpc : F m 1105 = ((e : Nat) : Int)) (h153 : F w 153 = ((kd : Nat) : Int)) (h154 : F w 154 = ((k0 : Nat) : Int)) (hk : k0 < 100000) (t3 : kd = 3 → F w 158 = F m (pq p 8))
    (b0 : kd = 0 → ∃ n0 : Nat, A w 41 k0 = ((n0 : Nat) : Int) ∧ n0 ≤ W) (b1 : kd = 1 → 1 ≤ W) (b3 : kd = 3 → Y ≤ 30 ∧ ∃ t : Nat, F m (pq p 8) = ((t : Nat) : Int) ∧ t < Y)
    (cs : ∃ f, CHs (A m 23) (ROs w) (CRs (A m 23) (ROs w) (w.2.2.2 34) f) kd e k0 (Hs j) (Os j))
    (kC : ∀ m3 w3 W3 Y3 y a n, PLs b p m3 w3 U B W3 Y3 → RUs m3 w3 p j nb Hs Os y a n → GGm p m m3 → GGw p w w3 → (SCs p m w → SCs p m3 w3) → PP Q (q195 Sf N G m3 p (I ((vk : Nat) : Int))) (K2 w3))
    (kD : ∀ w3 a n, PLs b p m w3 U B W Y → RUs m w3 p j nb Hs Os none a n → GGw p w w3 → (SCs p m w → SCs p m w3) → PP Q (q67 Sf N G m p (I ((vk : Nat) : Int))) (K2 w3)) : PP Q (q67 Sf N G m p (I ((vk : Nat) : Int))) (bnd (fm_M_chosen N w) (fun u _ => K2 u)) := by
  obtain ⟨-, ⟨r5, -⟩, -, ⟨r8, -, -⟩, -⟩ := id ru
  obtain ⟨f, n, c43, cs⟩ := cs
  rw [ro_e (k := 43) (by unfold PRr; omega)] at c43
  rcases cs with ⟨rfl, y1, y2, ⟨t, y3, y4⟩, y5⟩ | ⟨rfl, y1, y2⟩ | ⟨rfl, y1⟩ | ⟨rfl, y1, y2⟩
  · obtain ⟨n0, z1, z2⟩ := b0 rfl
    rw [ro_e (k := 41) (by unfold PRr; omega)] at y2
    rw [ro_e (k := 44) (by unfold PRr; omega)] at y3
    rw [ro_e (k := 8) (by unfold PRr; omega)] at y4
    have bb := CR_b y5
    rw [go_fl r5 r8 hvk hpc (by omega) y1 ⟨by omega, by omega⟩]
    obtain ⟨W1, rfl⟩ : ∃ W1, W = W1 + n0 := ⟨W - n0, by omega⟩
    exact chosen_0 (K1 := fun u => q195 Sf N G u p (I ((vk : Nat) : Int))) (K2 := K2) (n0 := n0) hpp pl ru (by omega) hpc (by omega) h153 h154 hk z1 y2 y3 y4 c43 ⟨f, y5⟩ (fun m3 w3 a1 a2 a3 a4 a5 => kC m3 w3 _ _ _ _ _ a1 a2 a3 a4 a5)
  · have bb := CR_b y2
    rw [go_vl r5 r8 hvk hpc (by omega) y1 ⟨by omega, by omega⟩]
    have := b1 rfl
    obtain ⟨W1, rfl⟩ : ∃ W1, W = W1 + 1 := ⟨W - 1, by omega⟩
    exact chosen_1 (K1 := fun u => q195 Sf N G u p (I ((vk : Nat) : Int))) (K2 := K2) hpp pl ru (by omega) hpc (by omega) h153 h154 hk c43 ⟨f, y2⟩ (fun m3 w3 a1 a2 a3 a4 a5 => kC m3 w3 _ _ _ _ _ a1 a2 a3 a4 a5)
  · exact chosen_2 (K2 := K2) hpp pl ru hpc h153 h154 hk c43 ⟨f, y1⟩ (fun w3 a1 a2 a3 a4 => kD w3 _ _ a1 a2 a3 a4)
  · obtain ⟨bY, t, t1, t2⟩ := b3 rfl
    have d1 := t3 rfl
    have bb := CR_b y2
    rw [go_fl r5 r8 hvk hpc (by omega) y1 ⟨by omega, by omega⟩]
    obtain ⟨Y1, rfl⟩ : ∃ Y1, Y = Y1 + 1 := ⟨Y - 1, by omega⟩
    exact chosen_3 (K1 := fun u => q195 Sf N G u p (I ((vk : Nat) : Int))) (K2 := K2) hpp pl ru (by omega) t1 (d1.trans t1) (by omega) hpc (by omega) h153 h154 hk c43 ⟨f, y2⟩ (fun m3 w3 a1 a2 a3 a4 a5 => kC m3 w3 _ _ _ _ _ a1 a2 a3 a4 a5)
/-- it fits: it is chosen, or its GUARD begins -/
theorem chos_pp (hpp : p < 24) (pl : PLs b p m w U B W Y) (ru : RUb m w p j nb Hs Os none) (hW : W < 46000) (hvk : vk < 1000000000) (eO : Os j = O0 ++ X) (hpc : F m 1105 = ((e : Nat) : Int))  (h153 : F w 153 = ((kd : Nat) : Int)) (h154 : F w 154 = ((k0 : Nat) : Int)) (hk : k0 < 100000) (h156 : F w 156 = ((nb j + (Hs j).length + O0.length : Nat) : Int)) (tr : TRr kd sc m w p (Hs j) O0)
    (b0 : kd = 0 → ∃ n0 : Nat, A w 41 k0 = ((n0 : Nat) : Int) ∧ n0 ≤ W) (b1 : kd = 1 → 1 ≤ W) (b3 : kd = 3 → Y ≤ 30 ∧ ∃ t : Nat, F m (pq p 8) = ((t : Nat) : Int) ∧ t < Y)
    (cs : ∃ f g, (ROs w 42 k0 = -1 ∧ CHs (A m 23) (ROs w) (CRs (A m 23) (ROs w) (w.2.2.2 34) f) kd e k0 (Hs j) (Os j)) ∨ ∃ n fl : Nat, ROs w 42 k0 = ((n : Nat) : Int) ∧ A m 23 e = 21 ∧ A m 23 (e + 1) = (((Os j).length - O0.length : Nat) : Int) ∧ A m 23 (e + 2) = ((fl : Nat) : Int) ∧ 0 < fl ∧ ZRs (A m 23) (ROs w) (w.2.2.2 34) (CRs (A m 23) (ROs w) (w.2.2.2 34) f) kd sc (Hs j) O0 g fl (ROs w 45 k0) ∧ CRs (A m 23) (ROs w) (w.2.2.2 34) f (some (kd, k0, sc)) (e + 3) n (Hs j) (Os j))
    (kC : ∀ m3 w3 W3 Y3 y a n, PLs b p m3 w3 U B W3 Y3 → RUs m3 w3 p j nb Hs Os y a n → GGm p m m3 → GGw p w w3 → (SCs p m w → SCs p m3 w3) → PP Q (q195 Sf N G m3 p (I ((vk : Nat) : Int))) (K w3 ()))
    (kD : ∀ w3 a n, PLs b p m w3 U B W Y → RUs m w3 p j nb Hs Os none a n → GGw p w w3 → (SCs p m w → SCs p m w3) → PP Q (q67 Sf N G m p (I ((vk : Nat) : Int))) (K w3 ())) : PP Q (q67 Sf N G m p (I ((vk : Nat) : Int))) (bnd (chC N S M w 1) K) := by
  obtain ⟨-, ⟨r5, -⟩, -, ⟨r8, -, -⟩, -⟩ := id ru
  unfold chC
  rw [show decide ((1 : Int32) = 0) = false from rfl, br_f]
  refine rb_ck (fun _ => ?_)
  rw [I_F' h154, tnI (n := k0) rfl (by omega)]
  obtain ⟨f, g, cs⟩ := cs
  rw [ro_e (k := 42) (by unfold PRr; omega)] at cs
  rcases cs with ⟨c42, cs⟩ | ⟨n, fl, c42, x1, x2, x3, x4, x5, x6⟩
  · rw [I_A' c42, show decide (I (-1) = -1) = true from rfl, br_t]
    refine r_bb ?_
    exact chosen_pp (K2 := fun u => bnd (gg_M_choose N S M u 0) K) hpp pl (RUb_152 ru) hW hvk hpc h153 h154 hk (fun c => (tr c).1.1) b0 b1 b3 ⟨f, cs⟩ (fun m3 w3 W3 Y3 y a n a1 a2 a3 a4 a5 => cho_0 (kC m3 w3 W3 Y3 y a n a1 a2 a3 a4 a5)) (fun w3 a n a1 a2 a3 a4 => cho_0 (kD w3 a n a1 a2 a3 a4))
  · have r := A_r w 42 k0
    rw [c42] at r
    rw [I_A' c42, m1I, decE (by omega) (by omega) (by omega) (by omega), decide_eq_false (by omega), br_f]
    have xl : (Os j).length - O0.length = X.length := by rw [eO, List.length_append]; omega
    rw [xl] at x2
    rw [ro_e (k := 45) (by unfold PRr; omega)] at x5
    have bb := CR_b x6
    rw [go_fl r5 r8 hvk hpc (by omega) x1 ⟨by omega, by omega⟩]
    have e1 : bnd (gdR N w (fun u6 => gg_M_choose N S M u6 0)) K = gdR N w (fun u6 => bnd (gg_M_choose N S M u6 0) K) := by
      unfold gdR
      rw [lt_e, lt_e]
      have ckb : ∀ (c : Bool) (o : Option (MS × Unit)), bnd (ck c o) K = ck c (bnd o K) := fun c o => by cases c <;> rfl
      rw [ckb, lt_e, lt_e, ckb, bb_e]
    rw [e1]
    exact op_guard (K1 := fun u => q195 Sf N G u p (I ((vk : Nat) : Int))) (K2 := fun u => bnd (gg_M_choose N S M u 0) K) hpp pl ru hW eO hpc (by omega) x2 x3 x4 h153 h154 hk h156 tr ⟨f, g, x5⟩ c42 ⟨f, x6⟩ (fun m3 w3 a1 a2 a3 a4 a5 => cho_0 (kC m3 w3 _ _ _ _ _ a1 a2 a3 a4 a5))
end
