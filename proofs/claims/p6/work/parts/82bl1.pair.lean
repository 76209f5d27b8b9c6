set_option maxRecDepth 100000
def PCG (m v : MS) : Prop := (∀ k, k ∉ [306, 449, 665] → v.1 k = m.1 k) ∧ (∀ k, k < 16 ∨ (21 < k ∧ k ≠ 34) → v.2.2.1 k = m.2.2.1 k) ∧ ∀ j, j < (m.1 664).toNatClampNeg → v.2.2.1 34 j = m.2.2.1 34 j
def mrg (q : Nat) (W W2 : Nat → Nat) : Nat → Nat := fun j => if j < q then W j else W2 j
def STQ (m0 w0 : MS) (K : Nat → Nat) (T : Nat) (Nk : Nat → Nat) (gd : Bool) (mB wB : MS) (p0 n0 : Nat) (sc : SCT) (s : Nat) (m w : MS) (p n : Nat) (sc2 : SCT) (X : Nat) (W : Nat → Nat) (Rf Zf : Bool) (CL : Int32 × Int32 × Int32 → Prop) : Prop := RLP m0 w0 T p m w ∧ (p0 ≤ p ∧ m.1 306 = I (n : Nat) ∧ n0 ≤ n ∧ n + 2 * p0 + s ≤ n0 + 2 * p) ∧ KPO n0 mB m ∧ PCG mB m ∧ STW Nk K p0 p sc sc2 X W Rf Zf CL wB w ∧ (gd = true → Rf = false → tot sc2 = tot sc) ∧ SNW X sc sc2
section
variable {α : Type} {m0 w0 m w v u m2 m3 mi mB wB w2 w3 : MS} {K nm Nk W W2 : Nat → Nat} {T p n N q q2 X X2 Y n2 n3 ni li lo p2 p3 ν μ s s2 x : Nat} {sc sc1 sc2 sc3 t t2 : SCT} {e e2 : List Nat × List Nat × Nat} {gd Rf Zf Rg Zg R2 Z2 : Bool} {l : List Nat} {CL CM : Int32 × Int32 × Int32 → Prop} {BC B2 : MS → Prop}
theorem PCG_rf : PCG m m := ⟨fun _ _ => rfl, fun _ _ => rfl, fun _ _ => rfl⟩
theorem PCG_tr (h : PCG m v) (k : PCG v u) : PCG m u := ⟨fun j hj => (k.1 j hj).trans (h.1 j hj), fun j hj => (k.2.1 j hj).trans (h.2.1 j hj), fun j hj => (k.2.2 j (by rw [h.1 664 (by decide)]; exact hj)).trans (h.2.2 j hj)⟩
theorem PCG_k (h : PCG m v) : Kcc m v := ⟨fun k hk => h.1 k (by simp only [List.mem_cons, List.not_mem_nil, or_false]; omega), fun k hk => h.2.1 k (by omega)⟩
theorem PCF_G (h : PCF m v) : PCG m v := ⟨fun k hk => h.1 k (by simp only [List.mem_cons, List.not_mem_nil, or_false] at hk ⊢; omega), fun k hk => h.2 k (by omega), fun j _ => by rw [h.2 34 (by omega)]⟩
theorem PCG_I {k : Nat} {y : Int32} (h : PCG m v) (hk : k = 306 ∨ k = 449 ∨ k = 665) : PCG m (upI v k y) := ⟨fun j hj => by rw [upI_ne (fun z => by subst z; simp only [List.mem_cons, List.not_mem_nil, or_false] at hj; omega)]; exact h.1 j hj, h.2.1, h.2.2⟩
theorem PCG_A {k : Nat} {g : Nat → Int32} (h : PCG m v) (hk : 16 ≤ k ∧ k ≤ 21) : PCG m (upA v k g) := ⟨h.1, fun j hj => by rw [upA_no (by omega)]; exact h.2.1 j hj, fun j hj => by rw [upA_no (by omega)]; exact h.2.2 j hj⟩
theorem PCG_add {a b c d f : Int32} (h : PCG m v) : PCG m (adN v n a b c d f) := PCG_tr h ⟨fun k hk => adN_i (fun z => by subst z; exact hk (by decide)), fun k hk => adN_r (by omega), fun j _ => by rw [adN_r (by omega)]⟩
theorem PCG_666 {y z : Int32} (h : PCG (upI m 666 y) v) (hz : z = m.1 666) : PCG m (upI v 666 z) := by
  refine ⟨fun k hk => ?_, h.2.1, fun j hj => h.2.2 j (by rw [upI_ne (by decide)]; exact hj)⟩
  by_cases e : k = 666
  · subst e; rw [upI_at]; exact hz
  · rw [upI_ne e, h.1 k hk, upI_ne e]
theorem mrg_l {j : Nat} (h : j < q) : mrg q W W2 j = W j := if_pos h
theorem mrg_r {j : Nat} (h : q ≤ j) : mrg q W W2 j = W2 j := if_neg (by omega)
theorem STW_tr2 (h1 : p ≤ q) (h2 : q ≤ p2) (h : STW Nk K p q sc sc2 X W Rf Zf CL w v) (k : STW Nk K q p2 sc2 sc3 Y W2 Rg Zg CM v u) : STW Nk K p p2 sc sc3 (max X Y) (mrg q W W2) (Rf || Rg) (Zf || Zg) (fun x => CL x ∨ CM x) w u := STW_tr h1 h2 (STW_w (fun _ _ a => mrg_l a) h) (STW_w (fun _ a _ => mrg_r a) k)
theorem SNW_cut {b : Nat} (h : SNW X sc sc2) : SNW X sc (cutS b sc2) := by
  cases sc with
  | nil => cases sc2 <;> trivial
  | cons e t =>
    cases sc2 with
    | nil => trivial
    | cons e2 t2 =>
      refine ⟨fun x hx => h.1 x (List.mem_of_mem_take hx), ?_⟩
      have h2 := h.2
      have : (e2.1.take b).length ≤ e2.1.length := List.length_take_le' _ _
      show (e2.1.take b).length ≤ _
      omega
theorem SNW_nm (h : nms sc2 = nms sc) : SNW X sc sc2 := by
  cases sc with
  | nil => trivial
  | cons e t =>
    cases sc2 with
    | nil => trivial
    | cons e2 t2 =>
      have : e2.1 = e.1 := by
        have h : e2.1 :: nms t2 = e.1 :: nms t := h
        exact (List.cons.inj h).1
      exact ⟨fun x hx => Or.inl (this ▸ hx), by rw [this]; exact Nat.le_max_left _ _⟩
theorem STQ_tr (h : STQ m0 w0 K T Nk gd mB wB p n sc s m w q n2 sc2 X W Rf Zf CL) (k : STQ m0 w0 K T Nk gd m w q n2 sc2 s2 m2 w2 p2 n3 sc3 Y W2 Rg Zg CM) : STQ m0 w0 K T Nk gd mB wB p n sc (s + s2) m2 w2 p2 n3 sc3 (max X Y) (mrg q W W2) (Rf || Rg) (Zf || Zg) (fun x => CL x ∨ CM x) := by
  obtain ⟨a1, a2, a3, a4, a5, a6, a7⟩ := h
  obtain ⟨b1, b2, b3, b4, b5, b6, b7⟩ := k
  refine ⟨b1, ⟨by omega, b2.2.1, by omega, by omega⟩, KPO_tr a3 b3 a2.2.2.1, PCG_tr a4 b4, STW_tr2 a2.1 b2.1 a5 b5, fun g r => ?_, SNW_tr a7 a5.2.1 b7⟩
  have r1 : Rf = false := by cases Rf <;> simp_all
  have r2 : Rg = false := by cases Rg <;> simp_all
  rw [b6 g r2, a6 g r1]
theorem STQ_0 (h : RLP m0 w0 T p m w) (hn : m.1 306 = I (n : Nat)) (hr : RNs w sc) (nd : ND w) : STQ m0 w0 K T Nk gd m w p n sc 0 m w p n sc 0 W false false (fun _ => False) := ⟨h, ⟨Nat.le_refl _, hn, Nat.le_refl _, by omega⟩, KPO_rf, PCG_rf, STW_0 hr nd, fun _ _ => rfl, SNW_rf⟩
theorem STQ_cl (hc : ∀ x, CL x ↔ CM x) (h : STQ m0 w0 K T Nk gd mB wB p n sc s m w q n2 sc2 X W Rf Zf CL) : STQ m0 w0 K T Nk gd mB wB p n sc s m w q n2 sc2 X W Rf Zf CM := ⟨h.1, h.2.1, h.2.2.1, h.2.2.2.1, STW_cl hc h.2.2.2.2.1, h.2.2.2.2.2⟩
theorem STQ_nd (h : STQ m0 w0 K T Nk gd mB wB p n sc s m w q n2 sc2 X W Rf Zf CL) : ND w := STW_nd h.2.2.2.2.1
theorem STQ_rn (h : STQ m0 w0 K T Nk gd mB wB p n sc s m w q n2 sc2 X W Rf Zf CL) : RNs w sc2 := h.2.2.2.2.1.1
theorem RLP_s (h : RLP m0 w0 T p m w) (k : SMS w v) (hv : v.1 69 = w.1 69) : RLP m0 w0 T p m v := by
  obtain ⟨h1, h2, h3, h4, h5, h6, h7⟩ := h
  refine ⟨h1, Kt_tr h2 ⟨fun j hj => k.1 j (by unfold TIN at hj; unfold SMI; simp only [List.mem_cons, List.not_mem_nil, or_false] at hj ⊢; omega), fun j hj => k.2.1 j (by unfold TRW at hj; unfold SMX; simp only [List.mem_cons, List.not_mem_nil, or_false] at hj; omega)⟩, h3, by rw [hv]; exact h4, h5, by rw [k.1 70 (by decide)]; exact h6, by rw [k.1 67 (by decide)]; exact h7⟩
theorem STQ_s (h : STQ m0 w0 K T Nk gd mB wB p n sc s m w q n2 sc2 X W Rf Zf CL) (k : SMS w v) (hv : v.1 69 = w.1 69) : STQ m0 w0 K T Nk gd mB wB p n sc s m v q n2 sc2 X W Rf Zf CL := ⟨RLP_s h.1 k hv, h.2.1, h.2.2.1, h.2.2.2.1, STW_s h.2.2.2.2.1 k, h.2.2.2.2.2⟩
theorem RLP_ad (h : RLP m0 w0 T p m w) (hl : p < T) : RLP m0 w0 T (p + 1) (advc m p) (adv w p) := by
  obtain ⟨h1, h2, h3, h4, h5, h6, h7⟩ := h
  exact ⟨⟨fun k hk => by unfold advc; rw [upI_ne (by omega)]; exact h1.1 k hk, h1.2⟩, ⟨fun k hk => by unfold adv; rw [upI_ne (fun z => by rw [z] at hk; revert hk; decide)]; exact h2.1 k hk, h2.2⟩, upI_at, upI_at, hl, by unfold advc adv; rw [upI_ne (by decide), upI_ne (by decide)]; exact h6, by unfold adv; rw [upI_ne (by decide)]; exact h7⟩
theorem SMS_ad : SMS w (adv w p) := SMS_I SMS_rf (by decide) (by decide)
theorem STQ_ad (h : STQ m0 w0 K T Nk gd mB wB p n sc s m w q n2 sc2 X W Rf Zf CL) (hl : q < T) (hk : K q ≠ 3) : STQ m0 w0 K T Nk gd mB wB p n sc (s + 2) (advc m q) (adv w q) (q + 1) n2 sc2 X W Rf Zf CL := by
  obtain ⟨a1, a2, a3, a4, a5, a6, a7⟩ := h
  refine ⟨RLP_ad a1 hl, ⟨by omega, by unfold advc; rw [upI_ne (by decide)]; exact a2.2.1, a2.2.2.1, by omega⟩, a3, PCG_I a4 (Or.inr (Or.inr rfl)), STW_gap (STW_s a5 SMS_ad) ⟨Nat.le_refl _, by omega⟩ (fun j h1 h2 => absurd h2 (by omega)) (fun j h1 h2 => by rw [show j = q by omega]; exact hk), a6, a7⟩
theorem RLP_add {a b c d f : Int32} (h : RLP m0 w0 T p m w) : RLP m0 w0 T p (adN m n a b c d f) w := by
  obtain ⟨h1, h2, h3, h4, h5, h6, h7⟩ := h
  exact ⟨Kc_tr h1 ⟨fun k hk => adN_i (by omega), fun k hk => adN_r (by omega)⟩, h2, by rw [adN_i (by decide)]; exact h3, h4, h5, by rw [adN_i (by decide)]; exact h6, h7⟩
theorem STQ_add {a b c d f : Int32} (h : STQ m0 w0 K T Nk gd mB wB p n sc (s + 1) m w q n2 sc2 X W Rf Zf CL) : STQ m0 w0 K T Nk gd mB wB p n sc s (adN m n2 a b c d f) w q (n2 + 1) sc2 X W Rf Zf CL := by
  obtain ⟨a1, a2, a3, a4, a5, a6, a7⟩ := h
  exact ⟨RLP_add a1, ⟨a2.1, adN_n, by omega, by omega⟩, KPO_tr a3 adN_o a2.2.2.1, PCG_add a4, a5, a6, a7⟩
theorem STQ_s2 (h : STQ m0 w0 K T Nk gd mB wB p n sc s m w q n2 sc2 X W Rf Zf CL) (hs : s2 ≤ s) : STQ m0 w0 K T Nk gd mB wB p n sc s2 m w q n2 sc2 X W Rf Zf CL := ⟨h.1, ⟨h.2.1.1, h.2.1.2.1, h.2.1.2.2.1, by have := h.2.1.2.2.2; omega⟩, h.2.2⟩
theorem STQ_rule (h : STQ m0 w0 K T Nk gd mB wB p n sc s m w q n2 sc2 X W Rf Zf CL) (h72 : u.1 72 ≠ 0) (hi : ∀ k, k ≠ 71 → k ≠ 72 → u.1 k = w.1 k) (hr : u.2.2.1 = w.2.2.1) : STQ m0 w0 K T Nk gd mB wB p n sc s m u q n2 sc2 X W true Zf CL := by
  obtain ⟨a1, a2, a3, a4, a5, a6, a7⟩ := h
  obtain ⟨h1, h2, h3, h4, h5, h6, h7⟩ := a1
  refine ⟨⟨h1, Kt_tr h2 ⟨fun k hk => hi k (by rintro rfl; revert hk; decide) (by rintro rfl; revert hk; decide), fun k hk => by rw [hr]⟩, h3, by rw [hi 69 (by decide) (by decide)]; exact h4, h5, by rw [hi 70 (by decide) (by decide)]; exact h6, by rw [hi 67 (by decide) (by decide)]; exact h7⟩, a2, a3, a4, STW_rule a5 h72 hi hr, fun _ z => Bool.noConfusion z, a7⟩
theorem EXN_w (h : ∀ j, p ≤ j → j < p2 → W2 j = W j) (q : EXN N K nm gd m2 lo n2 ν p p2 sc sc2 X W Rf Zf BC) : EXN N K nm gd m2 lo n2 ν p p2 sc sc2 X W2 Rf Zf BC := fun d m3 cm last a b => by
  have := q d m3 cm last a b
  unfold CPO at this ⊢
  rw [wup_w h]
  exact this
theorem EXN_bc (hb : ∀ m, B2 m ↔ BC m) (q : EXN N K nm gd m2 lo n2 ν p p2 sc sc2 X W Rf Zf BC) : EXN N K nm gd m2 lo n2 ν p p2 sc sc2 X W Rf Zf B2 := fun d m3 cm last a b => pk_mo (q d m3 cm last a b) (fun v r h => CPO_bc (hb m3) h)
theorem EXN_up {n3 l3 : Nat} (h : KPX lo n2 ν m2 m3) (hn : n2 ≤ n3) (hl : l3 ≤ lo) (q : EXN N K nm gd m2 lo n2 ν p p2 sc sc2 X W Rf Zf BC) : EXN N K nm gd m3 l3 n3 ν p p2 sc sc2 X W Rf Zf BC := fun d m4 cm last a b => q d m4 cm last (KPX_tr h a hn hl) b
theorem ERW_w : ∀ {l : List Nat} {p p2 : Nat} {sc sc2 : SCT} {X : Nat} {Rf Zf : Bool} {BC : MS → Prop}, (∀ j, p ≤ j → j < p2 → W2 j = W j) → ERW N K nm gd m2 lo n2 W l p p2 sc sc2 X Rf Zf BC → ERW N K nm gd m2 lo n2 W2 l p p2 sc sc2 X Rf Zf BC
  | [], _, _, _, _, _, _, _, _, _, h => h
  | ν :: l, p, p2, sc, sc2, X, Rf, Zf, BC, hw, ⟨q, q2, sc1, X1, X2, R1, R2, Z1, Z2, B1, B2, h1, g1, ⟨mi, li, ni, h2, h2b⟩, h3, h4, h5, h6, h7⟩ => by
    have := (ERW_len h6).1
    exact ⟨q, q2, sc1, X1, X2, R1, R2, Z1, Z2, B1, B2, h1, g1, ⟨mi, li, ni, EXN_w (fun j a b => hw j (by omega) (by omega)) h2, h2b⟩, h3, h4, h5, ERW_w (fun j a b => hw j (by omega) b) h6, h7⟩
theorem ERW_hd : ∀ {l : List Nat} {p p2 : Nat} {sc sc2 : SCT} {X : Nat} {Rf Zf : Bool} {BC : MS → Prop}, ERW N K nm gd m2 lo n2 W l p p2 sc sc2 X Rf Zf BC → l ≠ [] → l.headD 0 ≤ l.getLastD 0 ∧ 1 ≤ l.headD 0 ∧ l.getLastD 0 ≤ n2
  | [], _, _, _, _, _, _, _, _, _, h => absurd rfl h
  | [ν], _, _, _, _, _, _, _, _, ⟨_, _, _, _, _, _, _, _, _, _, _, _, _, _, h3, _⟩, _ => ⟨Nat.le_refl _, h3.1, h3.2⟩
  | ν :: μ :: l, p, p2, sc, sc2, X, Rf, Zf, BC, ⟨q, q2, sc1, X1, X2, R1, R2, Z1, Z2, B1, B2, h1, g1, ⟨mi, li, ni, h2, hx, a, b, c⟩, h3, h4, h5, h6, h7⟩, _ => by
    obtain ⟨r1, r2, r3⟩ := ERW_hd h6 (fun z => by cases z)
    have r1 : μ ≤ (μ :: l).getLastD 0 := r1
    have c : ni < μ := c (fun z => by cases z)
    refine ⟨?_, h3.1, r3⟩
    show ν ≤ (μ :: l).getLastD 0
    omega
theorem ERW_up {y : Nat} (hn : n2 ≤ n3) (hk : Kcc m2 m3) : ∀ {l : List Nat} {p p2 : Nat} {sc sc2 : SCT} {X : Nat} {Rf Zf : Bool} {BC : MS → Prop}, (∀ j, j ≤ n2 → nod m3 j = nod m2 j ∧ (j ≠ l.getLastD 0 → m3.2.2.1 21 j = m2.2.2.1 21 j)) → m3.2.2.1 21 (l.getLastD 0) = I (y : Nat) → ERW N K nm gd m2 lo n2 W l p p2 sc sc2 X Rf Zf BC → ∀ {q : Nat} {sc3 : SCT} {Y : Nat} {Rg Zg : Bool} {BD : MS → Prop} {l2 : List Nat}, l ≠ [] → (l2.headD 0 = y) → (l2 ≠ [] → n2 < y) → STB BD → ERW N K nm gd m3 lo n3 W l2 p2 q sc2 sc3 Y Rg Zg BD → ERW N K nm gd m3 lo n3 W (l ++ l2) p q sc sc3 (max X Y) (Rf || Rg) (Zf || Zg) (fun m => BC m ∨ BD m)
  | [], _, _, _, _, _, _, _, _, _, _, _, _, _, _, _, _, _, _, h, _, _, _, _ => absurd rfl h
  | [ν], p, p2, sc, sc2, X, Rf, Zf, BC, hs, hy, ⟨q, q2, sc1, X1, X2, R1, R2, Z1, Z2, B1, B2, h1, g1, ⟨mi, li, ni, h2, hx, a, b, c⟩, h3, h4, h5, h6, h7, h8, h9, h10, h11⟩, qq, sc3, Y, Rg, Zg, BD, l2, _, hl2, hy2, hst, hr => by
    obtain ⟨z1, z2, z3, z4, z5, z6⟩ := h6
    subst z1
    subst z2
    subst z3
    subst z4
    subst z5
    obtain ⟨r1, r2, r3⟩ := ERW_len hr
    refine ⟨q, q2, sc2, X1, Y, R1, Rg, Z1, Zg, B1, BD, ⟨h1.1, h1.2.1, r1⟩, g1, ⟨mi, li, ni, h2, ⟨fun j h0 hj => ⟨(hs j (by omega)).1.trans (hx.1 j h0 hj).1, fun z => ((hs j (by omega)).2 z).trans ((hx.1 j h0 hj).2 z)⟩, Kc_tr hx.2 hk⟩, ⟨a.1, by omega⟩, b, fun z => ?_⟩, ⟨h3.1, by omega⟩, ?_, h5, hr, ?_, ?_, ?_, fun m => ?_, hst⟩
    · show ni < l2.headD 0
      rw [hl2]; have := hy2 z; omega
    · show m3.2.2.1 21 ν = I ((l2.headD 0 : Nat) : Int)
      rw [hl2]; exact hy
    · rw [h7]; omega
    · rw [h8, Bool.or_false]
    · rw [h9, Bool.or_false]
    · show (BC m ∨ BD m) ↔ _
      rw [h10]
      constructor
      · rintro ((z | z) | z)
        · exact Or.inl z
        · exact absurd z (z6 m)
        · exact Or.inr z
      · rintro (z | z)
        · exact Or.inl (Or.inl z)
        · exact Or.inr z
  | ν :: μ :: l, p, p2, sc, sc2, X, Rf, Zf, BC, hs, hy, ⟨q, q2, sc1, X1, X2, R1, R2, Z1, Z2, B1, B2, h1, g1, ⟨mi, li, ni, h2, hx, a, b, c⟩, h3, h4, h5, h6, h7, h8, h9, h10, h11⟩, qq, sc3, Y, Rg, Zg, BD, l2, _, hl2, hy2, hst, hr => by
    obtain ⟨r1, r2, r3⟩ := ERW_len hr
    obtain ⟨d1, d2, d3⟩ := ERW_hd h6 (fun z => by cases z)
    have d1 : μ ≤ (μ :: l).getLastD 0 := d1
    have c2 : ni < μ := c (fun z => by cases z)
    have hs : ∀ j, j ≤ n2 → nod m3 j = nod m2 j ∧ (j ≠ (μ :: l).getLastD 0 → m3.2.2.1 21 j = m2.2.2.1 21 j) := hs
    have hy : m3.2.2.1 21 ((μ :: l).getLastD 0) = I (y : Nat) := hy
    have ih := ERW_up hn hk hs hy h6 (fun z => by cases z) hl2 hy2 hst hr
    refine ⟨q, q2, sc1, X1, max X2 Y, R1, R2 || Rg, Z1, Z2 || Zg, B1, (fun m => B2 m ∨ BD m), ⟨h1.1, h1.2.1, by omega⟩, g1, ⟨mi, li, ni, h2, ⟨fun j h0 hj => ⟨(hs j (by omega)).1.trans (hx.1 j h0 hj).1, fun z => ((hs j (by omega)).2 (by omega)).trans ((hx.1 j h0 hj).2 z)⟩, Kc_tr hx.2 hk⟩, ⟨a.1, by omega⟩, b, fun _ => c2⟩, ⟨h3.1, by omega⟩, ?_, h5, ih, ?_, ?_, ?_, fun m => ?_, STB_or h11 hst⟩
    · show m3.2.2.1 21 ν = I (μ : Nat)
      rw [(hs ν h3.2).2 (by omega)]
      exact h4
    · rw [h7]; omega
    · rw [h8, Bool.or_assoc]
    · rw [h9, Bool.or_assoc]
    · show (BC m ∨ BD m) ↔ B1 m ∨ (B2 m ∨ BD m)
      rw [h10, or_assoc]
theorem ERW_1 (h : EXN N K nm gd m2 lo n2 ν q q2 sc sc2 X W Rf Zf BC) (hq : q ≤ q2) (hν : 1 ≤ ν ∧ ν ≤ n2) (hlo : lo < ν) (h21 : m2.2.2.1 21 ν = 0) (ht : tot sc2 ≤ tot sc + (q2 - q)) (hl : sc2.length = sc.length) (hX : X ≤ 1400) : ERW N K nm gd m2 lo n2 W [ν] q q2 sc sc2 X Rf Zf BC := ⟨q, q2, sc2, X, 0, Rf, false, Zf, false, BC, (fun _ => False), ⟨Nat.le_refl _, hq, Nat.le_refl _⟩, fun j a b => absurd b (by omega), ⟨m2, lo, n2, h, ⟨fun _ _ _ => ⟨rfl, fun _ => rfl⟩, Kc_rf⟩, ⟨Nat.le_refl _, Nat.le_refl _⟩, ⟨hlo, hν.2⟩, fun z => absurd rfl z⟩, hν, h21, ⟨ht, hl, hX⟩, ⟨rfl, rfl, rfl, rfl, rfl, fun _ z => z⟩, by omega, (Bool.or_false _).symm, (Bool.or_false _).symm, fun m => (iff_of_eq (or_false _)).symm, fun _ _ _ => Iff.rfl⟩
theorem ERW_snoc (hk : Kcc m2 m3) (hl : l ≠ []) (hs : ∀ j, j ≤ n2 → nod m3 j = nod m2 j ∧ (j ≠ l.getLastD 0 → m3.2.2.1 21 j = m2.2.2.1 21 j)) (hy : m3.2.2.1 21 (l.getLastD 0) = I (μ : Nat)) (h : ERW N K nm gd m2 lo n2 W l p p2 sc sc2 X Rf Zf BC) (hg : ∀ j, p2 ≤ j → j < q → K j ≠ 3) (hq : p2 ≤ q ∧ q ≤ q2) (hp : EXN N K nm gd mi li ni μ q q2 sc2 sc3 Y W Rg Zg B2) (hx : KPX li ni μ mi m3) (hμ : n2 < μ ∧ μ ≤ ni ∧ ni ≤ n3) (hli : lo ≤ li ∧ li < μ) (h21 : m3.2.2.1 21 μ = 0) (ht : tot sc3 ≤ tot sc2 + (q2 - q)) (hln : sc3.length = sc2.length) (hY : Y ≤ 1400) (hst : STB B2) : ERW N K nm gd m3 lo n3 W (l ++ [μ]) p q2 sc sc3 (max X Y) (Rf || Rg) (Zf || Zg) (fun m => BC m ∨ B2 m) := by
  refine ERW_up (y := μ) (by omega) hk hs hy h hl rfl (fun _ => hμ.1) hst ?_
  exact ⟨q, q2, sc3, Y, 0, Rg, false, Zg, false, B2, (fun _ => False), ⟨hq.1, hq.2, Nat.le_refl _⟩, hg, ⟨mi, li, ni, hp, hx, ⟨hli.1, hμ.2.2⟩, ⟨hli.2, hμ.2.1⟩, fun z => absurd rfl z⟩, ⟨by omega, by omega⟩, h21, ⟨ht, hln, hY⟩, ⟨rfl, rfl, rfl, rfl, rfl, fun _ z => z⟩, by omega, (Bool.or_false _).symm, (Bool.or_false _).symm, fun m => (iff_of_eq (or_false _)).symm, fun _ _ _ => Iff.rfl⟩
end
