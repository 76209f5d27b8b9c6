set_option maxRecDepth 100000
def NDS (w v : MS) : Prop := ∀ a : Nat, w.1 32 = I (a : Nat) → a ≤ 100000 → ∃ b : Nat, (v.1 32 = I (b : Nat) ∧ a ≤ b ∧ b ≤ 100000) ∧ NKP a w v ∧ ∀ j, a ≤ j → j < b → v.2.2.1 23 j ≠ 12 ∧ v.2.2.1 23 j ≠ 15
section
variable {α : Type} {R : MS → Int32 ⊕ Nat → MS → Int32 → Prop} {A : Option (MS × α)} {m0 w0 m w v u m2 m3 w2 x' y' z' mF mB wB mp mg : MS} {K nm Nk W W1 W2 WA WB : Nat → Nat} {T p n N q q1 q3 qx X Y X1 X2 XA n0 n1 n2 n3 lo lo2 l1 l2 np ng p0 p2 p4 ν μ π a b L L' k d o oo M D s s2 kd j j2 tok : Nat} {sc sc1 sc2 sc3 sc4 sc5 scB t t2 t3 t4 t5 : SCT} {e e2 e3 e4 e5 : List Nat × List Nat × Nat} {gd Rf Rg Zf Zg R1 Z1 own cs : Bool} {BC : MS → Prop} {v1 v2 v3 v4 v5 v6 v1c r ξ φ ca cb cc x y : Int32} {S : SG_M_behind} {NC : Nat → Prop} {CL CM CL1 : Int32 × Int32 × Int32 → Prop} {l lp lg : List Nat}
theorem NDS_tr (h : NDS w v) (k : NDS v u) : NDS w u := fun a h1 h2 => by
  obtain ⟨b, b1, b2, b3⟩ := h a h1 h2
  obtain ⟨c, c1, c2, c3⟩ := k b b1.1 b1.2.2
  refine ⟨c, ⟨c1.1, by omega, c1.2.2⟩, NKP_tr b2 c2 b1.2.1, fun j j1 j2 => ?_⟩
  by_cases z : j < b
  · rw [(c2 j z).1]; exact b3 j j1 z
  · exact c3 j (by omega) j2
theorem NDS_s (h : SMS w v) : NDS w v := h.2.2
theorem NDS_e (h : v.1 32 = w.1 32) (hr : ∀ k, k = 23 ∨ k = 25 ∨ k = 26 ∨ k = 27 → v.2.2.1 k = w.2.2.1 k) : NDS w v := fun a h1 h2 => ⟨a, ⟨h.trans h1, Nat.le_refl _, h2⟩, fun j _ => by rw [hr 23 (by omega), hr 25 (by omega), hr 26 (by omega), hr 27 (by omega)]; exact ⟨rfl, fun _ => ⟨rfl, rfl, rfl⟩⟩, fun j j1 j2 => absurd j2 (by omega)⟩
theorem RNs_psh (h : RNs w sc) (hl : sc.length ≤ 26) (h65 : v.1 65 = I (sc.length : Nat)) (h60 : v.2.2.1 60 = upd (w.2.2.1 60) sc.length 0) (h63 : v.2.2.1 63 = upd (w.2.2.1 63) sc.length 0) (h64 : v.2.2.1 64 = upd (w.2.2.1 64) sc.length 0) (h59 : v.2.2.1 59 = w.2.2.1 59) (h61 : v.2.2.1 61 = w.2.2.1 61) : RNs v (([], [], 0) :: sc) := by
  refine ⟨h65, ⟨by show 1 ≤ sc.length + 1; omega, by show sc.length + 1 ≤ 27; omega⟩, ⟨⟨by rw [h60, upd_at]; rfl, (fun k x hx => by cases hx), by rw [h63, upd_at]; rfl, (fun k x hx => by cases hx), by rw [h64, upd_at]; rfl⟩, RNl_fr h.2.2.2 h.2.2.1 (fun j hj => ?_) (fun j hj => ?_)⟩, ⟨⟨List.nodup_nil, (fun x hx => by cases hx), Nat.zero_le _, Nat.le_refl _, by decide, (fun x hx => by cases hx), List.nodup_nil⟩, h.2.2.2⟩⟩
  · rw [h60, h63, h64, upd_no (by omega), upd_no (by omega), upd_no (by omega)]
    exact ⟨rfl, rfl, rfl⟩
  · rw [h59, h61]
    exact ⟨rfl, rfl⟩
theorem RNs_pop (h : RNs w (e :: t)) (ht : 1 ≤ t.length) (h65 : v.1 65 = w.1 65 - 1) (hr : ∀ k, 59 ≤ k → k ≤ 64 → v.2.2.1 k = w.2.2.1 k) : RNs v t := by
  have hl : t.length + 1 ≤ 27 := h.2.1.2
  refine ⟨?_, ⟨ht, by omega⟩, RNl_e h.2.2.1.2 (hr _ (by decide) (by decide)) (hr _ (by decide) (by decide)) (hr _ (by decide) (by decide)) (hr _ (by decide) (by decide)) (hr _ (by decide) (by decide)), h.2.2.2.2⟩
  rw [h65, h.1]
  show I (t.length : Nat) - 1 = _
  exact I_mn (a := t.length) (c := 1) (by omega) rfl
theorem HDs_b : ∀ {a b : SCT}, HDs Nk K W p p2 a b → ∀ j, p ≤ j → j < p2 → K j = 3 → W j ≤ 32
  | [], [], h => h
  | _ :: _, _ :: _, h => HDs_b h.2
  | [], _ :: _, h => h.elim
  | _ :: _, [], h => h.elim
theorem f257 {vv : Int32} : ∀ (M : Nat) (u : MS) (v5 : Int32), KDN u j → PK (fun v (_ : Int32) => ∃ u', SMS u u' ∧ u'.1 69 = u.1 69 ∧ SMS (upI u' 65 (u'.1 65 - 1)) v ∧ v.1 69 = u.1 69) (gg_M_fun N S M u v1 vv (I (j : Nat)) v5)
  | 0, _, _, _ => pk_none
  | M + 1, u, v5, hk => by
    show PK _ (fb_M_fun_257 N S (gg_M_fun N S M) u v1 vv (I (j : Nat)) v5)
    unfold fb_M_fun_257
    refine pk_ck (fun _ => pk_br (fun _ => pk_lt ?_) (fun _ => pk_ck (fun _ => pk_ck (fun _ => pk_lt (pk_lt ?_)))))
    · have hk1 : KDN (upI u 65 (u.1 65 - 1)) j := by
        obtain ⟨c, h1, h2, h3, h4⟩ := hk
        exact ⟨c, by rw [upI_ne (by decide)]; exact h1, h2, h3, h4⟩
      have x69 : (upI u 65 (u.1 65 - 1)).1 69 = u.1 69 := upI_ne (by decide)
      obtain ⟨c, h1, h2, h3, h4⟩ := id hk
      rw [tnI (n := j) rfl (by omega)]
      obtain ⟨sb, kb⟩ := KDN_b (k' := 25) (ξ := (upI u 65 (u.1 65 - 1)).1 32) hk1 hk1 (Or.inl rfl)
      refine pk_ck (fun _ => pk_lt (pk_bnd (pk_mo (KDN_nd (v1 := 14) (by decide)) (fun u3 r3 h3' => pk_ck (fun _ => pk_lt (pk_some ?_))))))
      obtain ⟨n3, h69, a3, e3, e3', k3⟩ := h3'
      rw [e3']
      obtain ⟨sb2, kb2⟩ := KDN_b (k' := 25) (ξ := vv) k3 k3 (Or.inl rfl)
      refine ⟨u, SMS_rf, rfl, SMS_tr (SMS_tr sb n3) sb2, ?_⟩
      show u3.1 69 = _
      rw [h69]
      exact x69
    · generalize hx : upI (upA u 57 (upd (u.2.2.1 57) (u.1 58).toNatClampNeg (u.2.2.1 62 (1400 * u.1 65 + v5).toNatClampNeg))) 58 ((upA u 57 (upd (u.2.2.1 57) (u.1 58).toNatClampNeg (u.2.2.1 62 (1400 * u.1 65 + v5).toNatClampNeg))).1 58 + 1) = x
      have sx : SMS u x := by rw [← hx]; exact SMS_I (SMS_A SMS_rf (by unfold SMX; omega) (by omega)) (by decide) (by decide)
      have x69 : x.1 69 = u.1 69 := by
        rw [← hx, upI_ne (by decide)]
        rfl
      clear hx
      refine pk_mo (f257 M x (v5 + 1) (KDN_s sx hk)) (fun v r h => ?_)
      obtain ⟨u', y1, y2, y3, y4⟩ := h
      exact ⟨u', SMS_tr sx y1, y2.trans x69, y3, y4.trans x69⟩
theorem f221 {vv : Int32} {G : Nat} (hk : KDN u j) : PK (fun v (_ : Int32) => ∃ u', SMS u u' ∧ u'.1 69 = u.1 69 ∧ SMS (upI u' 65 (u'.1 65 - 1)) v ∧ v.1 69 = u.1 69) (fb_M_fun_221 N S (gg_M_fun N S G) u v1 vv (I (j : Nat)) v4) := by
  unfold fb_M_fun_221
  refine pk_ck (fun _ => pk_lt (pk_ck (fun _ => pk_ck (fun _ => pk_lt (pk_ck (fun _ => pk_lt ?_))))))
  generalize hx1 : upA u 53 (upd (u.2.2.1 53) vv.toNatClampNeg v4) = x1
  have s1 : SMS u x1 := by rw [← hx1]; exact SMS_A SMS_rf (by unfold SMX; omega) (by omega)
  have n1 : x1.1 69 = u.1 69 := by rw [← hx1]; rfl
  clear hx1
  generalize hx2 : upA x1 54 (upd (x1.2.2.1 54) vv.toNatClampNeg (x1.2.2.1 63 (x1.1 65).toNatClampNeg)) = x2
  have s2 : SMS u x2 := by rw [← hx2]; exact SMS_A s1 (by unfold SMX; omega) (by omega)
  have n2 : x2.1 69 = u.1 69 := by rw [← hx2]; exact n1
  clear hx2
  generalize hx3 : upA x2 55 (upd (x2.2.2.1 55) vv.toNatClampNeg (x2.1 58)) = x3
  have s3 : SMS u x3 := by rw [← hx3]; exact SMS_A s2 (by unfold SMX; omega) (by omega)
  have n3 : x3.1 69 = u.1 69 := by rw [← hx3]; exact n2
  clear hx3
  refine pk_mo (f257 G x3 0 (KDN_s s3 hk)) (fun v r h => ?_)
  obtain ⟨u', y1, y2, y3, y4⟩ := h
  exact ⟨u', SMS_tr s3 y1, y2.trans n3, y3, y4.trans n3⟩
theorem STW_fun {u16 w20 u21 u23 u' vF : MS} (nd : ND w) (hR : RNs w sc) (s16 : SMS w u16) (i20 : ∀ k, k ≠ 65 → w20.1 k = u16.1 k) (h65 : w20.1 65 = u16.1 65 + 1) (r20 : ∀ k, k ≠ 60 → k ≠ 63 → k ≠ 64 → w20.2.2.1 k = u16.2.2.1 k)
    (st : STW Nk K q p2 (([], [], 0) :: sc) (e5 :: t5) X W Rf Zf CL w20 u21) (hq : p ≤ q ∧ p2 ≤ p4) (g1 : ∀ j, p ≤ j → j < q → K j ≠ 3) (g2 : ∀ j, p2 ≤ j → j < p4 → K j ≠ 3)
    (i23 : ∀ k, k ≠ 66 → k ≠ 69 → u23.1 k = u21.1 k) (r23 : u23.2.2.1 = u21.2.2.1) (h66 : u23.1 66 = 0 ↔ u21.1 66 = 0 ∧ ¬ (40 < X + e5.2.1.length)) (s' : SMS u23 u') (sF : SMS (upI u' 65 (u'.1 65 - 1)) vF) :
    STW Nk K p p4 sc t5 0 W Rf (Zf || decide (40 < X + e5.2.1.length)) CL w vF := by
  obtain ⟨f1, f2, f3, f4, f5, f6, f7, A0, B0, f8, f9, f10⟩ := st
  have hl : 1 ≤ sc.length := hR.2.1.1
  have bd := f2.2.2
  have bl := BDs_len bd
  have xI : ∀ k, k ≠ 65 → (upI u' 65 (u'.1 65 - 1)).1 k = u'.1 k := fun k hk => upI_ne hk
  have rn' : RNs u' (e5 :: t5) := RNs_e (RNs_e f1 (i23 65 (by decide) (by decide)) (fun k _ _ => by rw [r23])) (s'.1 65 (by decide)) (fun k h1 h2 => s'.2.1 k (by unfold SMX; omega))
  have rnF : RNs vF t5 := by
    have := RNs_pop (v := upI u' 65 (u'.1 65 - 1)) rn' (by omega) upI_at (fun _ _ _ => rfl)
    exact RNs_e this (sF.1 65 (by decide)) (fun k h1 h2 => sF.2.1 k (by unfold SMX; omega))
  have scx : SCX sc t5 0 := by
    cases sc with
    | nil => exact absurd hl (by decide)
    | cons f g =>
      cases t5 with
      | nil => exact bd.elim
      | cons f5 g5 => exact ⟨by rw [bd.1.1]; exact List.prefix_refl _, by rw [bd.1.2, Nat.max_zero], bd.2⟩
  have hi : ∀ k, k ∈ SMI → k ≠ 65 → k ≠ 66 → vF.1 k = u21.1 k := fun k hk h1 h2 => by
    rw [sF.1 k hk, xI k h1, s'.1 k hk, i23 k h2 (by rintro rfl; revert hk; decide)]
  have hr : ∀ k, SMX k → vF.2.2.1 k = u21.2.2.1 k := fun k hk => by
    rw [sF.2.1 k hk]
    show u'.2.2.1 k = _
    rw [s'.2.1 k hk, r23]
  have h0 : ∀ k, k ∈ SMI → k ≠ 65 → w20.1 k = w.1 k := fun k hk h1 => by rw [i20 k h1, s16.1 k hk]
  have r0 : ∀ k, SMX k → ¬ (59 ≤ k ∧ k ≤ 64) → w20.2.2.1 k = w.2.2.1 k := fun k hk h1 => by rw [r20 k (by omega) (by omega) (by omega), s16.2.1 k hk]
  obtain ⟨a0, n1, n2⟩ := nd
  obtain ⟨b0, c1, c2, c3⟩ := s16.2.2 a0 n1 n2
  have e0 : A0 = b0 := by
    have := f8.1.symm.trans ((i20 32 (by decide)).trans c1.1)
    have := (I_eq (x := (A0 : Nat)) (y := (b0 : Nat)) (by omega) (by omega) (by omega) (by omega)).mp this
    omega
  subst e0
  have nF : NDS u21 vF := NDS_tr (NDS_e (v := u23) (i23 32 (by decide) (by decide)) (fun k _ => by rw [r23])) (NDS_tr (NDS_s s') (NDS_tr (NDS_e (v := upI u' 65 (u'.1 65 - 1)) (xI 32 (by decide)) (fun _ _ => rfl)) (NDS_s sF)))
  obtain ⟨d0, d1, d2, d3⟩ := nF B0 f8.2.1 (by omega)
  have nk20 : NKP A0 w20 vF := NKP_tr f10 d2 f8.2.2.1
  refine ⟨rnF, scx, HDs_ext hq.1 hq.2 g1 g2 f3.2, ⟨by rw [bl.2]; omega, by decide⟩, ?_, ?_, ⟨fun k hk => ?_, fun k hk => ?_, fun j hj => ?_, fun j hj => ?_, fun i i1 i2 j hj => ?_⟩, a0, d0, ⟨n1, d1.1, by omega, d1.2.2⟩, fun x => ?_, NKP_tr c2 (fun j hj => ?_) (Nat.le_refl _)⟩
  · rw [sF.1 66 (by decide), xI 66 (by decide), s'.1 66 (by decide), h66, f5, h0 66 (by decide) (by decide), lgZ_iff]
    cases sc with
    | nil => exact absurd hl (by decide)
    | cons f g =>
      rw [lgZ_iff]
      show ((Zf = false ∧ ¬ (0 < X ∧ 40 < max 0 X) ∧ w.1 66 = 0) ∧ _) ↔ _
      constructor
      · rintro ⟨⟨y1, y2, y3⟩, y4⟩
        exact ⟨by rw [y1, decide_eq_false y4]; rfl, by omega, y3⟩
      · rintro ⟨y1, y2, y3⟩
        have z1 : Zf = false := by cases Zf <;> simp_all
        have z2 : ¬ (40 < X + e5.2.1.length) := by
          rw [z1, Bool.false_or] at y1
          exact of_decide_eq_false y1
        exact ⟨⟨z1, by omega, y3⟩, z2⟩
  · rw [hi 72 (by decide) (by decide) (by decide), f6, h0 72 (by decide) (by decide)]
  · by_cases z : k = 65
    · subst z
      rw [sF.1 65 (by decide), upI_at, s'.1 65 (by decide), i23 65 (by decide) (by decide), f7.1 65 (by decide), h65, s16.1 65 (by decide), i_back]
    · rw [hi k (by unfold SMI; simp only [List.mem_cons, List.not_mem_nil, or_false] at hk ⊢; omega) z (by rintro rfl; revert hk; decide), f7.1 k hk, h0 k (by unfold SMI; simp only [List.mem_cons, List.not_mem_nil, or_false] at hk ⊢; omega) z]
  · rw [hr k (Or.inl hk), f7.2.1 k hk, r0 k (Or.inl hk) (by omega)]
  · rw [hr 74 (by unfold SMX; omega), f7.2.2.1 j (by rw [h0 75 (by decide) (by decide)]; exact hj), r0 74 (by unfold SMX; omega) (by omega)]
  · rw [hr 76 (by unfold SMX; omega), f7.2.2.2.1 j (by rw [h0 77 (by decide) (by decide)]; exact hj), r0 76 (by unfold SMX; omega) (by omega)]
  · rw [hr i (by unfold SMX; omega), f7.2.2.2.2 i i1 i2 j (by rw [h0 83 (by decide) (by decide)]; exact hj), r0 i (by unfold SMX; omega) (by omega)]
  · have mono : A0 ≤ B0 := f8.2.2.1
    rw [CSY_split (b := A0) (by omega) (by omega), CSY_split (a := A0) (b := B0) (by omega) d1.2.1, CSY_k d2, f9]
    constructor
    · rintro (⟨j, j1, j2, -⟩ | z | ⟨j, j1, j2, -⟩)
      · exfalso
        have k1 : vF.2.2.1 23 j = u16.2.2.1 23 j := by rw [(nk20 j (by omega)).1, r20 23 (by decide) (by decide) (by decide)]
        have k2 := c3 j j1.1 j1.2
        rw [k1] at j2
        rcases j2 with z | z
        · exact k2.1 z.1
        · exact k2.2 z.1
      · exact z
      · exfalso
        have k2 := d3 j j1.1 j1.2
        rcases j2 with z | z
        · exact k2.1 z.1
        · exact k2.2 z.1
    · exact fun z => Or.inr (Or.inl z)
  · have := nk20 j (by omega)
    rw [r20 23 (by decide) (by decide) (by decide), r20 25 (by decide) (by decide) (by decide), r20 26 (by decide) (by decide) (by decide), r20 27 (by decide) (by decide) (by decide)] at this
    exact this
end
