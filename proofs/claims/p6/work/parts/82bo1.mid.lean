set_option maxRecDepth 100000
def MID (w x : MS) (a b L : Nat) : Prop := ((w.1 75 = I (a : Nat) ∧ w.1 77 = I (b : Nat) ∧ a + 8 ≤ 400 ∧ b + 54 ≤ 3300) ∧ x.1 75 = I ((a + 8 : Nat) : Int) ∧ x.1 77 = I ((b + 54 : Nat) : Int)) ∧ (∀ k, k ∈ [5, 9, 10, 11, 14, 17, 20, 65, 73, 83] → x.1 k = w.1 k) ∧ (∀ k, k < 23 → x.2.2.1 k = w.2.2.1 k) ∧ (∀ j, j < a → x.2.2.1 74 j = w.2.2.1 74 j) ∧ (∀ j, j < b → x.2.2.1 76 j = w.2.2.1 76 j) ∧ (∀ k, 79 ≤ k → k ≤ 82 → ∀ j, j < (w.1 83).toNatClampNeg → x.2.2.1 k j = w.2.2.1 k j) ∧ SVC w x a b L
def rsB : SCT → SCT → SCT
  | e :: _, e2 :: t2 => (e.1, e2.2.1, e2.2.2) :: t2
  | _, _ => []
section
variable {m0 w0 m w v u m2 m3 w2 x y : MS} {K nm Nk W W2 WA WB : Nat → Nat} {T p n N q X Y X1 X2 XA n2 lo p2 p4 ν a b L k d o : Nat} {sc sc1 sc2 sc3 sc4 sc5 t t2 t3 t4 t5 : SCT} {e e2 e3 e4 e5 : List Nat × List Nat × Nat} {gd Rf Zf : Bool} {BC : MS → Prop} {g : Nat → Int32} {i : Int32}
theorem SVC_k (h : SVC w x a b L) (hL : L ≤ 27) (h1 : ∀ j, j < a + 8 → y.2.2.1 74 j = x.2.2.1 74 j) (h2 : ∀ j, j < b + 54 → y.2.2.1 76 j = x.2.2.1 76 j) : SVC w y a b L := by
  obtain ⟨a1, a2, a3, a4⟩ := h
  refine ⟨by rw [h1 a (by omega)]; exact a1, by rw [h1 (a + 6) (by omega)]; exact a2, by rw [h1 (a + 7) (by omega)]; exact a3, fun i hi => ?_⟩
  rw [h2 (b + 2 * i) (by omega), h2 (b + 2 * i + 1) (by omega)]
  exact a4 i hi
theorem MID_sv (h : SVG w v L) : ∃ a b, MID w v a b L := by
  obtain ⟨a, b, h1, h2, h3, h4, h5, h6, h7⟩ := h
  refine ⟨a, b, ⟨h1, h2⟩, fun k hk => h3 k (by rintro rfl; revert hk; decide) (by rintro rfl; revert hk; decide), fun k hk => h4 k (by omega) (by omega), h5, h6, fun k k1 k2 j hj => by rw [h4 k (by omega) (by omega)], h7⟩
theorem MID_e (h : MID w x a b L) (hL : L ≤ 27) (k : WFE x y) : MID w y a b L := by
  obtain ⟨⟨h1, h2, h3⟩, h4, h5, h6, h7, h8, h9⟩ := h
  obtain ⟨k1, k2, k3, k4, k5⟩ := k
  have n75 : (x.1 75).toNatClampNeg = a + 8 := by rw [h2]; exact tnI (n := a + 8) rfl (by omega)
  have n77 : (x.1 77).toNatClampNeg = b + 54 := by rw [h3]; exact tnI (n := b + 54) rfl (by omega)
  rw [n75] at k3
  rw [n77] at k4
  refine ⟨⟨h1, by rw [k1 75 (by decide)]; exact h2, by rw [k1 77 (by decide)]; exact h3⟩, fun k hk => ?_, fun k hk => by rw [k2 k hk]; exact h5 k hk, fun j hj => by rw [k3 j (by omega)]; exact h6 j hj, fun j hj => by rw [k4 j (by omega)]; exact h7 j hj, fun k i1 i2 j hj => ?_, SVC_k h9 hL k3 k4⟩
  · rw [k1 k (by simp only [List.mem_cons, List.not_mem_nil, or_false] at hk ⊢; omega)]; exact h4 k hk
  · rw [k5 k i1 i2 j (by rw [h4 83 (by decide)]; exact hj)]; exact h8 k i1 i2 j hj
theorem MID_g (h : MID w x a b L) (hi : ∀ k, k ∈ [5, 9, 10, 11, 14, 17, 20, 65, 73, 75, 77, 83] → y.1 k = x.1 k) (hr : ∀ k, k < 23 ∨ k = 74 ∨ k = 76 ∨ (79 ≤ k ∧ k ≤ 82) → y.2.2.1 k = x.2.2.1 k) (hL : L ≤ 27) : MID w y a b L := by
  obtain ⟨⟨h1, h2, h3⟩, h4, h5, h6, h7, h8, h9⟩ := h
  refine ⟨⟨h1, by rw [hi 75 (by decide)]; exact h2, by rw [hi 77 (by decide)]; exact h3⟩, fun k hk => ?_, fun k hk => by rw [hr k (by omega)]; exact h5 k hk, fun j hj => by rw [hr 74 (by omega)]; exact h6 j hj, fun j hj => by rw [hr 76 (by omega)]; exact h7 j hj, fun k i1 i2 j hj => by rw [hr k (by omega)]; exact h8 k i1 i2 j hj, SVC_k h9 hL (fun j _ => by rw [hr 74 (by omega)]) (fun j _ => by rw [hr 76 (by omega)])⟩
  rw [hi k (by simp only [List.mem_cons, List.not_mem_nil, or_false] at hk ⊢; omega)]; exact h4 k hk
theorem MID_tb (h : MID w x a b L) (hL : L ≤ 27) (k : TBK w x y n) : MID w y a b L := MID_g h (fun j hj => k.2.1 j (by simp only [List.mem_cons, List.not_mem_nil, or_false] at hj ⊢; omega)) (fun j hj => k.2.2.1 j (by omega) (by omega)) hL
theorem MID_j (h : MID w x a b L) (hL : L ≤ 27) (k : Kjc x y) : MID w y a b L := MID_g h (fun j hj => k.1 j (by simp only [List.mem_cons, List.not_mem_nil, or_false] at hj ⊢; omega)) (fun j hj => k.2 j (by omega)) hL
theorem MID_I (h : MID w x a b L) (hL : L ≤ 27) (hk : k ∉ [5, 9, 10, 11, 14, 17, 20, 65, 73, 75, 77, 83]) : MID w (upI x k i) a b L := MID_g h (fun j hj => upI_ne (by rintro rfl; exact hk hj)) (fun _ _ => rfl) hL
theorem MID_A (h : MID w x a b L) (hL : L ≤ 27) (hk : ¬ (k < 23 ∨ k = 74 ∨ k = 76 ∨ (79 ≤ k ∧ k ≤ 82))) : MID w (upA x k g) a b L := MID_g h (fun _ _ => rfl) (fun j hj => upA_no (by rintro rfl; exact hk hj)) hL
theorem MID_s (h : MID w x a b L) (hL : L ≤ 27) (k : SMS x y) : MID w y a b L := MID_g h (fun j hj => k.1 j (by unfold SMI; simp only [List.mem_cons, List.not_mem_nil, or_false] at hj ⊢; omega)) (fun j hj => k.2.1 j (by unfold SMX; omega)) hL
theorem MID_kt (h : MID w x a b L) (k : Ktc w0 w) : Ktc w0 x := Kt_tr k ⟨fun j hj => h.2.1 j (by unfold TIN at hj; simp only [List.mem_cons, List.not_mem_nil, or_false] at hj ⊢; omega), fun j hj => h.2.2.1 j (by unfold TRW at hj; simp only [List.mem_cons, List.not_mem_nil, or_false] at hj; omega)⟩
def fgt (x : MS) : MS := upI (upI x 75 (x.1 75 - 8)) 77 (x.1 77 - 54)
theorem fg_e : fm_M_forgetSaved N x = some (fgt x, ()) := rfl
theorem fgt_i (h1 : k ≠ 75) (h2 : k ≠ 77) : (fgt x).1 k = x.1 k := by
  unfold fgt
  rw [upI_ne h2, upI_ne h1]
theorem MID_fg (h : MID w x a b L) (h67 : x.1 67 = w.1 67) (h70 : x.1 70 = w.1 70) : WFE w (fgt x) := by
  obtain ⟨⟨h1, h2, h3⟩, h4, h5, h6, h7, h8, h9⟩ := h
  have n75 : (w.1 75).toNatClampNeg = a := by rw [h1.1]; exact tnI (n := a) rfl (by omega)
  have n77 : (w.1 77).toNatClampNeg = b := by rw [h1.2.1]; exact tnI (n := b) rfl (by omega)
  refine ⟨fun k hk => ?_, h5, fun j hj => h6 j (by omega), fun j hj => h7 j (by omega), h8⟩
  by_cases z : k = 75
  · subst z
    unfold fgt
    rw [upI_ne (by decide), upI_at, h2, h1.1]
    exact (I_mn (a := a + 8) (c := 8) (by omega) rfl).trans (by congr 2)
  by_cases z2 : k = 77
  · subst z2
    unfold fgt
    rw [upI_at, h3, h1.2.1]
    exact (I_mn (a := b + 54) (c := 54) (by omega) rfl).trans (by congr 2)
  rw [fgt_i z z2]
  by_cases z3 : k = 67
  · subst z3; exact h67
  by_cases z4 : k = 70
  · subst z4; exact h70
  exact h4 k (by simp only [List.mem_cons, List.not_mem_nil, or_false] at hk ⊢; omega)
theorem fgt_fl (h : FLW x) : FLW (fgt x) := by
  show (fgt x).1 67 ≠ 0
  rw [fgt_i (by decide) (by decide)]
  exact h
theorem RNs_fg (h : RNs x sc) : RNs (fgt x) sc := RNs_e h (fgt_i (by decide) (by decide)) (fun _ _ _ => rfl)
theorem HLx_B : ∀ {t t3 : SCT} {x : Nat}, HLx x t3 → t = t3 → HLx x t := fun h e => e ▸ h
theorem RNs_B (ha : RNs w (e :: t)) (hb : RNs y (e3 :: t3)) (hx : SCX (e :: t) (e3 :: t3) X) (h60 : ∀ i, i < t.length + 1 → x.2.2.1 60 i = w.2.2.1 60 i) (h63 : ∀ i, i < t.length + 1 → x.2.2.1 63 i = y.2.2.1 63 i) (h59 : x.2.2.1 59 = y.2.2.1 59) (h61 : x.2.2.1 61 = y.2.2.1 61) (h64 : x.2.2.1 64 = y.2.2.1 64) (h65 : x.1 65 = w.1 65) : RNs x ((e.1, e3.2.1, e3.2.2) :: t3) := by
  obtain ⟨a1, a2, a3, a4⟩ := ha
  obtain ⟨b1, b2, b3, b4⟩ := hb
  have ln : t3.length = t.length := (BDs_len hx.2.2).1
  refine ⟨by rw [h65, a1]; show I (((t.length + 1 - 1 : Nat)) : Int) = I ((t3.length + 1 - 1 : Nat) : Int); rw [ln], by show 1 ≤ t3.length + 1 ∧ t3.length + 1 ≤ 27; exact b2, ⟨?_, ?_⟩, ?_⟩
  · obtain ⟨c1, c2, c3, c4, c5⟩ := b3.1
    rw [ln] at c2 c3 c4 c5 ⊢
    refine ⟨by rw [h60 _ (by omega)]; exact a3.1.1, fun k z hz => ?_, by rw [h63 _ (by omega)]; exact c3, by rw [h61]; exact c4, by rw [h64]; exact c5⟩
    rw [h59]; exact c2 k z (pre_get hx.1 hz)
  · have : ∀ {s s3 : SCT}, RNl w s → RNl y s3 → BDs s s3 → s.length ≤ t.length → RNl x s3 := by
      intro s
      induction s with
      | nil =>
        intro s3 _ _ hbd _
        cases s3 with
        | nil => trivial
        | cons _ _ => exact hbd.elim
      | cons f s ih =>
        intro s3 r1 r2 hbd hl
        cases s3 with
        | nil => exact hbd.elim
        | cons f3 s3 =>
          have hl : s.length + 1 ≤ t.length := hl
          have l3 := (BDs_len hbd.2).1
          refine ⟨?_, ih r1.2 r2.2 hbd.2 (by omega)⟩
          obtain ⟨c1, c2, c3, c4, c5⟩ := r2.1
          rw [l3] at c2 c3 c4 c5 ⊢
          refine ⟨by rw [h60 _ (by omega), hbd.1.1]; exact r1.1.1, by rw [h59]; exact c2, by rw [h63 _ (by omega)]; exact c3, by rw [h61]; exact c4, by rw [h64]; exact c5⟩
    exact this a3.2 b3.2 hx.2.2 (Nat.le_refl _)
  · obtain ⟨⟨c1, c2, c3, c4, c5, c6, c7⟩, c8⟩ := b4
    obtain ⟨⟨d1, d2, d3, d4, d5, d6, d7⟩, d8⟩ := a4
    refine ⟨⟨d1, d2, c3, ?_, c5, c6, c7⟩, c8⟩
    show e.1.length ≤ e3.2.2
    rw [hx.2.1]; omega
theorem HDs_mat (hq : p ≤ q ∧ q < p4) (k3 : K q ≠ 3) : ∀ {s s3 s4 s5 : SCT}, HDs Nk K WA p q s s3 → HDs Nk K WB (q + 1) p4 s3 s4 → HDs Nk K W2 p q s4 s5 → (∀ j, p ≤ j → j < q → K j = 3 → WA j + 1 < s.length → W2 j ≤ WA j) → HDs Nk K (mrg q W2 WB) p p4 s s5
  | [], [], [], [], h, k, l, _ => fun j h1 h2 h3 => by
    by_cases z : j < q
    · rw [mrg_l z]; exact l j h1 z h3
    · rw [mrg_r (by omega)]
      by_cases z2 : j = q
      · subst z2; exact absurd h3 k3
      · exact k j (by omega) h2 h3
  | e :: t, e3 :: t3, e4 :: t4, e5 :: t5, h, k, l, hw => by
    have l1 := HDs_len h.2
    have l2 := HDs_len k.2
    refine ⟨⟨fun x hx => ?_, fun h60 j h1 h2 h3 h4 => ?_, (h.1.2.2.trans k.1.2.2).trans l.1.2.2⟩, HDs_mat hq k3 h.2 k.2 l.2 (fun j a b c d => hw j a b c (by show _ < t.length + 1; omega))⟩
    · rcases l.1.1 x hx with a | ⟨j, a1, a2, a3, a4⟩
      · rcases k.1.1 x a with b | ⟨j, a1, a2, a3, a4⟩
        · rcases h.1.1 x b with c | ⟨j, a1, a2, a3, a4⟩
          · exact Or.inl c
          · refine Or.inr ⟨j, ⟨a1.1, by omega⟩, a2, a3, ?_⟩
            rw [mrg_l a1.2]
            have := hw j a1.1 a1.2 a2 (by show _ < t.length + 1; omega)
            omega
        · refine Or.inr ⟨j, ⟨by omega, a1.2⟩, a2, a3, ?_⟩
          rw [mrg_r (by omega)]; omega
      · refine Or.inr ⟨j, ⟨a1.1, by omega⟩, a2, a3, ?_⟩
        rw [mrg_l a1.2]; omega
    · by_cases z : j < q
      · rw [mrg_l z] at h4
        exact l.1.2.1 h60 j h1 z h3 (by omega)
      · rw [mrg_r (by omega)] at h4
        by_cases z2 : j = q
        · subst z2; exact absurd h3 k3
        · have pl := l.1.2.2.length_le
          exact l.1.2.2.subset (k.1.2.1 (by omega) j (by omega) h2 h3 (by omega))
  | [], [], [], _ :: _, _, _, h, _ => h.elim
  | [], [], _ :: _, _, _, h, _, _ => h.elim
  | [], _ :: _, _, _, h, _, _, _ => h.elim
  | _ :: _, [], _, _, h, _, _, _ => h.elim
  | _ :: _, _ :: _, [], _, _, h, _, _ => h.elim
  | _ :: _, _ :: _, _ :: _, [], _, _, h, _ => h.elim
theorem HDs_B (h : HDs Nk K W p p2 (e :: t) sc2) (he : e2.2.1 = e.2.1) : HDs Nk K W p p2 (e2 :: t) sc2 := by
  cases sc2 with
  | nil => exact h.elim
  | cons e3 t3 => exact ⟨⟨by rw [he]; exact h.1.1, h.1.2.1, by rw [he]; exact h.1.2.2⟩, h.2⟩
theorem HDs_B2 (h : HDs Nk K W p p2 sc (e :: t)) (he : e2.2.1 = e.2.1) : HDs Nk K W p p2 sc (e2 :: t) := by
  cases sc with
  | nil => exact h.elim
  | cons e3 t3 => exact ⟨⟨by rw [he]; exact h.1.1, by rw [he]; exact h.1.2.1, by rw [he]; exact h.1.2.2⟩, h.2⟩
theorem nd_le2 : ∀ {a b : List Nat}, a.Nodup → (∀ x, x ∈ a → x ∈ b) → a.length ≤ b.length
  | [], _, _, _ => Nat.zero_le _
  | x :: a, b, h, hs => by
    have h2 := List.nodup_cons.mp h
    have hx := hs x List.mem_cons_self
    have := nd_le2 (a := a) (b := b.erase x) h2.2 (fun y hy => by
      have ne : y ≠ x := by rintro rfl; exact h2.1 hy
      exact (List.mem_erase_of_ne ne).mpr (hs y (List.mem_cons_of_mem _ hy)))
    have le := List.length_erase_of_mem hx
    have pos := List.length_pos_of_mem hx
    show a.length + 1 ≤ _
    omega
theorem mat_X (ok3 : e3.1.Nodup) (okl : e.1.length ≤ e.2.2) (hA : SCX (e :: t) (e3 :: t3) XA) (pA : PNM Nk K nm p q (e :: t) (e3 :: t3) XA) (hB : SCX ((e.1, e3.2.1, e3.2.2) :: t3) (e4 :: t4) X1) (sB : SNW X1 ((e.1, e3.2.1, e3.2.2) :: t3) (e4 :: t4)) (h2 : SCX (e4 :: t4) (e5 :: t5) X2) (p2' : PNM Nk K nm p q (e4 :: t4) (e5 :: t5) X2) : XA ≤ max e.2.2 (max X1 X2) := by
  have sub : ∀ x, x ∈ e3.1 → x ∈ e5.1 := fun x hx => by
    rcases pA.2.1 x hx with z | ⟨z, j, j1, j2, j3, j4⟩
    · exact h2.1.subset (hB.1.subset z)
    · have := p2'.2.2 j j1.1 j1.2 j2 (by rw [j3]; exact j4)
      rw [j3, fnb_cons, BDs_fnb h2.2.2, BDs_fnb hB.2.2, BDs_fnb hA.2.2] at this
      rw [fnb_cons] at z
      have z2 : fnb x t = false := by
        cases y : fnb x t with
        | false => rfl
        | true => rw [y, Bool.or_true] at z; cases z
      rw [z2, Bool.or_false, List.contains_iff_mem] at this
      exact this
  have le := nd_le2 ok3 sub
  have s2 := sB.2
  have s2 : e4.1.length ≤ max e.1.length X1 := s2
  rcases pA.1 with z | z
  · have z := z.1
    omega
  · rcases p2'.1 with y | y
    · rw [y.2] at le
      omega
    · omega
theorem mat_SCX (hA : SCX (e :: t) (e3 :: t3) XA) (hB : SCX ((e.1, e3.2.1, e3.2.2) :: t3) (e4 :: t4) X1) (h2 : SCX (e4 :: t4) (e5 :: t5) X2) (hX : XA ≤ max e.2.2 (max X1 X2)) : SCX (e :: t) (e5 :: t5) (max X1 X2) := by
  refine ⟨hB.1.trans h2.1, ?_, BDs_tr (BDs_tr hA.2.2 hB.2.2) h2.2.2⟩
  have a := hA.2.1
  have b : e4.2.2 = max e3.2.2 X1 := hB.2.1
  have c := h2.2.1
  omega
theorem lgZ_iff {g : Int32} : lgZ (e :: t) X Zf g = 0 ↔ Zf = false ∧ ¬ (0 < X ∧ 40 < max e.2.2 X) ∧ g = 0 := by
  show (if Zf then (1 : Int32) else (if 0 < X ∧ 40 < max e.2.2 X then 1 else g)) = 0 ↔ _
  cases Zf with
  | true => rw [if_pos rfl]; exact ⟨fun z => absurd z (by decide), fun z => Bool.noConfusion z.1⟩
  | false =>
    rw [if_neg (by decide)]
    by_cases h : 0 < X ∧ 40 < max e.2.2 X
    · rw [if_pos h]; exact ⟨fun z => absurd z (by decide), fun z => absurd h z.2.1⟩
    · rw [if_neg h]; exact ⟨fun z => ⟨rfl, h, z⟩, fun z => z.2.2⟩
theorem mat_lg {g0 g1 g2 g3 : Int32} (hA : SCX (e :: t) (e3 :: t3) XA) (hB : SCX ((e.1, e3.2.1, e3.2.2) :: t3) (e4 :: t4) X1) (hX : XA ≤ max e.2.2 (max X1 X2)) (a0 : g1 = 0 ↔ g0 = 0) (a1 : g2 = 0 ↔ lgZ ((e.1, e3.2.1, e3.2.2) :: t3) X1 Zf g1 = 0) (a2 : g3 = lgS (e4 :: t4) X2 g2) : g3 = 0 ↔ lgZ (e :: t) (max X1 X2) Zf g0 = 0 := by
  have e1 : g3 = lgZ (e4 :: t4) X2 false g2 := by rw [a2]; rfl
  rw [e1, lgZ_iff, a1, lgZ_iff, lgZ_iff, a0]
  have a := hA.2.1
  have b : e4.2.2 = max e3.2.2 X1 := hB.2.1
  show (false = false ∧ ¬ (0 < X2 ∧ 40 < max e4.2.2 X2) ∧ (Zf = false ∧ ¬ (0 < X1 ∧ 40 < max e3.2.2 X1) ∧ g0 = 0)) ↔ _
  constructor
  · rintro ⟨-, h1, h2, h3, h4⟩
    exact ⟨h2, by omega, h4⟩
  · rintro ⟨h1, h2, h3⟩
    exact ⟨rfl, by omega, h1, by omega, h3⟩
theorem CNl_n2 : ∀ {s s2 : SCT}, nms s2 = nms s → CNl m nm s → CNl m nm s2 ∧ tot s2 = tot s ∧ s2.length = s.length
  | [], [], _, _ => ⟨trivial, rfl, rfl⟩
  | [], _ :: _, h, _ => by cases h
  | _ :: _, [], h, _ => by cases h
  | e :: t, e2 :: t2, h, k => by
    have h : e2.1 :: nms t2 = e.1 :: nms t := h
    obtain ⟨h1, h2⟩ := List.cons.inj h
    obtain ⟨i1, i2, i3⟩ := CNl_n2 h2 k.2.2
    exact ⟨⟨by rw [i3, i2]; exact k.1, by rw [h1, i2]; exact k.2.1, i1⟩, by show tot t2 + e2.1.length = tot t + e.1.length; rw [i2, h1], by show t2.length + 1 = t.length + 1; rw [i3]⟩
theorem CPR_n2 {cm : Nat} (h : nms sc2 = nms sc) (k : CPR nm gd p p2 sc cm m) : CPR nm gd p p2 sc2 cm m ∧ sc2.length = sc.length := by
  obtain ⟨k1, ⟨c1, c2, c3, c4, c5⟩, k3, k4, k5, k6, k7⟩ := k
  obtain ⟨i1, i2, i3⟩ := CNl_n2 h c5
  exact ⟨⟨k1, ⟨by rw [i3]; exact c1, by rw [i3]; exact c2, by rw [i2]; exact c3, by rw [i2]; exact c4, i1⟩, by rw [i3]; exact k3, k4, k5, k6, by rw [i2]; exact k7⟩, i3⟩
theorem EXN_nm (h : nms sc1 = nms sc) (k : EXN N K nm gd m2 lo n2 ν p p2 sc1 sc2 X W Rf Zf BC) : EXN N K nm gd m2 lo n2 ν p p2 sc sc2 X W Rf Zf BC := fun d m3 cm last a b => by
  obtain ⟨b2, b3⟩ := CPR_n2 h b
  refine pk_mo (k d m3 cm last a b2) (fun v r z => ?_)
  unfold CPO at z ⊢
  rw [b3] at z
  exact z
theorem exn_ng {kd tok : Nat} {b c f : Int32} (hk : CMK kd) (hk1 : kd ≠ 17 ∧ kd ≠ 18) (hn : nod m2 ν = (I (kd : Nat), I (tok : Nat), b, c, f)) (htk : tok ≤ 4000) (hlo : lo < ν) (hν : ν ≤ n2) (hl : n2 ≤ 8015) : EXN N K nm true m2 lo n2 ν p p2 sc sc2 X W true Zf BC := by
  have := exn_cmp (N := N) (K := K) (nm := nm) (gd := true) (p := p) (p2 := p2) (sc := sc) (sc2 := sc2) (X := X) (W := W) (Rf := true) (Zf := Zf) (BC := BC) hk hk1 hn htk hlo hν hl (fun z => Bool.noConfusion z)
  exact this
end
