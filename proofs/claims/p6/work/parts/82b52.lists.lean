set_option maxRecDepth 100000
def owL (n : Nat) (ow : Nat → Nat) (k : Nat) : Nat := if k < n then ow k else n + 2 * ((k - n) / 2)
def kdL (n : Nat) (kd : Nat → Nat) (k : Nat) : Nat := if k < n then kd k else 7
section
variable {h h2 : Nat → Int64} {n c f0 sr : Nat} {ow kd s : Nat → Nat} {Fv : Int64 → Int64 → Prop} {P : Int64 → Prop} {rest : Int64}
theorem mk7 {k : Nat} (hk : k ≤ 200000) : so (mk 7 ((k : Nat) : Int)) = 7 ∧ va (mk 7 ((k : Nat) : Int)) = ((k : Nat) : Int) ∧ vn (mk 7 ((k : Nat) : Int)) = k := by
  have a : so (mk 7 ((k : Nat) : Int)) = 7 := so_mk (by decide) (by decide)
  have b : va (mk 7 ((k : Nat) : Int)) = ((k : Nat) : Int) := va_mk (by omega) (by omega)
  exact ⟨a, b, by unfold vn; rw [b]; exact Int.toNat_natCast k⟩
theorem LSTn_sz (hh : ∀ i, i < n → h2 i = h i) (hs : ∀ i, i < c → SZc h n ow kd Fv P f0 (h2 (n + 2 * i)) (s i)) (zr : SZc h n ow kd Fv P f0 rest sr) (hn : ∀ i, i + 1 < c → h2 (n + 2 * i + 1) = mk 7 ((n + 2 * (i + 1) : Nat) : Int)) (hl : h2 (n + 2 * (c - 1) + 1) = rest) (hb : n + 2 * c ≤ 200000) : ∀ d i, i + (d + 1) = c → SZc h2 (n + 2 * c) (owL n ow) (kdL n kd) Fv P (f0 + (d + 1)) (mk 7 ((n + 2 * i : Nat) : Int)) (2 * (d + 1) + smm s i (d + 1) + sr) := by
  have ext : ∀ f t s, SZc h n ow kd Fv P f t s → SZc h2 (n + 2 * c) (owL n ow) (kdL n kd) Fv P f t s := fun f t s z => SZ_extc (by omega) hh (fun i hi => if_pos hi) (fun i hi => if_pos hi) (fun _ _ q => q) (fun _ q => q) z
  intro d
  induction d with
  | zero =>
    intro i hi
    obtain ⟨m1, m2, m3⟩ := mk7 (k := n + 2 * i) (by omega)
    have b2 : blk h2 (mk 7 ((n + 2 * i : Nat) : Int)) = 2 := by unfold blk; rw [if_pos m1]
    have p2 : prt (mk 7 ((n + 2 * i : Nat) : Int)) = 0 := by unfold prt; rw [if_pos m1]
    refine Or.inr ⟨Or.inr (Or.inr m1), ⟨by omega, fun z => by omega, fun z => by omega, by rw [m3, b2]; omega, by rw [m3, m1]; unfold kdL; rw [if_neg (by omega)]; rfl, fun j hj => ?_⟩, fun j => if j = 0 then s i else sr, ?_, ?_⟩
    · rw [b2] at hj
      rw [m3]; unfold owL
      rw [if_neg (by omega)]; omega
    · rw [p2, b2, m3]
      intro j _ hj
      rcases (show j = 0 ∨ j = 1 by omega) with rfl | rfl
      · exact SZ_lec (ext _ _ _ (hs i (by omega))) (by omega)
      · rw [show n + 2 * i + 1 = n + 2 * (c - 1) + 1 by omega, hl]
        exact SZ_lec (ext _ _ _ zr) (by omega)
    · rw [p2, b2]
      show _ = 2 + (0 + (if 0 + 0 = 0 then s i else sr) + (if 0 + 1 = 0 then s i else sr))
      show 2 * (0 + 1) + (0 + s (i + 0)) + sr = _
      simp; omega
  | succ d ih =>
    intro i hi
    obtain ⟨m1, m2, m3⟩ := mk7 (k := n + 2 * i) (by omega)
    have b2 : blk h2 (mk 7 ((n + 2 * i : Nat) : Int)) = 2 := by unfold blk; rw [if_pos m1]
    have p2 : prt (mk 7 ((n + 2 * i : Nat) : Int)) = 0 := by unfold prt; rw [if_pos m1]
    refine Or.inr ⟨Or.inr (Or.inr m1), ⟨by omega, fun z => by omega, fun z => by omega, by rw [m3, b2]; omega, by rw [m3, m1]; unfold kdL; rw [if_neg (by omega)]; rfl, fun j hj => ?_⟩, fun j => if j = 0 then s i else 2 * (d + 1) + smm s (i + 1) (d + 1) + sr, ?_, ?_⟩
    · rw [b2] at hj
      rw [m3]; unfold owL
      rw [if_neg (by omega)]; omega
    · rw [p2, b2, m3]
      intro j _ hj
      rcases (show j = 0 ∨ j = 1 by omega) with rfl | rfl
      · exact SZ_lec (ext _ _ _ (hs i (by omega))) (Nat.le_add_right f0 (d + 1))
      · rw [hn i (by omega)]
        exact SZ_lec (ih (i + 1) (by omega)) (Nat.le_refl (f0 + (d + 1)))
    · rw [p2, b2, smm_first]
      show _ = 2 + (0 + (if 0 + 0 = 0 then s i else _) + (if 0 + 1 = 0 then s i else _))
      simp; omega
theorem LST_new (g : HPc h n ow kd Fv P) (hc : 1 ≤ c) (hh : ∀ i, i < n → h2 i = h i) (hs : ∀ i, i < c → SZc h n ow kd Fv P f0 (h2 (n + 2 * i)) (s i)) (zr : SZc h n ow kd Fv P f0 rest sr) (hn : ∀ i, i + 1 < c → h2 (n + 2 * i + 1) = mk 7 ((n + 2 * (i + 1) : Nat) : Int)) (hl : h2 (n + 2 * (c - 1) + 1) = rest) (hb : n + 2 * c ≤ 200000) (hsum : 2 * c + smm s 0 c + sr ≤ 500) :
    ∃ ow2 kd2, HPc h2 (n + 2 * c) ow2 kd2 Fv P ∧ GT (n + 2 * c) ow2 kd2 P (mk 7 ((n : Nat) : Int)) ∧ ∀ t, GT n ow kd P t → GT (n + 2 * c) ow2 kd2 P t := by
  have ext : ∀ f t s, SZc h n ow kd Fv P f t s → SZc h2 (n + 2 * c) (owL n ow) (kdL n kd) Fv P f t s := fun f t s z => SZ_extc (by omega) hh (fun i hi => if_pos hi) (fun i hi => if_pos hi) (fun _ _ q => q) (fun _ q => q) z
  have sz := LSTn_sz hh hs zr hn hl hb
  refine ⟨owL n ow, kdL n kd, fun t ht gt => ?_, ?_, fun t gt => ?_⟩
  · rcases gt with ⟨z, -⟩ | ⟨-, g1, g2, g3, g4⟩
    · exact absurd ht z
    by_cases e : vn t < n
    · unfold owL at g3; unfold kdL at g4
      rw [if_pos e] at g3 g4
      obtain ⟨f, s1, z1, z2⟩ := g t ht (Or.inr ⟨ht, g1, e, g3, g4⟩)
      obtain ⟨b1, -⟩ := HP_bkc g ht (Or.inr ⟨ht, g1, e, g3, g4⟩)
      have hbk := b1.2.2.2.1
      refine ⟨f, s1, ext _ _ _ z1, fun y => ?_⟩
      obtain ⟨y1, y2, y3⟩ := z2 y
      have e0 : h2 (vn t) = h (vn t) := hh _ e
      have eb : blk h2 t = blk h t := by
        unfold blk
        rw [if_neg (by omega), if_pos y1, if_neg (by omega), if_pos y1, e0]
      refine ⟨y1, by rw [eb]; exact y2, ?_⟩
      rw [hh _ (by omega)]; exact y3
    · unfold owL at g3; unfold kdL at g4
      rw [if_neg e] at g3 g4
      have e7 : so t = 7 := by omega
      obtain ⟨i, hi⟩ : ∃ i, vn t = n + 2 * i := ⟨(vn t - n) / 2, by omega⟩
      have hic : i < c := by omega
      obtain ⟨m1, m2, m3⟩ := mk7 (k := n + 2 * i) (by omega)
      have z := sz (c - i - 1) i (by omega)
      refine ⟨_, _, SZ_samec (by rw [e7, m1]) (by rw [m2, ← hi]; unfold vn; omega) (Or.inr (Or.inr m1)) z, fun y => ?_⟩
      exfalso
      have a := smm_add (c := s) (a := 0) (x := i) (y := c - i)
      rw [show i + (c - i) = c by omega, Nat.zero_add] at a
      rw [show c - i - 1 + 1 = c - i by omega] at y
      omega
  · obtain ⟨m1, m2, m3⟩ := mk7 (k := n) (by omega)
    refine Or.inr ⟨Or.inr (Or.inr m1), by omega, by omega, ?_, ?_⟩
    · rw [m3]; unfold owL; rw [if_neg (by omega)]; omega
    · rw [m3, m1]; unfold kdL; rw [if_neg (by omega)]; rfl
  · rcases gt with z | ⟨z, g1, g2, g3, g4⟩
    · exact Or.inl z
    · refine Or.inr ⟨z, g1, by omega, ?_, ?_⟩
      · unfold owL; rw [if_pos g2]; exact g3
      · unfold kdL; rw [if_pos g2]; exact g4
end
