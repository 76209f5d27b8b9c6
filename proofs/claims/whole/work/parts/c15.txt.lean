/-! the text of a term, as a list of signs -/
set_option maxRecDepth 100000
/-- the digits of x, from the unit u down -/
def dgT (x : Int64) : Nat → Int64 → List Int32
  | 0, _ => []
  | f + 1, u => if u.toInt ≤ 0 then [] else ((48 + ((x / u) - (x / u) / 10 * 10)).toInt32) :: dgT x f (u / 10)
/-- the greatest unit -/
def unT (x : Int64) : Nat → Int64 → Int64
  | 0, u => u
  | f + 1, u => if x.toInt < u.toInt * 10 then u else unT x f (u * 10)
def abT (v : Int32) : Int64 := if 0 ≤ v then v.toInt64 else -v.toInt64
def numT (v : Int32) : List Int32 := (if 0 ≤ v then [] else [45]) ++ dgT (abT v) 40 (unT (abT v) 40 1)
/-- a term that has no parts -/
def alT (A : Nat → List Int32) (t : Int64) : List Int32 := if so t = 0 then numT (I (va t)) else if so t = 1 then A (vn t) else if so t = 2 then 35 :: numT (I (va t)) else if so t = 3 then [102, 117, 110] else if so t = 4 then 60 :: (numT (I (va t)) ++ [62]) else if so t = 6 then [91, 93] else [I (va t)]
/-- with commas between -/
def jnT (c : Nat → List Int32) : Nat → Nat → List Int32
  | _, 0 => []
  | i, 1 => c i
  | i, n + 2 => c i ++ 44 :: jnT c (i + 1) (n + 1)
def txF (h : Nat → Int64) (A : Nat → List Int32) : Nat → (Int64 → List Int32) × (Int64 → List Int32)
  | 0 => (fun _ => [], fun _ => [])
  | f + 1 => (fun t => if so t = 5 then 123 :: (jnT (fun j => (txF h A f).1 (h (vn t + j))) 1 (blk h t - 1) ++ [125]) else if so t = 7 then 91 :: ((txF h A f).1 (h (vn t)) ++ (txF h A f).2 (h (vn t + 1))) else alT A t, fun t => if so t = 6 then [93] else if so t = 7 then 44 :: ((txF h A f).1 (h (vn t)) ++ (txF h A f).2 (h (vn t + 1))) else 124 :: ((txF h A f).1 t ++ [93]))
theorem fuT_x : ∃ n : Nat, n = 3000 := ⟨3000, rfl⟩
/-- enough steps -/
noncomputable def fuT : Nat := Classical.choose fuT_x
theorem fuT_e : fuT = 3000 := Classical.choose_spec fuT_x
theorem fuT_s : ∃ f : Nat, fuT = f + 1 ∧ f = 2999 := ⟨2999, fuT_e, rfl⟩
noncomputable def TXs (h : Nat → Int64) (A : Nat → List Int32) (t : Int64) : List Int32 := (txF h A fuT).1 t
noncomputable def RSs (h : Nat → Int64) (A : Nat → List Int32) (t : Int64) : List Int32 := (txF h A fuT).2 t
theorem tx1_e {h : Nat → Int64} {A : Nat → List Int32} {f : Nat} {t : Int64} : (txF h A (f + 1)).1 t = if so t = 5 then 123 :: (jnT (fun j => (txF h A f).1 (h (vn t + j))) 1 (blk h t - 1) ++ [125]) else if so t = 7 then 91 :: ((txF h A f).1 (h (vn t)) ++ (txF h A f).2 (h (vn t + 1))) else alT A t := rfl
theorem tx2_e {h : Nat → Int64} {A : Nat → List Int32} {f : Nat} {t : Int64} : (txF h A (f + 1)).2 t = if so t = 6 then [93] else if so t = 7 then 44 :: ((txF h A f).1 (h (vn t)) ++ (txF h A f).2 (h (vn t + 1))) else 124 :: ((txF h A f).1 t ++ [93]) := rfl
/-- the text of an atom -/
def atT (sg : Nat → Int32) (fr : Nat → Nat) (a : Nat) : List Int32 := (List.range (fr (a + 1) - fr a)).map (fun k => sg (fr a + k))
/-- its place -/
def VBs (h : Nat → Int64) (t : Int64) : Prop := 0 ≤ va t ∧ va t ≤ 1000 ∧ (so t = 5 → 0 ≤ va (h (vn t)) ∧ va (h (vn t)) ≤ 1000)
/-- a term's size, whatever else -/
def SZp (h : Nat → Int64) (R : Int64 → Prop) : Nat → Int64 → Nat → Prop
  | 0, _, _ => False
  | f + 1, t, z => (¬ isH t ∧ R t ∧ z = 0) ∨ (isH t ∧ VBs h t ∧ ∃ c : Nat → Nat, (∀ j, prt t ≤ j → j < blk h t → SZp h R f (h (vn t + j)) (c j)) ∧ z = blk h t + smm c (prt t) (blk h t - prt t))
section
variable {b : Int → Nat → Nat → Prop} {h h' : Nat → Int64} {n n' n0 n0' : Nat} {t x : Int64} {ow kd ow' kd' : Nat → Nat} {Fv Fv' : Int64 → Int64 → Prop} {P P' R : Int64 → Prop} {A A' : Nat → List Int32}
theorem jnT_eq {c d : Nat → List Int32} : ∀ {n i : Nat}, (∀ j, i ≤ j → j < i + n → c j = d j) → jnT c i n = jnT d i n
  | 0, _, _ => by unfold jnT; rfl
  | 1, i, e => by
    show c i = d i
    exact e i (Nat.le_refl _) (by omega)
  | n + 2, i, e => by
    show c i ++ 44 :: jnT c (i + 1) (n + 1) = d i ++ 44 :: jnT d (i + 1) (n + 1)
    rw [e i (Nat.le_refl _) (by omega), jnT_eq (fun j h1 h2 => e j (by omega) (by omega))]
theorem alT_0 (e : so t = 0) : alT A t = numT (I (va t)) := by unfold alT; rw [e]; rfl
theorem alT_1 (e : so t = 1) : alT A t = A (vn t) := by unfold alT; rw [e]; rfl
theorem alT_2 (e : so t = 2) : alT A t = 35 :: numT (I (va t)) := by unfold alT; rw [e]; rfl
theorem alT_3 (e : so t = 3) : alT A t = [102, 117, 110] := by unfold alT; rw [e]; rfl
theorem alT_4 (e : so t = 4) : alT A t = 60 :: (numT (I (va t)) ++ [62]) := by unfold alT; rw [e]; rfl
theorem alT_6 (e : so t = 6) : alT A t = [91, 93] := by unfold alT; rw [e]; rfl
theorem alT_20 (e : so t = 20) : alT A t = [I (va t)] := by unfold alT; rw [e]; rfl
/-- terms that go together have one text -/
theorem txF_iso (s : ISw b h n0 h' n0') (hA : ∀ t, ¬ isH t → alT A t = alT A' t) : ∀ (f : Nat) (t x : Int64), RTb b t x → (txF h A f).1 t = (txF h' A' f).1 x ∧ (txF h A f).2 t = (txF h' A' f).2 x := by
  intro f
  induction f with
  | zero => exact fun _ _ _ => ⟨rfl, rfl⟩
  | succ f ih =>
    intro t x r
    have es := RTb_so r
    have one : (if so t = 7 then 91 :: ((txF h A f).1 (h (vn t)) ++ (txF h A f).2 (h (vn t + 1))) else alT A t) = (if so x = 7 then 91 :: ((txF h' A' f).1 (h' (vn x)) ++ (txF h' A' f).2 (h' (vn x + 1))) else alT A' x) ∨ so t = 5 := by
      by_cases e7 : so t = 7
      · have z : isH t := Or.inr (Or.inr e7)
        obtain ⟨-, e2, -⟩ := s.1 t x z r
        have b2 : blk h t = 2 := by unfold blk; rw [if_pos e7]
        have p0 : prt t = 0 := by unfold prt; rw [if_pos e7]
        have r0 := e2 0 (by omega) (by omega)
        have r1 := e2 1 (by omega) (by omega)
        refine Or.inl ?_
        rw [es, if_pos e7, if_pos e7]
        rw [show h (vn t) = h (vn t + 0) from rfl, show h' (vn x) = h' (vn x + 0) from rfl, (ih _ _ r0).1, (ih _ _ r1).2]
      · by_cases e5 : so t = 5
        · exact Or.inr e5
        · refine Or.inl ?_
          rw [es, if_neg e7, if_neg e7]
          by_cases e3 : so t = 3
          · rw [alT_3 e3, alT_3 (es.trans e3)]
          · have nz : ¬ isH t := by unfold isH; omega
            rw [RTb_n r nz]
            exact hA t nz
    refine ⟨?_, ?_⟩
    · rw [tx1_e, tx1_e]
      by_cases e5 : so t = 5
      · have z : isH t := Or.inr (Or.inl e5)
        obtain ⟨⟨e1, -⟩, e2, -⟩ := s.1 t x z r
        have p0 : prt t = 1 := by unfold prt; rw [if_neg (by omega), if_pos e5]
        rw [if_pos e5, if_pos (es.trans e5), e1, jnT_eq (fun j h1 h2 => (ih _ _ (e2 j (by omega) (by omega))).1)]
      · rw [if_neg e5, if_neg (fun z => e5 (es.symm.trans z))]
        rcases one with q | q
        · exact q
        · exact absurd q e5
    · rw [tx2_e, tx2_e]
      rw [es]
      by_cases e6 : so t = 6
      · rw [if_pos e6, if_pos e6]
      · rw [if_neg e6, if_neg e6]
        by_cases e7 : so t = 7
        · have z : isH t := Or.inr (Or.inr e7)
          obtain ⟨-, e2, -⟩ := s.1 t x z r
          have b2 : blk h t = 2 := by unfold blk; rw [if_pos e7]
          have p0 : prt t = 0 := by unfold prt; rw [if_pos e7]
          have r0 := e2 0 (by omega) (by omega)
          have r1 := e2 1 (by omega) (by omega)
          rw [if_pos e7, if_pos e7, show h (vn t) = h (vn t + 0) from rfl, show h' (vn x) = h' (vn x + 0) from rfl, (ih _ _ r0).1, (ih _ _ r1).2]
        · rw [if_neg e7, if_neg e7, (ih _ _ r).1]
theorem TXs_iso (s : ISw b h n0 h' n0') (hA : ∀ t, ¬ isH t → alT A t = alT A' t) (r : RTb b t x) : TXs h A t = TXs h' A' x := (txF_iso s hA fuT t x r).1
theorem VBs_c (k : BKc h n ow kd Fv t) (hn : n ≤ 1000) : VBs h t := by
  obtain ⟨k1, k2, -, k3, -⟩ := k
  have e := vn_e k1
  refine ⟨k1, by omega, fun h5 => ?_⟩
  have e2 := vn_e (k2 h5).1
  have hb : blk h t = 1 + vn (h (vn t)) := by unfold blk; rw [if_neg (by omega), if_pos h5]
  exact ⟨(k2 h5).1, by omega⟩
theorem VBs_m (k : BK h n ow kd Fv t) (hn : n ≤ 1000) : VBs h t := by
  obtain ⟨k1, k2, -, k3, -⟩ := k
  have e := vn_e k1
  refine ⟨k1, by omega, fun h5 => ?_⟩
  have e2 := vn_e (k2 h5).1
  have hb : blk h t = 1 + vn (h (vn t)) := by unfold blk; rw [if_neg (by omega), if_pos h5]
  exact ⟨(k2 h5).1, by omega⟩
theorem SZp_c (hn : n ≤ 1000) (hP : ∀ t, P t → R t) : ∀ {f : Nat} {t : Int64} {z : Nat}, SZc h n ow kd Fv P f t z → SZp h R f t z
  | 0, _, _, y => y
  | f + 1, t, z, y => by
    rcases y with ⟨y1, y5, y2⟩ | ⟨y1, yk, c, y3, y4⟩
    · exact Or.inl ⟨y1, hP t y5, y2⟩
    · exact Or.inr ⟨y1, VBs_c yk hn, c, fun j h1 h2 => SZp_c hn hP (y3 j h1 h2), y4⟩
theorem SZp_m (hn : n ≤ 1000) (hP : ∀ t, P t → R t) : ∀ {f : Nat} {t : Int64} {z : Nat}, SZ h n ow kd Fv P f t z → SZp h R f t z
  | 0, _, _, y => y
  | f + 1, t, z, y => by
    rcases y with ⟨y1, y5, y2⟩ | ⟨y1, yk, c, y3, y4⟩
    · exact Or.inl ⟨y1, hP t y5, y2⟩
    · exact Or.inr ⟨y1, VBs_m yk hn, c, fun j h1 h2 => SZp_m hn hP (y3 j h1 h2), y4⟩
/-- enough is enough -/
theorem txF_st : ∀ (k : Nat) {t : Int64} {z f g0 : Nat}, SZp h R k t z → (z + 1 ≤ f → z + 1 ≤ g0 → (txF h A f).1 t = (txF h A g0).1 t) ∧ (z + 2 ≤ f → z + 2 ≤ g0 → (txF h A f).2 t = (txF h A g0).2 t)
  | 0, _, _, _, _, z => z.elim
  | k + 1, t, z, f, g0, y => by
    have main : ∀ f g0 : Nat, z ≤ f → z ≤ g0 → (txF h A (f + 1)).1 t = (txF h A (g0 + 1)).1 t := fun f g0 hf hg => by
      rw [tx1_e, tx1_e]
      by_cases e5 : so t = 5
      · rcases y with ⟨y1, -⟩ | ⟨y1, -, c, y3, y4⟩
        · exact absurd (Or.inr (Or.inl e5)) y1
        have p1 : prt t = 1 := by unfold prt; rw [if_neg (by omega), if_pos e5]
        have bp := blk_pos (h := h) y1
        rw [if_pos e5, if_pos e5, jnT_eq (fun j h1 h2 => ?_)]
        have yj := y3 j (by omega) (by omega)
        have le := smm_le (c := c) (a := prt t) (n := blk h t - prt t) (j := j) (by omega) (by omega)
        exact (txF_st k yj).1 (by omega) (by omega)
      · rw [if_neg e5, if_neg e5]
        by_cases e7 : so t = 7
        · rcases y with ⟨y1, -⟩ | ⟨y1, -, c, y3, y4⟩
          · exact absurd (Or.inr (Or.inr e7)) y1
          have b2 : blk h t = 2 := by unfold blk; rw [if_pos e7]
          have p0 : prt t = 0 := by unfold prt; rw [if_pos e7]
          have q0 := y3 0 (by omega) (by omega)
          have q1 := y3 1 (by omega) (by omega)
          rw [b2, p0] at y4
          have e2 : smm c 0 (2 - 0) = c 0 + c 1 := by show 0 + c (0 + 0) + c (0 + 1) = _; simp
          rw [if_pos e7, if_pos e7, show h (vn t) = h (vn t + 0) from rfl, ((txF_st k q0).1 (by omega) (by omega) : (txF h A f).1 (h (vn t + 0)) = (txF h A g0).1 (h (vn t + 0))), ((txF_st k q1).2 (by omega) (by omega) : (txF h A f).2 (h (vn t + 1)) = (txF h A g0).2 (h (vn t + 1)))]
        · rw [if_neg e7, if_neg e7]
    refine ⟨fun h1 h2 => ?_, fun h1 h2 => ?_⟩
    · cases f with
      | zero => omega
      | succ f =>
        cases g0 with
        | zero => omega
        | succ g0 => exact main f g0 (by omega) (by omega)
    · cases f with
      | zero => omega
      | succ f =>
        cases g0 with
        | zero => omega
        | succ g0 =>
          rw [tx2_e, tx2_e]
          by_cases e6 : so t = 6
          · rw [if_pos e6, if_pos e6]
          · rw [if_neg e6, if_neg e6]
            by_cases e7 : so t = 7
            · rcases y with ⟨y1, -⟩ | ⟨y1, -, c, y3, y4⟩
              · exact absurd (Or.inr (Or.inr e7)) y1
              have b2 : blk h t = 2 := by unfold blk; rw [if_pos e7]
              have p0 : prt t = 0 := by unfold prt; rw [if_pos e7]
              have q0 := y3 0 (by omega) (by omega)
              have q1 := y3 1 (by omega) (by omega)
              rw [b2, p0] at y4
              have e2 : smm c 0 (2 - 0) = c 0 + c 1 := by show 0 + c (0 + 0) + c (0 + 1) = _; simp
              rw [if_pos e7, if_pos e7, show h (vn t) = h (vn t + 0) from rfl, ((txF_st k q0).1 (by omega) (by omega) : (txF h A f).1 (h (vn t + 0)) = (txF h A g0).1 (h (vn t + 0))), ((txF_st k q1).2 (by omega) (by omega) : (txF h A f).2 (h (vn t + 1)) = (txF h A g0).2 (h (vn t + 1)))]
            · rw [if_neg e7, if_neg e7]
              cases f with
              | zero => omega
              | succ f =>
                cases g0 with
                | zero => omega
                | succ g0 => rw [main f g0 (by omega) (by omega)]
theorem TXs_pair {k z : Nat} (y : SZp h R k t z) (hz : z ≤ 2900) (e7 : so t = 7) : TXs h A t = 91 :: (TXs h A (h (vn t)) ++ RSs h A (h (vn t + 1))) ∧ RSs h A t = 44 :: (TXs h A (h (vn t)) ++ RSs h A (h (vn t + 1))) := by
  cases k with
  | zero => exact y.elim
  | succ k =>
    rcases y with ⟨y1, -⟩ | ⟨y1, -, c, y3, y4⟩
    · exact absurd (Or.inr (Or.inr e7)) y1
    have b2 : blk h t = 2 := by unfold blk; rw [if_pos e7]
    have p0 : prt t = 0 := by unfold prt; rw [if_pos e7]
    have q0 : SZp h R k (h (vn t)) (c 0) := y3 0 (by omega) (by omega)
    have q1 := y3 1 (by omega) (by omega)
    rw [b2, p0] at y4
    have e2 : smm c 0 (2 - 0) = c 0 + c 1 := by show 0 + c (0 + 0) + c (0 + 1) = _; simp
    obtain ⟨f, hf, hf2⟩ := fuT_s
    have a1 := (txF_st (A := A) (f := f) (g0 := f + 1) k q0).1 (by omega) (by omega)
    have a2 := (txF_st (A := A) (f := f) (g0 := f + 1) k q1).2 (by omega) (by omega)
    unfold TXs RSs
    rw [hf, ← a1, ← a2]
    constructor
    · rw [tx1_e, if_neg (by omega), if_pos e7]
    · rw [tx2_e, if_neg (by omega), if_pos e7]
theorem TXs_tup {k z : Nat} (y : SZp h R k t z) (hz : z ≤ 2900) (e5 : so t = 5) : TXs h A t = 123 :: (jnT (fun j => TXs h A (h (vn t + j))) 1 (blk h t - 1) ++ [125]) := by
  cases k with
  | zero => exact y.elim
  | succ k =>
    rcases y with ⟨y1, -⟩ | ⟨y1, -, c, y3, y4⟩
    · exact absurd (Or.inr (Or.inl e5)) y1
    have p1 : prt t = 1 := by unfold prt; rw [if_neg (by omega), if_pos e5]
    obtain ⟨f, hf, hf2⟩ := fuT_s
    unfold TXs
    rw [hf, tx1_e, if_pos e5, jnT_eq (c := fun j => (txF h A f).1 (h (vn t + j))) (d := fun j => (txF h A (f + 1)).1 (h (vn t + j))) (fun j h1 h2 => ?_)]
    have le := smm_le (c := c) (a := prt t) (n := blk h t - prt t) (j := j) (by omega) (by omega)
    exact (txF_st (A := A) (f := f) (g0 := f + 1) k (y3 j (by omega) (by omega))).1 (by omega) (by omega)
theorem TXs_al (h5 : so t ≠ 5) (h7 : so t ≠ 7) : TXs h A t = alT A t := by
  obtain ⟨f, hf, -⟩ := fuT_s
  unfold TXs
  rw [hf, tx1_e, if_neg h5, if_neg h7]
theorem RSs_nil (h6 : so t = 6) : RSs h A t = [93] := by
  obtain ⟨f, hf, -⟩ := fuT_s
  unfold RSs
  rw [hf, tx2_e, if_pos h6]
theorem RSs_imp {k z : Nat} (y : SZp h R k t z) (hz : z ≤ 2900) (h6 : so t ≠ 6) (h7 : so t ≠ 7) : RSs h A t = 124 :: (TXs h A t ++ [93]) := by
  obtain ⟨f, hf, hf2⟩ := fuT_s
  unfold RSs TXs
  rw [hf, tx2_e, if_neg h6, if_neg h7, (txF_st (A := A) (f := f) (g0 := f + 1) k y).1 (by omega) (by omega)]
end
