/-! the text of a term: what waits to be written, there -/
set_option maxRecDepth 100000
/-- the text of what lies on the pile -/
noncomputable def PNs (h : Nat → Int64) (A : Nat → List Int32) (e : Nat → Int64) : Nat → List Int32
  | 0 => []
  | 1 => if so (e 0) = 11 then [93] else TXs h A (e 0)
  | k + 2 => if so (e (k + 1)) = 11 then RSs h A (e k) ++ PNs h A e k else TXs h A (e (k + 1)) ++ PNs h A e (k + 1)
/-- the pile and its weight -/
def STs (h : Nat → Int64) (R : Int64 → Prop) (e : Nat → Int64) : Nat → Nat → Prop
  | 0, _ => True
  | i + 1, w => ∃ w2, STs h R e i w2 ∧ ((so (e i) = 11 ∧ w2 + 2 ≤ w ∧ ∃ q, i = q + 1 ∧ so (e q) ≠ 11) ∨ (so (e i) ≠ 11 ∧ ∃ k z, SZp h R k (e i) z ∧ z ≤ 1020 ∧ w2 + 1 + 2 * z ≤ w))
/-- a leaf -/
def LFs (n : Int) (t : Int64) : Prop := so t ≠ 11 ∧ (so t = 1 → 0 ≤ va t ∧ va t < n)
def ATc (m : MS) (a : Nat) : List Int32 := atT (m.2.2.1 2) (fun i => (A m 3 i).toNat) a
section
variable {h e e' : Nat → Int64} {R : Int64 → Prop} {B : Nat → List Int32} {N j base top w b k z : Nat} {m0 m m2 : MS} {L M : List Int32} {v : Int32} {t x : Int64}
theorem STs_ext : ∀ {i w : Nat}, (∀ q, q < i → e' q = e q) → STs h R e i w → STs h R e' i w
  | 0, _, _, _ => trivial
  | i + 1, w, g, y => by
    obtain ⟨w2, y1, y2⟩ := y
    refine ⟨w2, STs_ext (fun q hq => g q (by omega)) y1, ?_⟩
    rw [g i (by omega)]
    rcases y2 with ⟨a, c, q, d1, d2⟩ | y2
    · exact Or.inl ⟨a, c, q, d1, by rw [g q (by omega)]; exact d2⟩
    · exact Or.inr y2
theorem PNs_ext : ∀ {i : Nat}, (∀ q, q < i → e' q = e q) → PNs h B e' i = PNs h B e i
  | 0, _ => by unfold PNs; rfl
  | 1, g => by
    show (if so (e' 0) = 11 then [93] else TXs h B (e' 0)) = (if so (e 0) = 11 then [93] else TXs h B (e 0))
    rw [g 0 (by omega)]
  | i + 2, g => by
    show (if so (e' (i + 1)) = 11 then RSs h B (e' i) ++ PNs h B e' i else TXs h B (e' (i + 1)) ++ PNs h B e' (i + 1)) = (if so (e (i + 1)) = 11 then RSs h B (e i) ++ PNs h B e i else TXs h B (e (i + 1)) ++ PNs h B e (i + 1))
    rw [g (i + 1) (by omega), g i (by omega), PNs_ext (i := i) (fun q hq => g q (by omega)), PNs_ext (i := i + 1) (fun q hq => g q (by omega))]
theorem STs_le : ∀ {i w : Nat}, STs h R e i w → i ≤ w
  | 0, _, _ => Nat.zero_le _
  | i + 1, w, y => by
    obtain ⟨w2, y1, y2⟩ := y
    have := STs_le y1
    rcases y2 with ⟨-, c, -⟩ | ⟨-, k, z, -, -, c⟩
    · omega
    · omega
theorem STs_mo {w2 : Nat} (hw : w ≤ w2) : ∀ {i : Nat}, STs h R e i w → STs h R e i w2
  | 0, _ => trivial
  | i + 1, y => by
    obtain ⟨w3, y1, y2⟩ := y
    refine ⟨w3, y1, ?_⟩
    rcases y2 with ⟨a, c, d⟩ | ⟨a, k, z, c, d, f⟩
    · exact Or.inl ⟨a, by omega, d⟩
    · exact Or.inr ⟨a, k, z, c, d, by omega⟩
theorem PNs_top (hn : so (e top) ≠ 11) : PNs h B e (top + 1) = TXs h B (e top) ++ PNs h B e top := by
  cases top with
  | zero =>
    show (if so (e 0) = 11 then [93] else TXs h B (e 0)) = TXs h B (e 0) ++ []
    rw [if_neg hn, List.append_nil]
  | succ k => exact if_neg hn
theorem PNs_rest (hn : so (e (k + 1)) = 11) : PNs h B e (k + 2) = RSs h B (e k) ++ PNs h B e k := if_pos hn
theorem TXs_sign {c : Int} (hc : RG c) : TXs h B (mk 10 c) = [I c] := by
  have e1 : so (mk 10 c) = 10 := so_mk (by decide) (by decide)
  rw [TXs_al (by rw [e1]; decide) (by rw [e1]; decide)]
  unfold alT
  rw [e1, va_mk hc.1 hc.2]
  rfl
theorem SZp_so (y : SZp h R k t z) (hR : ∀ t, R t → so t ≠ 11) : so t ≠ 11 := by
  cases k with
  | zero => exact y.elim
  | succ k =>
    rcases y with ⟨-, y5, -⟩ | ⟨y1, -⟩
    · exact hR t y5
    · intro q
      unfold isH at y1
      omega
theorem pushw_s (hw : top < 2048) : PK (fun m2 r => r = I ((top + 1 : Nat) : Int) ∧ m2 = wj m 45 top t) (hm_Te_push N m (I top) t) := by
  unfold hm_Te_push hb_Te_push_0
  rw [show (2048 : Int32) = I 2048 from rfl]
  refine p_less ⟨by omega, by omega⟩ ⟨by decide, by decide⟩ (fun c => pk_ck (fun _ => pk_lt ?_)) (fun c => absurd (show (top : Int) < ((2048 : Nat) : Int) by omega) c)
  rw [tnI (n := top) rfl (by omega), wj_e, lit1, I_add]
  exact pk_some ⟨by rw [show ((top : Nat) : Int) + 1 = ((top + 1 : Nat) : Int) by omega], rfl⟩
theorem OUs_wj (o : OUs j base m0 m L) : OUs j base m0 (wj m 45 top t) L := ⟨FR.wj o.1 (by simp), o.2.1, o.2.2.1, o.2.2.2⟩
theorem row_lt : ∀ q, q < top → (wj m 45 top t).2.2.2 45 q = m.2.2.2 45 q := fun q hq => by rw [wj_row, if_neg (by omega)]
theorem row_at : (wj m 45 top t).2.2.2 45 top = t := by rw [wj_row, if_pos rfl]
/-- one more, a term or a sign -/
theorem pusht_s (o : OUs j base m0 m L) (s : STs h R (m.2.2.2 45) top w) (y : SZp h R k t z) (hz : z ≤ 1020) (h11 : so t ≠ 11) (hw : w < 2048) : PK (fun m2 r => r = I ((top + 1 : Nat) : Int) ∧ OUs j base m0 m2 L ∧ STs h R (m2.2.2.2 45) (top + 1) (w + 1 + 2 * z) ∧ (PNs h B (m2.2.2.2 45) (top + 1) = TXs h B t ++ PNs h B (m.2.2.2 45) top ∧ m2.2.2.2 45 top = t)) (hm_Te_push N m (I top) t) := by
  have := STs_le s
  refine pk_mo (pushw_s (by omega)) (fun m2 r q => ?_)
  obtain ⟨rfl, rfl⟩ := q
  refine ⟨rfl, OUs_wj o, ⟨w, STs_ext row_lt s, Or.inr ⟨by rw [row_at]; exact h11, k, z, by rw [row_at]; exact y, hz, Nat.le_refl _⟩⟩, ?_, row_at⟩
  rw [PNs_top (by rw [row_at]; exact h11), row_at, PNs_ext row_lt]
/-- the mark of a rest -/
theorem pushr_s (o : OUs j base m0 m L) (s : STs h R (m.2.2.2 45) (top + 1) w) (hq : so (m.2.2.2 45 top) ≠ 11) (hw : w < 2048) : PK (fun m2 r => r = I ((top + 2 : Nat) : Int) ∧ OUs j base m0 m2 L ∧ STs h R (m2.2.2.2 45) (top + 2) (w + 2) ∧ PNs h B (m2.2.2.2 45) (top + 2) = RSs h B (m.2.2.2 45 top) ++ PNs h B (m.2.2.2 45) top) (hm_Te_push N m (I ((top + 1 : Nat) : Int)) (mk 11 0)) := by
  have := STs_le s
  have e1 : so (mk 11 0) = 11 := so_mk (by decide) (by decide)
  refine pk_mo (pushw_s (by omega)) (fun m2 r q => ?_)
  obtain ⟨rfl, rfl⟩ := q
  have rl : ∀ q, q < top + 1 → (wj m 45 (top + 1) (mk 11 0)).2.2.2 45 q = m.2.2.2 45 q := row_lt
  refine ⟨rfl, OUs_wj o, ⟨w, STs_ext rl s, Or.inl ⟨by rw [row_at]; exact e1, Nat.le_refl _, top, rfl, ?_⟩⟩, ?_⟩
  · rw [rl top (by omega)]
    exact hq
  · rw [PNs_rest (by rw [row_at]; exact e1), rl top (by omega), PNs_ext (fun q hq => rl q (by omega))]
theorem jnT_last {c : Nat → List Int32} : ∀ {n i : Nat}, jnT c i (n + 2) = jnT c i (n + 1) ++ 44 :: c (i + n + 1)
  | 0, i => by
    show c i ++ 44 :: c (i + 1) = c i ++ 44 :: c (i + 0 + 1)
    rfl
  | n + 1, i => by
    show c i ++ 44 :: jnT c (i + 1) (n + 2) = (c i ++ 44 :: jnT c (i + 1) (n + 1)) ++ 44 :: c (i + (n + 1) + 1)
    rw [jnT_last (n := n) (i := i + 1), show i + 1 + n + 1 = i + (n + 1) + 1 by omega]
    simp
theorem FRh (hb : b ≠ 45) (hh : m0.2.2.2 b = h) (o : OUs j base m0 m L) : m.2.2.2 b = h := by rw [FRj o.1 (by simpa using hb)]; exact hh
/-- the parts of a TUPLE, from the last on -/
theorem tup_s (hb : b ≠ 45) (hh : m0.2.2.2 b = h) (hR : ∀ t, R t → so t ≠ 11) (hR2 : ∀ c : Int, R (mk 10 c)) (hv : 0 ≤ va t ∧ va t ≤ 1000) {T : List Int32} {c : Nat → Nat} {n0 wt : Nat} (hn : n0 ≤ 1000) (hw : wt < 2048) (hc : ∀ i, 1 ≤ i → i ≤ n0 → SZp h R k (h (vn t + i)) (c i) ∧ c i ≤ 1020) : ∀ (g i top w : Nat) (m : MS), i ≤ n0 → OUs j base m0 m L → STs h R (m.2.2.2 45) top w → w + 2 * i + 2 * smm c 1 i ≤ wt → L ++ (jnT (fun q => TXs h B (h (vn t + q))) 1 i ++ PNs h B (m.2.2.2 45) top) = T → PK (fun m2 r => ∃ top2, r = I ((top2 : Nat) : Int) ∧ OUs j base m0 m2 L ∧ STs h R (m2.2.2.2 45) top2 wt ∧ L ++ PNs h B (m2.2.2.2 45) top2 = T) (hg_Te_toWriteTuple N g m b (I (va t)) (I top) (I i)) := by
  intro g
  induction g with
  | zero => intro i top w m _ _ _ _ _; exact pk_none
  | succ g ih =>
    intro i top w m hi o s hwt hT
    show PK _ (hb_Te_toWriteTuple_20 N (hg_Te_toWriteTuple N g) m b (I (va t)) (I top) (I i))
    unfold hb_Te_toWriteTuple_20 hb_Te_toWriteTuple_60
    have hm := FRh hb hh o
    have ev := vn_e hv.1
    rw [m1I, lit0, lit1, ev, I_add, show ((vn t : Nat) : Int) + ((i : Nat) : Int) = ((vn t + i : Nat) : Int) by omega]
    refine p_le ⟨by omega, by omega⟩ ⟨by decide, by decide⟩ (fun a => pk_some ?_) (fun a => ?_)
    · have e0 : i = 0 := by omega
      rw [e0] at hT
      exact ⟨top, rfl, o, STs_mo (by omega) s, hT⟩
    · obtain ⟨i, rfl⟩ : ∃ q, i = q + 1 := ⟨i - 1, by omega⟩
      have es : smm c 1 (i + 1) = smm c 1 i + c (1 + i) := rfl
      obtain ⟨y, yz⟩ := hc (i + 1) (by omega) hi
      rw [show 1 + i = i + 1 by omega] at es
      have dn : I ((i + 1 : Nat) : Int) + I (-1) = I ((i : Nat) : Int) := by rw [I_add]; congr 1; omega
      refine pk_ck (fun _ => ?_)
      rw [tnI (n := vn t + (i + 1)) rfl (by omega), hm]
      refine pk_bnd (pk_mo (pusht_s (B := B) o s y yz (SZp_so y hR) (by omega)) (fun m2 r q => ?_))
      obtain ⟨rfl, o2, s2, p2, -⟩ := q
      rw [dn, ← ev]
      refine p_le ⟨by omega, by omega⟩ ⟨by decide, by decide⟩ (fun a2 => ?_) (fun a2 => ?_)
      · have e0 : i = 0 := by omega
        subst e0
        refine ih 0 (top + 1) _ m2 (by omega) o2 s2 (by omega) ?_
        rw [p2]
        exact hT
      · obtain ⟨i, rfl⟩ : ∃ q, i = q + 1 := ⟨i - 1, by omega⟩
        rw [show (10 : Int32) = I 10 from rfl, show (44 : Int32) = I 44 from rfl, e_make, bnd_so]
        refine pk_bnd (pk_mo (pusht_s (B := B) (k := 1) (z := 0) o2 s2 (Or.inl ⟨?_, hR2 _, rfl⟩) (by omega) (by rw [so_mk (by decide) (by decide)]; decide) (by omega)) (fun m3 r q => ?_))
        · exact nh_so (by rw [so_mk (by decide) (by decide)]; decide)
        obtain ⟨rfl, o3, s3, p3, -⟩ := q
        refine ih (i + 1) (top + 1 + 1) _ m3 (by omega) o3 s3 (by omega) ?_
        rw [p3, p2, TXs_sign ⟨by decide, by decide⟩, ← hT, jnT_last (n := i) (i := 1), show 1 + i + 1 = i + 1 + 1 by omega]
        simp
        rfl
end
