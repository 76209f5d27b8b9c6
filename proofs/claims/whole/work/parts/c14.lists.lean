/-! sizes and lengths of lists, both sides -/
set_option maxRecDepth 100000
section
variable {b : Int → Nat → Nat → Prop} {h h' : Nat → Int64} {n n' n0 n0' N v p : Nat} {t x : Int64} {ow kd ow' kd' : Nat → Nat} {Fv Fv' : Int64 → Int64 → Prop} {P P' : Int64 → Prop} {m w : MS}
/-- how large copies are: up to 500 alike -/
theorem size_pp (hv : v ≠ 45) (hh : m.2.2.2 v = h) (hh' : hp w p = h') (g : HPc h n ow kd Fv P) (hn : n ≤ 500) (hF : FVc Fv) (g' : HP h' n' ow' kd' Fv' P') (hn' : n' ≤ 500) (hp1 : p < 25) (s : ISb b h n0 h' n0') (q : TPb b n ow kd P n' ow' kd' P' t x) (hN : 6000 ≤ N) : PP (fun m2 r w2 r2 => (FR [] [] [] [45] m m2 ∧ FR [] [] [] [141] w w2) ∧ ∃ z : Nat, z ≤ 1000 ∧ (∃ f, SZc h n ow kd Fv P f t z) ∧ (∃ f, SZ h' n' ow' kd' Fv' P' f x z) ∧ r = I (z : Nat) ∧ r2 = I ((if z ≤ 500 then z else 501 : Nat))) (hm_Te_size N m v t) (fm_M_copySize N w (I (p : Nat)) x) := by
  obtain ⟨r, g1, g2⟩ := q
  obtain ⟨f, z, y⟩ := HP_szc g g1
  obtain ⟨f', z', y'⟩ := HP_sz g' g2
  have e := SZ_iso s r y y'
  subst e
  have hz := SZ_1000c g hn y
  intro m2 r1 w2 r2 e1 e2
  obtain ⟨a1, a2⟩ := pk_ok (size_ok (N := N) hv hh (by omega) hF.1 (by omega) y hN) m2 r1 e1
  obtain ⟨c1, c2⟩ := pk_ok (copySize_ok (N := N) (by rw [hh']; exact g') hn' hp1 (by rw [hh']; exact y') (by omega)) w2 r2 e2
  exact ⟨⟨a1, c1⟩, z, hz, ⟨f, y⟩, ⟨f', y'⟩, a2, c2⟩
/-- how long a list is -/
theorem len_loopP (hh : m.2.2.2 v = h) (hh' : hp w p = h') (g : HPc h n ow kd Fv P) (hn : n ≤ 512) (g' : HP h' n' ow' kd' Fv' P') (hn' : n' ≤ 500) (hp1 : p < 25) (hme : F w 133 = p) (s : ISb b h n0 h' n0') : ∀ (f1 f2 z f cn : Nat) (t x : Int64), TPb b n ow kd P n' ow' kd' P' t x → SZc h n ow kd Fv P f t z → cn + z ≤ 10000 → PP (fun m2 r w2 r2 => (m2 = m ∧ w2 = w) ∧ r = r2 ∧ (r = I (-1) ∨ ∃ k : Nat, r = I ((cn + k : Nat) : Int) ∧ 2 * k ≤ z ∧ so (tlc h t k) = 6 ∧ so (tlc h' x k) = 6 ∧ ∀ j, j < k → so (tlc h t j) = 7 ∧ TPb b n ow kd P n' ow' kd' P' (tlc h t j) (tlc h' x j))) (hg_Te_listLength N f1 m v t (I (cn : Nat))) (gg_M_lengthOf N f2 w x (I (cn : Nat))) := by
  intro f1
  induction f1 with
  | zero => intro f2 z f cn t x _ _ _; exact pp_nl
  | succ f1 ih =>
    intro f2 z f cn t x q y hc
    cases f2 with
    | zero => exact pp_nr
    | succ f2 =>
      show PP _ (hb_Te_listLength_6 N (hg_Te_listLength N f1) m v t (I (cn : Nat))) (fb_M_lengthOf_5 N (gg_M_lengthOf N f2) w x (I (cn : Nat)))
      unfold hb_Te_listLength_6 hb_Te_listLength_38 hb_Te_listLength_54 fb_M_lengthOf_5 fb_M_lengthOf_50
      have hr := so_r t
      have es := RTb_so q.1
      rw [I_lit (n := 1000000000)]
      refine l_le ⟨by decide, by decide⟩ (rgN (by omega)) (fun z => absurd z (by show ¬ (1000000000 : Int) ≤ _; omega)) (fun _ => ?_)
      rw [e_tag, bnd_so, sortOf_e, bnd_so, es, dcE hr (c := 7) (k := 7) rfl ⟨by decide, by decide⟩]
      by_cases e7 : so t = 7
      · rw [decide_eq_true e7, br_t, br_t]
        have zt : isH t := Or.inr (Or.inr e7)
        have zx := (RTb_isH q.1).mpr zt
        have bk := (HP_bkc g zt q.2.1).1
        have bk' := (HP_bk g' zx q.2.2).1
        have b2 : blk h t = 2 := by unfold blk; rw [if_pos e7]
        have b2' : blk h' x = 2 := by unfold blk; rw [if_pos (es.trans e7)]
        have pt : prt t = 0 := by unfold prt; rw [if_pos e7]
        have n1 := bk.2.2.2.1
        have n2 := bk'.2.2.2.1
        rw [b2] at n1
        rw [b2'] at n2
        rw [valI, vn_e bk.1, show I ((vn t : Nat) : Int) + 1 = I ((vn t + 1 : Nat) : Int) from addN, valueOf_e, bnd_so, vn_e bk'.1, show I ((vn x : Nat) : Int) + 1 = I ((vn x + 1 : Nat) : Int) from addN, I_F' hme, cell_e hp1 (by omega), bnd_so]
        refine l_ck (fun _ => ?_)
        rw [tnI (n := vn t + 1) rfl (by omega), hh, hh', show I ((cn : Nat) : Int) + 1 = I ((cn + 1 : Nat) : Int) from addN]
        obtain ⟨f3, c, -, k2, k3⟩ := SZ_blkc y zt
        rw [b2, pt] at k3
        have e2 : smm c 0 (2 - 0) = c 0 + c 1 := by show 0 + c (0 + 0) + c (0 + 1) = _; simp
        have qp := TPb_part s g g' zt q (j := 1) (by omega) (by omega)
        refine pp_mo (ih f2 (c 1) f3 (cn + 1) _ _ qp (k2 1 (by omega) (by omega)) (by omega)) (fun m2 r w2 r2 hq => ⟨hq.1, hq.2.1, ?_⟩)
        rcases hq.2.2 with e | ⟨k, r1, r3, r4, r5, r6⟩
        · exact Or.inl e
        · refine Or.inr ⟨k + 1, by rw [r1]; congr 1; omega, by omega, by rw [← tlc_s]; exact r4, by rw [← tlc_s]; exact r5, fun j hj => ?_⟩
          cases j with
          | zero => exact ⟨e7, q⟩
          | succ j => rw [← tlc_s, ← tlc_s]; exact r6 j (by omega)
      · rw [decide_eq_false e7, br_f, br_f, e_tag, bnd_so, sortOf_e, bnd_so, es, dcE hr (c := 6) (k := 6) rfl ⟨by decide, by decide⟩]
        by_cases e6 : so t = 6
        · rw [decide_eq_true e6, br_t, br_t]
          exact pp_end ⟨⟨rfl, rfl⟩, rfl, Or.inr ⟨0, rfl, by omega, e6, es.trans e6, fun j hj => absurd hj (Nat.not_lt_zero _)⟩⟩
        · rw [decide_eq_false e6, br_f, br_f]
          exact pp_end ⟨⟨rfl, rfl⟩, rfl, Or.inl rfl⟩
theorem len_pp (hh : m.2.2.2 v = h) (hh' : hp w p = h') (g : HPc h n ow kd Fv P) (hn : n ≤ 500) (g' : HP h' n' ow' kd' Fv' P') (hn' : n' ≤ 500) (hp1 : p < 25) (hme : F w 133 = p) (s : ISb b h n0 h' n0') (q : TPb b n ow kd P n' ow' kd' P' t x) : PP (fun m2 r w2 r2 => (m2 = m ∧ w2 = w) ∧ r = r2 ∧ (r = I (-1) ∨ ∃ k : Nat, r = I (k : Nat) ∧ k ≤ 500 ∧ so (tlc h t k) = 6 ∧ so (tlc h' x k) = 6 ∧ ∀ j, j < k → so (tlc h t j) = 7 ∧ TPb b n ow kd P n' ow' kd' P' (tlc h t j) (tlc h' x j))) (hm_Te_listLength N m v t) (fm_M_lengthOf N w x) := by
  obtain ⟨f, z, y⟩ := HP_szc g q.2.1
  have hz := SZ_1000c g hn y
  refine pp_mo (len_loopP (N := N) hh hh' g (by omega) g' hn' hp1 hme s N N z f 0 t x q y (by omega)) (fun m2 r w2 r2 hq => ⟨hq.1, hq.2.1, ?_⟩)
  rcases hq.2.2 with e | ⟨k, r1, r3, r4⟩
  · exact Or.inl e
  · exact Or.inr ⟨k, by rw [r1, Nat.zero_add], by omega, r4⟩
end
