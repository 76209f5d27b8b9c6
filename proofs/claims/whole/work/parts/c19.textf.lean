/-! the text of a term, there: all of it -/
set_option maxRecDepth 100000
section
variable {h : Nat → Int64} {N j base top w b k z : Nat} {m0 m m2 u : MS} {L M T : List Int32} {t x : Int64}
theorem OUs_more (hl : 100 ≤ L.length) (o : OUs j base m0 m L) : OUs j base m0 m (L ++ M) := by
  obtain ⟨o1, o2, o3, o4⟩ := o
  have e : min (L ++ M).length 100 = min L.length 100 := by rw [List.length_append]; omega
  refine ⟨o1, by rw [e]; exact o2, fun i hi => ?_, o4⟩
  rw [e] at hi
  rw [getD_app1 (by omega)]
  exact o3 i hi
theorem LFs_so (n : Int) : ∀ t, LFs n t → so t ≠ 11 := fun _ q => q.1
theorem LFs_sg (n : Int) : ∀ c : Int, LFs n (mk 10 c) := fun c => by
  unfold LFs
  rw [so_mk (by decide) (by decide)]
  exact ⟨by decide, fun q => absurd q (by decide)⟩
theorem loop_s (hb : b ≠ 45) (hh : m0.2.2.2 b = h) (hO : OUh j base m0) (hA : WDc m0 1) : ∀ (g top cn w : Nat) (m : MS) (L : List Int32), OUs j base m0 m L → STs h (LFs (F m0 22)) (m.2.2.2 45) top w → w + cn ≤ 2041 → L ++ PNs h (ATc m0) (m.2.2.2 45) top = T → PK (fun m2 r => OUs j base m0 m2 T ∧ r = I ((min T.length 100 : Nat) : Int)) (hg_Te_text N g m b (I top) (I cn)) := by
  intro g
  induction g with
  | zero => intro top cn w m L _ _ _ _; exact pk_none
  | succ g ih =>
    intro top cn w m L o s hw hT
    have tl := STs_le s
    show PK _ (hb_Te_text_30 N (hg_Te_text N g) m b (I top) (I cn))
    unfold hb_Te_text_30 hb_Te_text_174
    have fin : OUs j base m0 m T → PK (fun m2 r => OUs j base m0 m2 T ∧ r = I ((min T.length 100 : Nat) : Int)) (some (m, m.1 866)) := fun q => pk_some ⟨q, by rw [← q.2.1]; exact I_F⟩
    rw [m1I, lit0, show (1000000000 : Int32) = I 1000000000 from rfl, show (5 : Int32) = I 5 from rfl, show (7 : Int32) = I 7 from rfl, show (11 : Int32) = I 11 from rfl]
    refine p_le ⟨by decide, by decide⟩ ⟨by omega, by omega⟩ (fun c => absurd c (by omega)) (fun c1 => ?_)
    refine p_le ⟨by omega, by omega⟩ ⟨by decide, by decide⟩ (fun c => fin ?_) (fun c2 => ?_)
    · have e0 : top = 0 := by omega
      rw [e0] at hT
      have hT : L ++ [] = T := hT
      rw [List.append_nil] at hT
      rw [← hT]
      exact o
    refine pk_br (fun c => fin ?_) (fun _ => ?_)
    · have f6 := o.2.1
      have c3 : (100 : Int) ≤ F m 866 := by
        rw [I_F (k := 866), show (100 : Int32) = I 100 from rfl, decI (by decide) (by decide) (by omega) (by omega)] at c
        exact of_decide_eq_true c
      rw [← hT]
      exact OUs_more (by omega) o
    obtain ⟨q, rfl⟩ : ∃ q, top = q + 1 := ⟨top - 1, by omega⟩
    have e1 : I (((q + 1 : Nat) : Int)) + I (-1) = I ((q : Nat) : Int) := by rw [I_add]; congr 1; omega
    rw [e1]
    refine pk_ck (fun _ => ?_)
    rw [tnI (n := q) rfl (by omega), e_tag, bnd_so, valI]
    obtain ⟨w2, s2, s3⟩ := s
    have hm := FRh hb hh o
    have nxt : ∀ (m3 : MS) (L3 : List Int32) (tp w3 : Nat), OUs j base m0 m3 L3 → STs h (LFs (F m0 22)) (m3.2.2.2 45) tp w3 → w3 + 1 ≤ w → L3 ++ PNs h (ATc m0) (m3.2.2.2 45) tp = T → PK (fun m2 r => OUs j base m0 m2 T ∧ r = I ((min T.length 100 : Nat) : Int)) (hb_Te_text_168 N (hg_Te_text N g) m3 b (I tp) (I cn)) := by
      intro m3 L3 tp w3 o3 t3 hw3 hT3
      unfold hb_Te_text_168
      rw [lit1, I_add, show ((cn : Nat) : Int) + 1 = ((cn + 1 : Nat) : Int) by omega]
      exact ih tp (cn + 1) w3 m3 L3 o3 t3 (by omega) hT3
    have hr := so_r (m.2.2.2 45 q)
    refine p_eq hr ⟨by decide, by decide⟩ (fun e5 => ?_) (fun n5 => p_eq hr ⟨by decide, by decide⟩ (fun e7 => ?_) (fun n7 => p_eq hr ⟨by decide, by decide⟩ (fun e11 => ?_) (fun n11 => ?_)))
    · have e5 : so (m.2.2.2 45 q) = 5 := e5
      rcases s3 with ⟨y, -⟩ | ⟨y, k, z, y2, y3, y4⟩
      · omega
      rw [PNs_top y, TXs_tup (A := ATc m0) y2 (by omega) e5] at hT
      refine pk_bnd (pk_mo (write_s hO o) (fun m3 r q3 => ?_))
      obtain ⟨o3, r3⟩ := q3
      refine pk_bnd (pk_mo (toTup_s (N := N) (B := ATc m0) (w := w2) hb hh (LFs_so _) (LFs_sg _) o3 (by rw [r3]; exact s2) y2 y3 e5 (by omega)) (fun m4 r q4 => ?_))
      obtain ⟨tp, rfl, o4, s4, p4⟩ := q4
      refine nxt m4 _ tp _ o4 s4 (by omega) ?_
      rw [p4, r3, ← hT]
      simp
    · have e7 : so (m.2.2.2 45 q) = 7 := e7
      rcases s3 with ⟨y, -⟩ | ⟨y, k, z, y2, y3, y4⟩
      · omega
      rw [PNs_top y, (TXs_pair (A := ATc m0) y2 (by omega) e7).1] at hT
      refine pk_bnd (pk_mo (write_s hO o) (fun m3 r q3 => ?_))
      obtain ⟨o3, r3⟩ := q3
      refine pk_bnd (pk_mo (toPair_s (N := N) (B := ATc m0) (w := w2) hb hh (LFs_so _) o3 (by rw [r3]; exact s2) y2 y3 e7 (by omega)) (fun m4 r q4 => ?_))
      obtain ⟨rfl, o4, s4, p4⟩ := q4
      refine nxt m4 _ (q + 3) _ o4 s4 (by omega) ?_
      rw [p4, r3, ← hT]
      simp
    · have e11 : so (m.2.2.2 45 q) = 11 := e11
      rcases s3 with ⟨-, y2, i, rfl, y3⟩ | ⟨y, -⟩
      · obtain ⟨w3, s4, s5⟩ := s2
        rcases s5 with ⟨y, -⟩ | ⟨y, k, z, y4, y5, y6⟩
        · exact absurd y y3
        rw [PNs_rest e11] at hT
        rw [lit1, I_sub, show ((i + 1 : Nat) : Int) - 1 = ((i : Nat) : Int) by omega]
        refine pk_bnd (pk_mo (toRest_s (N := N) (B := ATc m0) hb hh (LFs_so _) (LFs_sg _) hO o s4 y4 y5 (by omega)) (fun m4 r q4 => ?_))
        obtain ⟨tp, L4, rfl, o4, s4, p4⟩ := q4
        refine nxt m4 _ tp _ o4 s4 (by omega) ?_
        rw [p4]
        exact hT
      · exact absurd e11 y
    · have n5 : so (m.2.2.2 45 q) ≠ 5 := n5
      have n7 : so (m.2.2.2 45 q) ≠ 7 := n7
      have n11 : so (m.2.2.2 45 q) ≠ 11 := n11
      rcases s3 with ⟨y, -⟩ | ⟨y, k, z, y2, y3, y4⟩
      · exact absurd y n11
      rw [PNs_top y, TXs_al (A := ATc m0) n5 n7] at hT
      refine pk_bnd (pk_mo (alone_s (N := N) hO hA n5 (fun e => ?_) o) (fun m3 r q3 => ?_))
      · cases k with
        | zero => exact y2.elim
        | succ k =>
          rcases y2 with ⟨-, y5, -⟩ | ⟨y1, -⟩
          · exact y5.2 e
          · unfold isH at y1
            omega
      obtain ⟨o3, r3⟩ := q3
      refine nxt m3 _ q w2 o3 (by rw [r3]; exact s2) (by omega) ?_
      rw [r3, List.append_assoc]
      exact hT
/-- the text of a term is written: how long it is, its signs -/
theorem text_s {fr : Nat} (hA : WDc u 1) (hb : b ≠ 45) (hh : u.2.2.2 b = h) (y : SZp h (LFs (F u 22)) k t z) (hz : z ≤ 1020) (hj : j = 52 ∨ j = 56) (hf : fr + 100 ≤ bl j) : PK (fun m2 r => FR [1964, 865, 866] [] [j] [45] u m2 ∧ r = I ((min (TXs h (ATc u) t).length 100 : Nat) : Int) ∧ (∀ i, i < min (TXs h (ATc u) t).length 100 → m2.2.2.1 j (fr + i) = byS8 ((TXs h (ATc u) t).getD i 0)) ∧ ∀ i, ¬ (fr ≤ i ∧ i < fr + 100) → m2.2.2.1 j i = u.2.2.1 j i) (hm_Te_text N u b t j (I ((fr : Nat) : Int))) := by
  unfold hm_Te_text hb_Te_text_0
  have hjl : j < 100 := by rcases hj with rfl | rfl <;> decide
  have hbl : bl j ≤ 20000 := by rcases hj with rfl | rfl <;> decide
  refine pk_lt (pk_lt (pk_lt (pk_ck (fun _ => pk_lt ?_))))
  rw [show Int32.ofNat j = I (j : Int) from rfl, wi_e, wi_e, lit0, wi_e, show (I 0).toNatClampNeg = 0 from rfl, wj_e, lit1, show (0 : Int) = ((0 : Nat) : Int) from rfl, show (1 : Int) = ((1 : Nat) : Int) from rfl]
  generalize hz2 : wj (wi (wi (wi u 1964 (j : Int)) 865 ((fr : Nat) : Int)) 866 ((0 : Nat) : Int)) 45 0 t = y0
  have fz : FR [1964, 865, 866] [] [] [45] u y0 := by rw [← hz2]; exact FR.wj (FR.wi (FR.wi (FR.wi FR.rf (by simp)) (by simp)) (by simp)) (by simp)
  have eA : ATc y0 = ATc u := by rw [← hz2]; rfl
  have e22 : F y0 22 = F u 22 := FR.F fz (by simp)
  have hO : OUh j fr y0 := by
    refine ⟨?_, ?_, hf, hbl, hj⟩
    · rw [← hz2]
      show rf (I (j : Int)) = some j
      exact rf_ofNat (by omega)
    · rw [← hz2, F_wj, F_wi (by decide) (by decide), if_neg (by decide), F_wi (by omega) (by omega), if_pos rfl]
  have o0 : OUs j fr y0 y0 [] := by
    refine ⟨FR.rf, ?_, fun i hi => absurd hi (by simp), fun _ _ => rfl⟩
    rw [← hz2, F_wj, F_wi (by decide) (by decide), if_pos rfl]
    rfl
  have r0 : y0.2.2.2 45 0 = t := by rw [← hz2, wj_row, if_pos rfl]
  have n11 : so t ≠ 11 := SZp_so y (LFs_so _)
  have s0 : STs h (LFs (F y0 22)) (y0.2.2.2 45) 1 2041 := ⟨0, trivial, Or.inr ⟨by rw [r0]; exact n11, k, z, by rw [r0, e22]; exact y, hz, by omega⟩⟩
  have hh2 : y0.2.2.2 b = h := by rw [FRj fz (by simpa using hb)]; exact hh
  refine pk_mo (loop_s (N := N) (T := TXs h (ATc y0) t) hb hh2 hO (WDc_fr hA fz (by simp) (by simp)) N 1 0 2041 y0 [] o0 s0 (by omega) ?_) (fun m2 r q => ?_)
  · show [] ++ (if so (y0.2.2.2 45 0) = 11 then [93] else TXs h (ATc y0) (y0.2.2.2 45 0)) = _
    rw [r0, if_neg n11]
    rfl
  · obtain ⟨⟨q1, q2, q3, q4⟩, q5⟩ := q
    rw [eA] at q3 q5
    refine ⟨FR.tr (FR.mo fz (by simp) (by simp) (by simp) (by simp)) (FR.mo q1 (by simp) (by simp) (by simp) (by simp)), q5, q3, fun i hi => ?_⟩
    rw [q4 i hi, ← hz2]
    rfl
end
