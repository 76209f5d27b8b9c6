set_option maxRecDepth 100000
def UND (w : MS) (x : Nat) : Prop := w.2.2.1 16 (x + 1) - w.2.2.1 16 x = 1 ∧ w.2.2.1 15 (w.2.2.1 16 x).toNatClampNeg = 95
def WNQ (K : Nat → Nat) (T p : Nat) (sc2 : SCT) (lg : Int32) (w v : MS) : Prop := WP v K T p ∧ RNs v sc2 ∧ v.1 66 = lg ∧ (∀ k, k ∉ [32, 39, 66, 69] → v.1 k = w.1 k) ∧ ∀ k, k < 23 ∨ 65 ≤ k → v.2.2.1 k = w.2.2.1 k
section
variable {w v u : MS} {K : Nat → Nat} {nm : Nat → Nat} {sc t : SCT} {e : List Nat × List Nat × Nat} {s x y N T p : Nat}
theorem RNl_e : ∀ {sc : SCT}, RNl w sc → v.2.2.1 59 = w.2.2.1 59 → v.2.2.1 60 = w.2.2.1 60 → v.2.2.1 61 = w.2.2.1 61 → v.2.2.1 63 = w.2.2.1 63 → v.2.2.1 64 = w.2.2.1 64 → RNl v sc
  | [], _, _, _, _, _, _ => trivial
  | e :: t, h, a, b, c, d, f => ⟨⟨by rw [b]; exact h.1.1, by rw [a]; exact h.1.2.1, by rw [d]; exact h.1.2.2.1, by rw [c]; exact h.1.2.2.2.1, by rw [f]; exact h.1.2.2.2.2⟩, RNl_e h.2 a b c d f⟩
theorem RNs_e (h : RNs w sc) (h65 : v.1 65 = w.1 65) (hr : ∀ k, 59 ≤ k → k ≤ 64 → v.2.2.1 k = w.2.2.1 k) : RNs v sc := ⟨by rw [h65]; exact h.1, h.2.1, RNl_e h.2.2.1 (hr _ (by decide) (by decide)) (hr _ (by decide) (by decide)) (hr _ (by decide) (by decide)) (hr _ (by decide) (by decide)) (hr _ (by decide) (by decide)), h.2.2.2⟩
theorem WP_e {q : Nat} (h : WP w K T p) (h69 : v.1 69 = I (q : Nat)) (hq : q ≤ T) (h6 : v.2.2.1 6 = w.2.2.1 6) (h7 : v.2.2.1 7 = w.2.2.1 7) : WP v K T q := ⟨⟨h.1.1, by rw [h6]; exact h.1.2.1, by rw [h7]; exact h.1.2.2⟩, h69, hq⟩
theorem und_p (hx : x < 1400) (hp : p ≤ 4001) (h7 : w.2.2.1 7 p = I (x : Nat)) : PK (fun v r => v = w ∧ ((r = 1 ∧ UND w x) ∨ (r = 0 ∧ ¬ UND w x))) (fm_M_isUnderscore N w (I (p : Nat))) := by
  unfold fm_M_isUnderscore fb_M_isUnderscore_0 fb_M_isUnderscore_46 fb_M_isUnderscore_47
  rw [tnI (n := p) rfl (by omega), h7, i_suc, tnI (n := x + 1) rfl (by omega), tnI (n := x) rfl (by omega)]
  refine pk_ck (fun _ => pk_ck (fun _ => pk_ck (fun _ => pk_br (fun h1 => ?_) (fun h1 => ?_))))
  · refine pk_ck (fun _ => pk_ck (fun _ => pk_br (fun h2 => ?_) (fun h2 => ?_)))
    · exact pk_ck (fun _ => pk_some ⟨rfl, Or.inl ⟨rfl, of_decide_eq_true h1, of_decide_eq_true h2⟩⟩)
    · exact pk_ck (fun _ => pk_some ⟨rfl, Or.inr ⟨rfl, fun z => of_decide_eq_false h2 z.2⟩⟩)
  · exact pk_ck (fun _ => pk_some ⟨rfl, Or.inr ⟨rfl, fun z => of_decide_eq_false h1 z.1⟩⟩)
theorem nP_105 {sc2 : SCT} {lg r : Int32} (q : WNQ K T p sc2 lg w v) (hl : p < T) : PK (fun u _ => WNQ K T (p + 1) sc2 lg w u) (fb_M_namePattern_105 N () v r) := by
  obtain ⟨q1, q2, q3, q4, q5⟩ := q
  unfold fb_M_namePattern_105
  refine pk_lt (pk_some ⟨WP_e q1 (by rw [upI_at, q1.2.1, i_suc]) hl rfl rfl, RNs_e q2 (upI_ne (by decide)) (fun _ _ _ => rfl), by rw [upI_ne (by decide)]; exact q3, fun k hk => ?_, q5⟩)
  rw [upI_ne (fun z => hk (by rw [z]; decide))]
  exact q4 k hk
theorem nP_104 {sc2 : SCT} {lg r a b : Int32} (q : WNQ K T p sc2 lg w v) (hl : p < T) : PK (fun u _ => WNQ K T (p + 1) sc2 lg w u) (fb_M_namePattern_104 N () v r 35 a b) := by
  obtain ⟨q1, q2, q3, q4, q5⟩ := q
  unfold fb_M_namePattern_104
  refine pk_ck (fun _ => pk_ck (fun _ => pk_lt (nP_105 ⟨WP_e q1 q1.2.1 q1.2.2 (upA_no (by decide)) (upA_no (by decide)), RNs_e q2 rfl (fun k h1 h2 => upA_no (by omega)), q3, q4, fun k hk => ?_⟩ hl)))
  rw [upA_no (by omega)]
  exact q5 k hk
theorem pat_q {sc2 : SCT} {lg r : Int32} (q : WNQ K T p sc2 lg w v) : PK (fun u _ => WNQ K T p sc2 lg w u ∧ u.2.2.1 7 = v.2.2.1 7 ∧ Krc v u) (fm_M_pattern N v r) := fun u r1 e1 => by
  obtain ⟨q1, q2, q3, q4, q5⟩ := q
  have f := yr_fm_M_pattern (u0 := v) Kr_rf u r1 e1
  exact ⟨⟨WP_e q1 (by rw [f.1 69 (by decide)]; exact q1.2.1) q1.2.2 (f.2 6 (by decide)) (f.2 7 (by decide)), RNs_e q2 (f.1 65 (by decide)) (fun k h1 h2 => f.2 k (by omega)), by rw [f.1 66 (by decide)]; exact q3, fun k hk => by rw [f.1 k (by simp only [List.mem_cons, List.not_mem_nil, or_false] at hk ⊢; omega)]; exact q4 k hk, fun k hk => by rw [f.2 k (by omega)]; exact q5 k hk⟩, f.2 7 (by decide), f⟩
def lgX (e : List Nat × List Nat × Nat) (X : Nat) (g : Int32) : Int32 := if 0 < X ∧ 40 < max e.2.2 X then 1 else g
theorem WNQ_0 (h : WP w K T p) (hn : RNs w sc) : WNQ K T p sc (w.1 66) w w := ⟨h, hn, rfl, fun _ _ => rfl, fun _ _ => rfl⟩
theorem nP_61 {own : Bool} {r : Int32} (hr : (r = -1 ∧ rfP own x (e :: t) = bnS x (e :: t) ∧ rfX own x (e :: t) = e.1.length + 1 ∧ x ∉ e.1 ∧ WNQ K T p (e :: t) (w.1 66) w v) ∨ (r ≠ -1 ∧ rfX own x (e :: t) = 0 ∧ WNQ K T p (rfP own x (e :: t)) (w.1 66) w v)) (hl : p < T) (hx : x < 1400) (h7 : v.2.2.1 7 p = I (x : Nat)) : PK (fun u _ => WNQ K T (p + 1) (rfP own x (e :: t)) (lgX e (rfX own x (e :: t)) (w.1 66)) w u) (fb_M_namePattern_61 N () v r) := by
  unfold fb_M_namePattern_61 fb_M_namePattern_73
  rcases hr with ⟨h1, h2, h3, h4, q⟩ | ⟨h1, h3, q⟩
  · rw [decide_eq_true h1]
    rw [br_tq]
    refine pk_bnd (pk_mo (pat_q (N := N) q) (fun u3 r3 q3 => ?_))
    obtain ⟨⟨a1, a2, a3, a4, a5⟩, b7, -⟩ := q3
    rw [br_tq]
    refine pk_ck (fun _ => ?_)
    have tp := a1.1.1.1
    rw [(WP_i a1).2.1, b7, h7]
    refine pk_bnd (pk_mo (bind_m (N := N) a2 hx h4) (fun u4 r4 q4 => ?_))
    obtain ⟨c1, c2, c3, c4⟩ := q4
    refine nP_104 ⟨WP_e a1 (by rw [c3 69 (by decide)]; exact a1.2.1) a1.2.2 (c4 6 (by decide) (by decide) (by decide)) (c4 7 (by decide) (by decide) (by decide)), by rw [h2]; exact c1, ?_, fun k hk => ?_, fun k hk => ?_⟩ hl
    · rw [c2, a3, h3]
      unfold lgX
      by_cases z : 40 < max e.2.2 (e.1.length + 1)
      · rw [if_pos z, if_pos ⟨by omega, z⟩]
      · rw [if_neg z, if_neg (fun y => z y.2)]
    · rw [c3 k (fun z => hk (by rw [z]; decide))]; exact a4 k hk
    · rw [c4 k (by omega) (by omega) (by omega)]; exact a5 k hk
  · rw [decide_eq_false h1]
    rw [br_fq]
    refine pk_bnd (pk_mo (pat_q (N := N) q) (fun u3 r3 q3 => ?_))
    rw [br_fq]
    refine pk_mo (nP_104 q3.1 hl) (fun u _ q => ?_)
    rw [h3]
    unfold lgX
    rw [if_neg (fun z => absurd z.1 (by omega))]
    exact q
theorem nP_m {own : Bool} {v1 : Int32} (h : WP w K T p) (hl : p < T) (hn : RNs w (e :: t)) (h7 : w.2.2.1 7 p = I (x : Nat)) (hx : x < 1400) (hu : UND w x ↔ nm x = 0) (ho : decide (v1 = 0) = !own) : PK (fun u _ => (nm x = 0 ∧ WNQ K T (p + 1) (e :: t) (w.1 66) w u) ∨ (nm x ≠ 0 ∧ WNQ K T (p + 1) (rfP own x (e :: t)) (lgX e (rfX own x (e :: t)) (w.1 66)) w u)) (fm_M_namePattern N w v1) := by
  have tp := h.1.1.1
  obtain ⟨hi, hp, -⟩ := WP_i h
  obtain ⟨n1, n2, n3, n4⟩ := id hn
  have n2 : 1 ≤ t.length + 1 ∧ t.length + 1 ≤ 27 := n2
  have n1 : w.1 65 = I (t.length : Nat) := n1
  unfold fm_M_namePattern fb_M_namePattern_0
  rw [h.2.1]
  refine pk_bnd (pk_mo (und_p (N := N) hx (by omega) h7) (fun v r q => ?_))
  obtain ⟨rfl, q⟩ := q
  rcases q with ⟨q1, q2⟩ | ⟨q1, q2⟩
  · rw [q1]
    show PK _ (bnd (fm_M_pattern N v 0) _)
    refine pk_bnd (pk_mo (pat_q (N := N) (WNQ_0 h hn)) (fun u3 r3 q3 => ?_))
    exact pk_mo (nP_105 q3.1 hl) (fun u _ q => Or.inl ⟨hu.mp q2, q⟩)
  · have nx : nm x ≠ 0 := fun z => q2 (hu.mpr z)
    rw [q1]
    show PK _ (br (decide (v1 = 0)) _ _)
    rw [ho]
    cases own with
    | false =>
      show PK _ (ck _ _)
      refine pk_ck (fun _ => ?_)
      rw [h.2.1, tnI (n := p) rfl (by omega), h7, n1]
      refine pk_bnd (pk_mo (fnd_d (N := N) hx 30 (e :: t) v n3 n4 (fun z => by cases z) (by show t.length + 1 ≤ 27; omega)) (fun u r q => ?_))
      rcases q with ⟨q1, q2, q3⟩ | ⟨q1, q2, ⟨q3, q4⟩, -, q5⟩
      · have ex : x ∉ e.1 := fun z => by
          have : fnb x (e :: t) = true := fnb_e.mpr ⟨e, List.mem_cons_self, z⟩
          rw [q3] at this
          cases this
        rw [q2]
        exact pk_mo (nP_61 (N := N) (own := false) (Or.inl ⟨q1, (rf_n q3).1, (rf_n q3).2.1, ex, WNQ_0 h hn⟩) hl hx h7) (fun u _ q => Or.inr ⟨nx, q⟩)
      · have wq : WNQ K T p (hld x (e :: t)) (v.1 66) v u := ⟨WP_e h (by rw [q3]; exact h.2.1) h.2.2 (q4 6 (by decide)) (q4 7 (by decide)), ⟨by rw [q3, n1, hld_len]; rfl, by rw [hld_len]; exact n2, q5, hld_ok n4⟩, q3 66, fun k _ => q3 k, fun k hk => q4 k (by omega)⟩
        refine pk_mo (nP_61 (N := N) (own := false) (Or.inr ⟨q1, (rf_y q2).2.1, by rw [(rf_y q2).1]; exact wq⟩) hl hx (by rw [q4 7 (by decide)]; exact h7)) (fun u _ q => Or.inr ⟨nx, q⟩)
    | true =>
      show PK _ (ck _ _)
      refine pk_ck (fun _ => ?_)
      rw [h.2.1, tnI (n := p) rfl (by omega), h7, n1]
      refine pk_bnd (pk_mo (bIn_p (N := N) n3.1 (by omega) n4.1.1 n4.1.2.1 hx) (fun u r q => ?_))
      obtain ⟨rfl, q⟩ := q
      rcases q with ⟨q1, q2⟩ | ⟨j, q1, q2, q3⟩
      · have c0 : e.1.contains x = false := by simpa using q2
        exact pk_mo (nP_61 (N := N) (own := true) (Or.inl ⟨q1, (ro_n c0).1, (ro_n c0).2.1, q2, WNQ_0 h hn⟩) hl hx h7) (fun u _ q => Or.inr ⟨nx, q⟩)
      · have c0 := List.contains_iff_mem.mpr q3
        refine pk_mo (nP_61 (N := N) (own := true) (Or.inr ⟨by rw [q1]; exact nat_ne (by omega), (ro_y c0).2.1, by rw [(ro_y c0).1]; exact WNQ_0 h hn⟩) hl hx h7) (fun u _ q => Or.inr ⟨nx, q⟩)
end
