/-! patterns, here: a minus, a NAME -/
set_option maxRecDepth 100000
/-- what a NAME has become -/
def NQp (nm : Nat → Nat) (own : Bool) (x : Nat) (sc sc2 : SCT) (w2 : MS) (pi : Nat) : Prop := w2.2.2.1 37 pi = -1 ∧ ((nm x = 0 ∧ sc2 = sc ∧ A w2 33 pi = 0) ∨ (nm x ≠ 0 ∧ sc2 = rfP own x sc ∧ ((rfL own x sc = 32 ∧ x ∉ (hdS sc).1 ∧ sc2 = bnS x sc ∧ A w2 33 pi = 1) ∨ (rfL own x sc ≠ 32 ∧ (hdS sc2).1 = (hdS sc).1 ∧ A w2 33 pi = 2 ∧ LKt sc2 x (A w2 35 pi)))))
section
variable {α : Type} {m0 w0 m w v u M : MS} {K nm Nk : Nat → Nat} {T p pi N x : Nat} {sc t : SCT} {e : List Nat × List Nat × Nat} {own : Bool} {S : SG_M_rowPattern} {v1 v2 r : Int32} {R : MS → α → MS → Int32 → Prop} {A' : Option (MS × α)}
theorem LKt_ti {i : Int} (ok : SOK sc) (h : LKt sc x i) : LKt sc x (I i).toInt := by
  cases sc with
  | nil => exact h.elim
  | cons e t =>
    obtain ⟨⟨n1, n2, n3, n4, n5, n6, n7⟩, ok2⟩ := ok
    have l1 := nd_len 1400 _ n1 n2
    rcases h with ⟨k, a, b⟩ | ⟨a, ⟨k, b, c⟩ | b⟩
    · have := (List.getElem?_eq_some_iff.mp b).1
      exact Or.inl ⟨k, by rw [a]; exact I_ti (by omega) (by omega), b⟩
    · have := (List.getElem?_eq_some_iff.mp c).1
      exact Or.inr ⟨a, Or.inl ⟨k, by rw [b]; exact I_ti (by omega) (by omega), c⟩⟩
    · exact Or.inr ⟨a, Or.inr b⟩
theorem rp_neg (c : CTZ m0 w0 K T nm Nk) (hR : PRd w0 T w p pi sc) (hk : K p = 34) (hk1 : K (p + 1) = 1) (hh : ∀ w2, PRd w0 T w2 (p + 2) (pi + 1) sc → RFP w w2 pi → p + 1 < T → pi < 5000 → w2.2.2.1 37 pi = -1 ∧ A w2 33 pi = 3 ∧ w2.2.2.2 34 pi = mk 0 (-(w0.2.2.1 7 (p + 1))).toInt → PP R A' (some (w2, I (pi : Nat)))) : PP R A' (km_M_patternAt N S w v1) := by
  have hw := PRS_w c hR
  have hl0 : p < T := c.2.1.1.lt hR.2.1.2 (by omega) (by omega)
  have hl : p + 1 < T := c.2.1.1.lt hl0 (by omega) (by omega)
  have t4 := c.2.1.1.1
  refine kpA hw hR.2.2.1 (by rw [hk]; rfl) ?_
  rw [if_pos hk]
  have hM := PRS_70 (x := w.1 70 + 1) hR
  have er : (upI w 70 (w.1 70 + 1)).2.2.1 = w.2.2.1 := rfl
  have cl : ∀ (v : MS) (pi : Nat), RFP (upI w 70 (w.1 70 + 1)) v pi → RFP w (upI v 70 (v.1 70 - 1)) pi := fun v pi h => cl70 h
  generalize upI w 70 (w.1 70 + 1) = M at hM er cl
  have hM1 := PRS_w c hM
  obtain ⟨a, b, -⟩ := WP_i hM1
  have s2 : decide (M.2.2.1 6 p = 2) = decide (K p = 3) := srt_dc hM1 srK_2
  have h39 := hM.2.2.2.2.2.1
  have hp5 := hM.2.2.2.2.2.2
  have h69 := hM.2.1.1
  unfold kpB
  refine r_ck (fun _ => ?_)
  rw [b, s2, decide_eq_false (by omega), br_f, show decide ((1 : Int32) = 0) = false from rfl, br_f]
  unfold kb_M_patternAt_160 kb_M_patternAt_178 kb_M_patternAt_199
  rw [show decide ((1 : Int32) = 0) = false from rfl, br_f]
  refine r_lt (r_ck (fun _ => ?_))
  rw [h69, i_suc]
  have hV : PRd w0 T (upI M 69 (I ((p + 1 : Nat) : Int))) (p + 1) pi sc := PRS_k hM (fun k h1 h2 h3 => upI_ne h3) (fun _ _ => rfl) upI_at hl0 (by rw [upI_ne (by decide)]; exact h39) hp5
  have fV : RFP M (upI M 69 (I ((p + 1 : Nat) : Int))) pi := RFP_I RFP_rf (Or.inr (Or.inr rfl))
  have eV : (upI M 69 (I ((p + 1 : Nat) : Int))).2.2.1 = w.2.2.1 := er
  generalize upI M 69 (I ((p + 1 : Nat) : Int)) = V at hV fV eV
  have hV1 := PRS_w c hV
  have s4 : decide (V.2.2.1 6 (p + 1) = 4) = decide (K (p + 1) = 1) := srt_dc hV1 srK_4
  have v69 := hV.2.1.1
  rw [v69, i_nt (p := p + 1) (by omega), s4, decide_eq_true hk1, br_t]
  refine r_pat hV.2.2.2.2.2.1 hp5 rfl (fun h5 => ?_)
  have n1 : RFP M (nPd V pi 3) pi := RFP_P fV (Nat.le_refl _)
  have n2 : ∀ k, k < 33 ∨ 38 < k → (nPd V pi 3).2.2.1 k = w.2.2.1 k := fun k hk => by rw [nwP_r hk, eV]
  have n3 : (nPd V pi 3).1 69 = I ((p + 1 : Nat) : Int) := by rw [nwP_i (by decide)]; exact v69
  have n4 : (nPd V pi 3).1 39 = I ((pi + 1 : Nat) : Int) := nwP_n
  have n6 := nwP_at (w := V) (p := pi) (k := 3)
  have n5 : (nPd V pi 3).2.2.1 7 (p + 1) = w0.2.2.1 7 (p + 1) := by rw [n2 7 (by omega), hR.1.2 7 (by decide)]
  generalize nPd V pi 3 = v at n1 n2 n3 n4 n5 n6
  rw [br_f, n3, i_nt (p := p + 1) (by omega), n5]
  refine r_ck (fun _ => ?_)
  unfold kb_M_patternAt_239
  rw [term0_e, bnd_s]
  refine r_ck (fun _ => r_ck (fun _ => r_lt (r_lt ?_)))
  rw [i_nt2 (by omega)]
  unfold kb_M_patternAt_388
  refine r_lt ?_
  have f1 : RFP M (upI (upJ v 34 (vp_updL (v.2.2.2 34) pi (mk 0 (-(w0.2.2.1 7 (p + 1))).toInt))) 69 (I ((p + 2 : Nat) : Int))) pi := RFP_I (RFP_J n1 (Nat.le_refl _)) (Or.inr (Or.inr rfl))
  have f2 := cl _ _ f1
  have e69 : (upJ v 34 (vp_updL (v.2.2.2 34) pi (mk 0 (-(w0.2.2.1 7 (p + 1))).toInt))).1 69 + 1 = I ((p + 2 : Nat) : Int) := by
    show v.1 69 + 1 = _
    rw [n3, i_suc]
  rw [e69]
  refine hh _ (PRS_k hR f2.1 (fun k hk => n2 k hk) (by rw [upI_ne (by decide)]; exact upI_at) (by omega) (by rw [upI_ne (by decide), upI_ne (by decide)]; exact n4) (by omega)) f2 hl h5 ⟨n6.2.2.2.1, ?_, ?_⟩
  · show (v.2.2.1 33 pi).toInt = 3
    rw [n6.1]; rfl
  · show (upJ v 34 _).2.2.2 34 pi = _
    rw [upJ_at, updL_at]
/-- bind() of the reference -/
theorem HFl_bn (h : HFl w (e :: t)) (h62 : v.2.2.1 62 = w.2.2.1 62) (ok : SOK t) : HFl v (bnS x (e :: t)) := ⟨fun k y hk => by rw [h62]; exact h.1 k y hk, HFl_fr ok h.2 (fun j _ => by rw [h62])⟩
theorem RFP_n {w2 : MS} (h : RFP w v pi) (hi : ∀ k, k ≠ 66 → w2.1 k = v.1 k) (hr : ∀ k, k < 59 ∨ 64 < k → w2.2.2.1 k = v.2.2.1 k) (hj : w2.2.2.2 = v.2.2.2) : RFP w w2 pi := ⟨fun k h1 h2 h3 => by rw [hi k h2]; exact h.1 k h1 h2 h3, fun k hk => by rw [hr k (by omega)]; exact h.2.1 k hk, fun k q hq hk => by rw [hr k (by omega)]; exact h.2.2.1 k q hq hk, fun k q hq => by rw [hj]; exact h.2.2.2 k q hq⟩
theorem PRS_n {w2 : MS} {sc2 : SCT} (h : PRd w0 T w p pi sc) (hi : ∀ k, k ≠ 66 → w2.1 k = w.1 k) (hr : ∀ k, k < 59 → w2.2.2.1 k = w.2.2.1 k) (hn : RNs w2 sc2) (hf : HFl w2 sc2) : PRd w0 T w2 p pi sc2 := by
  obtain ⟨h1, h2, h3, h4, h5, h6⟩ := h
  refine ⟨⟨fun k hk => ?_, fun k hk => ?_⟩, ⟨by rw [hi 69 (by decide)]; exact h2.1, h2.2⟩, by rw [hi 67 (by decide)]; exact h3, hn, hf, by rw [hi 39 (by decide)]; exact h6.1, h6.2⟩
  · rw [hi k (fun z => by rw [z] at hk; revert hk; decide)]; exact h1.1 k hk
  · have : k < 33 := by unfold TRW at hk; simp only [List.mem_cons, List.not_mem_nil, or_false] at hk; omega
    rw [hr k (by omega)]; exact h1.2 k hk
theorem rp_name (c : CTZ m0 w0 K T nm Nk) (hR : PRd w0 T w p pi (e :: t)) (hk : K p = 3) (ho : decide (v1 = 0) = !own) (hh : ∀ w2 sc2, PRd w0 T w2 (p + 1) (pi + 1) sc2 → RFP w w2 pi → p < T → pi < 5000 → NQp nm own (Nk p) (e :: t) sc2 w2 pi → PP R A' (some (w2, I (pi : Nat)))) : PP R A' (km_M_patternAt N S w v1) := by
  have hw := PRS_w c hR
  have hl : p < T := c.2.1.1.lt hR.2.1.2 (by omega) (by omega)
  have t4 := c.2.1.1.1
  obtain ⟨-, c7, cx, cu⟩ := c.2.2.2 p hl hk
  refine kpA hw hR.2.2.1 (by rw [hk]; rfl) ?_
  have hM := PRS_70 (x := w.1 70 + 1) hR
  have er : (upI w 70 (w.1 70 + 1)).2.2.1 = w.2.2.1 := rfl
  have cl : ∀ (v : MS) (pi : Nat), RFP (upI w 70 (w.1 70 + 1)) v pi → RFP w (upI v 70 (v.1 70 - 1)) pi := fun v pi h => cl70 h
  generalize upI w 70 (w.1 70 + 1) = M at hM er cl
  have hM1 := PRS_w c hM
  obtain ⟨a, b, -⟩ := WP_i hM1
  have h69 := hM.2.1.1
  have h39 := hM.2.2.2.2.2.1
  have hp5 := hM.2.2.2.2.2.2
  have hn := hM.2.2.2.1
  have hf := hM.2.2.2.2.1
  have ok := hn.2.2.2
  have k7 : M.2.2.1 7 p = I (Nk p : Nat) := by rw [hM.1.2 7 (by decide)]; exact c7
  have hu : UND M (Nk p) ↔ nm (Nk p) = 0 := by
    rw [← cu]
    unfold UND
    rw [hM.1.2 16 (by decide), hM.1.2 15 (by decide)]
  -- the end of it
  have fin : ∀ (v : MS) (sc2 : SCT), PRd w0 T v p (pi + 1) sc2 → RFP M v pi → pi < 5000 → NQp nm own (Nk p) (e :: t) sc2 v pi → PP R A' (bnd (fb_M_namePattern_105 N () v (I (pi : Nat))) (fun u20 r20 => kb_M_patternAt_388 N S () u20 r20)) := fun v sc2 hv hf h5 hq => by
    unfold fb_M_namePattern_105 kb_M_patternAt_388
    rw [lt_e, bnd_s, hv.2.1.1, i_suc]
    refine r_lt ?_
    have f2 := cl _ _ (RFP_I (v := I ((p + 1 : Nat) : Int)) hf (k := 69) (Or.inr (Or.inr rfl)))
    obtain ⟨h1, h2, h3, h4, h5b, h6⟩ := hv
    have p69 : PRd w0 T (upI v 69 (I ((p + 1 : Nat) : Int))) (p + 1) (pi + 1) sc2 := ⟨⟨fun k hk => by rw [upI_ne (fun z => by rw [z] at hk; revert hk; decide)]; exact h1.1 k hk, h1.2⟩, ⟨upI_at, hl⟩, by rw [upI_ne (by decide)]; exact h3, RNs_e h4 (upI_ne (by decide)) (fun _ _ _ => rfl), HFl_fr h4.2.2.2 h5b (fun _ _ => rfl), by rw [upI_ne (by decide)]; exact h6.1, h6.2⟩
    exact hh _ sc2 (PRS_70 p69) f2 hl h5 hq
  have nP : ∀ (v : MS) (sc2 : SCT) (k : Int32), PRd w0 T v p pi sc2 → RFP M v pi → pi < 5000 → PRd w0 T (nPd v pi k) p (pi + 1) sc2 ∧ RFP M (nPd v pi k) pi := fun v sc2 k hv hf h5 => ⟨PRS_k hv (fun j h1 h2 h3 => nwP_i h1) (fun j hj => nwP_r hj) (by rw [nwP_i (by decide)]; exact hv.2.1.1) (by omega) nwP_n (by omega), RFP_P hf (Nat.le_refl _)⟩
  -- behind found() or boundIn()
  have e61 : ∀ (v : MS) (sc2 : SCT) (r6 : Int32), PRd w0 T v p pi sc2 → RFP M v pi → v.2.2.1 7 p = I (Nk p : Nat) → nm (Nk p) ≠ 0 → ((r6 = -1 ∧ sc2 = e :: t ∧ Nk p ∉ e.1 ∧ rfP own (Nk p) (e :: t) = bnS (Nk p) (e :: t) ∧ rfL own (Nk p) (e :: t) = 32) ∨ (r6 ≠ -1 ∧ sc2 = rfP own (Nk p) (e :: t) ∧ rfL own (Nk p) (e :: t) ≠ 32 ∧ (hdS sc2).1 = e.1 ∧ LKt sc2 (Nk p) r6.toInt)) → PP R A' (bnd (fb_M_namePattern_61 N () v r6) (fun u20 r20 => kb_M_patternAt_388 N S () u20 r20)) := fun v sc2 r6 hv hf h7 h0 hq => by
    unfold fb_M_namePattern_61 fb_M_namePattern_73 fb_M_namePattern_104
    rcases hq with ⟨q1, q2, q3, q4, q5⟩ | ⟨q1, q2, q3, q4, q5⟩
    · rw [decide_eq_true q1, br_t, pat_e hv.2.2.2.2.2.1 hp5 rfl]
      by_cases h5 : pi < 5000
      · rw [if_pos h5]
        obtain ⟨n1, n2⟩ := nP v sc2 1 hv hf h5
        have n6 := nwP_at (w := v) (p := pi) (k := 1)
        have n7 : (nPd v pi 1).2.2.1 7 p = I (Nk p : Nat) := by rw [nwP_r (by omega)]; exact h7
        generalize nPd v pi 1 = V at n1 n2 n6 n7
        show PP R A' (bnd (ck (inb (V.1 69) (ln 7)) (bnd (fm_M_bind N V (V.2.2.1 7 (V.1 69).toNatClampNeg)) _)) _)
        rw [n1.2.1.1, i_nt (p := p) (by omega), n7]
        cases hb : inb (I (p : Nat)) (ln 7) with
        | false => exact pp_nr
        | true =>
          rw [ck_t]
          subst q2
          cases hx : fm_M_bind N V (I (Nk p : Nat)) with
          | none => exact pp_nr
          | some z =>
            obtain ⟨z1, z2⟩ := z
            obtain ⟨b1, b2, b3, b4⟩ := bind_m (N := N) n1.2.2.2.1 cx q3 z1 z2 hx
            have b5 := yv9_fm_M_bind (u0 := V) Kv9_rf z1 z2 hx
            show PP R A' (bnd (ck (isK 35 4) (ck (inb (I (pi : Nat)) (ln 35)) (lt (upA z1 35 (upd (z1.2.2.1 35) (I (pi : Nat)).toNatClampNeg z2)) (fun w2 => fb_M_namePattern_105 N () w2 (I (pi : Nat)))))) _)
            rw [show isK 35 4 = true from rfl, ck_t]
            cases hb2 : inb (I (pi : Nat)) (ln 35) with
            | false => exact pp_nr
            | true =>
              rw [ck_t, lt_e, i_nt2 (by omega)]
              have p1 : PRd w0 T z1 p (pi + 1) (bnS (Nk p) (e :: t)) := PRS_n n1 (fun k hk => b3 k hk) (fun k hk => b4 k (by omega) (by omega) (by omega)) b1 (HFl_bn n1.2.2.2.2.1 (b4 62 (by decide) (by decide) (by decide)) n1.2.2.2.1.2.2.2.2)
              have f1 : RFP M z1 pi := RFP_n n2 (fun k hk => b3 k hk) (fun k hk => b4 k (by omega) (by omega) (by omega)) b5.1
              have e33 : z1.2.2.1 33 pi = 1 := by rw [b4 33 (by decide) (by decide) (by decide)]; exact n6.1
              refine fin _ (bnS (Nk p) (e :: t)) (PRS_k p1 (fun _ _ _ _ => rfl) (fun k hk => upA_no (by omega)) p1.2.1.1 p1.2.1.2 p1.2.2.2.2.2.1 p1.2.2.2.2.2.2) (RFP_A f1 (by decide) (Nat.le_refl _)) h5 ⟨by rw [upA_no (by decide), b4 37 (by decide) (by decide) (by decide)]; exact n6.2.2.2.1, Or.inr ⟨h0, q4.symm, Or.inl ⟨q5, q3, rfl, ?_⟩⟩⟩
              show ((upA z1 35 _).2.2.1 33 pi).toInt = 1
              rw [upA_no (by decide), e33]; rfl
      · rw [if_neg h5]
        exact pp_nr
    · rw [decide_eq_false q1, br_f, pat_e hv.2.2.2.2.2.1 hp5 rfl]
      by_cases h5 : pi < 5000
      · rw [if_pos h5]
        obtain ⟨n1, n2⟩ := nP v sc2 2 hv hf h5
        have n6 := nwP_at (w := v) (p := pi) (k := 2)
        generalize nPd v pi 2 = V at n1 n2 n6
        show PP R A' (bnd (ck (isK 35 4) (ck (inb (I (pi : Nat)) (ln 35)) (lt (upA V 35 (upd (V.2.2.1 35) (I (pi : Nat)).toNatClampNeg r6)) (fun w2 => fb_M_namePattern_105 N () w2 (I (pi : Nat)))))) _)
        rw [show isK 35 4 = true from rfl, ck_t]
        cases hb2 : inb (I (pi : Nat)) (ln 35) with
        | false => exact pp_nr
        | true =>
          rw [ck_t, lt_e, i_nt2 (by omega)]
          refine fin _ sc2 (PRS_k n1 (fun _ _ _ _ => rfl) (fun k hk => upA_no (by omega)) n1.2.1.1 n1.2.1.2 n1.2.2.2.2.2.1 n1.2.2.2.2.2.2) (RFP_A n2 (by decide) (Nat.le_refl _)) h5 ⟨by rw [upA_no (by decide)]; exact n6.2.2.2.1, Or.inr ⟨h0, q2, Or.inr ⟨q3, q4, ?_, ?_⟩⟩⟩
          · show ((upA V 35 _).2.2.1 33 pi).toInt = 2
            rw [upA_no (by decide), n6.1]; rfl
          · have : A (upA V 35 (upd (V.2.2.1 35) pi r6)) 35 pi = r6.toInt := by
              show ((upA V 35 _).2.2.1 35 pi).toInt = _
              rw [upA_at, upd_at]
            rw [this]
            exact q5
      · rw [if_neg h5]
        exact pp_nr
  unfold kpB
  refine r_ck (fun _ => ?_)
  rw [b, srt_dc hM1 srK_2, decide_eq_true hk, br_t]
  unfold fm_M_namePattern fb_M_namePattern_0
  rw [h69]
  cases hx : fm_M_isUnderscore N M (I (p : Nat)) with
  | none => exact pp_nr
  | some z =>
    obtain ⟨z1, z2⟩ := z
    obtain ⟨rfl, q⟩ := und_p (N := N) cx (by omega) k7 z1 z2 hx
    rcases q with ⟨q1, q2⟩ | ⟨q1, q2⟩
    · subst q1
      show PP R A' (bnd (br (decide ((1 : Int32) = 0)) _ (bnd (fm_M_pattern N z1 0) (fun u8 r8 => fb_M_namePattern_105 N () u8 r8))) _)
      rw [show decide ((1 : Int32) = 0) = false from rfl, br_f, pat_e h39 hp5 rfl]
      by_cases h5 : pi < 5000
      · rw [if_pos h5, bnd_s]
        obtain ⟨n1, n2⟩ := nP z1 _ 0 hM RFP_rf h5
        refine fin _ (e :: t) n1 n2 h5 ⟨nwP_at.2.2.2.1, Or.inl ⟨hu.mp q2, rfl, ?_⟩⟩
        show ((nPd z1 pi 0).2.2.1 33 pi).toInt = 0
        rw [nwP_at.1]; rfl
      · rw [if_neg h5]
        exact pp_nr
    · subst q1
      have h0 : nm (Nk p) ≠ 0 := fun z => q2 (hu.mpr z)
      have h65 : z1.1 65 = I (t.length : Nat) := hn.1
      have tl : t.length + 1 ≤ 27 := hn.2.1.2
      rw [bnd_s, show decide ((0 : Int32) = 0) = true from rfl, br_t, ho]
      have lv : ∀ x, lvx x (e :: t) ≠ 32 := fun x z => by have := lvx_le (x := x) (sc := e :: t); have : (e :: t).length = t.length + 1 := rfl; omega
      cases own with
      | false =>
        show PP R A' (bnd (br true (ck (inb (z1.1 69) (ln 7)) (bnd (fr_M_found N z1 (z1.1 65) (z1.2.2.1 7 (z1.1 69).toNatClampNeg)) (fun u6 r6 => fb_M_namePattern_61 N () u6 r6))) _) _)
        rw [br_t, h69, i_nt (p := p) (by omega), k7, h65]
        cases hb : inb (I (p : Nat)) (ln 7) with
        | false => exact pp_nr
        | true =>
          rw [ck_t]
          cases hy : fr_M_found N z1 (I (t.length : Nat)) (I (Nk p : Nat)) with
          | none => exact pp_nr
          | some y =>
            obtain ⟨y1, y2⟩ := y
            have fd := fnx_d (N := N) cx 30 (e :: t) z1 hn.2.2.1 hf ok (fun z => by cases z) hn.2.1.2 y1 y2 hy
            have f9 := yv9_fr_M_found (u0 := z1) Kv9_rf y1 y2 hy
            rw [bnd_s]
            rcases fd with ⟨d1, d2, d3⟩ | ⟨d1, d2, d3, d4, d5, d6, i, d7, d8⟩
            · obtain ⟨r1, r2, r3⟩ := rf_n d3
              subst d2
              have nx : Nk p ∉ e.1 := fun z => by
                have : fnb (Nk p) (e :: t) = true := fnb_e.mpr ⟨e, List.mem_cons_self, z⟩
                rw [d3] at this
                cases this
              exact e61 _ _ y2 hM RFP_rf k7 h0 (Or.inl ⟨d1, rfl, nx, r1, r3⟩)
            · obtain ⟨r1, r2, r3⟩ := rf_y d2
              have hn2 : RNs y1 (hld (Nk p) (e :: t)) := ⟨by rw [hld_len, d3.1 65]; exact hn.1, by rw [hld_len]; exact hn.2.1, d5, hld_ok ok⟩
              have p1 : PRd w0 T y1 p pi (hld (Nk p) (e :: t)) := PRS_n hM (fun k _ => d3.1 k) (fun k hk => d3.2 k (by omega)) hn2 d6
              refine e61 y1 _ y2 p1 (RFP_n RFP_rf (fun k _ => d3.1 k) (fun k hk => d3.2 k (by omega)) f9.1) (by rw [d3.2 7 (by omega)]; exact k7) h0 (Or.inr ⟨d1, r1.symm, by rw [r3]; exact lv _, ?_, by rw [d7]; exact LKt_ti (hld_ok ok) d8⟩)
              show (hdS (hld (Nk p) (e :: t))).1 = e.1
              have := (hld_SCX (x := Nk p) (sc := e :: t) (fun z => by cases z))
              unfold hld
              split
              · rfl
              · split <;> rfl
      | true =>
        show PP R A' (bnd (br false _ (ck (inb (z1.1 69) (ln 7)) (bnd (fm_M_boundIn N z1 (z1.1 65) (z1.2.2.1 7 (z1.1 69).toNatClampNeg)) (fun u7 r7 => fb_M_namePattern_61 N () u7 r7)))) _)
        rw [br_f, h69, i_nt (p := p) (by omega), k7, h65]
        cases hb : inb (I (p : Nat)) (ln 7) with
        | false => exact pp_nr
        | true =>
          rw [ck_t]
          cases hy : fm_M_boundIn N z1 (I (t.length : Nat)) (I (Nk p : Nat)) with
          | none => exact pp_nr
          | some y =>
            obtain ⟨y1, y2⟩ := y
            obtain ⟨rfl, bq⟩ := bIx_p (N := N) hn.2.2.1.1 (by omega) ok.1.1 ok.1.2.1 cx y1 y2 hy
            rw [bnd_s]
            rcases bq with ⟨d1, d2⟩ | ⟨j, d1, d2, d3⟩
            · obtain ⟨r1, r2, r3⟩ := ro_n (t := t) (show e.1.contains (Nk p) = false by simpa using d2)
              exact e61 _ _ y2 hM RFP_rf k7 h0 (Or.inl ⟨d1, rfl, d2, r1, r3⟩)
            · obtain ⟨r1, r2, r3⟩ := ro_y (t := t) (List.contains_iff_mem.mpr (List.mem_of_getElem? d3))
              refine e61 _ (e :: t) y2 hM RFP_rf k7 h0 (Or.inr ⟨by rw [d1]; exact nat_ne (by omega), r1.symm, by rw [r3]; omega, rfl, Or.inl ⟨j, ?_, d3⟩⟩)
              rw [d1]
              exact I_ti (by omega) (by omega)
end
