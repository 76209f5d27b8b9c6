/-! patterns, here: leaves -/
set_option maxRecDepth 100000
/-- patternAt() behind its opens() -/
def kpB (N : Nat) (S : SG_M_rowPattern) (v1 v2 : Int32) (u8 : MS) : Option (MS × Int32) := ck (inb (u8.1 69) (ln 6)) (br (decide ((u8.2.2.1 6 (u8.1 69).toNatClampNeg) = 2)) (bnd (fm_M_namePattern N u8 v1) (fun u20 r20 => kb_M_patternAt_388 N S () u20 (r20))) (br (decide (v2 = 0)) (ck (inb (u8.1 69) (ln 6)) (br (decide ((u8.2.2.1 6 (u8.1 69).toNatClampNeg) = 4)) (kb_M_patternAt_160 N S () u8 (v2)) (ck (inb (u8.1 69) (ln 6)) (br (decide ((u8.2.2.1 6 (u8.1 69).toNatClampNeg) = 1)) (bnd (fm_M_pattern N u8 3) (fun u16 r16 => ck (inb (u16.1 69) (ln 7)) (bnd (fm_M_term N u16 1 (u16.2.2.1 7 (u16.1 69).toNatClampNeg)) (fun u17 r17 => ck (inb r16 (ln 34)) (lt (upJ u17 34 (vp_updL (u17.2.2.2 34) r16.toNatClampNeg r17)) (fun w18 => lt (upI w18 69 ((w18.1 69) + 1)) (fun w19 => kb_M_patternAt_388 N S () w19 (r16)))))))) (ck (inb (u8.1 69) (ln 6)) (br (decide ((u8.2.2.1 6 (u8.1 69).toNatClampNeg) = 5)) (bnd (fm_M_pattern N u8 4) (fun u13 r13 => ck (inb (u13.1 69) (ln 7)) (ck (inb r13 (ln 35)) (lt (upA u13 35 (upd (u13.2.2.1 35) r13.toNatClampNeg (u13.2.2.1 7 (u13.1 69).toNatClampNeg))) (fun w14 => lt (upI w14 69 ((w14.1 69) + 1)) (fun w15 => kb_M_patternAt_388 N S () w15 (r13))))))) (bnd (fm_M_takeSign N u8 0) (fun u9 r9 => br (decide (r9 = 0)) (bnd (S.1 u9 v1) (fun u10 r10 => kb_M_patternAt_388 N S () u10 (r10))) (bnd (S.2 u9 v1) (fun u11 r11 => bnd (km_M_needSign N u11 1) (fun u12 _ => kb_M_patternAt_388 N S () u12 (r11)))))))))))) (kb_M_patternAt_160 N S () u8 (v2))))
section
variable {α : Type} {m0 w0 m w v u M : MS} {K nm Nk : Nat → Nat} {T p pi N : Nat} {sc t : SCT} {e : List Nat × List Nat × Nat} {own : Bool} {S : SG_M_rowPattern} {v1 v2 r : Int32} {R : MS → α → MS → Int32 → Prop} {A' : Option (MS × α)}
theorem kpA_e (h : WP w K T p) (h0 : w.1 67 = 0) : kb_M_patternAt_0 N S () w v1 = kb_M_patternAt_101 N S () w v1 (if K p = 34 then 1 else 0) (b2c (bPK (K p))) := by
  have k46 := h.1.1.k46 h.2.2
  obtain ⟨a, b, -⟩ := WP_i h
  unfold kb_M_patternAt_0
  rw [decide_eq_true h0, br_t]
  simp only [isS_e (k := 34) (s := 19) h (by decide) rfl, isS_e (k := 22) (s := 2) h (by decide) rfl, isS_e (k := 24) (s := 4) h (by decide) rfl, isS_e (k := 20) (s := 0) h (by decide) rfl, bnd_s]
  rw [show ln 6 = 4002 from rfl, a, b, srt_dc h srK_1, srt_dc h srK_2, srt_dc h srK_4, srt_dc h srK_5]
  generalize K p = k at k46
  revert k46
  revert k
  intro k h
  match k, h with
  | 0, _ => rfl
  | 1, _ => rfl
  | 2, _ => rfl
  | 3, _ => rfl
  | 4, _ => rfl
  | 5, _ => rfl
  | 6, _ => rfl
  | 7, _ => rfl
  | 8, _ => rfl
  | 9, _ => rfl
  | 10, _ => rfl
  | 11, _ => rfl
  | 12, _ => rfl
  | 13, _ => rfl
  | 14, _ => rfl
  | 15, _ => rfl
  | 16, _ => rfl
  | 17, _ => rfl
  | 18, _ => rfl
  | 19, _ => rfl
  | 20, _ => rfl
  | 21, _ => rfl
  | 22, _ => rfl
  | 23, _ => rfl
  | 24, _ => rfl
  | 25, _ => rfl
  | 26, _ => rfl
  | 27, _ => rfl
  | 28, _ => rfl
  | 29, _ => rfl
  | 30, _ => rfl
  | 31, _ => rfl
  | 32, _ => rfl
  | 33, _ => rfl
  | 34, _ => rfl
  | 35, _ => rfl
  | 36, _ => rfl
  | 37, _ => rfl
  | 38, _ => rfl
  | 39, _ => rfl
  | 40, _ => rfl
  | 41, _ => rfl
  | 42, _ => rfl
  | 43, _ => rfl
  | 44, _ => rfl
  | 45, _ => rfl
  | k + 46, h => exact absurd h (by omega)
theorem kpA (hw : WP w K T p) (h0 : w.1 67 = 0) (hb : bPK (K p) = true) (h : PP R A' (kpB N S v1 (if K p = 34 then 1 else 0) (upI w 70 (w.1 70 + 1)))) : PP R A' (km_M_patternAt N S w v1) := by
  unfold km_M_patternAt
  rw [kpA_e hw h0, hb]
  show PP R A' (br (decide ((1 : Int32) = 0)) _ (bnd (km_M_opens N w) (fun u8 _ => kpB N S v1 (if K p = 34 then 1 else 0) u8)))
  rw [show decide ((1 : Int32) = 0) = false from rfl, br_f]
  exact r_opens h
theorem add_sub1 {x : Int32} : x + 1 - 1 = x := by
  rw [I_of x, lit1, I_add, I_sub]
  congr 1
  omega
/-- what was opened is closed -/
theorem cl70 (h : RFP (upI w 70 (w.1 70 + 1)) v pi) : RFP w (upI v 70 (v.1 70 - 1)) pi := by
  have e70 : v.1 70 = w.1 70 + 1 := (h.1 70 (by decide) (by decide) (by decide)).trans upI_at
  refine ⟨fun k h1 h2 h3 => ?_, h.2⟩
  by_cases z : k = 70
  · rw [z, upI_at, e70, add_sub1]
  · rw [upI_ne z, h.1 k h1 h2 h3, upI_ne z]
/-- what a leaf has become -/
def LQp (w0 : MS) (K : Nat → Nat) (p : Nat) (w2 : MS) (pi : Nat) : Prop := w2.2.2.1 37 pi = -1 ∧ ((K p = 1 ∧ A w2 33 pi = 3 ∧ w2.2.2.2 34 pi = mk 0 (A w0 7 p)) ∨ (K p = 2 ∧ A w2 33 pi = 3 ∧ w2.2.2.2 34 pi = mk 1 (A w0 7 p)) ∨ (K p = 4 ∧ A w2 33 pi = 4 ∧ A w2 35 pi = A w0 7 p))
theorem PRS_70 (h : PRd w0 T w p pi sc) {x : Int32} : PRd w0 T (upI w 70 x) p pi sc := by
  obtain ⟨h1, h2, h3, h4, h5, h6⟩ := h
  exact ⟨⟨fun k hk => by rw [upI_ne (fun z => by rw [z] at hk; revert hk; decide)]; exact h1.1 k hk, h1.2⟩, ⟨by rw [upI_ne (by decide)]; exact h2.1, h2.2⟩, by rw [upI_ne (by decide)]; exact h3, RNs_e h4 (upI_ne (by decide)) (fun _ _ _ => rfl), HFl_fr h4.2.2.2 h5 (fun _ _ => rfl), by rw [upI_ne (by decide)]; exact h6.1, h6.2⟩
theorem upI_sf {k : Nat} : upI w k (w.1 k) = w := by
  show ((fun j => if j = k then w.1 k else w.1 j), w.2.1, w.2.2.1, w.2.2.2) = w
  have : (fun j => if j = k then w.1 k else w.1 j) = w.1 := by
    funext j
    by_cases z : j = k
    · rw [if_pos z, z]
    · rw [if_neg z]
  rw [this]
theorem upJ_at {k : Nat} {g : Nat → Int64} : (upJ w k g).2.2.2 k = g := if_pos rfl
theorem updL_at {g : Nat → Int64} {i : Nat} {y : Int64} : vp_updL g i y i = y := if_pos rfl
theorem rp_leaf (c : CTZ m0 w0 K T nm Nk) (hR : PRd w0 T w p pi sc) (hk : K p = 1 ∨ K p = 2 ∨ K p = 4) (hh : ∀ w2, PRd w0 T w2 (p + 1) (pi + 1) sc → RFP w w2 pi → p < T → pi < 5000 → LQp w0 K p w2 pi → PP R A' (some (w2, I (pi : Nat)))) : PP R A' (km_M_patternAt N S w v1) := by
  have hw := PRS_w c hR
  have hl : p < T := c.2.1.1.lt hR.2.1.2 (by omega) (by omega)
  have t4 := c.2.1.1.1
  refine kpA hw hR.2.2.1 (by rcases hk with z | z | z <;> rw [z] <;> rfl) ?_
  rw [if_neg (by omega)]
  have hM := PRS_70 (x := w.1 70 + 1) hR
  have er : (upI w 70 (w.1 70 + 1)).2.2.1 = w.2.2.1 := rfl
  have cl : ∀ (v : MS) (pi : Nat), RFP (upI w 70 (w.1 70 + 1)) v pi → RFP w (upI v 70 (v.1 70 - 1)) pi := fun v pi h => cl70 h
  generalize upI w 70 (w.1 70 + 1) = M at hM er cl
  have k7M : M.2.2.1 7 p = w0.2.2.1 7 p := by rw [er, hR.1.2 7 (by decide)]
  have hM1 := PRS_w c hM
  obtain ⟨a, b, -⟩ := WP_i hM1
  have s2 : decide (M.2.2.1 6 p = 2) = decide (K p = 3) := srt_dc hM1 srK_2
  have s4 : decide (M.2.2.1 6 p = 4) = decide (K p = 1) := srt_dc hM1 srK_4
  have s1 : decide (M.2.2.1 6 p = 1) = decide (K p = 2) := srt_dc hM1 srK_1
  have s5 : decide (M.2.2.1 6 p = 5) = decide (K p = 4) := srt_dc hM1 srK_5
  have h39 := hM.2.2.2.2.2.1
  have hp5 := hM.2.2.2.2.2.2
  have h69 := hM.2.1.1
  -- the end of it
  have fin : ∀ (v : MS), RFP M v pi → (∀ k, k < 33 ∨ 38 < k → v.2.2.1 k = M.2.2.1 k) → v.1 69 = I (p : Nat) → v.1 39 = I ((pi + 1 : Nat) : Int) → pi < 5000 → LQp w0 K p v pi → PP R A' (lt (upI v 69 (v.1 69 + 1)) (fun w4 => kb_M_patternAt_388 N S () w4 (I (pi : Nat)))) := fun v hf hr h69 h39 h5 hq => by
    unfold kb_M_patternAt_388
    refine r_lt (r_lt ?_)
    rw [h69, i_suc]
    have f1 : RFP M (upI v 69 (I ((p + 1 : Nat) : Int))) pi := RFP_I hf (Or.inr (Or.inr rfl))
    have f2 := cl _ _ f1
    refine hh _ (PRS_k hR f2.1 (fun k hk => ?_) (by rw [upI_ne (by decide)]; exact upI_at) hl (by rw [upI_ne (by decide), upI_ne (by decide)]; exact h39) (by omega)) f2 hl h5 hq
    show v.2.2.1 k = _
    rw [hr k hk, er]
  have nP : ∀ (x : Int32), RFP M (nPd M pi x) pi ∧ (∀ k, k < 33 ∨ 38 < k → (nPd M pi x).2.2.1 k = M.2.2.1 k) ∧ (nPd M pi x).1 69 = I (p : Nat) ∧ (nPd M pi x).1 39 = I ((pi + 1 : Nat) : Int) ∧ (nPd M pi x).2.2.1 7 p = w0.2.2.1 7 p := fun x => ⟨RFP_P RFP_rf (Nat.le_refl _), fun k hk => nwP_r hk, by rw [nwP_i (by decide)]; exact h69, nwP_n, by rw [nwP_r (by omega)]; exact k7M⟩
  unfold kpB
  refine r_ck (fun _ => ?_)
  rw [b, s2, decide_eq_false (by omega), br_f, show decide ((0 : Int32) = 0) = true from rfl, br_t]
  refine r_ck (fun _ => ?_)
  rw [s4]
  rcases hk with z | z | z
  · rw [decide_eq_true z, br_t]
    unfold kb_M_patternAt_160 kb_M_patternAt_178 kb_M_patternAt_199
    rw [show decide ((0 : Int32) = 0) = true from rfl, br_t]
    refine r_lt (r_ck (fun _ => ?_))
    rw [h69, show upI M 69 (I (p : Nat)) = M by rw [← h69]; exact upI_sf, h69, i_nt (p := p) (by omega), s4, decide_eq_true z, br_t]
    refine r_pat h39 hp5 rfl (fun h5 => ?_)
    obtain ⟨n1, n2, n3, n4, n5⟩ := nP 3
    have n6 := nwP_at (w := M) (p := pi) (k := 3)
    generalize nPd M pi 3 = v at n1 n2 n3 n4 n5 n6
    rw [br_t, n3, i_nt (p := p) (by omega), n5]
    refine r_ck (fun _ => ?_)
    unfold kb_M_patternAt_239
    rw [term0_e, bnd_s]
    refine r_ck (fun _ => r_ck (fun _ => r_lt ?_))
    rw [i_nt2 (by omega)]
    refine fin _ (RFP_J n1 (Nat.le_refl _)) n2 n3 n4 h5 ⟨n6.2.2.2.1, Or.inl ⟨z, ?_, ?_⟩⟩
    · show (v.2.2.1 33 pi).toInt = 3
      rw [n6.1]; rfl
    · rw [upJ_at, updL_at]; rfl
  · rw [decide_eq_false (by omega), br_f]
    refine r_ck (fun _ => ?_)
    rw [s1, decide_eq_true z, br_t]
    refine r_pat h39 hp5 rfl (fun h5 => ?_)
    obtain ⟨n1, n2, n3, n4, n5⟩ := nP 3
    have n6 := nwP_at (w := M) (p := pi) (k := 3)
    generalize nPd M pi 3 = v at n1 n2 n3 n4 n5 n6
    refine r_ck (fun _ => ?_)
    rw [n3, i_nt (p := p) (by omega), n5, I_of (w0.2.2.1 7 p), lit1, term_e, bnd_s]
    refine r_ck (fun _ => r_lt ?_)
    rw [i_nt2 (by omega)]
    refine fin _ (RFP_J n1 (Nat.le_refl _)) n2 n3 n4 h5 ⟨n6.2.2.2.1, Or.inr (Or.inl ⟨z, ?_, ?_⟩)⟩
    · show (v.2.2.1 33 pi).toInt = 3
      rw [n6.1]; rfl
    · rw [upJ_at, updL_at]; rfl
  · rw [decide_eq_false (by omega), br_f]
    refine r_ck (fun _ => ?_)
    rw [s1, decide_eq_false (by omega), br_f]
    refine r_ck (fun _ => ?_)
    rw [s5, decide_eq_true z, br_t]
    refine r_pat h39 hp5 rfl (fun h5 => ?_)
    obtain ⟨n1, n2, n3, n4, n5⟩ := nP 4
    have n6 := nwP_at (w := M) (p := pi) (k := 4)
    generalize nPd M pi 4 = v at n1 n2 n3 n4 n5 n6
    refine r_ck (fun _ => r_ck (fun _ => r_lt ?_))
    rw [n3, i_nt (p := p) (by omega), n5, i_nt2 (by omega)]
    refine fin _ (RFP_A n1 (by decide) (Nat.le_refl _)) (fun k hk => by rw [upA_no (by omega)]; exact n2 k hk) n3 n4 h5 ⟨by rw [upA_no (by decide)]; exact n6.2.2.2.1, Or.inr (Or.inr ⟨z, ?_, ?_⟩)⟩
    · show ((upA v 35 _).2.2.1 33 pi).toInt = 4
      rw [upA_no (by decide), n6.1]; rfl
    · show ((upA v 35 _).2.2.1 35 pi).toInt = _
      rw [upA_at, upd_at]; rfl
end
