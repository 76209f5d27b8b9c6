/-! what is PREDEFINED: print -/
set_option maxRecDepth 100000
/-- what has been printed is alike -/
def PNx (m w : MS) : Prop := m.1 953 = w.1 128 ∧ ∀ l : Nat, ((l : Nat) : Int) < F m 953 → m.2.2.1 53 l = w.2.2.1 127 l ∧ ∀ i : Nat, ((i : Nat) : Int) < A m 53 l → m.2.2.1 52 (100 * l + i) = w.2.2.1 126 (100 * l + i)
/-- one text more: there, here -/
def PRm (T : List Int32) (n : Nat) (m m2 : MS) : Prop := FR [1964, 865, 866, 953] [] [52, 53] [45] m m2 ∧ F m2 953 = ((n + 1 : Nat) : Int) ∧ (∀ k, m2.2.2.1 53 k = if k = n then I ((min T.length 100 : Nat) : Int) else m.2.2.1 53 k) ∧ (∀ i, i < min T.length 100 → m2.2.2.1 52 (100 * n + i) = byS8 (T.getD i 0)) ∧ ∀ i, ¬ (100 * n ≤ i ∧ i < 100 * n + 100) → m2.2.2.1 52 i = m.2.2.1 52 i
def PRw (T : List Int32) (n : Nat) (w w2 : MS) : Prop := FR [144, 128] [] [143, 126, 127] [141] w w2 ∧ F w2 128 = ((n + 1 : Nat) : Int) ∧ (∀ k, w2.2.2.1 127 k = if k = n then I ((min T.length 100 : Nat) : Int) else w.2.2.1 127 k) ∧ (∀ i, i < min T.length 100 → w2.2.2.1 126 (100 * n + i) = byS8 (T.getD i 0)) ∧ ∀ i, ¬ (100 * n ≤ i ∧ i < 100 * n + 100) → w2.2.2.1 126 i = w.2.2.1 126 i
section
variable {N p n k z h0 : Nat} {m w w0 m2 w2 : MS} {t x : Int64} {T : List Int32} {q : Nat}
theorem bl52 : bl 52 = 20000 := rfl
theorem PN_add (h : PNx m w) (hn : F m 953 = ((n : Nat) : Int)) (hn2 : n < 200) (hb : ∀ l : Nat, ((l : Nat) : Int) < F m 953 → 0 ≤ A m 53 l ∧ A m 53 l ≤ 100) (a : PRm T n m m2) (c : PRw T n w w2) : PNx m2 w2 := by
  obtain ⟨-, a2, a3, a4, a5⟩ := a
  obtain ⟨-, c2, c3, c4, c5⟩ := c
  have ai : ∀ {x y : Int32}, x.toInt = y.toInt → x = y := fun h => Int32.toInt_inj.mp h
  refine ⟨ai (a2.trans c2.symm), fun l hl => ?_⟩
  rw [a2] at hl
  rw [a3, c3]
  by_cases e : l = n
  · subst e
    rw [if_pos rfl, if_pos rfl]
    refine ⟨rfl, fun i hi => ?_⟩
    have e53 : A m2 53 l = ((min T.length 100 : Nat) : Int) := by
      show (m2.2.2.1 53 l).toInt = _
      rw [a3, if_pos rfl, I_ti (by omega) (by omega)]
    rw [e53] at hi
    rw [a4 i (by omega), c4 i (by omega)]
  · rw [if_neg e, if_neg e]
    have hl2 : ((l : Nat) : Int) < F m 953 := by rw [hn]; omega
    obtain ⟨h1, h2⟩ := h.2 l hl2
    have e53 : A m2 53 l = A m 53 l := by
      show (m2.2.2.1 53 l).toInt = _
      rw [a3, if_neg e]
      rfl
    refine ⟨h1, fun i hi => ?_⟩
    rw [e53] at hi
    have := hb l hl2
    rw [a5 _ (by omega), c5 _ (by omega)]
    exact h2 i hi
/-- there -/
theorem print_m (hA : WDc m 1) (hn : F m 953 = ((n : Nat) : Int)) (hn2 : n < 200) (y : SZp (m.2.2.2 (pq p 2)) (LFs (F m 22)) k t z) (hz : z ≤ 1020) (eT : TXs (m.2.2.2 (pq p 2)) (ATc m) t = T) : PK (fun m2 (_ : Unit) => PRm T n m m2) (hm_Wl_print N m (pq p 2) t) := by
  unfold hm_Wl_print hb_Wl_print_0 hb_Wl_print_49
  rw [I_F' hn, show decide (200 ≤ I ((n : Nat) : Int)) = false from by
    rw [show (200 : Int32) = I 200 from rfl]
    exact decide_eq_false (by rw [I_le (by omega) (by omega) (by omega) (by omega)]; omega), br_f, show I ((n : Nat) : Int) * 100 = I ((100 * n : Nat) : Int) from by
    rw [show (100 : Int32) = I 100 from rfl, I_mul]
    congr 1
    omega]
  refine pk_bnd (pk_mo (text_s (N := N) (j := 52) (fr := 100 * n) (b := pq p 2) hA (fun c => pq_n (by omega) c.symm) rfl y hz (Or.inl rfl) (by rw [bl52]; omega)) (fun m5 r h => ?_))
  obtain ⟨f5, rfl, h1, h2⟩ := h
  rw [eT] at h1 ⊢
  refine pk_ck (fun _ => ?_)
  rw [tnI (n := n) rfl (by omega), wa_e, lt_e]
  have e953 : F (wa m5 53 n ((min T.length 100 : Nat) : Int)) 953 = ((n : Nat) : Int) := by
    show F m5 953 = _
    rw [FR.F f5 (by simp)]
    exact hn
  rw [I_F' e953, show I ((n : Nat) : Int) + 1 = I ((n + 1 : Nat) : Int) from addN, wi_e, lt_e]
  refine pk_some ⟨FR.wi (FR.wa (FR.mo f5 (by simp) (by simp) (by simp) (by simp)) (by simp)) (by simp), wi_sm (by omega) (by omega), fun k => ?_, fun i hi => ?_, fun i hi => ?_⟩
  · show (wa m5 53 n ((min T.length 100 : Nat) : Int)).2.2.1 53 k = _
    by_cases c : k = n
    · subst c
      rw [wa_s1, if_pos rfl]
    · rw [wa_at (by omega), if_neg c, f5.2.2.1 53 (by simp)]
  · show (wa m5 53 n ((min T.length 100 : Nat) : Int)).2.2.1 52 (100 * n + i) = _
    rw [wa_21 (by omega)]
    exact h1 i hi
  · show (wa m5 53 n ((min T.length 100 : Nat) : Int)).2.2.1 52 i = _
    rw [wa_21 (by omega)]
    exact h2 i hi
/-- it is copied, here -/
theorem prc_lp (hn2 : n < 200) (h127 : w0.2.2.1 127 = w0.2.2.1 127) : ∀ (M i : Nat) (w : MS), i ≤ min T.length 100 → FR [144] [] [143, 126] [141] w0 w → F w 128 = ((n : Nat) : Int) → F w 144 = ((min T.length 100 : Nat) : Int) → (∀ k, k < min T.length 100 → w.2.2.1 143 k = byS8 (T.getD k 0)) → (∀ k, k < i → w.2.2.1 126 (100 * n + k) = byS8 (T.getD k 0)) → (∀ k, ¬ (100 * n ≤ k ∧ k < 100 * n + 100) → w.2.2.1 126 k = w0.2.2.1 126 k) → PK (fun w2 (_ : Unit) => PRw T n w0 w2) (gg_M_printRun N M w (I ((i : Nat) : Int))) := by
  intro M
  induction M with
  | zero => intro i w _ _ _ _ _ _ _; exact pk_none
  | succ M ih =>
    intro i w hi f e128 e144 h143 h126 hot
    show PK _ (fb_M_printRun_21 N (gg_M_printRun N M) w (I ((i : Nat) : Int)))
    unfold fb_M_printRun_21 fb_M_printRun_78
    rw [I_F' e144, I_F' e128, decI (by omega) (by omega) (by omega) (by omega)]
    by_cases c : min T.length 100 ≤ i
    · have ei : i = min T.length 100 := by omega
      rw [show decide (((min T.length 100 : Nat) : Int) ≤ ((i : Nat) : Int)) = true from decide_eq_true (by omega), br_t]
      refine pk_ck (fun _ => ?_)
      rw [tnI (n := n) rfl (by omega), wa_e, lt_e]
      have e : F (wa w 127 n ((min T.length 100 : Nat) : Int)) 128 = ((n : Nat) : Int) := e128
      rw [I_F' e, show I ((n : Nat) : Int) + 1 = I ((n + 1 : Nat) : Int) from addN, wi_e, lt_e]
      refine pk_some ⟨FR.wi (FR.wa (FR.mo f (by simp) (by simp) (by simp) (by simp)) (by simp)) (by simp), wi_sm (by omega) (by omega), fun k => ?_, fun k hk => ?_, fun k hk => ?_⟩
      · show (wa w 127 n ((min T.length 100 : Nat) : Int)).2.2.1 127 k = _
        by_cases c : k = n
        · subst c
          rw [wa_s1, if_pos rfl]
        · rw [wa_at (by omega), if_neg c, f.2.2.1 127 (by simp)]
      · show (wa w 127 n ((min T.length 100 : Nat) : Int)).2.2.1 126 (100 * n + k) = _
        rw [wa_21 (by omega)]
        exact h126 k (by omega)
      · show (wa w 127 n ((min T.length 100 : Nat) : Int)).2.2.1 126 k = _
        rw [wa_21 (by omega)]
        exact hot k hk
    · rw [show decide (((min T.length 100 : Nat) : Int) ≤ ((i : Nat) : Int)) = false from decide_eq_false (by omega), br_f]
      refine pk_ck (fun _ => pk_ck (fun _ => ?_))
      have ix : (100 * I ((n : Nat) : Int) + I ((i : Nat) : Int)).toNatClampNeg = 100 * n + i := by
        rw [show (100 : Int32) = I 100 from rfl, I_mul, I_add]
        exact tnI (n := 100 * n + i) (by omega) (by omega)
      rw [ix, tnI (n := i) rfl (by omega), h143 i (by omega), nar_by, lt_e, show I ((i : Nat) : Int) + 1 = I ((i + 1 : Nat) : Int) from addN]
      have row : ∀ k, (upA w 126 (upd (w.2.2.1 126) (100 * n + i) (byS8 (T.getD i 0)))).2.2.1 126 k = if k = 100 * n + i then byS8 (T.getD i 0) else w.2.2.1 126 k := fun k => by
        show (if (126 : Nat) = 126 then upd (w.2.2.1 126) (100 * n + i) (byS8 (T.getD i 0)) else w.2.2.1 126) k = _
        rw [if_pos rfl]
        rfl
      have r143 : (upA w 126 (upd (w.2.2.1 126) (100 * n + i) (byS8 (T.getD i 0)))).2.2.1 143 = w.2.2.1 143 := upA_no (by omega)
      refine ih (i + 1) _ (by omega) ⟨f.1, f.2.1, fun k hk => (upA_no (fun c => hk (by simp [c]))).trans (f.2.2.1 k hk), f.2.2.2⟩ e128 e144 (fun k hk => by rw [r143]; exact h143 k hk) (fun k hk => ?_) (fun k hk => ?_)
      · rw [row]
        by_cases c2 : k = i
        · subst c2; rw [if_pos rfl]
        · rw [if_neg (by omega)]; exact h126 k (by omega)
      · rw [row, if_neg (by omega)]
        exact hot k hk
/-- here -/
theorem print_r (hp1 : p < 24) (h33 : F w 133 = ((p : Nat) : Int)) (hA : ATM w) (hn : F w 128 = ((n : Nat) : Int)) (hn2 : n < 200) (y : SZp (hp w p) (LFr (F w 14)) k x z) (hz : z ≤ 1000) (eT : TXs (hp w p) (ATr w) x = T) : PK (fun w2 (_ : Unit) => PRw T n w w2) (fm_M_printRun N w x) := by
  unfold fm_M_printRun fb_M_printRun_0 fm_M_write fb_M_write_0 fb_M_write_30
  rw [I_F' hn, show decide (200 ≤ I ((n : Nat) : Int)) = false from by
    rw [show (200 : Int32) = I 200 from rfl]
    exact decide_eq_false (by rw [I_le (by omega) (by omega) (by omega) (by omega)]; omega), br_f, lit0, wi_e, lt_e, I_F' h33]
  have o0 : OUr w (wi w 144 0) [] := ⟨FR.wi FR.rf (by simp), wi_sm (by omega) (by omega), fun i hi => by simp at hi⟩
  have e14 : F (wi w 144 0) 14 = F w 14 := wi_ne (by omega)
  have y2 : SZp (hp w p) (LFr (F (wi w 144 0) 14)) k x z := by rw [e14]; exact y
  have hA2 : ATM (wi w 144 0) := by
    unfold ATM at hA ⊢
    rw [e14]
    exact hA
  refine pk_bnd (pk_bnd (pk_mo (writeOn_r (N := N) (p := p) (m0 := w) (h := hp w p) (by omega) rfl hA2 (by simp) o0 y2 hz) (fun w5 _ h => ?_)))
  have eA : ATr (wi w 144 0) = ATr w := rfl
  rw [eA, eT] at h
  obtain ⟨L, ⟨f, o2, o3⟩, h1, ⟨X, hX⟩, c⟩ := h
  simp only [List.nil_append] at hX c
  have lm : min L.length 100 = min T.length 100 := by
    rcases c with c | c
    · rw [c]
    · rw [hX]; simp; omega
  have row : ∀ k, k < min T.length 100 → w5.2.2.1 143 k = byS8 (T.getD k 0) := fun k hk => by
    rw [o3 k (by omega)]
    rw [hX]
    simp only [List.getD_eq_getElem?_getD]
    rw [List.getElem?_append_left (by omega)]
  have fin : ∀ v : Int, v = ((min T.length 100 : Nat) : Int) → PK (fun w2 (_ : Unit) => PRw T n w w2) (gg_M_printRun N N (wi w5 144 v) (I ((0 : Nat) : Int))) := fun v hv => by
    subst hv
    exact prc_lp (N := N) hn2 rfl N 0 _ (by omega) (FR.wi (FR.mo f (by simp) (by simp) (by simp) (by simp)) (by simp)) (by rw [wi_ne (by omega), FR.F f (by simp)]; exact hn) (wi_sm (by omega) (by omega)) row (fun k hk => absurd hk (Nat.not_lt_zero _)) (fun k _ => by show w5.2.2.1 126 k = _; rw [f.2.2.1 126 (by simp)])
  rw [I_F' o2, show (100 : Int32) = I 100 from rfl, decI (by omega) (by omega) (by omega) (by omega)]
  by_cases e : ((L.length : Nat) : Int) ≤ 100
  · rw [decide_eq_true e, br_t, wi_e, lt_e]
    exact pk_some (fin _ (by omega))
  · rw [decide_eq_false e, br_f, wi_e, lt_e]
    exact pk_some (fin _ (by omega))
theorem print_m0 (h : 200 ≤ F m 953) : hm_Wl_print N m q t = some (m, ()) := by
  have r := F_r m 953
  unfold hm_Wl_print hb_Wl_print_0 hb_Wl_print_49
  rw [I_F (w := m) (k := 953), show decide (200 ≤ I (F m 953)) = true from by
    rw [show (200 : Int32) = I 200 from rfl]
    exact decide_eq_true (by rw [I_le (by omega) (by omega) r.1 r.2]; omega), br_t]
theorem print_r0 (h : 200 ≤ F w 128) : fm_M_printRun N w x = some (w, ()) := by
  have r := F_r w 128
  unfold fm_M_printRun fb_M_printRun_0 fb_M_printRun_78
  rw [I_F (w := w) (k := 128), show decide (200 ≤ I (F w 128)) = true from by
    rw [show (200 : Int32) = I 200 from rfl]
    exact decide_eq_true (by rw [I_le (by omega) (by omega) r.1 r.2]; omega), br_t]
theorem pm10 : hm_Ma_predefined N m p (I 10) = bnd (hm_Fr_below N m p 0) (fun u19 r19 => bnd (hm_Wl_print N u19 (pq p 2) r19) (fun u21 _ => bnd (hm_Ma_atom N u21 2) (fun u23 r23 => bnd (hm_Ma_answer N u23 p 1 r23) (fun u24 _ => hb_Ma_predefined_146 N () u24 p)))) := rfl
theorem pr11 : fm_M_predefinedRun N w (I 11) = bnd (fm_M_take N w) (fun u20 r20 => bnd (fm_M_printRun N u20 r20) (fun u21 _ => bnd (fm_M_term N u21 1 2) (fun u22 r22 => bnd (fm_M_put N u22 r22) (fun u23 _ => some (u23, ()))))) := rfl
end
def PFm (m m2 : MS) : Prop := FR [1964, 865, 866, 953] [] [52, 53] [45] m m2
def PFw (w w2 : MS) : Prop := FR [144, 128] [] [143, 126, 127] [141] w w2
section
variable {b : Int → Nat → Nat → Prop} {Fv Fv' : Int64 → Int64 → Prop} {P P' : Int64 → Prop} {N PR r p i j0 j U B W Y a n : Nat} {m w m1 w1 m2 w2 wA wC : MS} {cur : Option Nat} {RR : Nat → MS → MS → Prop} {nb : Nat → Nat} {Hs Os : Nat → List Nat} {y : Option (Nat × Nat × Nat)}
theorem prt_sw (g : FGw p j w wA) (f : PFw wA wC) : ∃ wB, PFw w wB ∧ FGw p j wB wC := by
  obtain ⟨⟨g1, g2, g3, g4⟩, g5, g6, g7, g8, g9, g10⟩ := g
  refine ⟨⟨fun k => if k = 144 ∨ k = 128 then wC.1 k else w.1 k, w.2.1, fun K => if K = 143 ∨ K = 126 ∨ K = 127 then wC.2.2.1 K else w.2.2.1 K, w.2.2.2⟩, ⟨fun k hk => if_neg (by simpa using hk), fun _ _ => rfl, fun K hK => if_neg (by simpa using hK), fun _ _ => rfl⟩, ⟨⟨fun k hk => ?_, fun k hk => ?_, fun K hK => ?_, fun K hK => ?_⟩, fun k hk => ?_, fun k hk => ?_, fun k hk => ?_, fun k hk => ?_, fun k hk => ?_, fun k hk => ?_⟩⟩
  · show wC.1 k = if k = 144 ∨ k = 128 then wC.1 k else w.1 k
    by_cases c : k = 144 ∨ k = 128
    · rw [if_pos c]
    · rw [if_neg c, f.1 k (by simpa using c)]
      exact g1 k hk
  · show wC.2.1 k = w.2.1 k
    rw [f.2.1 k (by simp)]
    exact g2 k hk
  · show wC.2.2.1 K = if K = 143 ∨ K = 126 ∨ K = 127 then wC.2.2.1 K else w.2.2.1 K
    by_cases c : K = 143 ∨ K = 126 ∨ K = 127
    · rw [if_pos c]
    · rw [if_neg c, f.2.2.1 K (by simpa using c)]
      exact g3 K hK
  · show wC.2.2.2 K = w.2.2.2 K
    rw [f.2.2.2 K (by simp at hK ⊢; omega)]
    exact g4 K hK
  · have e : ∀ K, K ≠ 143 → K ≠ 126 → K ≠ 127 → wC.2.2.1 K = wA.2.2.1 K := fun K a b c => f.2.2.1 K (by simp; omega)
    show (wC.2.2.1 89 k).toInt = (w.2.2.1 89 k).toInt ∧ wC.2.2.1 90 k = w.2.2.1 90 k ∧ (wC.2.2.1 92 k).toInt = (w.2.2.1 92 k).toInt
    rw [e 89 (by omega) (by omega) (by omega), e 90 (by omega) (by omega) (by omega), e 92 (by omega) (by omega) (by omega)]
    exact g5 k hk
  · show (wC.2.2.1 98 k).toInt = (w.2.2.1 98 k).toInt
    rw [f.2.2.1 98 (by simp)]
    exact g6 k hk
  · show wC.2.2.2 88 k = w.2.2.2 88 k
    rw [f.2.2.2 88 (by simp)]
    exact g7 k hk
  · show wC.2.2.2 91 k = w.2.2.2 91 k
    rw [f.2.2.2 91 (by simp)]
    exact g8 k hk
  · show wC.2.2.2 93 k = w.2.2.2 93 k
    rw [f.2.2.2 93 (by simp)]
    exact g9 k hk
  · show wC.2.2.2 107 k = w.2.2.2 107 k
    rw [f.2.2.2 107 (by simp)]
    exact g10 k hk
theorem prt_n (f : PFm m m1) : EQn r m m1 := ⟨fun k hk _ => f.1 _ (by simp; exact ⟨fun c => pq_n (by omega) c.symm, fun c => pq_n (by omega) c.symm, fun c => pq_n (by omega) c.symm, fun c => pq_n (by omega) c.symm⟩), fun _ _ _ => f.2.1 _ (by simp), fun k hk _ => f.2.2.1 _ (by simp; exact ⟨fun c => pq_n (by omega) c.symm, fun c => pq_n (by omega) c.symm⟩), f.2.2.1 23 (by simp)⟩
theorem prt_v (f : PFw w w1) : EQv r w w1 := ⟨fun K k h _ _ => by rw [f.2.2.1 K (by simp; rcases h with ⟨h, -⟩ | ⟨h, -⟩ | ⟨h, -⟩ | ⟨h, -⟩ <;> omega)], by rw [f.2.2.2 111 (by simp)], fun K h => f.2.2.1 K (by unfold PRr at h; simp; omega), f.2.2.2 34 (by simp)⟩
theorem prt_pg (f1 : PFm m m1) (f2 : PFw w w1) : PGs m w m1 w1 := PGs_fr f1 f2 (fun k hk => by simp at hk; omega) (by simp) (fun k hk => by simp at hk; omega) (fun k hk => by simp at hk; omega) (fun k hk => by simp at hk; unfold PRr; omega) (by simp)
theorem RUs_prt (h : RUs m w p j nb Hs Os y a n) (f1 : PFm m m1) (f2 : PFw w w1) : RUs m1 w1 p j nb Hs Os y a n := RUs_st h (prt_n f1) (prt_v f2) (prt_pg f1 f2)
theorem prt_j (f1 : PFm m m1) {k : Nat} : m1.2.2.2 (pq r k) = m.2.2.2 (pq r k) := f1.2.2.2 _ (by simp; exact fun c => pq_n (by omega) c.symm)
theorem PLs_prt (pl : PLs b r m w U B W Y) (f1 : PFm m m1) : PLs b r m1 w U B W Y := PLs_cg pl (fun k hk => f1.1 _ (by simp; exact ⟨fun c => pq_n (by omega) c.symm, fun c => pq_n (by omega) c.symm, fun c => pq_n (by omega) c.symm, fun c => pq_n (by omega) c.symm⟩)) (fun i _ => by rw [prt_j f1]) (fun i _ => by rw [prt_j f1]) (fun i _ => by rw [prt_j f1]) (fun i _ => by rw [prt_j f1]) (fun _ _ => rfl) (fun _ _ => rfl) (fun _ _ => rfl) (fun _ _ => rfl) (fun _ _ => rfl)
theorem PLs_prtw (pl : PLs b r m w U B W Y) (f2 : PFw w w1) : PLs b r m w1 U B W Y := PLs_cg pl (fun _ _ => rfl) (fun _ _ => rfl) (fun _ _ => rfl) (fun _ _ => rfl) (fun _ _ => rfl) (fun k hk => by rw [f2.2.2.1 k (by simp at hk ⊢; omega)]) (fun i _ => by rw [f2.2.2.2 88 (by simp)]) (fun i _ => by rw [f2.2.2.2 93 (by simp)]) (fun i _ => by rw [f2.2.2.2 91 (by simp)]) (fun i _ => by rw [f2.2.2.2 107 (by simp)])
theorem SCs_prt (s : SCs p m w) (f1 : PFm m m1) (f2 : PFw w w1) : SCs p m1 w1 := SC_ow s (fun k _ => f1.1 _ (by simp; exact ⟨fun c => pq_n (by omega) c.symm, fun c => pq_n (by omega) c.symm, fun c => pq_n (by omega) c.symm, fun c => pq_n (by omega) c.symm⟩)) (f1.2.2.1 _ (by simp; exact ⟨fun c => pq_n (by omega) c.symm, fun c => pq_n (by omega) c.symm⟩)) (fun K h1 h2 => f2.2.2.1 K (by simp; omega))
/-- what has been printed changes only -/
theorem WL_prt (W0 : WLs RR PR Fv P Fv' P' cur i j0 m w) (f1 : PFm m m1) (b1 : (0 ≤ F m1 953 ∧ F m1 953 ≤ 200) ∧ ∀ i : Nat, (i : Int) < F m1 953 → 0 ≤ A m1 53 i ∧ A m1 53 i ≤ 100) (f2 : PFw w w1) : WLs RR PR Fv P Fv' P' cur i j0 m1 w1 := by
  obtain ⟨⟨d, cx⟩, ⟨dw, lk, wt⟩, pb⟩ := W0.1
  have fr1 : FR [1964, 865, 866, 953] [] [52, 53] [45] m m1 := f1
  have nq : ∀ {q k l : Nat}, l < 2000 → pq q k ≠ l := fun h c => pq_n h c.symm
  have fc : FC 0 [1964, 865, 866, 953] [] [52, 53] [] [] [] [] m m1 := by
    refine FC.of fr1 ?_ ?_ ?_ ?_
    · intro k hk; simp at hk; simp [hk]
    · intro k hk; simp at hk; omega
    · simp
    · intro k hk; simp at hk; omega
  have d2 : DWc Fv P PR m1 := DWc_gl2 d fc (by simp) (by simp) (fun h0 => by
    have := (d.2 0 h0).1
    unfold SMQ at this ⊢
    rw [fc.Fq (by omega) (by simp), fc.Fq (by omega) (by simp), fc.Fq (by omega) (by simp), fc.Fq (by omega) (by simp)]
    exact this) (by simp) (by rw [fc.Fg (by omega) (by simp)]; exact d.1.2.2.1) (by rw [fc.Fg (by omega) (by simp)]; exact ⟨d.1.2.2.2.1.2.1, d.1.2.2.2.1.2.2⟩) (by simp) b1
  have lm : ∀ d, LOCm d m m1 := fun d k hk => ⟨f1.1 _ (by simp; exact ⟨nq (by omega), nq (by omega), nq (by omega), nq (by omega)⟩), f1.2.1 _ (by simp), f1.2.2.1 _ (by simp; exact ⟨nq (by omega), nq (by omega)⟩), prt_j f1⟩
  have lw : ∀ d, LOCw d w w1 := fun d => ⟨fun K k h => by rw [f2.2.2.1 K (by simp; rcases h with ⟨h, -⟩ | ⟨h, -⟩ | ⟨h, -⟩ | ⟨h, -⟩ <;> omega)], fun K h => by rw [f2.2.2.1 K (by simp; omega)], fun k _ _ => by rw [f2.2.2.1 131 (by simp)], by rw [f2.2.2.2 111 (by simp)], fun k _ _ => by rw [f2.2.2.2 88 (by simp)], fun k _ _ => by rw [f2.2.2.2 91 (by simp)], fun k _ _ => by rw [f2.2.2.2 93 (by simp)], fun k _ _ => by rw [f2.2.2.2 107 (by simp)]⟩
  exact WL_same W0 ⟨⟨d2, CTX_fr cx (f1.1 22 (by simp)) (f1.2.2.1 3 (by simp))⟩, ⟨DW_fr dw f2 (by simp) (by simp) (by simp) (by simp) (by simp) (by simp) (by simp) (by simp) (by simp) (by simp) (by simp) (by simp) (by simp) (by simp) (by simp) (by simp) (by simp), LK_fr lk f2 (by simp) (by simp), WTQ_fr wt f2 (by simp) (by simp) (by simp)⟩, pb⟩ (prt_pg f1 f2) lm lw (f1.1 955 (by simp)) (f1.2.2.1 54 (by simp)) (f2.1 150 (by simp)) (fun K h => f2.2.2.1 K (by simp; omega)) (f2.2.2.2 148 (by simp))
end
