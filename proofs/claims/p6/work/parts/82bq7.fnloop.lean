set_option maxRecDepth 100000
def PDK (m0 m : MS) : Prop := Kcc m0 m ∧ (∀ k, 720 ≤ k → k < 740 → m.1 k = m0.1 k) ∧ ∀ k, 36 ≤ k → k ≤ 38 → m.2.2.1 k = m0.2.2.1 k
def PDF (N : Nat) (m0 w0 : MS) (x y : Int32) (c : Nat) : Prop := (∀ w, (∀ k, k ∈ [2, 12, 13] → w.2.2.1 k = w0.2.2.1 k) → PK (fun v r => v = w ∧ (r = -1 ↔ c = 0) ∧ (18 ≤ r ↔ c = 2)) (fm_M_predefinedOf N w x y)) ∧ ∀ m, PDK m0 m → ∃ r, hm_Cm_predefinedOf N m x y = some (m, r) ∧ (r = -1 ↔ c = 0) ∧ ((¬ r < 17 ∧ r ≤ 28) ↔ c = 2)
def CTP (N : Nat) (m0 w0 : MS) (K : Nat → Nat) (T : Nat) (pd : Int32 → Int32 → Nat) : Prop := ∀ j, j < T → K j = 2 → ∀ a : Nat, a ≤ 6 → PDF N m0 w0 (w0.2.2.1 7 j) (I (a : Nat)) (pd (w0.2.2.1 7 j) (I (a : Nat)))
def PCT (f : Nat) (m v : MS) : Prop := (∀ k, k ∉ [306, 442, 449, 665] → v.1 k = m.1 k) ∧ (∀ k, k < 16 ∨ (21 < k ∧ (k < 24 ∨ 28 < k) ∧ k ≠ 34) → v.2.2.1 k = m.2.2.1 k) ∧ ∀ k, 24 ≤ k → k ≤ 28 → ∀ j, j < f → v.2.2.1 k j = m.2.2.1 k j
def FNZ (N : Nat) (m0 w0 : MS) (K : Nat → Nat) (T : Nat) (nm : Nat → Nat) (pd : Int32 → Int32 → Nat) (f p0 n0 : Nat) (mB wB m2 : MS) (z : Unit ⊕ Nat) (w2 : MS) (_ : Unit) : Prop := match z with
  | .inr _ => FLW w2
  | .inl _ => ∃ (p n ar : Nat) (a : CLT) (l : List CLT), (RLP m0 w0 T p m2 w2 ∧ p0 + 6 ≤ p ∧ m2.1 306 = I (n : Nat) ∧ n ≤ 2 * p ∧ n0 ≤ n) ∧ KPO n0 mB m2 ∧ PCT f mB m2 ∧ ((∀ b, b ∈ a :: l → CLOb N K nm m2 n0 n b) ∧ NXT m2 ((a :: l).map (fun b => b.1)) ∧ a.2.1 = p0 ∧ a.2.2.1 = ar ∧ ar ≤ 6 ∧ K p0 = 2 ∧ p0 < T) ∧ (m2.1 442 = I ((f + 1 : Nat) : Int) ∧ m2.2.2.1 24 f = m0.2.2.1 7 p0 ∧ m2.2.2.1 25 f = I (ar : Nat) ∧ m2.2.2.1 26 f = m0.2.2.1 8 p0 ∧ m2.2.2.1 27 f = I (a.1 : Nat) ∧ m2.2.2.1 28 f = I ((l.length + 1 : Nat) : Int)) ∧ (FWE wB w2 ∧ (w2.1 66 = 0 ↔ wB.1 66 = 0 ∧ ∀ b, b ∈ a :: l → b.2.2.2.1 ≤ 40 ∧ b.2.2.2.2.2.1 = false) ∧ (w2.1 72 = 0 ↔ wB.1 72 = 0 ∧ (∀ b, b ∈ a :: l → b.2.2.2.2.1 = false ∧ NMt m0 p0 ar b) ∧ pd (w0.2.2.1 7 p0) (I (ar : Nat)) = 0 ∧ ∀ i, i < f → ¬ DUP w2 f i) ∧ CSZ wB w2 (fun x => ∃ b, b ∈ a :: l ∧ b.2.2.2.2.2.2 x) ∧ w2.1 52 = I ((f + 1 : Nat) : Int) ∧ (w2.2.2.1 47 f = w0.2.2.1 7 p0 ∧ w2.2.2.1 48 f = I (ar : Nat) ∧ w2.2.2.1 49 f = I (p0 : Nat) ∧ w2.2.2.1 51 f = I ((l.length + 1 : Nat) : Int)) ∧ ∀ k, 47 ≤ k → k ≤ 51 → ∀ j, j < f → w2.2.2.1 k j = wB.2.2.1 k j)
def f36r (N : Nat) (G : (MS → Int32 → Int32 → Int32 → Option (MS × Unit)) × (MS → Int32 → Int32 → Int32 → Option (MS × Unit))) (t v1 v2 : Int32) (u12 : MS) (r12 : Int32) : Option (MS × Unit) := br (decide (v2 = (-1))) (ck (inb t (ln 7)) (ck (inb v1 (ln 47)) (lt (upA u12 47 (upd (u12.2.2.1 47) v1.toNatClampNeg (u12.2.2.1 7 t.toNatClampNeg))) (fun w14 => ck (inb r12 (ln 41)) (ck (inb v1 (ln 48)) (lt (upA w14 48 (upd (w14.2.2.1 48) v1.toNatClampNeg (w14.2.2.1 41 r12.toNatClampNeg))) (fun w15 => ck (inb v1 (ln 50)) (lt (upA w15 50 (upd (w15.2.2.1 50) v1.toNatClampNeg r12)) (fun w16 => fb_M_function0_205 N G w16 (v1) (r12)))))))))) (ck (inb v2 (ln 45)) (lt (upA u12 45 (upd (u12.2.2.1 45) v2.toNatClampNeg r12)) (fun w13 => ck (inb t (ln 7)) (ck (inb v1 (ln 47)) (br (decide ((w13.2.2.1 7 t.toNatClampNeg) = (w13.2.2.1 47 v1.toNatClampNeg))) (ck (inb r12 (ln 41)) (ck (inb v1 (ln 48)) (br (decide ((w13.2.2.1 41 r12.toNatClampNeg) = (w13.2.2.1 48 v1.toNatClampNeg))) (fb_M_function0_205 N G w13 (v1) (r12)) (fb_M_function0_198 N G w13 (v1) (t) (r12))))) (fb_M_function0_198 N G w13 (v1) (t) (r12)))))))
def CLRw (w w' : MS) (p : Nat) : Prop := (∀ k, k ≠ 69 → k ≠ 65 → w'.1 k = w.1 k) ∧ (∀ k, k ≠ 60 → k ≠ 63 → k ≠ 64 → w'.2.2.1 k = w.2.2.1 k) ∧ w'.1 69 = I ((p + 1 : Nat) : Int) ∧ w'.1 65 = 0 ∧ w'.2.2.1 60 0 = 0 ∧ w'.2.2.1 63 0 = 0 ∧ w'.2.2.1 64 0 = 0
section
variable {α : Type} {R : MS → α → MS → Unit → Prop} {A : Option (MS × α)} {m0 w0 m w v u m2 m3 w2 w' mB wB : MS} {K nm Nk W : Nat → Nat} {T p n N q q1 X Y n0 n1 n2 n3 lo lo2 nl π b k d o M D tok f p0 ar : Nat} {v1 v2 r : Int32} {a a' : CLT} {l : List CLT} {pd : Int32 → Int32 → Nat}
theorem chn_e {x : Nat} {y : Int32} (hx : x ≤ 8015) : hm_Pa_chain N m (I (x : Nat)) y = some (upA m 21 (upd (m.2.2.1 21) x y), y) := by
  show hb_Pa_chain_0 N () m (I (x : Nat)) y = _
  unfold hb_Pa_chain_0
  rw [(I_inb (x := (x : Nat)) (n := 8016) (by omega) (by omega)).mpr ⟨by omega, by omega⟩, tnI (n := x) rfl (by omega)]
  rfl
theorem sr_1 {k : Nat} (hk : k < 46) : decide (I (srK k : Nat) = 1) = decide (k = 2) := by
  revert k
  decide
theorem f36_f {M : Nat} {t : Int32} (h : FLW u) : PK (fun w2 (_ : Unit) => FLW w2) (f36r N (gg_M_function0 N M) t v1 v2 u r) := by
  have hz : Kfc u u := h
  refine Kf_pk (u0 := u) ?_
  obtain ⟨g0, g1⟩ := yf_gg_M_function0 (u0 := u) (N := N) M
  unfold f36r
  repeat' (first | with_reducible assumption | with_reducible refine Kf_br ?_ ?_ | with_reducible refine Kf_ck ?_ | with_reducible refine Kf_ltm ?_ (fun _ _ => ?_) | with_reducible exact yf_fb_M_function0_205 (by assumption) g0 g1 | with_reducible exact yf_fb_M_function0_198 (by assumption) g0 g1 | with_reducible refine Kf_A ?_)
theorem f36_pp {G : (MS → Int32 → Int32 → Int32 → Option (MS × Unit)) × (MS → Int32 → Int32 → Int32 → Option (MS × Unit))} (hw : WP w K T p) (h0 : w.1 67 = 0) (k2 : K p = 2) (h : ∀ w', CLRw w w' p → PP R A (bnd (fr_M_clause N w' (I (p : Nat))) (fun u12 r12 => f36r N G (I (p : Nat)) v1 v2 u12 r12))) : PP R A (fb_M_function0_36 N G w v1 v2 1) := by
  have T4 := hw.1.1.1
  have hp := hw.2.2
  have e6 : w.2.2.1 6 (w.1 69).toNatClampNeg = I (srK (K p) : Nat) := by rw [hw.2.1, tnI (n := p) rfl (by omega)]; exact hw.1.2.1 p hp
  unfold fb_M_function0_36
  rw [show decide ((1 : Int32) = 0) = false from rfl, br_fq, decide_eq_true h0, br_tq, e6, sr_1 (by omega), decide_eq_true k2, br_tq, hw.2.1]
  refine r_ck (fun _ => r_lt (r_lt (r_ck (fun _ => r_lt (r_ck (fun _ => r_lt (r_ck (fun _ => r_lt (h _ ?_)))))))))
  refine ⟨fun k h1 h2 => ?_, fun k h1 h2 h3 => ?_, ?_, ?_, ?_, ?_, ?_⟩
  · show (upI (upI w 69 _) 65 0).1 k = _
    rw [upI_ne h2, upI_ne h1]
  · rw [upA_no h3, upA_no h2, upA_no h1]
    rfl
  · show (upI (upI w 69 _) 65 0).1 69 = _
    rw [upI_ne (by decide), upI_at]
    exact i_suc
  · show (upI (upI w 69 (I (p : Nat) + 1)) 65 0).1 65 = _
    exact upI_at
  · rw [upA_no (by decide), upA_no (by decide), upA_at]
    exact upd_at
  · rw [upA_no (by decide), upA_at]
    exact upd_at
  · rw [upA_at]
    exact upd_at
theorem f36_x {G : (MS → Int32 → Int32 → Int32 → Option (MS × Unit)) × (MS → Int32 → Int32 → Int32 → Option (MS × Unit))} (hw : WP w K T p) (h0 : w.1 67 = 0) (k2 : K p ≠ 2) : PK (fun w2 (_ : Unit) => FLW w2) (fb_M_function0_36 N G w v1 v2 1) := by
  have T4 := hw.1.1.1
  have hp := hw.2.2
  have k46 : K p < 46 := hw.1.1.k46 hp
  unfold fb_M_function0_36
  rw [show decide ((1 : Int32) = 0) = false from rfl, br_fq, decide_eq_true h0, br_tq, hw.2.1, tnI (n := p) rfl (by omega), hw.1.2.1 p hp, sr_1 k46, decide_eq_false k2, br_fq]
  exact pk_ck (fun _ => pk_bnd (pk_mo (fun v r e => wrong_s (u0 := w) (by decide) v r e) (fun v _ (z : Kfc w v) => pk_some z)))
theorem CLRw_k (h : CLRw w w' p) : Ktc w w' := ⟨fun k hk => h.1 k (by rintro rfl; revert hk; decide) (by rintro rfl; revert hk; decide), fun k hk => h.2.1 k (by rintro rfl; revert hk; decide) (by rintro rfl; revert hk; decide) (by rintro rfl; revert hk; decide)⟩
theorem FWI_s {bq : Nat} (cA : CTA m0 w0 K T) (h : FWI m0 w0 wB w f p0 ar l) (hc : CLRw w w' p) (e66 : w2.1 66 = 0 ↔ w'.1 66 = 0 ∧ a'.2.2.2.1 ≤ 40 ∧ a'.2.2.2.2.2.1 = false) (e72 : w2.1 72 = 0 ↔ w'.1 72 = 0 ∧ a'.2.2.2.2.1 = false) (wf : WFE w' w2) (cs : CSZ w' w2 a'.2.2.2.2.2.2) (kd : Kdc w' w2) (hi : ∀ k, k ≠ 71 → k ≠ 72 → u.1 k = w2.1 k) (hr : ∀ k, k ≠ 45 → u.2.2.1 k = w2.2.2.1 k) (h72 : (u.1 72 = w2.1 72 ∧ NMt m0 p0 ar a') ∨ (u.1 72 ≠ 0 ∧ ¬ NMt m0 p0 ar a')) : FWI m0 w0 wB u f p0 ar (l ++ [a']) := by
  obtain ⟨a1, a2, a3, a4, a5, a6, a7⟩ := h
  have m1 : ∀ {P : CLT → Prop}, (∀ b, b ∈ l ++ [a'] → P b) ↔ (∀ b, b ∈ l → P b) ∧ P a' := fun {P} => ⟨fun z => ⟨fun b hb => z b (List.mem_append_left _ hb), z a' (List.mem_append_right _ List.mem_cons_self)⟩, fun z b hb => by
    rcases List.mem_append.mp hb with y | y
    · exact z.1 b y
    · have : b = a' := by simpa using y
      rw [this]; exact z.2⟩
  refine ⟨fun k hk => ?_, ?_, ?_, ?_, ?_, ?_, ?_⟩
  · have n1 : k ≠ 69 ∧ k ≠ 65 ∧ k ≠ 71 ∧ k ≠ 72 := by
      refine ⟨?_, ?_, ?_, ?_⟩ <;> (rintro rfl; revert hk; decide)
    rw [hi k n1.2.2.1 n1.2.2.2, ← a1 k hk, ← hc.1 k n1.1 n1.2.1]
    exact wf.1 k (by revert hk; simp only [List.mem_cons, List.not_mem_nil, or_false]; omega)
  · rw [hi 66 (by decide) (by decide), e66, hc.1 66 (by decide) (by decide), a2, m1 (P := fun b => b.2.2.2.1 ≤ 40 ∧ b.2.2.2.2.2.1 = false)]
    exact ⟨fun z => ⟨z.1.1, z.1.2, z.2⟩, fun z => ⟨⟨z.1, z.2.1⟩, z.2.2⟩⟩
  · rw [m1 (P := fun b => b.2.2.2.2.1 = false ∧ NMt m0 p0 ar b)]
    rcases h72 with ⟨h1, h2⟩ | ⟨h1, h2⟩
    · rw [h1, e72, hc.1 72 (by decide) (by decide), a3]
      exact ⟨fun z => ⟨z.1.1, z.1.2, z.2, h2⟩, fun z => ⟨⟨z.1, z.2.1⟩, z.2.2.1⟩⟩
    · exact ⟨fun z => absurd z h1, fun z => absurd z.2.2.2 h2⟩
  · have c1 : CSZ w u a'.2.2.2.2.2.2 := CSZ_l (CSZ_r cs (hi 32 (by decide) (by decide)) (fun k _ _ => hr k (by omega))) (hc.1 32 (by decide) (by decide)) (fun k _ _ => hc.2.1 k (by omega) (by omega) (by omega))
    refine CSZ_q (CSZ_tr a4 c1) (fun x => ⟨fun z => ?_, fun z => ?_⟩)
    · rcases z with ⟨b, b1, b2⟩ | z
      · exact ⟨b, List.mem_append_left _ b1, b2⟩
      · exact ⟨a', List.mem_append_right _ List.mem_cons_self, z⟩
    · obtain ⟨b, b1, b2⟩ := z
      rcases List.mem_append.mp b1 with y | y
      · exact Or.inl ⟨b, y, b2⟩
      · have : b = a' := by simpa using y
        rw [← this]; exact Or.inr b2
  · rw [hi 52 (by decide) (by decide), kd.1, hc.1 52 (by decide) (by decide)]; exact a5
  · rw [hr 47 (by decide), hr 48 (by decide), hr 49 (by decide), kd.2 47 (by decide) (by decide), kd.2 48 (by decide) (by decide), kd.2 49 (by decide) (by decide), hc.2.1 47 (by decide) (by decide) (by decide), hc.2.1 48 (by decide) (by decide) (by decide), hc.2.1 49 (by decide) (by decide) (by decide)]
    exact a6
  · intro k k1 k2 j hj
    rw [hr k (by omega), kd.2 k k1 k2, hc.2.1 k (by omega) (by omega) (by omega)]
    exact a7 k k1 k2 j hj
end
