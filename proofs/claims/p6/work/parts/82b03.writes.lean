set_option maxRecDepth 100000
theorem okV_int {n : Nat} {v : Int32} : okV n (.inl v) = true := rfl
section
variable {o : Option Nat} {c : Nat → Nat} {m : MS} {u : CS} {j q k : Nat}
theorem SMR_I {x : Int32} {r l a : Nat} (h1 : l = 0 → ¬ (r = q ∧ a < 20)) (h2 : l = 20 → ¬ (r = q ∧ 20 ≤ a ∧ a < 30)) (h3 : ¬ (r = q ∧ 30 ≤ a)) (ha : a < 100) : SMR c m (upI m (pq q a) x) r l := by
  refine ⟨fun z => ⟨fun d hd => if_neg ?_, fun _ _ => rfl⟩, fun z d hd1 hd2 => if_neg ?_, rfl, rfl, fun d hd hd2 => if_neg ?_⟩
  · have := h1 z; unfold pq; omega
  · have := h2 z; unfold pq; omega
  · unfold pq; omega
theorem pI_frame {x : Int32} {a : Nat} : ∀ i, i < 2000 → (upI m (pq q a) x).1 i = m.1 i := fun i hi => if_neg (by unfold pq; omega)
theorem RP_qI (h : RP o c m u) (hj : PVn c j q) (hk : KI k) {v : Int32} : ∃ w, pF u j 7 k (.inl v) = some w ∧ RP o c (upI m (pq q k) v) w ∧ w.1 = u.1 := by
  obtain ⟨f, e, e1, hlt, g, e2, r⟩ := oF_P h hj
  cases e2
  obtain ⟨hq, rfl⟩ := hj
  have hk1 : k < 16 := by unfold KI at hk; omega
  refine ⟨cup u (c (pq q 0)) (.inl (7, fun j => if j = k then .inl v else f j)), by unfold pF; rw [e], ?_, rfl⟩
  refine RP_role h hq isR0 ⟨fun _ => ?_, fun z => (by cases z), fun z => (by cases z), fun z => (by cases z), fun z => (by cases z), fun z => (by cases z), fun z => (by cases z), fun z => (by cases z), fun z => (by cases z), fun z => (by cases z), fun z => (by cases z)⟩ (okC_upd (okC_of h.2.1 hlt e1) rfl) pI_frame (fun _ _ => rfl) (fun _ _ => rfl) (fun _ _ => rfl) (fun r l hr hl hne => SMR_I (by omega) (by omega) (by omega) (by omega)) (fun r r2 hr => ?_) (fun r l hr hl => if_neg ?_)
  · obtain ⟨r0, r1, r2, r3, r6, r14, r17, rI, r10, r16⟩ := r
    have hn : ∀ l, ¬ KI l → l ≠ k := fun l z y => z (y ▸ hk)
    refine ⟨_, rfl, ?_, ?_, ?_, ?_, ?_, ?_, ?_, fun l hl => ?_, ?_, ?_⟩
    · rw [if_neg (hn 0 (by unfold KI; omega))]; exact r0
    · rw [if_neg (hn 1 (by unfold KI; omega))]; exact r1
    · rw [if_neg (hn 2 (by unfold KI; omega))]; exact r2
    · rw [if_neg (hn 3 (by unfold KI; omega))]; exact r3
    · rw [if_neg (hn 6 (by unfold KI; omega))]; exact r6
    · rw [if_neg (hn 14 (by unfold KI; omega))]; exact r14
    · rw [if_neg (hn 17 (by unfold KI; omega)), r17]
      unfold hmR
      rw [show (upI m (pq q k) v).1 (pq q 17) = m.1 (pq q 17) from if_neg (by unfold pq; omega)]
    · by_cases ee : l = k
      · subst ee; rw [if_pos rfl]; exact congrArg _ (if_pos rfl).symm
      · rw [if_neg ee, rI l hl]; exact congrArg _ (if_neg (by unfold pq; omega)).symm
    · rw [if_neg (hn 10 (by unfold KI; omega))]; exact r10
    · rw [if_neg (hn 16 (by unfold KI; omega))]; exact r16
  · rw [show (upI m (pq q k) v).1 (pq r 17) = m.1 (pq r 17) from if_neg (by unfold pq; omega)]
    exact h.2.2.2.2.2.1.2 r r2 hr
  · unfold isL at hl; unfold pq; omega
theorem RP_qL (h : RP o c m u) (hj : PVn c j q) (hk : k = 10 ∨ k = 16) {v : Int64} : ∃ w, pF u j 7 k (.inr (.inl v)) = some w ∧ RP o c (upL m (pq q k) v) w ∧ w.1 = u.1 := by
  obtain ⟨f, e, e1, hlt, g, e2, r⟩ := oF_P h hj
  cases e2
  obtain ⟨hq, rfl⟩ := hj
  refine ⟨cup u (c (pq q 0)) (.inl (7, fun j => if j = k then .inr (.inl v) else f j)), by unfold pF; rw [e], ?_, rfl⟩
  refine RP_role h hq isR0 ⟨fun _ => ?_, fun z => (by cases z), fun z => (by cases z), fun z => (by cases z), fun z => (by cases z), fun z => (by cases z), fun z => (by cases z), fun z => (by cases z), fun z => (by cases z), fun z => (by cases z), fun z => (by cases z)⟩ (okC_upd (okC_of h.2.1 hlt e1) rfl) (fun _ _ => rfl) (fun i hi => if_neg (by unfold pq; omega)) (fun _ _ => rfl) (fun _ _ => rfl) (fun r l hr hl hne => ⟨fun z => ⟨fun _ _ => rfl, fun d hd => if_neg (by unfold pq; omega)⟩, fun _ _ _ _ => rfl, rfl, rfl, fun _ _ _ => rfl⟩) h.2.2.2.2.2.1.2 (fun r l hr hl => rfl)
  obtain ⟨r0, r1, r2, r3, r6, r14, r17, rI, r10, r16⟩ := r
  refine ⟨_, rfl, ?_, ?_, ?_, ?_, ?_, ?_, ?_, fun l hl => ?_, ?_, ?_⟩
  · rw [if_neg (by omega)]; exact r0
  · rw [if_neg (by omega)]; exact r1
  · rw [if_neg (by omega)]; exact r2
  · rw [if_neg (by omega)]; exact r3
  · rw [if_neg (by omega)]; exact r6
  · rw [if_neg (by omega)]; exact r14
  · rw [if_neg (by omega)]; exact r17
  · rw [if_neg (by unfold KI at hl; omega)]; exact rI l hl
  · by_cases ee : 10 = k
    · subst ee; rw [if_pos rfl]; exact congrArg _ (congrArg _ (if_pos rfl).symm)
    · rw [if_neg ee, r10]; exact congrArg _ (congrArg _ (if_neg (by unfold pq; omega)).symm)
  · by_cases ee : 16 = k
    · subst ee; rw [if_pos rfl]; exact congrArg _ (congrArg _ (if_pos rfl).symm)
    · rw [if_neg ee, r16]; exact congrArg _ (congrArg _ (if_neg (by unfold pq; omega)).symm)
theorem RP_qH (h : RP o c m u) (hj : PVn c j q) {a b : Option Nat} (hp : PVo c a b) : ∃ w, pF u j 7 17 (.inr (.inr a)) = some w ∧ RP o c (upI m (pq q 17) (fr b)) w ∧ w.1 = u.1 := by
  obtain ⟨f, e, e1, hlt, g, e2, r⟩ := oF_P h hj
  cases e2
  obtain ⟨hq, rfl⟩ := hj
  have hv : okV u.1.1 (.inr (.inr a)) = true := by
    rcases hp with ⟨rfl, -⟩ | ⟨j2, q2, rfl, -, h3, rfl⟩
    · rfl
    · exact decide_eq_true (h.lt h3 isR0)
  refine ⟨cup u (c (pq q 0)) (.inl (7, fun j => if j = 17 then .inr (.inr a) else f j)), by unfold pF; rw [e], ?_, rfl⟩
  refine RP_role h hq isR0 ⟨fun _ => ?_, fun z => (by cases z), fun z => (by cases z), fun z => (by cases z), fun z => (by cases z), fun z => (by cases z), fun z => (by cases z), fun z => (by cases z), fun z => (by cases z), fun z => (by cases z), fun z => (by cases z)⟩ (okC_upd (okC_of h.2.1 hlt e1) hv) pI_frame (fun _ _ => rfl) (fun _ _ => rfl) (fun _ _ => rfl) (fun r l hr hl hne => SMR_I (by omega) (by omega) (by omega) (by omega)) (fun r5 r2 hr => ?_) (fun r l hr hl => if_neg ?_)
  · obtain ⟨r0, r1, r2, r3, r6, r14, r17, rI, r10, r16⟩ := r
    refine ⟨_, rfl, r0, r1, r2, r3, r6, r14, ?_, fun l hl => ?_, r10, r16⟩
    · rw [if_pos rfl]
      unfold hmR
      rw [show (upI m (pq q 17) (fr b)).1 (pq q 17) = fr b from if_pos rfl, rf_fr hp.lt, hp.map]
    · rw [if_neg (by unfold KI at hl; omega), rI l hl]; exact congrArg _ (if_neg (by unfold KI at hl; unfold pq; omega)).symm
  · by_cases ee : r5 = q
    · subst ee
      rw [show (upI m (pq r5 17) (fr b)).1 (pq r5 17) = fr b from if_pos rfl, rf_fr hp.lt]
      intro z
      rcases hp with ⟨-, h2⟩ | ⟨j2, q2, -, h2, h3, -⟩
      · rw [h2] at z; cases z
      · rw [h2] at z; cases z; exact h3
    · rw [show (upI m (pq q 17) (fr b)).1 (pq r5 17) = m.1 (pq r5 17) from if_neg (by unfold pq; omega)]
      exact h.2.2.2.2.2.1.2 r5 r2 hr
  · unfold isL at hl; unfold pq; omega
theorem RP_fI (h : RP o c m u) (hj : FVn c j q) (hk : KG k) {v : Int32} : ∃ w, pF u j 4 k (.inl v) = some w ∧ RP o c (upI m (pq q (20 + k)) v) w ∧ w.1 = u.1 := by
  obtain ⟨f, e, e1, hlt, g, e2, r⟩ := oF_F h hj
  cases e2
  obtain ⟨hq, rfl⟩ := hj
  have hk1 : k < 10 ∧ 0 < k := by unfold KG at hk; omega
  refine ⟨cup u (c (pq q 20)) (.inl (4, fun j => if j = k then .inl v else f j)), by unfold pF; rw [e], ?_, rfl⟩
  refine RP_role h hq isR20 ⟨fun z => (by cases z), fun _ => ?_, fun z => (by cases z), fun z => (by cases z), fun z => (by cases z), fun z => (by cases z), fun z => (by cases z), fun z => (by cases z), fun z => (by cases z), fun z => (by cases z), fun z => (by cases z)⟩ (okC_upd (okC_of h.2.1 hlt e1) rfl) pI_frame (fun _ _ => rfl) (fun _ _ => rfl) (fun _ _ => rfl) (fun r l hr hl hne => SMR_I (by omega) (by omega) (by omega) (by omega)) (fun r r2 hr => ?_) (fun r l hr hl => if_neg ?_)
  · obtain ⟨r0, r2, r3, r5, r7, rI⟩ := r
    have hn : ∀ l, ¬ KG l → l ≠ k := fun l z y => z (y ▸ hk)
    refine ⟨_, rfl, ?_, ?_, ?_, ?_, ?_, fun l hl => ?_⟩
    · rw [if_neg (hn 0 (by unfold KG; omega))]; exact r0
    · rw [if_neg (hn 2 (by unfold KG; omega))]; exact r2
    · rw [if_neg (hn 3 (by unfold KG; omega))]; exact r3
    · rw [if_neg (hn 5 (by unfold KG; omega))]; exact r5
    · rw [if_neg (hn 7 (by unfold KG; omega))]; exact r7
    · by_cases ee : l = k
      · subst ee; rw [if_pos rfl]; exact congrArg _ (if_pos rfl).symm
      · rw [if_neg ee, rI l hl]; exact congrArg _ (if_neg (by unfold pq; omega)).symm
  · rw [show (upI m (pq q (20 + k)) v).1 (pq r 17) = m.1 (pq r 17) from if_neg (by unfold pq; omega)]
    exact h.2.2.2.2.2.1.2 r r2 hr
  · unfold isL at hl; unfold pq; omega
theorem SMR_J {g : Nat → Int64} {r l a : Nat} (hl : l < 100) (ha : a < 100) (h : ¬ (r = q ∧ l = a)) : SMR c m (upJ m (pq q a) g) r l := ⟨fun _ => ⟨fun _ _ => rfl, fun _ _ => rfl⟩, fun _ _ _ _ => rfl, rfl, if_neg (by unfold pq; omega), fun _ _ _ => rfl⟩
theorem SMR_A {g : Nat → Int32} {r l a : Nat} (hl : l < 100) (ha : a < 100) (h : ¬ (r = q ∧ l = a)) : SMR c m (upA m (pq q a) g) r l := ⟨fun _ => ⟨fun _ _ => rfl, fun _ _ => rfl⟩, fun _ _ _ _ => rfl, if_neg (by unfold pq; omega), rfl, fun _ _ _ => rfl⟩
theorem RP_rJ (h : RP o c m u) (hq : MD c q) (hk : isJ k) {g : Nat → Int64} {g2 : Nat → Int64} (hg : ∀ i, i < lnJ m q k → g2 i = g i) : RP o c (upJ m (pq q k) g) (cup u (c (pq q k)) (.inr (.inr (.inl (lnJ m q k, g2))))) := by
  have hk2 := isR_lt (isJR hk)
  refine RP_role h hq (isJR hk) ((ROL_J hk).mpr ⟨g2, rfl, fun i hi => ?_⟩) rfl (fun _ _ => rfl) (fun _ _ => rfl) (fun _ _ => rfl) (fun i hi => if_neg (by unfold pq; omega)) (fun r l hr hl hne => SMR_J (isR_lt hl) hk2 hne) h.2.2.2.2.2.1.2 (fun _ _ _ _ => rfl)
  rw [show (upJ m (pq q k) g).2.2.2 (pq q k) = g from if_pos rfl]
  exact hg i hi
theorem RP_rI (h : RP o c m u) (hq : MD c q) (hk : isI k) {g : Nat → Int32} {g2 : Nat → Int32} (hg : ∀ i, i < lnI m q k → g2 i = g i) : RP o c (upA m (pq q k) g) (cup u (c (pq q k)) (.inr (.inl (4, lnI m q k, g2)))) := by
  have hk2 := isR_lt (isIR hk)
  refine RP_role h hq (isIR hk) ((ROL_I hk).mpr ⟨g2, rfl, fun i hi => ?_⟩) rfl (fun _ _ => rfl) (fun _ _ => rfl) (fun i hi => if_neg (by unfold pq; omega)) (fun _ _ => rfl) (fun r l hr hl hne => SMR_A (isR_lt hl) hk2 hne) h.2.2.2.2.2.1.2 (fun _ _ _ _ => rfl)
  rw [show (upA m (pq q k) g).2.2.1 (pq q k) = g from if_pos rfl]
  exact hg i hi
theorem RP_sJ (h : RP o c m u) (hq : MD c q) (hk : isJ k) {z : Int32} {v : Int64} (hz : inb z (lnJ m q k) = true) : ∃ w, sJ u (c (pq q k)) z v = some w ∧ RP o c (upJ m (pq q k) (vp_updL (m.2.2.2 (pq q k)) z.toNatClampNeg v)) w ∧ w.1 = u.1 := by
  obtain ⟨g, e, e2, h2⟩ := oL_ar (h.lt hq (isJR hk)) ((ROL_J hk).mp (h.rol hq (isJR hk)))
  refine ⟨cup u (c (pq q k)) (.inr (.inr (.inl (lnJ m q k, vp_updL g z.toNatClampNeg v)))), by unfold sJ; rw [e]; exact if_pos hz, RP_rJ h hq hk (fun i hi => ?_), rfl⟩
  unfold vp_updL
  by_cases ee : i = z.toNatClampNeg
  · rw [if_pos ee, if_pos ee]
  · rw [if_neg ee, if_neg ee]; exact h2 i hi
theorem RP_sI (h : RP o c m u) (hq : MD c q) (hk : isI k) {z v : Int32} (hz : inb z (lnI m q k) = true) : ∃ w, sI u (c (pq q k)) 4 z v = some w ∧ RP o c (upA m (pq q k) (upd (m.2.2.1 (pq q k)) z.toNatClampNeg v)) w ∧ w.1 = u.1 := by
  obtain ⟨g, e, e2, h2⟩ := oA_ar (h.lt hq (isIR hk)) ((ROL_I hk).mp (h.rol hq (isIR hk)))
  refine ⟨cup u (c (pq q k)) (.inr (.inl (4, lnI m q k, upd g z.toNatClampNeg v))), by unfold sI; rw [e]; exact if_pos hz, RP_rI h hq hk (fun i hi => ?_), rfl⟩
  unfold upd
  by_cases ee : i = z.toNatClampNeg
  · rw [if_pos ee, if_pos ee]
  · rw [if_neg ee, if_neg ee]; exact h2 i hi
theorem cpOk_s {a b n : Int32} {x y : Nat} (h : cpOk a b n x y = true) : a.toNatClampNeg + n.toNatClampNeg ≤ x ∧ b.toNatClampNeg + n.toNatClampNeg ≤ y := by
  unfold cpOk at h
  exact (of_decide_eq_true h).2.2.2
theorem cpy_same {α : Type} {f f2 g g2 : Nat → α} {a b n x y : Nat} (hf : ∀ i, i < x → f2 i = f i) (hg : ∀ i, i < y → g2 i = g i) (h : a + n ≤ x ∧ b + n ≤ y) : ∀ i, i < y → va_cpy f2 g2 a b n i = va_cpy f g a b n i := by
  intro i hi
  unfold va_cpy
  by_cases e : b ≤ i ∧ i < b + n
  · rw [if_pos e, if_pos e]; exact hf _ (by omega)
  · rw [if_neg e, if_neg e]; exact hg i hi
theorem RP_cJ (h : RP o c m u) {q2 k2 : Nat} (hq : MD c q) (hk : isJ k) (hq2 : MD c q2) (hk2 : isJ k2) {a b n : Int32} (hz : cpOk a b n (lnJ m q k) (lnJ m q2 k2) = true) : ∃ w, cpJ u (c (pq q k)) a (c (pq q2 k2)) b n = some w ∧ RP o c (upJ m (pq q2 k2) (va_cpy (m.2.2.2 (pq q k)) (m.2.2.2 (pq q2 k2)) a.toNatClampNeg b.toNatClampNeg n.toNatClampNeg)) w ∧ w.1 = u.1 := by
  obtain ⟨g, e, e2, h2⟩ := oL_ar (h.lt hq (isJR hk)) ((ROL_J hk).mp (h.rol hq (isJR hk)))
  obtain ⟨g3, e3, e4, h3⟩ := oL_ar (h.lt hq2 (isJR hk2)) ((ROL_J hk2).mp (h.rol hq2 (isJR hk2)))
  refine ⟨cup u (c (pq q2 k2)) (.inr (.inr (.inl (lnJ m q2 k2, va_cpy g g3 a.toNatClampNeg b.toNatClampNeg n.toNatClampNeg)))), by unfold cpJ; rw [e, e3]; show ck (cpOk a b n (lnJ m q k) (lnJ m q2 k2)) _ = _; unfold ck; rw [if_pos hz], RP_rJ h hq2 hk2 (cpy_same h2 h3 (cpOk_s hz)), rfl⟩
theorem RP_cI (h : RP o c m u) (hq : MD c q) (hk : isI k) {a b n : Int32} (hz : cpOk a b n (lnI m q k) (lnI m q k) = true) : ∃ w, cpI u 4 (c (pq q k)) a (c (pq q k)) b n = some w ∧ RP o c (upA m (pq q k) (va_cpy (m.2.2.1 (pq q k)) (m.2.2.1 (pq q k)) a.toNatClampNeg b.toNatClampNeg n.toNatClampNeg)) w ∧ w.1 = u.1 := by
  obtain ⟨g, e, e2, h2⟩ := oA_ar (h.lt hq (isIR hk)) ((ROL_I hk).mp (h.rol hq (isIR hk)))
  refine ⟨cup u (c (pq q k)) (.inr (.inl (4, lnI m q k, va_cpy g g a.toNatClampNeg b.toNatClampNeg n.toNatClampNeg))), by unfold cpI; rw [e]; show ck (cpOk a b n (lnI m q k) (lnI m q k)) (ck (ftB 4 g a.toNatClampNeg n.toNatClampNeg) _) = _; unfold ck; rw [if_pos hz, if_pos (show ftB 4 g a.toNatClampNeg n.toNatClampNeg = true from rfl)], RP_rI h hq hk (cpy_same h2 h2 (cpOk_s hz)), rfl⟩
end
