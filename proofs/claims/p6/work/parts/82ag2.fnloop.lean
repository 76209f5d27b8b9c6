def tk7 (N : Nat) (G : (MS → Int32 → Int32 → Int32 → Option (MS × Unit)) × (MS → Int32 → Int32 → Int32 → Option (MS × Unit))) (v1 v5 : Int32) (w4 : MS) : Option (MS × Unit) := bnd (fm_M_takeSign N w4 7) (fun u5 r5 => G.1 u5 (v1) (v5) (r5))
def fnC (N : Nat) (G : (MS → Int32 → Int32 → Int32 → Option (MS × Unit)) × (MS → Int32 → Int32 → Int32 → Option (MS × Unit))) (v1 v2 t : Int32) (u12 : MS) (r12 : Int32) : Option (MS × Unit) := br (decide (v2 = (-1))) (ck (inb t (ln 7)) (ck (inb v1 (ln 47)) (lt (upA u12 47 (upd (u12.2.2.1 47) v1.toNatClampNeg (u12.2.2.1 7 t.toNatClampNeg))) (fun w14 => ck (inb r12 (ln 41)) (ck (inb v1 (ln 48)) (lt (upA w14 48 (upd (w14.2.2.1 48) v1.toNatClampNeg (w14.2.2.1 41 r12.toNatClampNeg))) (fun w15 => ck (inb v1 (ln 50)) (lt (upA w15 50 (upd (w15.2.2.1 50) v1.toNatClampNeg r12)) (fun w16 => fb_M_function0_205 N G w16 (v1) (r12)))))))))) (ck (inb v2 (ln 45)) (lt (upA u12 45 (upd (u12.2.2.1 45) v2.toNatClampNeg r12)) (fun w13 => ck (inb t (ln 7)) (ck (inb v1 (ln 47)) (br (decide ((w13.2.2.1 7 t.toNatClampNeg) = (w13.2.2.1 47 v1.toNatClampNeg))) (ck (inb r12 (ln 41)) (ck (inb v1 (ln 48)) (br (decide ((w13.2.2.1 41 r12.toNatClampNeg) = (w13.2.2.1 48 v1.toNatClampNeg))) (fb_M_function0_205 N G w13 (v1) (r12)) (fb_M_function0_198 N G w13 (v1) t (r12))))) (fb_M_function0_198 N G w13 (v1) t (r12)))))))
section
variable {Q : MS → Unit → Prop} {u v w x : MS} {N TN SN k g : Nat} {bw : Nat → Nat} {p n q c f h l : Int} {G : (MS → Int32 → Int32 → Int32 → Option (MS × Unit)) × (MS → Int32 → Int32 → Int32 → Option (MS × Unit))}
theorem f205_ok (hg : g < 1000) {v5 : Int32} (a : ∀ y, OK Q (tk7 N G (I g) v5 (wa x 51 g y))) : OK Q (fb_M_function0_205 N G x (I g) v5) := by
  unfold fb_M_function0_205
  refine k_in (k := 51) (n := 1000) rfl (by decide) (by omega) (k_in (k := 51) (n := 1000) rfl (by decide) (by omega) (ok_lt.mpr ?_))
  rw [I_tn (x := (g : Int)) (by omega) (by omega), show ((g : Nat) : Int).toNat = g by omega, I_of (x.2.2.1 51 g + 1), wa_e]
  exact a _
theorem fnC_ok (hg : g < 1000) (hc : 0 ≤ c ∧ c < 1400) (hp : 0 ≤ p ∧ p < 4002) (hl : l = -1 ∨ (0 ≤ l ∧ l < 1400)) (h71 : 0 ≤ F x 71 ∧ F x 71 < 4002)
    (a0 : l = -1 → ∀ y, OK Q (tk7 N G (I g) (I c) (wa (wa (wa (wa x 47 g (A x 7 p.toNat)) 48 g (A x 41 c.toNat)) 50 g c) 51 g y)))
    (a1 : 0 ≤ l → A x 41 c.toNat = A x 48 g → ∀ y, OK Q (tk7 N G (I g) (I c) (wa (wa x 45 l.toNat c) 51 g y)))
    (a2 : 0 ≤ l → ∀ w, FR [71, 72] [] [] [] (wa x 45 l.toNat c) w → F w 72 ≠ 0 → 0 ≤ F w 71 ∧ F w 71 < 4002 → ∀ y, OK Q (tk7 N G (I g) (I c) (wa w 51 g y))) : OK Q (fnC N G (I g) (I l) (I p) x (I c)) := by
  have eg : (I ((g : Nat) : Int)).toNatClampNeg = g := by rw [I_tn (by omega) (by omega)]; omega
  have ec : (I c).toNatClampNeg = c.toNat := I_tn (by omega) (by omega)
  have ep : (I p).toNatClampNeg = p.toNat := I_tn (by omega) (by omega)
  unfold fnC
  rcases hl with hl | hl
  · refine k_eq (x := l) (y := -1) ⟨by omega, by omega⟩ ⟨by decide, by decide⟩ (fun _ => ?_) (fun z => absurd hl z)
    refine k_in (k := 7) (n := 4002) rfl (by decide) hp (k_in (k := 47) (n := 1000) rfl (by decide) (by omega) (ok_lt.mpr ?_))
    rw [eg, ep, I_A (k := 7), wa_e]
    refine k_in (k := 41) (n := 1400) rfl (by decide) hc (k_in (k := 48) (n := 1000) rfl (by decide) (by omega) (ok_lt.mpr ?_))
    have e41 : (wa x 47 g (A x 7 p.toNat)).2.2.1 41 c.toNat = I (A x 41 c.toNat) := I_A' (wa_rne (by decide))
    rw [ec, e41, wa_e]
    refine k_in (k := 50) (n := 1000) rfl (by decide) (by omega) (ok_lt.mpr ?_)
    rw [wa_e]
    exact f205_ok hg (a0 hl)
  · refine k_eq (x := l) (y := -1) ⟨by omega, by omega⟩ ⟨by decide, by decide⟩ (fun z => by omega) (fun _ => ?_)
    refine k_in (k := 45) (n := 1400) rfl (by decide) hl (ok_lt.mpr (k_in (k := 7) (n := 4002) rfl (by decide) hp (k_in (k := 47) (n := 1000) rfl (by decide) (by omega) ?_)))
    have el : (I l).toNatClampNeg = l.toNat := I_tn (by omega) (by omega)
    rw [el, wa_e]
    have ru : OK Q (fb_M_function0_198 N G (wa x 45 l.toNat c) (I g) (I p) (I c)) := by
      unfold fb_M_function0_198
      exact k_rule (s := 4) (t := p) rfl ⟨by decide, by decide⟩ (by decide) rfl hp (by rw [F_wa]; exact h71) (fun w h1 h2 h3 => f205_ok hg (a2 hl.1 w h1 h2 h3))
    refine ok_br.mpr ⟨fun _ => ?_, fun _ => ru⟩
    refine k_in (k := 41) (n := 1400) rfl (by decide) hc (k_in (k := 48) (n := 1000) rfl (by decide) (by omega) ?_)
    rw [ec, eg]
    have e41 : (wa x 45 l.toNat c).2.2.1 41 c.toNat = I (A x 41 c.toNat) := I_A' (wa_rne (by decide))
    have e48 : (wa x 45 l.toNat c).2.2.1 48 g = I (A x 48 g) := I_A' (wa_rne (by decide))
    rw [e41, e48]
    have r1 := ARG1 x 41 c.toNat
    have r2 := ARG1 x 48 g
    exact k_eq r1 r2 (fun z => f205_ok hg (a1 hl.1 z)) (fun _ => ru)
theorem FCY_0 {a b : Nat → Nat} {m2 : Nat} (hk : k = 0) {m1 : Nat} (h : FCY SN a b v k m1 l) : FCY SN a b v k m2 l := by
  obtain ⟨μ, r, mm, X, Y, ch, h2⟩ := h
  subst hk
  exact ⟨μ, r, mm, X, Y, ⟨fun j hj => by omega, fun j hj => by omega, fun y => by omega⟩, h2⟩
theorem FTY_add {p2 : Int} (hv : FTY TN SN g k l v) (hk0 : k = 0 → l = -1) (e46 : F v 46 = c ∧ 0 ≤ c ∧ c < 1400) (kx : KPR 0 (cs v) x) (ct : CTY TN SN 0 0 (p2 - (p + 1) + 1) c (cs v) x) (s63 : A x 63 0 = 0) (hp : 0 ≤ p ∧ p2 ≤ TN) (hw : (k = 0 ∧ w = x) ∨ (0 < k ∧ w = wa x 45 l.toNat c)) (h41 : 0 < k → A x 41 c.toNat = A x 48 g) (x48 : ∀ i, A x 48 i = A v 48 i ∧ A x 50 i = A v 50 i) {y : MS} (ye : EQY w y) (ym : mks y = mks w) (y48 : ∀ i, i < g → A y 48 i = A w 48 i ∧ A y 50 i = A w 50 i) (yg : (k = 0 → A y 48 g = A x 41 c.toNat ∧ A y 50 g = c) ∧ (0 < k → A y 48 g = A w 48 g ∧ A y 50 g = A w 50 g)) (h72 : F y 72 = 0 → F x 72 = 0) (h66 : F y 66 = 0 → F x 66 = 0) : FTY TN SN g (k + 1) c y := by
  intro z1 z2 z3
  have x72 := h72 z1
  have x66 := h66 z2
  have v72 : F v 72 = 0 := by rw [← cs_F (v := v) (k := 72) (by decide)]; exact kx.2.2.2.2.2.1 x72
  have v66 : F v 66 = 0 := by rw [← cs_F (v := v) (k := 66) (by decide)]; exact kx.2.2.2.2.2.2 x66
  obtain ⟨Bd, b1, m0, b2, b3⟩ := hv v72 v66 z3
  obtain ⟨many, mm, X, Y, r0, pt, t1, t2, t3, t4, t5, t6⟩ := ct x72 x66 z3
  have h0 : hlo 0 x = 0 := by unfold hlo; rw [s63]; rfl
  rw [mks_cs, h0] at pt
  have m1 : mks v 1 = c.toNat := by show (F v 46).toNat = _; rw [e46.1]
  have pm : A x 41 (mks v 1) = ((many : Nat) : Int) := by obtain ⟨_, _, _, _, _, _, -, q, -⟩ := pt; exact q.1
  have ex : EQY v x := EQY_tr EQY_cs (EQY_kp kx)
  have wx : mks w = mks x := by
    rcases hw with ⟨-, q⟩ | ⟨-, q⟩
    · rw [q]
    · rw [q]; exact mks_c (fun k _ => F_wa)
  have wA : ∀ t i, t ≠ 45 → A w t i = A x t i := fun t i ht => by
    rcases hw with ⟨-, q⟩ | ⟨-, q⟩
    · rw [q]
    · rw [q]; exact wa_rne ht
  have cc : ((mks v 1 : Nat) : Int) = c := by rw [m1]; omega
  have mE : 0 < k → many = m0 := fun q => by
    have q1 := h41 q
    have q2 := (b3 q).1
    rw [← m1, pm, (x48 g).1, q2] at q1
    omega
  have b2' : FCY SN (Bd g) (mks v) v k many l := by
    rcases Nat.eq_zero_or_pos k with q | q
    · exact FCY_0 q b2
    · rw [mE q]; exact b2
  have hw2 : (k = 0 ∧ w = x) ∨ (0 < k ∧ w = wa x 45 l.toNat ((mks v 1 : Nat) : Int)) := by rw [cc]; exact hw
  have fc := FCY_add (w := w) b2' ex pt t2 (by rw [m1]; exact t1) hw2 ⟨t3, by omega, by omega⟩ (by rw [cc]; exact ⟨by omega, by omega⟩)
  rw [cc, ← wx] at fc
  have fcy := FCY_eqy fc ye ym
  obtain ⟨μ, r, mm', X', Y', ch, ⟨q0, qk⟩, -, ql, -⟩ := id b2
  have le : ∀ i, Bd g i ≤ mks v i := fun i => by
    have := CHD_le ch k 0 (by omega) i
    rw [Nat.zero_add, q0, qk] at this
    exact this
  have fnw : FNT w SN g Bd := by
    refine FNT_eqy (y := c) (i0 := l.toNat) b1 ex le ?_ (fun f hf => x48 f)
    rcases hw with q | q
    · exact Or.inl q.2
    · refine Or.inr ⟨q.2, ?_⟩
      have h1 := ql q.1
      have h2 := CHD_le ch (k - 1) 0 (by omega) 1
      rw [Nat.zero_add, q0] at h2
      omega
  have lew : ∀ i, Bd g i ≤ mks w i := fun i => by rw [wx]; exact Nat.le_trans (le i) (EQY_mk ex i)
  have fny := FNT_eqy (w := y) (y := 0) (i0 := 0) fnw ye lew (Or.inl rfl) (fun f hf => y48 f hf)
  refine ⟨Bd, fny, many, fcy, fun _ => ?_⟩
  rcases Nat.eq_zero_or_pos k with q | q
  · have := yg.1 q
    subst q
    have e0 : Bd g = mks v := q0.symm.trans qk
    rw [this.1, this.2, e0, cc, ← m1]
    exact ⟨pm, rfl⟩
  · have := yg.2 q
    have b3' := b3 q
    rw [this.1, this.2, wA 48 g (by decide), wA 50 g (by decide), (x48 g).1, (x48 g).2, mE q]
    exact b3'
end
