/-! parts of a TUPLE, of a list come on the stack, here -/
set_option maxRecDepth 100000
section
variable {N p n many pp U' : Nat} {w : MS} {x : Int64} {P : Nat → Int} {X : Nat → Int64} {ow kd : Nat → Nat} {Fv : Int64 → Int64 → Prop} {P' : Int64 → Prop}
/-- what lies on the stack then: the first one uppermost -/
def PSk (n many : Nat) (P : Nat → Int) (X : Nat → Int64) (w w2 : MS) : Prop := FR [] [] [160, 162] [161, 163] w w2 ∧ (∀ k, k < n → A w2 160 (many + (n - 1 - k)) = P k ∧ w2.2.2.2 161 (many + (n - 1 - k)) = X k) ∧ ∀ k, k < many → A w2 160 k = A w 160 k ∧ w2.2.2.2 161 k = w.2.2.2 161 k
theorem prt_c (hb : many + n < 100000) : ∀ (d M : Nat) (w1 : MS), d ≤ n → FR [] [] [160, 162] [161, 163] w w1 → (∀ k, k < n → A w1 162 k = P k ∧ w1.2.2.2 163 k = X k) → (∀ k, d ≤ k → k < n → A w1 160 (many + (n - 1 - k)) = P k ∧ w1.2.2.2 161 (many + (n - 1 - k)) = X k) → (∀ k, k < many → A w1 160 k = A w 160 k ∧ w1.2.2.2 161 k = w.2.2.2 161 k) → PK (fun w2 r => r = I ((many + n : Nat) : Int) ∧ PSk n many P X w w2) ((gg_M_parts1 N M).2.2 w1 (I ((many : Nat) : Int)) (I ((n : Nat) : Int)) (I (((d : Nat) : Int) - 1))) := by
  intro d
  induction d with
  | zero =>
    intro M w1 _ f _ h2 h3
    cases M with
    | zero => exact pk_none
    | succ M =>
    show PK _ (fb_M_parts1_266 N (gg_M_parts1 N M) w1 (I ((many : Nat) : Int)) (I ((n : Nat) : Int)) (I (((0 : Nat) : Int) - 1)))
    unfold fb_M_parts1_266
    rw [show decide (I (((0 : Nat) : Int) - 1) < 0) = true from rfl, br_t, addN]
    exact pk_some ⟨rfl, f, fun k hk => h2 k (by omega) hk, h3⟩
  | succ d ih =>
    intro M w1 hd f h1 h2 h3
    cases M with
    | zero => exact pk_none
    | succ M =>
    show PK _ (fb_M_parts1_266 N (gg_M_parts1 N M) w1 (I ((many : Nat) : Int)) (I ((n : Nat) : Int)) (I (((d + 1 : Nat) : Int) - 1)))
    unfold fb_M_parts1_266
    have ed : ((d + 1 : Nat) : Int) - 1 = ((d : Nat) : Int) := by omega
    have ix : I ((many : Nat) : Int) + I ((n : Nat) : Int) - 1 - I ((d : Nat) : Int) = I ((many + (n - 1 - d) : Nat) : Int) := by
      rw [lit1, I_add, I_sub, I_sub]
      congr 1
      omega
    rw [ed, d_lt0 (by omega), br_f, ix]
    obtain ⟨p1, p2⟩ := h1 d (by omega)
    have rp := A_r w1 162 d
    rw [p1] at rp
    refine pk_ck (fun _ => pk_ck (fun _ => pk_lt (pk_ck (fun _ => pk_ck (fun _ => pk_lt ?_)))))
    rw [tnI (n := d) rfl (by omega), tnI (n := many + (n - 1 - d)) rfl (by omega), I_A' p1, wa_e, show (wa w1 160 (many + (n - 1 - d)) (P d)).2.2.2 163 d = X d from p2, wj_e, show I ((d : Nat) : Int) + (-1) = I (((d : Nat) : Int) - 1) by rw [m1I, I_add]; congr 1]
    have aw : ∀ k, A (wj (wa w1 160 (many + (n - 1 - d)) (P d)) 161 (many + (n - 1 - d)) (X d)) 160 k = if k = many + (n - 1 - d) then P d else A w1 160 k := fun k => by rw [A_wj, wa_ro rp.1 rp.2]
    have jw : ∀ k, (wj (wa w1 160 (many + (n - 1 - d)) (P d)) 161 (many + (n - 1 - d)) (X d)).2.2.2 161 k = if k = many + (n - 1 - d) then X d else w1.2.2.2 161 k := fun k => wj_row
    refine ih M _ (by omega) (FR.wj (FR.wa f (by simp)) (by simp)) (fun k hk => ?_) (fun k hk hk2 => ?_) (fun k hk => ?_)
    · refine ⟨?_, ?_⟩
      · rw [A_wj, wa_rne (by omega)]; exact (h1 k hk).1
      · rw [wj_22 (by omega)]; exact (h1 k hk).2
    · rw [aw, jw]
      by_cases c : k = d
      · subst c
        rw [if_pos rfl, if_pos rfl]
        exact ⟨rfl, rfl⟩
      · rw [if_neg (by omega), if_neg (by omega)]
        exact h2 k (by omega) hk2
    · rw [aw, jw, if_neg (by omega), if_neg (by omega)]
      exact h3 k hk
/-- all parts lie ready -/
theorem prt_260 (hb : many + n < 100000) {M : Nat} {w1 : MS} (f : FR [] [] [160, 162] [161, 163] w w1) (h1 : ∀ k, k < n → A w1 162 k = P k ∧ w1.2.2.2 163 k = X k) (h3 : ∀ k, k < many → A w1 160 k = A w 160 k ∧ w1.2.2.2 161 k = w.2.2.2 161 k) : PK (fun w2 r => r = I ((many + n : Nat) : Int) ∧ PSk n many P X w w2) (fb_M_parts1_260 N (gg_M_parts1 N M) w1 (I ((many : Nat) : Int)) (I ((n : Nat) : Int))) := by
  unfold fb_M_parts1_260
  rw [show I ((n : Nat) : Int) - 1 = I (((n : Nat) : Int) - 1) by rw [lit1, I_sub]]
  exact prt_c hb n M w1 (Nat.le_refl _) f h1 (fun k a b => by omega) h3
/-- parts of a TUPLE -/
theorem tup_f {cp : Nat → Nat} (hp1 : p < 24) (h3 : F w 133 = ((p : Nat) : Int)) (vx : va x = ((vn x : Nat) : Int)) (hx : vn x + (1 + n) ≤ 500) (hb : many + n < 100000) (hc : ∀ k, k < n → cp k < 2147483648) (nx : ∀ k, k < n → A w 37 (cp k) = if k + 1 < n then ((cp (k + 1) : Nat) : Int) else -1) : ∀ (d k M : Nat) (w1 : MS), k + d = n → FR [] [] [162] [163] w w1 → (∀ i, i < k → A w1 162 i = ((cp i : Nat) : Int) ∧ w1.2.2.2 163 i = hp w p (vn x + 1 + i)) → PK (fun w2 r => r = I ((many + n : Nat) : Int) ∧ PSk n many (fun k => ((cp k : Nat) : Int)) (fun k => hp w p (vn x + 1 + k)) w w2) ((gg_M_parts1 N M).1 w1 (I ((many : Nat) : Int)) x (I ((k : Nat) : Int)) (I (if k < n then ((cp k : Nat) : Int) else -1))) := by
  intro d
  induction d with
  | zero =>
    intro k M w1 hk f h
    have : k = n := by omega
    subst this
    cases M with
    | zero => exact pk_none
    | succ M =>
    show PK _ (fb_M_parts1_59 N (gg_M_parts1 N M) w1 (I ((many : Nat) : Int)) x (I ((k : Nat) : Int)) (I (if k < k then ((cp k : Nat) : Int) else -1)))
    unfold fb_M_parts1_59
    rw [if_neg (Nat.lt_irrefl k), show decide (I (-1) = -1) = true from rfl, br_t]
    exact prt_260 hb (FR.mo f (by simp) (by simp) (by simp) (by simp)) h (fun i _ => ⟨FR.A f (by simp), by rw [f.2.2.2 161 (by simp)]⟩)
  | succ d ih =>
    intro k M w1 hk f h
    cases M with
    | zero => exact pk_none
    | succ M =>
    show PK _ (fb_M_parts1_59 N (gg_M_parts1 N M) w1 (I ((many : Nat) : Int)) x (I ((k : Nat) : Int)) (I (if k < n then ((cp k : Nat) : Int) else -1)))
    unfold fb_M_parts1_59
    have kn : k < n := by omega
    have ck := hc k kn
    rw [if_pos kn, m1I, decE (by omega) (by omega) (by omega) (by omega), decide_eq_false (by omega), br_f]
    refine pk_ck (fun _ => pk_lt ?_)
    rw [valueOf_e, bnd_so, tnI (n := k) rfl (by omega), wa_e, vx]
    have e3 : F (wa w1 162 k ((cp k : Nat) : Int)) 133 = ((p : Nat) : Int) := by rw [F_wa, FR.F f (by simp)]; exact h3
    have ix : I ((vn x : Nat) : Int) + 1 + I ((k : Nat) : Int) = I ((vn x + 1 + k : Nat) : Int) := by rw [lit1, I_add, I_add]; congr 1
    have hpe : hp (wa w1 162 k ((cp k : Nat) : Int)) p = hp w p := by unfold hp; rw [show (wa w1 162 k ((cp k : Nat) : Int)).2.2.2 88 = w.2.2.2 88 from f.2.2.2 88 (by simp)]
    rw [I_F' e3, ix, cell_e (by omega) (by omega), bnd_so, hpe]
    refine pk_ck (fun _ => pk_lt (pk_ck (fun _ => pk_lt ?_)))
    rw [wj_e, tnI (n := cp k) rfl (by omega)]
    have e37 : A (wj (wa w1 162 k ((cp k : Nat) : Int)) 163 k (hp w p (vn x + 1 + k))) 37 (cp k) = if k + 1 < n then ((cp (k + 1) : Nat) : Int) else -1 := by rw [A_wj, wa_rne (by omega), FR.A f (by simp)]; exact nx k kn
    rw [I_A' e37, show I ((k : Nat) : Int) + 1 = I ((k + 1 : Nat) : Int) from addN]
    refine ih (k + 1) M _ (by omega) (FR.wj (FR.wa f (by simp)) (by simp)) (fun i hi => ⟨?_, ?_⟩)
    · rw [A_wj, wa_ro (by omega) (by omega)]
      by_cases c : i = k
      · rw [if_pos c, c]
      · rw [if_neg c]; exact (h i (by omega)).1
    · rw [wj_row]
      by_cases c : i = k
      · rw [if_pos c, c]
      · rw [if_neg c]; exact (h i (by omega)).2
/-- a TUPLE, or what is none with so many parts -/
theorem parts5_r {cp : Nat → Nat} (hp1 : p < 24) (h3 : F w 133 = ((p : Nat) : Int)) (g : HP (hp w p) U' ow kd Fv P') (hU : U' ≤ 500) (gt : GT U' ow kd P' x) (h33 : A w 33 pp = 5) (h35 : A w 35 pp = ((n : Nat) : Int)) (h36 : A w 36 pp = if 0 < n then ((cp 0 : Nat) : Int) else -1) (hpp : pp < 2147483648) (hn : n ≤ 8) (hb : many + n < 100000) (hc : ∀ k, k < n → cp k < 2147483648) (nx : ∀ k, k < n → A w 37 (cp k) = if k + 1 < n then ((cp (k + 1) : Nat) : Int) else -1) : PK (fun w2 r => FR [] [] [160, 162] [161, 163] w w2 ∧ ((r = -1 ∧ ¬ (so x = 5 ∧ vn (hp w p (vn x)) = n)) ∨ (r = I ((many + n : Nat) : Int) ∧ (so x = 5 ∧ vn (hp w p (vn x)) = n) ∧ PSk n many (fun k => ((cp k : Nat) : Int)) (fun k => hp w p (vn x + 1 + k)) w w2))) (fm_M_parts1 N w (I ((pp : Nat) : Int)) x (I ((many : Nat) : Int))) := by
  unfold fm_M_parts1 fb_M_parts1_0 fb_M_parts1_49
  refine pk_ck (fun _ => ?_)
  rw [tnI (n := pp) rfl (by omega), I_A' h33, show decide (I 5 = 5) = true from rfl, br_t, sortOf_e, bnd_so, show (5 : Int32) = I 5 from rfl, decE (so_r _).1 (so_r _).2 (by omega) (by omega)]
  by_cases c : so x = 5
  · obtain ⟨bk, -⟩ := HP_bk g (Or.inr (Or.inl c)) gt
    have hd := bk.2.1 c
    have vx : va x = ((vn x : Nat) : Int) := by have := bk.1; unfold vn; omega
    have bl : blk (hp w p) x = 1 + vn (hp w p (vn x)) := by unfold blk; rw [if_neg (by omega), if_pos c]
    have b1 := bk.2.2.2.1
    rw [bl] at b1
    have hv : va (hp w p (vn x)) = ((vn (hp w p (vn x)) : Nat) : Int) := by have h0 := hd.1; generalize hp w p (vn x) = z at h0 ⊢; unfold vn; omega
    rw [decide_eq_true c, br_t, valueOf_e, bnd_so, vx, I_F' h3, cell_e (by omega) (by omega), bnd_so]
    refine pk_ck (fun _ => ?_)
    rw [I_A' h35]
    by_cases c2 : hp w p (vn x) = (I ((n : Nat) : Int)).toInt64
    · have ev : vn (hp w p (vn x)) = n := by
        have : (hp w p (vn x)).toInt = ((n : Nat) : Int) := by rw [c2, Int32.toInt_toInt64, I_ti (by omega) (by omega)]
        rw [hd.2, hv] at this
        omega
      rw [dec_lg c2, br_t]
      refine pk_ck (fun _ => pk_lt ?_)
      rw [I_A' h36, lit0]
      refine pk_mo (tup_f (n := n) hp1 h3 vx (by omega) hb hc nx n 0 N w (by omega) FR.rf (fun i hi => by omega)) (fun w2 r h => ⟨h.2.1, Or.inr ⟨h.1, ⟨c, ev⟩, h.2⟩⟩)
    · rw [dec_lg0 c2, br_f]
      refine pk_some ⟨FR.rf, Or.inl ⟨rfl, fun z => c2 ?_⟩⟩
      apply Int64.toInt_inj.mp
      rw [hd.2, hv, z.2, Int32.toInt_toInt64, I_ti (by omega) (by omega)]
  · rw [decide_eq_false c, br_f]
    exact pk_some ⟨FR.rf, Or.inl ⟨rfl, fun z => c z.1⟩⟩
/-- a list is as long as it must be -/
def SPn (h : Nat → Int64) (x : Int64) (n : Nat) (tl : Bool) : Prop := (∀ k, k < n → so (tlc h x k) = 7) ∧ (tl = false → so (tlc h x n) = 6)
/-- parts of a list -/
theorem lst_f {cp : Nat → Nat} {tl : Bool} {x0 : Int64} (hp1 : p < 24) (h3 : F w 133 = ((p : Nat) : Int)) (g : HP (hp w p) U' ow kd Fv P') (hU : U' ≤ 500) (h35 : A w 35 pp = ((n : Nat) : Int)) (h38 : A w 38 pp = if tl = true then 1 else 0) (hpp : pp < 2147483648) (hn : n < 12000) (hb : many + n + 1 < 100000) (hc : ∀ k, k < n → cp k < 2147483648) (hcn : tl = true → cp n < 2147483648) (nx : ∀ k, k + 1 < n → A w 37 (cp k) = ((cp (k + 1) : Nat) : Int)) (nxl : tl = true → 0 < n ∧ A w 37 (cp (n - 1)) = ((cp n : Nat) : Int)) : ∀ (d k M : Nat) (w1 : MS) (c : Int), k + d = n → (k < n → c = ((cp k : Nat) : Int)) → (k = n → tl = true → c = ((cp n : Nat) : Int)) → RG c → FR [] [] [162] [163] w w1 → GT U' ow kd P' (tlc (hp w p) x0 k) → (∀ i, i < k → so (tlc (hp w p) x0 i) = 7) → (∀ i, i < k → A w1 162 i = ((cp i : Nat) : Int) ∧ w1.2.2.2 163 i = hp w p (vn (tlc (hp w p) x0 i))) → PK (fun w2 r => FR [] [] [160, 162] [161, 163] w w2 ∧ ((r = -1 ∧ ¬ SPn (hp w p) x0 n tl) ∨ (r = I ((many + (if tl = true then n + 1 else n) : Nat) : Int) ∧ SPn (hp w p) x0 n tl ∧ PSk (if tl = true then n + 1 else n) many (fun k => ((cp k : Nat) : Int)) (fun k => if k < n then hp w p (vn (tlc (hp w p) x0 k)) else tlc (hp w p) x0 n) w w2))) ((gg_M_parts1 N M).2.1 w1 (I ((pp : Nat) : Int)) (I ((many : Nat) : Int)) (tlc (hp w p) x0 k) (I ((k : Nat) : Int)) (I c) (I ((k : Nat) : Int))) := by
  intro d
  induction d with
  | zero =>
    intro k M w1 c hk _ hcl rc f gx sp h
    have : k = n := by omega
    subst this
    cases M with
    | zero => exact pk_none
    | succ M =>
    show PK _ (fb_M_parts1_128 N (gg_M_parts1 N M) w1 (I ((pp : Nat) : Int)) (I ((many : Nat) : Int)) (tlc (hp w p) x0 k) (I ((k : Nat) : Int)) (I c) (I ((k : Nat) : Int)))
    unfold fb_M_parts1_128
    have f2 : FR [] [] [160, 162] [161, 163] w w1 := FR.mo f (by simp) (by simp) (by simp) (by simp)
    refine pk_ck (fun _ => ?_)
    rw [tnI (n := pp) rfl (by omega), I_A' ((FR.A f (by simp)).trans h35), decI (by omega) (by omega) (by omega) (by omega), decide_eq_true (by omega), br_t]
    refine pk_ck (fun _ => ?_)
    rw [I_A' ((FR.A f (by simp)).trans h38)]
    cases tl with
    | false =>
      rw [show decide (I (if false = true then 1 else 0) = 0) = true from rfl, br_t, sortOf_e, bnd_so, show (6 : Int32) = I 6 from rfl, decE (so_r _).1 (so_r _).2 (by omega) (by omega)]
      by_cases c6 : so (tlc (hp w p) x0 k) = 6
      · rw [decide_eq_true c6, br_t]
        refine pk_mo (prt_260 (n := k) (P := fun k => ((cp k : Nat) : Int)) (X := fun k' => if k' < k then hp w p (vn (tlc (hp w p) x0 k')) else tlc (hp w p) x0 k) (by omega) f2 (fun i hi => ⟨(h i hi).1, by rw [if_pos hi]; exact (h i hi).2⟩) (fun i _ => ⟨FR.A f (by simp), by rw [f.2.2.2 161 (by simp)]⟩)) (fun w2 r z => ⟨z.2.1, Or.inr ⟨z.1, ⟨sp, fun _ => c6⟩, z.2⟩⟩)
      · rw [decide_eq_false c6, br_f]
        exact pk_some ⟨f2, Or.inl ⟨rfl, fun z => c6 (z.2 rfl)⟩⟩
    | true =>
      have ec := hcl rfl rfl
      subst ec
      rw [show decide (I (if true = true then 1 else 0) = 0) = false from rfl, br_f]
      refine pk_ck (fun _ => pk_lt (pk_ck (fun _ => pk_lt ?_)))
      have cn := hcn rfl
      rw [tnI (n := k) rfl (by omega), wa_e, wj_e, show I ((k : Nat) : Int) + 1 = I ((k + 1 : Nat) : Int) from addN]
      refine pk_mo (prt_260 (n := k + 1) (P := fun k => ((cp k : Nat) : Int)) (X := fun k' => if k' < k then hp w p (vn (tlc (hp w p) x0 k')) else tlc (hp w p) x0 k) (w := w) (by omega) (FR.wj (FR.wa f2 (by simp)) (by simp)) (fun i hi => ⟨?_, ?_⟩) (fun i _ => ⟨by rw [A_wj, wa_rne (by omega)]; exact FR.A f (by simp), by rw [wj_22 (by omega)]; exact congrFun (f.2.2.2 161 (by simp)) i⟩)) (fun w2 r z => ⟨z.2.1, Or.inr ⟨z.1, ⟨sp, fun e => by cases e⟩, z.2⟩⟩)
      · rw [A_wj, wa_ro (by omega) (by omega)]
        by_cases ci : i = k
        · rw [if_pos ci, ci]
        · rw [if_neg ci]; exact (h i (by omega)).1
      · rw [wj_row]
        by_cases ci : i = k
        · rw [if_pos ci, if_neg (by omega)]
        · rw [if_neg ci, if_pos (by omega)]; exact (h i (by omega)).2
  | succ d ih =>
    intro k M w1 c hk hcc _ rc f gx sp h
    have kn : k < n := by omega
    have ec := hcc kn
    subst ec
    cases M with
    | zero => exact pk_none
    | succ M =>
    show PK _ (fb_M_parts1_128 N (gg_M_parts1 N M) w1 (I ((pp : Nat) : Int)) (I ((many : Nat) : Int)) (tlc (hp w p) x0 k) (I ((k : Nat) : Int)) (I ((cp k : Nat) : Int)) (I ((k : Nat) : Int)))
    unfold fb_M_parts1_128
    have f2 : FR [] [] [160, 162] [161, 163] w w1 := FR.mo f (by simp) (by simp) (by simp) (by simp)
    refine pk_ck (fun _ => ?_)
    rw [tnI (n := pp) rfl (by omega), I_A' ((FR.A f (by simp)).trans h35), decI (by omega) (by omega) (by omega) (by omega), decide_eq_false (by omega), br_f, sortOf_e, bnd_so, show (7 : Int32) = I 7 from rfl, decE (so_r _).1 (so_r _).2 (by omega) (by omega)]
    by_cases c7 : so (tlc (hp w p) x0 k) = 7
    · obtain ⟨bk, b2⟩ := HP_bk g (Or.inr (Or.inr c7)) gx
      have vx : va (tlc (hp w p) x0 k) = ((vn (tlc (hp w p) x0 k) : Nat) : Int) := by have := bk.1; unfold vn; omega
      have bl : blk (hp w p) (tlc (hp w p) x0 k) = 2 := by unfold blk; rw [if_pos c7]
      have pr : prt (tlc (hp w p) x0 k) = 0 := by unfold prt; rw [if_pos c7]
      have b1 := bk.2.2.2.1
      rw [bl] at b1 b2
      rw [pr] at b2
      have g2 := b2 1 (by omega) (by omega)
      have ck := hc k kn
      rw [decide_eq_true c7, br_t]
      refine pk_ck (fun _ => pk_lt ?_)
      rw [valueOf_e, bnd_so, tnI (n := k) rfl (by omega), wa_e, vx]
      have e3 : F (wa w1 162 k ((cp k : Nat) : Int)) 133 = ((p : Nat) : Int) := by rw [F_wa, FR.F f (by simp)]; exact h3
      have hpe : hp (wa w1 162 k ((cp k : Nat) : Int)) p = hp w p := by unfold hp; rw [show (wa w1 162 k ((cp k : Nat) : Int)).2.2.2 88 = w.2.2.2 88 from f.2.2.2 88 (by simp)]
      rw [I_F' e3, cell_e (by omega) (by omega), bnd_so, hpe]
      refine pk_ck (fun _ => pk_lt ?_)
      rw [wj_e, valueOf_e, bnd_so, vx]
      have e3' : F (wj (wa w1 162 k ((cp k : Nat) : Int)) 163 k (hp w p (vn (tlc (hp w p) x0 k)))) 133 = ((p : Nat) : Int) := by rw [F_wj]; exact e3
      have hpe' : hp (wj (wa w1 162 k ((cp k : Nat) : Int)) 163 k (hp w p (vn (tlc (hp w p) x0 k)))) p = hp w p := by unfold hp; rw [wj_22 (by omega)]; exact hpe
      rw [I_F' e3', show I ((vn (tlc (hp w p) x0 k) : Nat) : Int) + 1 = I ((vn (tlc (hp w p) x0 k) + 1 : Nat) : Int) from addN, cell_e (by omega) (by omega), bnd_so, hpe']
      refine pk_ck (fun _ => pk_lt ?_)
      have e37 : A (wj (wa w1 162 k ((cp k : Nat) : Int)) 163 k (hp w p (vn (tlc (hp w p) x0 k)))) 37 (cp k) = A w 37 (cp k) := by rw [A_wj, wa_rne (by omega), FR.A f (by simp)]
      rw [tnI (n := cp k) rfl (by omega), I_A' e37, show I ((k : Nat) : Int) + 1 = I ((k + 1 : Nat) : Int) from addN, show hp w p (vn (tlc (hp w p) x0 k) + 1) = tlc (hp w p) x0 (k + 1) from rfl]
      refine ih (k + 1) M _ (A w 37 (cp k)) (by omega) (fun hk2 => nx k hk2) (fun hk2 ht => ?_) (A_r _ _ _) (FR.wj (FR.wa f (by simp)) (by simp)) g2 (fun i hi => ?_) (fun i hi => ⟨?_, ?_⟩)
      · have := (nxl ht).2
        rw [show n - 1 = k by omega] at this
        exact this
      · by_cases ci : i = k
        · rw [ci]; exact c7
        · exact sp i (by omega)
      · rw [A_wj, wa_ro (by omega) (by omega)]
        by_cases ci : i = k
        · rw [if_pos ci, ci]
        · rw [if_neg ci]; exact (h i (by omega)).1
      · rw [wj_row]
        by_cases ci : i = k
        · rw [if_pos ci, ci]
        · rw [if_neg ci]; exact (h i (by omega)).2
    · rw [decide_eq_false c7, br_f]
      exact pk_some ⟨f2, Or.inl ⟨rfl, fun z => c7 (z.1 k kn)⟩⟩
/-- a list, or what is none of that form -/
theorem parts6_r {cp : Nat → Nat} {tl : Bool} (hp1 : p < 24) (h3 : F w 133 = ((p : Nat) : Int)) (g : HP (hp w p) U' ow kd Fv P') (hU : U' ≤ 500) (gt : GT U' ow kd P' x) (h33 : A w 33 pp = 6) (h35 : A w 35 pp = ((n : Nat) : Int)) (h36 : 0 < n → A w 36 pp = ((cp 0 : Nat) : Int)) (h38 : A w 38 pp = if tl = true then 1 else 0) (hpp : pp < 2147483648) (hn : n < 12000) (hb : many + n + 1 < 100000) (hc : ∀ k, k < n → cp k < 2147483648) (hcn : tl = true → cp n < 2147483648) (nx : ∀ k, k + 1 < n → A w 37 (cp k) = ((cp (k + 1) : Nat) : Int)) (nxl : tl = true → 0 < n ∧ A w 37 (cp (n - 1)) = ((cp n : Nat) : Int)) : PK (fun w2 r => FR [] [] [160, 162] [161, 163] w w2 ∧ ((r = -1 ∧ ¬ SPn (hp w p) x n tl) ∨ (r = I ((many + (if tl = true then n + 1 else n) : Nat) : Int) ∧ SPn (hp w p) x n tl ∧ PSk (if tl = true then n + 1 else n) many (fun k => ((cp k : Nat) : Int)) (fun k => if k < n then hp w p (vn (tlc (hp w p) x k)) else tlc (hp w p) x n) w w2))) (fm_M_parts1 N w (I ((pp : Nat) : Int)) x (I ((many : Nat) : Int))) := by
  unfold fm_M_parts1 fb_M_parts1_0
  refine pk_ck (fun _ => ?_)
  rw [tnI (n := pp) rfl (by omega), I_A' h33, show decide (I 6 = 5) = false from rfl, br_f]
  refine pk_ck (fun _ => ?_)
  rw [I_A (k := 36), lit0]
  exact lst_f (x0 := x) hp1 h3 g hU h35 h38 hpp hn hb hc hcn nx nxl n 0 N w (A w 36 pp) (by omega) (fun h => h36 h) (fun h1 h2 => by have := (nxl h2).1; omega) (A_r _ _ _) FR.rf gt (fun i hi => by omega) (fun i hi => by omega)
end
