def FTY (TN SN g k : Nat) (l : Int) (v : MS) : Prop := F v 72 = 0 → F v 66 = 0 → TN ≤ 1500 → ∃ Bd : Nat → Nat → Nat, FNT v SN g Bd ∧ ∃ many : Nat, FCY SN (Bd g) (mks v) v k many l ∧ (0 < k → A v 48 g = ((many : Nat) : Int) ∧ A v 50 g = ((Bd g 1 : Nat) : Int))
def FLI (TN SN : Nat) (bw : Nat → Nat) (u v : MS) (g k : Nat) (l p n q c f h : Int) : Prop := PRO u v ∧ F v 67 = 0 ∧ PGN TN bw v p n q c f h ∧ F v 52 = ((g + 1 : Nat) : Int) ∧ (k = 0 → l = -1) ∧ (0 < k → (0 ≤ l ∧ l < c) ∧ 0 ≤ A v 47 g ∧ A v 47 g < F v 14) ∧ (p ≤ TN ∧ 6 * (g : Int) ≤ p ∧ (0 < k → 6 * (g : Int) + 5 ≤ p)) ∧ FTY TN SN g k l v
def FNQ (TN SN : Nat) (bw : Nat → Nat) (u x : MS) (G : Nat) : Prop := PRO u x ∧ F x 67 = 0 ∧ (∃ p n q c f h : Int, PGN TN bw x p n q c f h ∧ p ≤ TN ∧ 6 * (G : Int) ≤ p) ∧ F x 52 = ((G : Nat) : Int) ∧ (F x 72 = 0 → F x 66 = 0 → TN ≤ 1500 → ∃ Bd : Nat → Nat → Nat, FNT x SN G Bd ∧ Bd G = mks x)
section
variable {Q : MS → Unit → Prop} {u v w x : MS} {N TN SN k g : Nat} {bw : Nat → Nat} {p n q c f h l : Int}
theorem there_loop (hg : g < 1000) (h71 : 0 ≤ F v 71 ∧ F v 71 < 4002) (h49 : 0 ≤ A v 49 g ∧ A v 49 g < 4002) (a : Q v ()) (b : F v 67 = 0 → ∀ w, FR [71, 72] [] [] [] v w → F w 72 ≠ 0 → 0 ≤ F w 71 ∧ F w 71 < 4002 → Q w ()) : ∀ (d i : Nat) (s : Int32) (m : Nat), i + d = g → d + 1 ≤ m → OK Q ((gg_M_function0 N m).2 v (I g) s (I i)) := by
  intro d
  induction d with
  | zero =>
    intro i s m hi hm
    obtain ⟨m', rfl⟩ : ∃ m', m = m' + 1 := ⟨m - 1, by omega⟩
    show OK _ (fb_M_function0_264 N (gg_M_function0 N m') v (I g) s (I i))
    unfold fb_M_function0_264 fb_M_function0_341
    refine k_le (x := (g : Int)) (y := (i : Int)) ⟨by omega, by omega⟩ ⟨by omega, by omega⟩ (fun _ => ?_) (fun y => by omega)
    refine ok_br.mpr ⟨fun _ => ok_some.mpr a, fun _ => ?_⟩
    refine k_F (y := 0) rfl ⟨by decide, by decide⟩ (fun z => ?_) (fun _ => ok_some.mpr a)
    refine k_in (k := 49) (n := 1000) rfl (by decide) (by omega) ?_
    have e : v.2.2.1 49 (I (g : Int)).toNatClampNeg = I (A v 49 g) := by rw [I_tn (by omega) (by omega)]; exact I_A
    refine k_rule (s := 4) (t := A v 49 g) rfl ⟨by decide, by decide⟩ (by decide) e h49 h71 (fun w h1 h2 h3 => ok_some.mpr (b z w h1 h2 h3))
  | succ d ih =>
    intro i s m hi hm
    obtain ⟨m', rfl⟩ : ∃ m', m = m' + 1 := ⟨m - 1, by omega⟩
    show OK _ (fb_M_function0_264 N (gg_M_function0 N m') v (I g) s (I i))
    unfold fb_M_function0_264 fb_M_function0_308 fb_M_function0_309
    have e : I (i : Int) + 1 = I ((i + 1 : Nat) : Int) := by rw [lit1q, I_add]; rfl
    have nx : ∀ t : Int32, OK Q ((gg_M_function0 N m').2 v (I g) t (I ((i + 1 : Nat) : Int))) := fun t => ih (i + 1) t m' (by omega) (by omega)
    rw [e]
    refine k_le (x := (g : Int)) (y := (i : Int)) ⟨by omega, by omega⟩ ⟨by omega, by omega⟩ (fun y => by omega) (fun _ => ?_)
    exact k_in (k := 47) (n := 1000) rfl (by decide) (by omega) (k_in (k := 47) (n := 1000) rfl (by decide) (by omega) (ok_br.mpr ⟨fun _ => k_in (k := 48) (n := 1000) rfl (by decide) (by omega) (k_in (k := 48) (n := 1000) rfl (by decide) (by omega) (ok_br.mpr ⟨fun _ => nx _, fun _ => nx _⟩)), fun _ => nx _⟩))
theorem f228_ok (hN : 20000 ≤ N) (hg : g < 1000) (tb : TBL v) (at' : ATM v) (h47 : 0 ≤ A v 47 g ∧ A v 47 g < F v 14) (k49 : K49 v) (hp : 0 ≤ F v 69 ∧ F v 69 ≤ 4001) (h71 : 0 ≤ F v 71 ∧ F v 71 < 4002) {m : Nat} (hm : 1001 ≤ m) (a1 : F v 67 = 0 → IS v 8 → Q (nx1 v) () ∧ ∀ w, FR [71, 72] [] [] [] (nx1 v) w → F w 72 ≠ 0 → 0 ≤ F w 71 ∧ F w 71 < 4002 → Q w ()) (a2 : ∀ w, FR [67, 68] [] [] [] v w → F w 67 ≠ 0 → Q w ()) : OK Q (fb_M_function0_228 N (gg_M_function0 N m) v (I g)) := by
  unfold fb_M_function0_228
  have go : ∀ w, (∀ r i, A w r i = A v r i) → F w 14 = F v 14 → 0 ≤ F w 71 ∧ F w 71 < 4002 → Q w () → (F w 67 = 0 → ∀ y, FR [71, 72] [] [] [] w y → F y 72 ≠ 0 → 0 ≤ F y 71 ∧ F y 71 < 4002 → Q y ()) → OK Q (ck (inb (I g) (ln 47)) (ck (inb (I g) (ln 48)) (bnd (fm_M_predefinedOf N w (w.2.2.1 47 (I (g : Int)).toNatClampNeg) (w.2.2.1 48 (I (g : Int)).toNatClampNeg)) (fun u3 r3 => br (decide (r3 = (-1))) (fb_M_function0_259 N (gg_M_function0 N m) u3 (I g) (0)) (fb_M_function0_259 N (gg_M_function0 N m) u3 (I g) (1)))))) := fun w wA w14 w71 qw qr => by
    refine k_in (k := 47) (n := 1000) rfl (by decide) (by omega) (k_in (k := 48) (n := 1000) rfl (by decide) (by omega) ?_)
    have e : w.2.2.1 47 (I (g : Int)).toNatClampNeg = I (A v 47 g) := by rw [I_tn (by omega) (by omega)]; exact I_A' (wA 47 g)
    rw [e]
    have tw : TBL w := fun k hk => by rw [wA, wA]; exact tb k hk
    have aw : ATM w := by
      obtain ⟨b1, b2, b3⟩ := at'
      exact ⟨by rw [w14]; exact b1, by rw [w14]; exact b2, fun k hk => by rw [w14] at hk; rw [wA, wA]; exact b3 k hk⟩
    refine ok_bnd.mpr (ok_mono (predefinedOf_ok (by omega) tw aw (by rw [w14]; exact h47)) (fun y r hy => ?_))
    rw [hy.1]
    have lp : ∀ s, OK Q (fb_M_function0_259 N (gg_M_function0 N m) w (I g) s) := fun s => by
      unfold fb_M_function0_259
      exact there_loop hg w71 (by rw [wA]; exact k49 g) qw qr g 0 s m (by omega) (by omega)
    exact ok_br.mpr ⟨fun _ => lp 0, fun _ => lp 1⟩
  refine k_needSign (s := 8) rfl ⟨by decide, by decide⟩ hp (fun h0 z => ?_) (fun w h3 h4 => ?_)
  · have q := a1 h0 z
    have f71 : F (nx1 v) 71 = F v 71 := wi_ne (by decide)
    exact go (nx1 v) (fun _ _ => rfl) (wi_ne (by decide)) (by rw [f71]; exact h71) q.1 (fun _ => q.2)
  · exact go w (fun r i => h3.A (by intro z; cases z)) (h3.F (by decide)) (by rw [h3.F (by decide)]; exact h71) (a2 w h3 h4) (fun z => absurd z h4)
theorem FNT_add (hv : FTY TN SN g k l v) (hk : 0 < k) (e : EQY v x) (hm : mks x = mks v) (h1 : F x 72 = 0 → F v 72 = 0) (h2 : F x 66 = 0 → F v 66 = 0) (h48 : ∀ f, f < g + 1 → A x 48 f = A v 48 f ∧ A x 50 f = A v 50 f) : F x 72 = 0 → F x 66 = 0 → TN ≤ 1500 → ∃ Bd : Nat → Nat → Nat, FNT x SN (g + 1) Bd ∧ Bd (g + 1) = mks x := by
  intro z1 z2 z3
  obtain ⟨Bd, b1, many, b2, b3⟩ := hv (h1 z1) (h2 z2) z3
  obtain ⟨μ, r, mm, X, Y, ch, ⟨m0, mk⟩, -⟩ := id b2
  have le : ∀ i, Bd g i ≤ mks v i := fun i => by
    have := CHD_le ch k 0 (by omega) i
    rw [Nat.zero_add, m0, mk] at this
    exact this
  have b1x := FNT_eqy (w := x) (y := 0) (i0 := 0) b1 e le (Or.inl rfl) (fun f hf => h48 f (by omega))
  have b2x := FCY_eqy b2 e hm
  have b3' := b3 hk
  refine ⟨fun f => if f ≤ g then Bd f else mks x, ⟨fun i => ?_, fun f hf => ?_⟩, ?_⟩
  · simp only [Nat.zero_le, if_true]; exact b1.1 i
  · by_cases q : f < g
    · simp only [show f ≤ g by omega, show f + 1 ≤ g by omega, if_true]
      exact b1x.2 f q
    · obtain rfl : f = g := by omega
      simp only [Nat.le_refl, if_true, show ¬ (f + 1 ≤ f) by omega, if_false]
      exact ⟨fun i => by rw [hm]; exact le i, many, k, l, hk, by rw [(h48 f (by omega)).1]; exact b3'.1, by rw [(h48 f (by omega)).2]; exact b3'.2, b2x⟩
  · simp only [show ¬ (g + 1 ≤ g) by omega, if_false]
end
