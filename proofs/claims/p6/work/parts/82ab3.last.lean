def CHL (w : MS) : Nat → Int → List Nat → Prop
  | _, x, [] => x = -1
  | b, x, r :: l => x = ((r : Nat) : Int) ∧ r < b ∧ CHL w r (A w 29 r) l
def RTD (w : MS) : Nat → Nat → Nat → Prop
  | 0, a, n => a ≤ n ∧ A w 28 n = -1
  | h + 1, a, n => a ≤ n ∧ ∃ l, CHL w n (A w 28 n) l ∧ ∀ r, r ∈ l → RTD w h a r
section
variable {u v w w2 : MS} {N a b n : Nat}
theorem CHL_len : ∀ (l : List Nat) (b : Nat) (x : Int), CHL w b x l → l.length ≤ b := by
  intro l
  induction l with
  | nil => intro b x _; exact Nat.zero_le _
  | cons r l ih =>
    intro b x h
    have := ih r _ h.2.2
    have := h.2.1
    show l.length + 1 ≤ b
    omega
theorem CHL_lt : ∀ (l : List Nat) (b : Nat) (x : Int), CHL w b x l → ∀ r, r ∈ l → r < b := by
  intro l
  induction l with
  | nil => intro b x _ r hr; cases hr
  | cons r l ih =>
    intro b x h r' hr'
    rcases List.mem_cons.mp hr' with e | e
    · rw [e]; exact h.2.1
    · exact Nat.lt_trans (ih r _ h.2.2 r' e) h.2.1
theorem CHL_fr : ∀ (l : List Nat) (b : Nat) (x : Int), (∀ r, r ∈ l → A w2 29 r = A w 29 r) → CHL w b x l → CHL w2 b x l := by
  intro l
  induction l with
  | nil => intro b x _ h; exact h
  | cons r l ih =>
    intro b x hf h
    refine ⟨h.1, h.2.1, ?_⟩
    rw [hf r (List.mem_cons_self ..)]
    exact ih r _ (fun r' hr' => hf r' (List.mem_cons_of_mem _ hr')) h.2.2
theorem RTD_a : ∀ (h n : Nat), RTD w h a n → a ≤ n := by
  intro h n z
  cases h with
  | zero => exact z.1
  | succ h => exact z.1
theorem RTD_fr : ∀ (h n : Nat), RTD w h a n → A w2 28 n = A w 28 n → (∀ r i, r ∈ [28, 29] → a ≤ i → i < n → A w2 r i = A w r i) → RTD w2 h a n := by
  intro h
  induction h with
  | zero => intro n z e _; exact ⟨z.1, by rw [e]; exact z.2⟩
  | succ h ih =>
    intro n z e f
    obtain ⟨z1, l, z2, z3⟩ := z
    refine ⟨z1, l, ?_, fun r hr => ?_⟩
    · rw [e]
      exact CHL_fr l n _ (fun r hr => f 29 r (by decide) (RTD_a h r (z3 r hr)) (CHL_lt l n _ z2 r hr)) z2
    · have lt := CHL_lt l n _ z2 r hr
      exact ih r (z3 r hr) (f 28 r (by decide) (RTD_a h r (z3 r hr)) lt) (fun r2 i h1 h2 h3 => f r2 i h1 h2 (by omega))
theorem RTD_mo : ∀ (h k n : Nat), RTD w h a n → h ≤ k → RTD w k a n := by
  intro h
  induction h with
  | zero =>
    intro k n z _
    cases k with
    | zero => exact z
    | succ k => exact ⟨z.1, [], z.2, fun r hr => by cases hr⟩
  | succ h ih =>
    intro k n z hk
    cases k with
    | zero => omega
    | succ k =>
      obtain ⟨z1, l, z2, z3⟩ := z
      exact ⟨z1, l, z2, fun r hr => ih k r (z3 r hr) (by omega)⟩
theorem RTD_dn {a2 : Nat} (ha : a2 ≤ a) : ∀ (h n : Nat), RTD w h a n → RTD w h a2 n := by
  intro h
  induction h with
  | zero => intro n z; exact ⟨by have := z.1; omega, z.2⟩
  | succ h ih =>
    intro n z
    obtain ⟨z1, l, z2, z3⟩ := z
    exact ⟨by omega, l, z2, fun r hr => ih r (z3 r hr)⟩
def LSQ (u : MS) (R : Nat → Prop) (v : MS) : Prop := FR [] [] [30] [] u v ∧ (∀ n, A v 30 n ≠ A u 30 n → A u 23 n = 12 ∨ A u 23 n = 13) ∧ ∀ P : Nat → Prop, (∀ n, R n → P n) → (∀ n x : Nat, P n → A u 28 n = x → P x) → (∀ n x : Nat, P n → A u 29 n = x → P x) → ∀ n, A v 30 n ≠ A u 30 n → P n
theorem LSQ_rf {R : Nat → Prop} : LSQ u R u := ⟨FR.rf, fun n z => absurd rfl z, fun _ _ _ _ n z => absurd rfl z⟩
theorem LSQ_tr {R R2 : Nat → Prop} (h1 : LSQ u R v) (h2 : LSQ v R2 w) : LSQ u (fun n => R n ∨ R2 n) w := by
  refine ⟨FR.tr h1.1 h2.1, fun n hn => ?_, fun P p1 p2 p3 n hn => ?_⟩
  · by_cases e : A v 30 n = A u 30 n
    · have := h2.2.1 n (by rw [e]; exact hn)
      rw [h1.1.A (by decide)] at this
      exact this
    · exact h1.2.1 n e
  by_cases e : A v 30 n = A u 30 n
  · refine h2.2.2 P (fun n hn => p1 n (Or.inr hn)) (fun n x hn hx => p2 n x hn ?_) (fun n x hn hx => p3 n x hn ?_) n (by rw [e]; exact hn)
    · rw [← h1.1.A (by decide)]; exact hx
    · rw [← h1.1.A (by decide)]; exact hx
  · exact h1.2.2 P (fun n hn => p1 n (Or.inl hn)) p2 p3 n e
theorem LSQ_mo {R R2 : Nat → Prop} (h1 : LSQ u R v) (h : ∀ n, R n → R2 n) : LSQ u R2 v := ⟨h1.1, h1.2.1, fun P p1 => h1.2.2 P (fun n hn => p1 n (h n hn))⟩
theorem last_loop {S : SG_M_last} {h : Nat} (hS : ∀ (u : MS) (r : Nat), r < 16000 → RTD u h a r → OK (fun v _ => LSQ u (fun i => i = r) v) (S u (I r))) : ∀ (l : List Nat) (m : Nat) (u : MS) (b : Nat) (x : Int), CHL u b x l → b ≤ 16000 → (∀ r, r ∈ l → RTD u h a r) → l.length < m → OK (fun v _ => LSQ u (fun i => i ∈ l) v) (gg_M_last N S m u (I x)) := by
  intro l
  induction l with
  | nil =>
    intro m u b x hc _ _ hm
    obtain ⟨m', rfl⟩ : ∃ m', m = m' + 1 := ⟨m - 1, by have : 0 < m := hm; omega⟩
    show OK _ (fb_M_last_42 N S (gg_M_last N S m') u (I x))
    unfold fb_M_last_42
    rw [show x = -1 from hc, show (-1 : Int32) = I (-1) from rfl]
    exact k_eq ⟨by decide, by decide⟩ ⟨by decide, by decide⟩ (fun _ => ok_some.mpr LSQ_rf) (fun z => absurd rfl z)
  | cons r l ih =>
    intro m u b x hc hb hr hm
    obtain ⟨m', rfl⟩ : ∃ m', m = m' + 1 := ⟨m - 1, by have : l.length + 1 < m := hm; omega⟩
    have hm' : l.length < m' := by have : l.length + 1 < m' + 1 := hm; omega
    obtain ⟨c1, c2, c3⟩ := hc
    show OK _ (fb_M_last_42 N S (gg_M_last N S m') u (I x))
    unfold fb_M_last_42
    rw [c1, show (-1 : Int32) = I (-1) from rfl]
    refine k_eq ⟨by omega, by omega⟩ ⟨by decide, by decide⟩ (fun z => by omega) (fun _ => ?_)
    refine ok_bnd.mpr (ok_mono (hS u r (by omega) (hr r (List.mem_cons_self ..))) (fun v _ hv => ?_))
    refine k_in (k := 29) (n := 16000) rfl (by decide) (by omega) ?_
    rw [I_tn (by omega) (by omega), Int.toNat_natCast, I_A' (hv.1.A (k := 29) (i := r) (by decide))]
    refine ok_mono (ih m' v r (A u 29 r) (CHL_fr l r _ (fun r' _ => hv.1.A (by decide)) c3) (by omega) (fun r' hr' => ?_) hm') (fun w _ hw => LSQ_mo (LSQ_tr hv hw) (fun n hn => ?_))
    · have rf : ∀ r2, r2 ∈ [28, 29] → r2 ∉ [30] := by decide
      exact RTD_fr h r' (hr r' (List.mem_cons_of_mem _ hr')) (hv.1.A (by decide)) (fun r2 i h1 _ _ => hv.1.A (rf r2 h1))
    · rcases hn with hn | hn
      · rw [hn]; exact List.mem_cons_self ..
      · exact List.mem_cons_of_mem _ hn
theorem last_ok (hN : 20000 ≤ N) : ∀ (d h : Nat) (u : MS) (r : Nat), h < d → r < 16000 → RTD u h a r → OK (fun v _ => LSQ u (fun i => i = r) v) (rc_M_last N d u (I r)) := by
  intro d
  induction d with
  | zero => intro h u r hd; exact absurd hd (Nat.not_lt_zero _)
  | succ d ih =>
    intro h u r hd hr hz
    show OK _ (fm_M_last N (rc_M_last N d) u (I r))
    unfold fm_M_last fb_M_last_0 fb_M_last_28
    rw [show (-1 : Int32) = I (-1) from rfl]
    refine k_eq ⟨by omega, by omega⟩ ⟨by decide, by decide⟩ (fun z => by omega) (fun _ => ?_)
    have t35 : ∀ v : MS, LSQ u (fun i => i = r) v → OK (fun v _ => LSQ u (fun i => i = r) v) (fb_M_last_35 N (rc_M_last N d) (gg_M_last N (rc_M_last N d) N) v (I r)) := fun v hv => by
      unfold fb_M_last_35
      refine k_in (k := 28) (n := 16000) rfl (by decide) (by omega) ?_
      rw [I_tn (by omega) (by omega), Int.toNat_natCast, I_A' (hv.1.A (k := 28) (i := r) (by decide))]
      obtain ⟨h', l, hl, hlr, hh'⟩ : ∃ (h' : Nat) (l : List Nat), CHL u r (A u 28 r) l ∧ (∀ r', r' ∈ l → RTD u h' a r') ∧ (h' < d ∨ l = []) := by
        cases h with
        | zero => exact ⟨0, [], hz.2, (fun r' hr' => nomatch hr'), Or.inr rfl⟩
        | succ h =>
          obtain ⟨z1, l, z2, z3⟩ := hz
          exact ⟨h, l, z2, z3, Or.inl (by omega)⟩
      have ll := CHL_len l r _ hl
      have rf : ∀ r2, r2 ∈ [28, 29] → r2 ∉ [30] := by decide
      have lnk : ∀ n : Nat, n ∈ l → ∀ P : Nat → Prop, P r → (∀ n x : Nat, P n → A u 28 n = x → P x) → (∀ n x : Nat, P n → A u 29 n = x → P x) → P n := fun n hn P p1 p2 p3 => by
        have go : ∀ (l : List Nat) (b : Nat) (x : Int), CHL u b x l → (∀ y : Nat, x = y → P y) → ∀ n, n ∈ l → P n := by
          intro l
          induction l with
          | nil => intro b x _ _ n hn; cases hn
          | cons y l ihl =>
            intro b x hc hx n hn
            have py := hx y hc.1
            rcases List.mem_cons.mp hn with e | e
            · rw [e]; exact py
            · exact ihl y _ hc.2.2 (fun t ht => p3 y t py ht) n e
        exact go l r _ hl (fun y hy => p2 r y p1 hy) n hn
      rcases hh' with hh' | hh'
      · refine ok_mono (last_loop (h := h') (a := a) (fun u2 r2 hr2 hz2 => ih h' u2 r2 hh' hr2 hz2) l N v r (A u 28 r) (CHL_fr l r _ (fun r' _ => hv.1.A (by decide)) hl) (by omega) (fun r' hr' => RTD_fr h' r' (hlr r' hr') (hv.1.A (by decide)) (fun r2 i h1 _ _ => hv.1.A (rf r2 h1))) (by omega)) (fun w _ hw => ?_)
        have t := LSQ_tr hv hw
        refine ⟨t.1, t.2.1, fun P p1 p2 p3 => t.2.2 P (fun n hn => ?_) p2 p3⟩
        rcases hn with hn | hn
        · exact p1 n hn
        · exact lnk n hn P (p1 r rfl) p2 p3
      · rw [hh'] at hl
        obtain ⟨N', rfl⟩ : ∃ N', N = N' + 1 := ⟨N - 1, by omega⟩
        show OK _ (fb_M_last_42 (N' + 1) _ (gg_M_last (N' + 1) _ N') v (I (A u 28 r)))
        unfold fb_M_last_42
        rw [show A u 28 r = -1 from hl, show (-1 : Int32) = I (-1) from rfl]
        exact k_eq ⟨by decide, by decide⟩ ⟨by decide, by decide⟩ (fun _ => ok_some.mpr hv) (fun z => absurd rfl z)
    have t28 : (A u 23 r = 12 ∨ A u 23 r = 13) → OK (fun v _ => LSQ u (fun i => i = r) v) (ck (inb (I (r : Int)) (ln 30)) (lt (upA u 30 (upd (u.2.2.1 30) (I (r : Int)).toNatClampNeg (vp_nar .boolean 1))) (fun w2 => fb_M_last_35 N (rc_M_last N d) (gg_M_last N (rc_M_last N d) N) w2 (I r)))) := fun hk => by
      refine k_in (k := 30) (n := 16000) rfl (by decide) (by omega) (ok_lt.mpr ?_)
      rw [I_tn (by omega) (by omega), Int.toNat_natCast, nar1, wa_e]
      refine t35 _ ⟨FR.wa FR.rf (by decide), fun n hn => ?_, fun P p1 _ _ n hn => ?_⟩
      · by_cases e : n = r
        · rw [e]; exact hk
        · exact absurd (wa_ne e) hn
      by_cases e : n = r
      · rw [e]; exact p1 r rfl
      · exact absurd (wa_ne e) hn
    have tr : (I (r : Int)).toNatClampNeg = r := by rw [I_tn (by omega) (by omega)]; omega
    refine k_in (k := 23) (n := 16000) rfl (by decide) (by omega) ?_
    refine k_A (y := 12) rfl ⟨by decide, by decide⟩ (fun z => t28 (Or.inl (by rw [tr] at z; exact z))) (fun _ => k_in (k := 23) (n := 16000) rfl (by decide) (by omega) (k_A (y := 13) rfl ⟨by decide, by decide⟩ (fun z => t28 (Or.inr (by rw [tr] at z; exact z))) (fun _ => t35 u LSQ_rf)))
theorem last_none : fr_M_last N u (-1) = some (u, ()) := by
  show fb_M_last_0 N (rc_M_last N 59) (gg_M_last N (rc_M_last N 59) N) u (-1) = _
  unfold fb_M_last_0
  rw [show decide ((-1 : Int32) = -1) = true from rfl, br_tq]
end
