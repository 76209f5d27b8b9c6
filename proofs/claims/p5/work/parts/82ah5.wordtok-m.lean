section
theorem gr_mem : ∀ k : Nat, k < 256 → ((¬ ((I ((k : Int) - 128) &&& 255) < 65) ∧ (I ((k : Int) - 128) &&& 255) ≤ 90) ∨ (I ((k : Int) - 128) &&& 255) = 95) → I ((k : Int) - 128) ∈ G27 := by
  decide +kernel
def BYT (u : MS) : Prop := ∀ i, -128 ≤ A u 4 i ∧ A u 4 i ≤ 127
theorem cnt_up (c : Int32) (seen : Int32 → Bool) : ∀ l : List Int32, c ∈ l → seen c = false → l.countP seen + 1 ≤ l.countP (fun d => if d = c then true else seen d) := by
  have le : ∀ l : List Int32, l.countP seen ≤ l.countP (fun d => if d = c then true else seen d) := fun l => by
    induction l with
    | nil => exact Nat.le_refl _
    | cons a l ih =>
      rw [List.countP_cons, List.countP_cons]
      by_cases z : a = c
      · simp only [z, if_true]; split <;> omega
      · simp only [z, if_false]; omega
  intro l
  induction l with
  | nil => intro h; cases h
  | cons a l ih =>
    intro h hs
    rw [List.countP_cons, List.countP_cons]
    by_cases z : a = c
    · have := le l
      have e1 : seen a = false := by rw [z]; exact hs
      have e2 : (if a = c then true else seen a) = true := if_pos z
      rw [e2, e1, if_neg (by decide), if_pos rfl]
      omega
    · rcases List.mem_cons.mp h with q | q
      · exact absurd q.symm z
      · have := ih q hs
        simp only [z, if_false]
        omega
section
variable {u w x : MS} {N tn e n : Nat} {p p2 s y : Int} {bw : Nat → Nat} {c : Int32}
theorem gr_in (hb : BYT w) (hp : 0 ≤ p ∧ p < F w 5) (h : grB (byI w p)) : w.2.2.1 4 p.toNat ∈ G27 := by
  unfold byI at h
  rw [if_neg (by omega)] at h
  have b := hb p.toNat
  have e : w.2.2.1 4 p.toNat = I (((A w 4 p.toNat + 128).toNat : Int) - 128) := by rw [I_A]; congr 1; omega
  have g := gr_mem (A w 4 p.toNat + 128).toNat (by omega)
  rw [← e] at g
  exact g h
theorem TBI_fr (f : FR [9, 10, 11] [] [6, 7, 8] [] w x) (h : TBI w p) (hp : p ≤ p2) (hq : p + 1 ≤ p2 ∨ ¬ inB (byI x p2)) : TBI x p2 := by
  have eF : ∀ k, k ∈ [5, 14, 17, 20] → F x k = F w k := fun k hk => f.F (by
    have : ∀ k, k ∈ [5, 14, 17, 20] → k ∉ [9, 10, 11] := by decide
    exact this k hk)
  have eA : ∀ r i, r ∈ [12, 13, 15, 16, 18, 19] → A x r i = A w r i := fun r i hr => f.A (by
    have : ∀ r, r ∈ [12, 13, 15, 16, 18, 19] → r ∉ [6, 7, 8] := by decide
    exact this r hr)
  have e15 : ∀ i, x.2.2.1 15 i = w.2.2.1 15 i := fun i => by rw [f.2.2.1 15 (by decide)]
  obtain ⟨z0, ⟨a1, ⟨a2, a3, a4⟩, a5⟩, ⟨⟨b1, b2, b3⟩, b4, b5⟩, n1, n2, ⟨c1, ⟨c2, c3⟩, seen, c4, c5⟩, c6, c7, c8, c9⟩ := h
  refine ⟨⟨by rw [eA 13 _ (by decide)]; exact z0.1, by rw [eA 16 _ (by decide)]; exact z0.2.1, by rw [eA 19 _ (by decide)]; exact z0.2.2⟩, ⟨?_, ⟨?_, ?_, fun k hk => ?_⟩, ?_⟩, ⟨⟨?_, ?_, fun k hk => ?_⟩, ?_, ?_⟩, n1, n2, ⟨?_, ⟨c2, fun k hk => ?_⟩, seen, c4, fun c hc => ?_⟩, ?_, ?_, ?_, fun q => ?_⟩
  · rw [eF 14 (by decide)]; exact a1
  · rw [eF 14 (by decide)]; exact a2
  · rw [eF 14 (by decide)]; exact a3
  · rw [eF 14 (by decide)] at hk ⊢; rw [eA 13 _ (by decide), eA 13 _ (by decide)]; exact a4 k hk
  · rw [eF 14 (by decide), eA 13 _ (by decide)]; omega
  · rw [eF 20 (by decide)]; exact b1
  · rw [eF 20 (by decide)]; exact b2
  · rw [eF 20 (by decide)] at hk ⊢; rw [eA 19 _ (by decide), eA 19 _ (by decide)]; exact b3 k hk
  · rw [eF 20 (by decide)]; omega
  · rw [eF 20 (by decide), eA 19 _ (by decide)]; omega
  · rw [eF 17 (by decide)]; exact c1
  · rw [eA 16 _ (by decide), eA 16 _ (by decide)]; exact c3 k hk
  · obtain ⟨k, d1, d2, d3⟩ := c5 c hc
    exact ⟨k, d1, by rw [eA 16 _ (by decide), eA 16 _ (by decide)]; exact d2, by rw [eA 16 _ (by decide), e15]; exact d3⟩
  · rw [eA 16 _ (by decide)]; omega
  · rw [eF 14 (by decide), eF 5 (by decide)]; exact c7
  · rw [eF 14 (by decide)]; omega
  · rw [eF 14 (by decide)]
    rcases hq with z | z
    · omega
    · exact absurd q z
end
end
section
def wdC (N : Nat) (G : MS → Int32 → Int32 → Option (MS × Unit)) (v1 v2 : Int32) (u5 : MS) : Option (MS × Unit) := bnd (fm_M_wordAt N u5 (u5.1 10) v2) (fun u6 r6 => br (decide (r6 = (-1))) (br (decide (v2 ≤ 16)) (bnd (fm_M_isSmall N u6 v1) (fun u7 r7 => br (decide (r7 = 0)) (bnd (fm_M_textOf N u7 15 16 (u7.1 17) 4 (u7.1 10) v2) (fun u8 r8 => br (decide (r8 = (u8.1 17))) (fb_M_wordToken_141 N G u8 (v2) (r8) (((u8.1 17) + 1))) (fb_M_wordToken_141 N G u8 (v2) (r8) ((u8.1 17))))) (bnd (fm_M_atom N u7 4 (u7.1 10) v2) (fun u9 r9 => bnd (fm_M_token N u9 1 r9) (fun u10 _ => fb_M_wordToken_151 N G u10 (v2)))))) (bnd (fm_M_token N u6 7 0) (fun u11 _ => fb_M_wordToken_151 N G u11 (v2)))) (bnd (fm_M_token N u6 3 r6) (fun u12 _ => fb_M_wordToken_151 N G u12 (v2))))
section
variable {u w x v : MS} {N tn e n : Nat} {p p2 s y : Int} {bw : Nat → Nat} {c r : Int32}
theorem TBI_at (h : TBI w p) (hi : inB (byI w p)) (hp : 0 ≤ p ∧ p < F w 5) (hn : 1 ≤ n) (q : AMQ w n v r) (hx : ¬ inB (byI v (p + n))) : TBI v (p + n) := by
  obtain ⟨f, ax, q1, q2, q3, q4, -⟩ := q
  have eF : ∀ k, k ∈ [5, 17, 20] → F v k = F w k := fun k hk => f.F (by
    have : ∀ k, k ∈ [5, 17, 20] → k ∉ [14] := by decide
    exact this k hk)
  have eA : ∀ r i, r ∈ [15, 16, 18, 19] → A v r i = A w r i := fun r i hr => f.A (by
    have : ∀ r, r ∈ [15, 16, 18, 19] → r ∉ [12, 13] := by decide
    exact this r hr)
  have e15 : ∀ i, v.2.2.1 15 i = w.2.2.1 15 i := fun i => by rw [f.2.2.1 15 (by decide)]
  obtain ⟨z0, ⟨a1, -, a5⟩, ⟨⟨b1, b2, b3⟩, b4, b5⟩, n1, n2, ⟨c1, ⟨c2, c3⟩, seen, c4, c5⟩, c6, c7, c8, c9⟩ := h
  have c9' := c9 hi
  refine ⟨⟨q4.trans z0.1, by rw [eA 16 _ (by decide)]; exact z0.2.1, by rw [eA 19 _ (by decide)]; exact z0.2.2⟩, ⟨by omega, ax, by omega⟩, ⟨⟨?_, ?_, fun k hk => ?_⟩, ?_, ?_⟩, n1, n2, ⟨?_, ⟨c2, fun k hk => ?_⟩, seen, c4, fun c hc => ?_⟩, ?_, ?_, ?_, fun q => absurd q hx⟩
  · rw [eF 20 (by decide)]; exact b1
  · rw [eF 20 (by decide)]; exact b2
  · rw [eF 20 (by decide)] at hk ⊢; rw [eA 19 _ (by decide), eA 19 _ (by decide)]; exact b3 k hk
  · rw [eF 20 (by decide)]; omega
  · rw [eF 20 (by decide), eA 19 _ (by decide)]; omega
  · rw [eF 17 (by decide)]; exact c1
  · rw [eA 16 _ (by decide), eA 16 _ (by decide)]; exact c3 k hk
  · obtain ⟨k, d1, d2, d3⟩ := c5 c hc
    exact ⟨k, d1, by rw [eA 16 _ (by decide), eA 16 _ (by decide)]; exact d2, by rw [eA 16 _ (by decide), e15]; exact d3⟩
  · rw [eA 16 _ (by decide)]; omega
  · rw [eF 5 (by decide)]; omega
  · omega
theorem TBI_nm {m : Nat} (h : TBI w p) (hb : BYT w) (hi : inB (byI w p)) (hg : grB (byI w p)) (hp : 0 ≤ p ∧ p < F w 5) (h5 : F w 5 ≤ 4000) (hn : 1 ≤ n ∧ p + n ≤ F w 5) (h17 : F w 17 = ((m : Nat) : Int)) (hno : ∀ k, k < m → ¬ TSM w 15 16 4 k p.toNat n) (q : TXN w 15 16 4 m p.toNat n v) (hx : ¬ inB (byI v (p + n))) : TBI (wi v 17 ((m : Int) + 1)) (p + n) := by
  obtain ⟨f, g2, g3, g4, g5⟩ := q
  have eF : ∀ k, k ≠ 17 → F (wi v 17 ((m : Int) + 1)) k = F w k := fun k hk => (wi_ne hk).trans (f.F (by intro z; cases z))
  have eA : ∀ r i, r ∈ [12, 13, 18, 19] → A (wi v 17 ((m : Int) + 1)) r i = A w r i := fun r i hr => f.A (by
    have : ∀ r, r ∈ [12, 13, 18, 19] → r ∉ [15, 16] := by decide
    exact this r hr)
  have by1 : byI (wi v 17 ((m : Int) + 1)) (p + n) = byI v (p + n) := byI_fr (fun _ => rfl) (wi_ne (by decide)) _
  obtain ⟨z0, ⟨a1, ⟨a2, a3, a4⟩, a5⟩, ⟨⟨b1, b2, b3⟩, b4, b5⟩, n1, n2, ⟨c1, ⟨c2, c3⟩, seen, c4, c5⟩, c6, c7, c8, c9⟩ := h
  have c9' := c9 hi
  have em : m = n1 + n2 := by omega
  have len27 : G27.countP seen ≤ 27 := List.countP_le_length
  have m13 : m ≤ 1342 := by omega
  have f17 : F (wi v 17 ((m : Int) + 1)) 17 = (m : Int) + 1 := wi_eq ⟨by omega, by omega⟩
  have cm := c3 (n1 + n2) (Nat.le_refl _)
  rw [← em] at cm c6 c3
  have w16 : ∀ i, A (wi v 17 ((m : Int) + 1)) 16 i = A v 16 i := fun _ => rfl
  have tb : TBX (wi v 17 ((m : Int) + 1)) 16 (m + 1) := by
    refine ⟨by omega, fun k hk => ?_⟩
    rw [w16, w16]
    by_cases z : k = m + 1
    · rw [z, g3]; exact ⟨by omega, by omega, fun y => by omega⟩
    · have ck := c3 k (by omega)
      rw [g2 k z]
      refine ⟨ck.1, ck.2.1, fun y => ?_⟩
      by_cases z2 : k = m
      · rw [z2, g3]; omega
      · rw [g2 (k + 1) (by omega)]; exact ck.2.2 (by omega)
  have old : ∀ c, seen c = true → ∃ k, k < m + 1 ∧ A (wi v 17 ((m : Int) + 1)) 16 (k + 1) - A (wi v 17 ((m : Int) + 1)) 16 k = 1 ∧ (wi v 17 ((m : Int) + 1)).2.2.1 15 (A (wi v 17 ((m : Int) + 1)) 16 k).toNat = c := fun c hc => by
    obtain ⟨k, d1, d2, d3⟩ := c5 c hc
    refine ⟨k, by omega, ?_, ?_⟩
    · rw [w16, w16, g2 k (by omega), g2 (k + 1) (by omega)]; exact d2
    · show v.2.2.1 15 (A v 16 k).toNat = c
      rw [g2 k (by omega)]
      have k1 := c3 k (by omega)
      have k2 : A w 16 (k + 1) ≤ A w 16 m := by
        have mono : ∀ d i, i + d = m → A w 16 i ≤ A w 16 m := by
          intro d
          induction d with
          | zero => intro i hi; obtain rfl : i = m := by omega
                    exact Int.le_refl _
          | succ d ih => intro i hi; have := (c3 i (by omega)).2.2 (by omega); have := ih (i + 1) (by omega); omega
        exact mono (m - (k + 1)) (k + 1) (by omega)
      rw [g5 _ (by omega)]; exact d3
  have common : ∀ n1' n2' : Nat, n1' + n2' = m + 1 → 2 * n1' + 3 * n2' ≤ 2 * n1 + 3 * n2 + n + 1 → (∃ sn : Int32 → Bool, n1' ≤ G27.countP sn ∧ ∀ c, sn c = true → ∃ k, k < m + 1 ∧ A (wi v 17 ((m : Int) + 1)) 16 (k + 1) - A (wi v 17 ((m : Int) + 1)) 16 k = 1 ∧ (wi v 17 ((m : Int) + 1)).2.2.1 15 (A (wi v 17 ((m : Int) + 1)) 16 k).toNat = c) → TBI (wi v 17 ((m : Int) + 1)) (p + n) := fun n1' n2' e1 e2 sn => by
    refine ⟨⟨by rw [eA 13 _ (by decide)]; exact z0.1, by rw [w16, g2 0 (by omega)]; exact z0.2.1, by rw [eA 19 _ (by decide)]; exact z0.2.2⟩, ⟨?_, ⟨?_, ?_, fun k hk => ?_⟩, ?_⟩, ⟨⟨?_, ?_, fun k hk => ?_⟩, ?_, ?_⟩, n1', n2', ⟨by rw [f17]; omega, by rw [e1]; exact tb, by rw [e1]; exact sn⟩, ?_, ?_, ?_, fun q => absurd q (by rw [by1]; exact hx)⟩
    · rw [eF 14 (by decide)]; exact a1
    · rw [eF 14 (by decide)]; exact a2
    · rw [eF 14 (by decide)]; exact a3
    · rw [eF 14 (by decide)] at hk ⊢; rw [eA 13 _ (by decide), eA 13 _ (by decide)]; exact a4 k hk
    · rw [eF 14 (by decide), eA 13 _ (by decide)]; omega
    · rw [eF 20 (by decide)]; exact b1
    · rw [eF 20 (by decide)]; exact b2
    · rw [eF 20 (by decide)] at hk ⊢; rw [eA 19 _ (by decide), eA 19 _ (by decide)]; exact b3 k hk
    · rw [eF 20 (by decide)]; omega
    · rw [eF 20 (by decide), eA 19 _ (by decide)]; omega
    · rw [e1, w16, g3]; omega
    · rw [eF 14 (by decide), eF 5 (by decide)]; omega
    · rw [eF 14 (by decide)]; omega
  by_cases z : n = 1
  · subst z
    have hc : w.2.2.1 4 p.toNat ∈ G27 := gr_in hb hp hg
    have hb4 := hb p.toNat
    have nar : vp_nar .byte (w.2.2.1 4 p.toNat) = w.2.2.1 4 p.toNat := by
      rw [I_A]; exact nar_id hb4.1 hb4.2
    have new : v.2.2.1 15 (A w 16 m).toNat = w.2.2.1 4 p.toNat := by
      have := g4 0 (by omega)
      rw [Nat.add_zero, Nat.add_zero, nar] at this
      exact this
    have sf : seen (w.2.2.1 4 p.toNat) = false := by
      cases hs : seen (w.2.2.1 4 p.toNat) with
      | false => rfl
      | true =>
        obtain ⟨k, d1, d2, d3⟩ := c5 _ hs
        exfalso
        refine hno k (by omega) ⟨by omega, fun i hi => ?_⟩
        obtain rfl : i = 0 := by omega
        rw [Nat.add_zero, Nat.add_zero]; exact d3
    refine common (n1 + 1) n2 (by omega) (by omega) ⟨fun d => if d = w.2.2.1 4 p.toNat then true else seen d, ?_, fun c hcc => ?_⟩
    · have := cnt_up (w.2.2.1 4 p.toNat) seen G27 hc sf
      omega
    · by_cases zc : c = w.2.2.1 4 p.toNat
      · refine ⟨m, by omega, ?_, ?_⟩
        · rw [w16, w16, g3, g2 m (by omega)]; omega
        · show v.2.2.1 15 (A v 16 m).toNat = c
          rw [g2 m (by omega), new, zc]
      · have hcc' : (if c = w.2.2.1 4 p.toNat then true else seen c) = true := hcc
        rw [if_neg zc] at hcc'
        exact old c hcc'
  · exact common n1 (n2 + 1) (by omega) (by omega) ⟨seen, c4, old⟩
theorem nu_1 {i : Nat} (h : nu w i = 0) : 0 < i ∧ 1 ≤ A w 6 (i - 1) ∧ A w 6 (i - 1) ≤ 4 := by
  unfold nu at h
  split at h
  · omega
  · split at h
    · exact ⟨by omega, by omega, by omega⟩
    · omega
set_option maxRecDepth 100000 in
theorem wordToken_ok (hN : 200000 ≤ N) (h5 : 0 ≤ F w 5 ∧ F w 5 ≤ 4000) (hb : BYT w) (wt : WTB w) (h : RDI u w tn p bw) (hp : 0 ≤ p ∧ p < F w 5) (hc : c = byI w p) (hcc : smB c ∨ grB c) : OK (fun x _ => ∃ (p2 : Int) (bw2 : Nat → Nat), RDI u x (tn + 1) p2 bw2 ∧ p + 1 ≤ p2) (fm_M_wordToken N w c) := by
  have hi : inB (byI w p) := by
    rw [← hc]
    rcases hcc with q | q
    · exact Or.inl q
    · exact Or.inr (Or.inl q)
  obtain ⟨a1, ⟨a2, a3⟩, ⟨a4, a5⟩, ⟨a6, a6b, a6c⟩, a7, a8⟩ := id h
  have tl := TKI_le a5 a4 tn (Nat.le_refl _)
  unfold fm_M_wordToken fb_M_wordToken_0
  have inn : ∀ k : Int, 0 ≤ k → inB (byI w k) → k < F w 5 := fun k hk q => by
    rcases Int.lt_or_le k (F w 5) with z | z
    · exact z
    · exfalso
      unfold byI at q
      rw [if_pos z] at q
      exact inB_no q
  have stop : ∀ (n : Nat) (G : MS → Int32 → Int32 → Option (MS × Unit)), 1 ≤ n → p + n ≤ F w 5 → ¬ inB (byI w (p + n)) → OK (fun x _ => ∃ (p2 : Int) (bw2 : Nat → Nat), RDI u x (tn + 1) p2 bw2 ∧ p + 1 ≤ p2) (wdC N G c (I n) w) := fun n G hn hpn hno => by
    have ep : (I p : Int32) = I ((p.toNat : Nat) : Int) := by rw [show ((p.toNat : Nat) : Int) = p by omega]
    have e16 : 0 ≤ p + n ∧ p + n ≤ 4000 := by omega
    have fin : ∀ (w1 : MS) (s y : Int) (cs' ys : Int32), vp_nar .byte (cs'.toInt8.toInt32) = I s → ys = I y → RG y → FR [14, 17, 20] [] [12, 13, 15, 16, 18, 19] [] w w1 → (F w 14 ≤ F w1 14 ∧ F w 17 ≤ F w1 17 ∧ F w 20 ≤ F w1 20) → (1 ≤ s ∧ s ≤ 7 ∧ (s = 1 → 0 ≤ y ∧ y < F w1 14) ∧ (s = 2 → 0 ≤ y ∧ y < F w1 17) ∧ (s = 3 → 0 ≤ y ∧ y ≤ 14) ∧ (s = 5 → 0 ≤ y ∧ y < F w1 20)) → (s = 3 ∧ (y = 6 ∨ y = 7 → n = 3) ∨ s = 1 ∨ s = 2 ∨ s = 7) → TBI w1 (p + n) → OK (fun x _ => ∃ (p2 : Int) (bw2 : Nat → Nat), RDI u x (tn + 1) p2 bw2 ∧ p + 1 ≤ p2) (bnd (fm_M_token N w1 cs' ys) (fun u10 _ => fb_M_wordToken_151 N G u10 (I n))) := fun w1 s y cs' ys h1 h2 h3 h4 h4b h6 h7 tb => by
      have f9 : F w1 9 = ((tn : Nat) : Int) := (h4.F (by decide)).trans a2
      have f10 : F w1 10 = p := (h4.F (by decide)).trans a3
      refine k_token h1 h2 (by omega) ?_
      unfold fb_M_wordToken_151
      have t10 : F (tkn w1 s y) 10 = p := by unfold tkn; rw [wi_ne (by decide), F_wa, F_wa, F_wa]; exact f10
      rw [I_F' t10, I_add, wi_e]
      refine ok_lt.mpr (ok_some.mpr ⟨p + n, fun i => if i ≤ tn then bw i else (p + n).toNat, ?_, by omega⟩)
      have fx : FR [9, 10, 11] [] [6, 7, 8] [] w1 (wi (tkn w1 s y) 10 (p + n)) := by
        unfold tkn
        exact FR.wi (FR.wi (FR.wa (FR.wa (FR.wa FR.rf (by decide)) (by decide)) (by decide)) (by decide)) (by decide)
      have by1 : byI (wi (tkn w1 s y) 10 (p + n)) (p + n) = byI w (p + n) := byI_fr (fun i => by
        have q1 := fx.2.2.1 4 (by decide)
        have q2 := h4.2.2.1 4 (by decide)
        rw [q1, q2]) ((fx.F (by decide)).trans (h4.F (by decide))) _
      have e2 : (((p + n).toNat : Nat) : Int) = p + n := by omega
      have nun := nu_le w tn
      refine RDI_tok h h4 h4b ⟨by omega, by omega, by omega, by omega⟩ h6 ⟨fun q1 q2 => ?_, fun q => ?_, fun q => ?_, fun q1 q2 => ?_⟩ (fun _ => by rw [e2]; exact hno) h3 h5 rfl (TBI_fr fx tb (Int.le_refl _) (Or.inr (by rw [by1]; exact hno)))
      · rcases h7 with ⟨-, q⟩ | q | q | q
        · have := q q2; omega
        · omega
        · omega
        · omega
      · rcases h7 with q' | q' | q' | q' <;> omega
      · rcases h7 with q' | q' | q' | q' <;> omega
      · rcases h7 with ⟨-, q⟩ | q | q | q
        · have q3 := q (Or.inl q2)
          by_cases z : nu w tn = 0
          · obtain ⟨z1, z2, z3⟩ := nu_1 z
            have z4 := a7 z1 ⟨z2, z3⟩
            have z5 : (bw tn : Int) ≠ p := fun z6 => z4 (by rw [z6]; exact hi)
            omega
          · omega
        · omega
        · omega
        · omega
    have tbs : TBI w (p + n) := TBI_fr (FR.rf) a8 (by omega) (Or.inl (by omega))
    unfold wdC
    rw [I_F' a3]
    have wd := wordAt_ok (N := N) (u := w) (fr := p.toNat) (len := n) (by omega) (by omega) wt
    rw [← ep] at wd
    refine ok_bnd.mpr (ok_mono wd (fun x6 r6 h6 => ?_))
    rw [h6.1]
    rcases h6.2 with g | ⟨k, g1, g2, g3⟩
    · rw [g]
      show OK _ (br (decide (I (n : Int) ≤ 16)) _ _)
      refine k_le (x := (n : Int)) (y := 16) ⟨by omega, by omega⟩ ⟨by decide, by decide⟩ (fun n16 => ?_) (fun _ => ?_)
      · refine k_small (fun _ => ?_) (fun hsm => ?_)
        · rw [br10]
          obtain ⟨-, ⟨b1, b2, b3⟩, -, n1, n2, -, -, c7, -⟩ := id a8
          have am := atom_ok (N := N) (u := w) (r3 := 4) (L3 := 4000) (bg := p.toNat) (len := n) hN ⟨rfl, rfl, by decide⟩ ⟨by decide, by decide⟩ b2 (by omega) (by omega) (by omega) (by omega)
          rw [← ep] at am
          rw [I_F' a3]
          refine ok_bnd.mpr (ok_mono am (fun x r hx => ?_))
          obtain ⟨hq, -⟩ := hx
          obtain ⟨k, k1, k2⟩ := hq.2.2.2.2.2.2
          have fx : FR [14, 17, 20] [] [12, 13, 15, 16, 18, 19] [] w x := FR.mo hq.1 (by decide) (by decide) (by decide) (by decide)
          have f17 : F x 17 = F w 17 := hq.1.F (by decide)
          have f20 : F x 20 = F w 20 := hq.1.F (by decide)
          have x14 := hq.2.1.2.1
          have by1 : byI x (p + n) = byI w (p + n) := byI_fr (fun i => by rw [hq.1.2.2.1 4 (by decide)]) (hq.1.F (by decide)) _
          rw [k1]
          refine fin x 1 k 1 (I k) rfl rfl ⟨by omega, by omega⟩ fx ⟨hq.2.2.2.1, by omega, by omega⟩ ⟨by omega, by omega, fun _ => ⟨by omega, k2⟩, fun q => by omega, fun q => by omega, fun q => by omega⟩ (Or.inr (Or.inl rfl)) (TBI_at a8 hi hp hn hq (by rw [by1]; exact hno))
        · rw [br00]
          obtain ⟨-, ⟨b1, b2, b3⟩, -, n1, n2, ⟨c1, c2, seen, c4, -⟩, c6, c7, -, c9⟩ := id a8
          have len27 : G27.countP seen ≤ 27 := List.countP_le_length
          have c9' := c9 hi
          have hg : grB (byI w p) := by
            rcases hcc with q | q
            · exact absurd q hsm
            · rw [← hc]; exact q
          have tx := textOf_ok (N := N) (u := w) (r0 := 15) (r1 := 16) (r3 := 4) (many := n1 + n2) (bg := p.toNat) (len := n) (L3 := 4000) hN ⟨rfl, rfl⟩ ⟨rfl, rfl⟩ ⟨rfl, rfl, by decide⟩ ⟨by decide, by decide, by decide⟩ c2 (by omega) (by omega) (by omega)
          rw [← ep] at tx
          rw [I_F' a3, I_F' c1]
          refine ok_bnd.mpr (ok_mono tx (fun x r hx => ?_))
          unfold fb_M_wordToken_141
          rcases hx with ⟨k, k1, k2, k3, k4⟩ | ⟨k1, k2, k3⟩
          · rw [k2, k3, I_F' c1]
            refine k_eq (x := (k : Int)) (y := ((n1 + n2 : Nat) : Int)) ⟨by omega, by omega⟩ ⟨by omega, by omega⟩ (fun q => by omega) (fun _ => ?_)
            have eu : upI w 17 (I ((n1 + n2 : Nat) : Int)) = w := by
              obtain ⟨w1, w2⟩ := w
              have hw : w1 17 = I ((n1 + n2 : Nat) : Int) := I_F' c1
              show ((fun j => if j = 17 then I ((n1 + n2 : Nat) : Int) else w1 j), w2) = (w1, w2)
              have : (fun j => if j = 17 then I ((n1 + n2 : Nat) : Int) else w1 j) = w1 := by
                funext j
                by_cases z : j = 17
                · rw [if_pos z, z, hw]
                · rw [if_neg z]
              rw [this]
            rw [eu]
            refine ok_lt.mpr (fin w 2 k 2 (I k) rfl rfl ⟨by omega, by omega⟩ FR.rf ⟨Int.le_refl _, Int.le_refl _, Int.le_refl _⟩ ⟨by omega, by omega, fun q => by omega, fun _ => ⟨by omega, by omega⟩, fun q => by omega, fun q => by omega⟩ (Or.inr (Or.inr (Or.inl rfl))) tbs)
          · have x17 : F x 17 = ((n1 + n2 : Nat) : Int) := (k3.1.F (by intro z; cases z)).trans c1
            rw [k1, I_F' x17]
            refine k_eq (x := ((n1 + n2 : Nat) : Int)) (y := ((n1 + n2 : Nat) : Int)) ⟨by omega, by omega⟩ ⟨by omega, by omega⟩ (fun _ => ?_) (fun q => absurd rfl q)
            rw [lit1q, I_add, wi_e]
            have by1 : byI x (p + n) = byI w (p + n) := byI_fr (fun i => by rw [k3.1.2.2.1 4 (by decide)]) (k3.1.F (by intro z; cases z)) _
            have tb := TBI_nm (m := n1 + n2) a8 hb hi hg hp h5.2 ⟨hn, hpn⟩ c1 k2 k3 (by rw [by1]; exact hno)
            have fx : FR [14, 17, 20] [] [12, 13, 15, 16, 18, 19] [] w (wi x 17 (((n1 + n2 : Nat) : Int) + 1)) := FR.wi (FR.mo k3.1 (by simp) (by simp) (by simp) (by simp)) (by decide)
            have e14 : F (wi x 17 (((n1 + n2 : Nat) : Int) + 1)) 14 = F w 14 := (wi_ne (by decide)).trans (k3.1.F (by intro z; cases z))
            have e20 : F (wi x 17 (((n1 + n2 : Nat) : Int) + 1)) 20 = F w 20 := (wi_ne (by decide)).trans (k3.1.F (by intro z; cases z))
            have e17 : F (wi x 17 (((n1 + n2 : Nat) : Int) + 1)) 17 = ((n1 + n2 : Nat) : Int) + 1 := wi_eq ⟨by omega, by omega⟩
            refine ok_lt.mpr (fin _ 2 ((n1 + n2 : Nat) : Int) 2 (I ((n1 + n2 : Nat) : Int)) rfl rfl ⟨by omega, by omega⟩ fx ⟨by omega, by omega, by omega⟩ ⟨by omega, by omega, fun q => by omega, fun _ => ⟨by omega, by omega⟩, fun q => by omega, fun q => by omega⟩ (Or.inr (Or.inr (Or.inl rfl))) tb)
      · exact fin w 7 0 7 0 rfl rfl ⟨by decide, by decide⟩ FR.rf ⟨Int.le_refl _, Int.le_refl _, Int.le_refl _⟩ ⟨by omega, by omega, fun q => by omega, fun q => by omega, fun q => by omega, fun q => by omega⟩ (Or.inr (Or.inr (Or.inr rfl))) tbs
    · have r6n : ¬ (r6 = -1) := fun q => by
        rw [g2] at q
        have := congrArg Int32.toInt q
        rw [show (-1 : Int32) = I (-1) from rfl, I_ti (by omega) (by omega), I_ti (by omega) (by omega)] at this
        omega
      rw [decide_eq_false r6n, br_fq, g2]
      have wl : ∀ k, k < 15 → k = 6 ∨ k = 7 → wln k = 3 := by decide
      refine fin w 3 k 3 (I k) rfl rfl ⟨by omega, by omega⟩ FR.rf ⟨Int.le_refl _, Int.le_refl _, Int.le_refl _⟩ ⟨by omega, by omega, fun q => by omega, fun q => by omega, fun _ => ⟨by omega, by omega⟩, fun q => by omega⟩ (Or.inl ⟨rfl, fun q => ?_⟩) tbs
      rw [g3]
      exact wl k g1 (by omega)
  have loop : ∀ (d n m : Nat), p + n + d = F w 5 → d + 1 ≤ m → (0 < n ∨ n = 0) → OK (fun x _ => ∃ (p2 : Int) (bw2 : Nat → Nat), RDI u x (tn + 1) p2 bw2 ∧ p + 1 ≤ p2) (gg_M_wordToken N m w c (I n)) := by
    intro d
    induction d with
    | zero =>
      intro n m hd hm _
      obtain ⟨m', rfl⟩ : ∃ m', m = m' + 1 := ⟨m - 1, by omega⟩
      show OK _ (fb_M_wordToken_2 N (gg_M_wordToken N m') w c (I n))
      unfold fb_M_wordToken_2
      refine k_byteAt (k := p + n) (by rw [I_F' a3, I_add]) (by omega) h5 ?_
      refine k_inner (fun q => ?_) (fun q => ?_)
      · have := inn _ (by omega) q; omega
      · rw [br00]
        exact stop n _ (by omega) (by omega) q
    | succ d ih =>
      intro n m hd hm _
      obtain ⟨m', rfl⟩ : ∃ m', m = m' + 1 := ⟨m - 1, by omega⟩
      show OK _ (fb_M_wordToken_2 N (gg_M_wordToken N m') w c (I n))
      unfold fb_M_wordToken_2
      refine k_byteAt (k := p + n) (by rw [I_F' a3, I_add]) (by omega) h5 ?_
      refine k_inner (fun q => ?_) (fun q => ?_)
      · rw [br10]
        have e1 : I (n : Int) + 1 = I ((n + 1 : Nat) : Int) := by rw [lit1q, I_add]; rfl
        rw [e1]
        exact ih (n + 1) m' (by omega) (by omega) (Or.inl (by omega))
      · rw [br00]
        rcases Nat.eq_zero_or_pos n with z | z
        · subst z
          rw [show p + ((0 : Nat) : Int) = p by omega] at q
          exact absurd hi q
        · exact stop n _ z (by omega) q
  exact loop (F w 5 - p).toNat 0 N (by omega) (by omega) (Or.inr rfl)
end
end
section
section
variable {u w x v : MS} {N tn e n : Nat} {p p2 s y : Int} {bw : Nat → Nat} {c r : Int32}
theorem RDI_tok2 (h : RDI u w tn p bw) (f : FR [9, 10, 11, 14, 17, 20] [] [6, 7, 8, 12, 13, 15, 16, 18, 19] [] w x) (x9 : F x 9 = ((tn + 1 : Nat) : Int)) (x10 : F x 10 = p2) (x6 : A x 6 tn = s) (x7 : A x 7 tn = y) (xo : ∀ r j, r ∈ [6, 7] → j ≠ tn → A x r j = A w r j) (hm : F w 14 ≤ F x 14 ∧ F w 17 ≤ F x 17 ∧ F w 20 ≤ F x 20) (he : bw tn + 1 ≤ e ∧ (e : Int) ≤ p2 ∧ (e : Int) ≤ F w 5 ∧ p2 ≤ F w 5 + 1) (hs : 1 ≤ s ∧ s ≤ 7 ∧ (s = 1 → 0 ≤ y ∧ y < F x 14) ∧ (s = 2 → 0 ≤ y ∧ y < F x 17) ∧ (s = 3 → 0 ≤ y ∧ y ≤ 14) ∧ (s = 5 → 0 ≤ y ∧ y < F x 20)) (hb : (s = 3 → y = 6 ∨ y = 7 → bw tn + 3 ≤ e) ∧ (s = 6 → y = 10 → bw tn + 2 ≤ e) ∧ (s = 5 → bw tn + 2 ≤ e) ∧ (s = 3 → y = 6 → bw tn + 4 ≤ e + nu w tn)) (hn : s ≤ 4 → ¬ inB (byI w e)) (tb : TBI x p2) : RDI u x (tn + 1) p2 (fun i => if i ≤ tn then bw i else e) := by
  obtain ⟨a1, ⟨a2, a3⟩, ⟨a4, a5⟩, a6, a7, a8⟩ := h
  have f5 : F x 5 = F w 5 := f.F (by decide)
  have xn : ∀ i, i ≤ tn → nu x i = nu w i := fun i hi => by
    unfold nu
    split
    · rfl
    · rw [xo 6 (i - 1) (by decide) (by omega)]
  have by5 : ∀ k, byI x k = byI w k := byI_fr (fun i => by rw [f.2.2.1 4 (by decide)]) f5
  refine ⟨FR.tr a1 f, ⟨x9, x10⟩, ⟨by simp only [Nat.zero_le, if_true]; exact a4, fun i hi => ?_⟩, ?_, fun _ q => ?_, tb⟩
  · by_cases z : i < tn
    · simp only [show i ≤ tn by omega, show i + 1 ≤ tn by omega, if_true]
      rw [xo 6 i (by decide) (by omega), xo 7 i (by decide) (by omega), xn i (by omega)]
      obtain ⟨⟨b1, b2, b3, b4, b5, b6⟩, b7⟩ := a5 i z
      exact ⟨⟨b1, b2, fun q => by have := b3 q; omega, fun q => by have := b4 q; omega, b5, fun q => by have := b6 q; omega⟩, b7⟩
    · obtain rfl : i = tn := by omega
      simp only [Nat.le_refl, if_true, show ¬ (i + 1 ≤ i) by omega, if_false]
      rw [x6, x7, xn i (Nat.le_refl _)]
      exact ⟨hs, he.1, hb⟩
  · simp only [show ¬ (tn + 1 ≤ tn) by omega, if_false]
    rw [f5]; omega
  · simp only [show ¬ (tn + 1 ≤ tn) by omega, if_false]
    rw [by5]
    rw [Nat.add_sub_cancel, x6] at q
    exact hn q.2
theorem tkn_f (h9 : F w 9 = ((tn : Nat) : Int)) (ht : tn ≤ 5000) (rs : RG s) (ry : RG y) : FR [9] [] [6, 7, 8] [] w (tkn w s y) ∧ F (tkn w s y) 9 = ((tn + 1 : Nat) : Int) ∧ A (tkn w s y) 6 tn = s ∧ A (tkn w s y) 7 tn = y ∧ ∀ r j, r ∈ [6, 7] → j ≠ tn → A (tkn w s y) r j = A w r j := by
  have et : (F w 9).toNat = tn := by omega
  unfold tkn
  rw [et]
  refine ⟨FR.wi (FR.wa (FR.wa (FR.wa FR.rf (by decide)) (by decide)) (by decide)) (by decide), ?_, ?_, ?_, fun r j _ hj => ?_⟩
  · rw [wi_eq ⟨by omega, by omega⟩]; omega
  · show A (wa (wa (wa w 6 tn s) 7 tn y) 8 tn (F w 11)) 6 tn = s
    rw [wa_rne (by decide), wa_rne (by decide)]; exact wa_eq rs
  · show A (wa (wa (wa w 6 tn s) 7 tn y) 8 tn (F w 11)) 7 tn = y
    rw [wa_rne (by decide)]; exact wa_eq ry
  · show A (wa (wa (wa w 6 tn s) 7 tn y) 8 tn (F w 11)) r j = _
    rw [wa_ne hj, wa_ne hj, wa_ne hj]
theorem numberToken_ok (hN : 200000 ≤ N) (h5 : 0 ≤ F w 5 ∧ F w 5 ≤ 4000) (h : RDI u w tn p bw) (hp : 0 ≤ p ∧ p < F w 5) (hc : dgB (byI w p)) : OK (fun x _ => ∃ (p2 : Int) (bw2 : Nat → Nat), RDI u x (tn + 1) p2 bw2 ∧ p + 1 ≤ p2) (fm_M_numberToken N w) := by
  obtain ⟨a1, ⟨a2, a3⟩, ⟨a4, a5⟩, ⟨a6, a6b, a6c⟩, a7, a8⟩ := id h
  have tl := TKI_le a5 a4 tn (Nat.le_refl _)
  unfold fm_M_numberToken fb_M_numberToken_0
  have dg_in : ∀ k : Int, 0 ≤ k → dgB (byI w k) → k < F w 5 := fun k hk q => by
    rcases Int.lt_or_le k (F w 5) with z | z
    · exact z
    · exfalso
      unfold byI at q
      rw [if_pos z] at q
      exact inB_no (Or.inr (Or.inr q))
  have loop : ∀ (d n : Nat) (m : Nat) (v1 : Int64) (v : MS), p + n + d = F w 5 → d + 1 ≤ m → FR [10] [] [] [] w v → F v 10 = p + n → OK (fun x _ => ∃ (p2 : Int) (bw2 : Nat → Nat), RDI u x (tn + 1) p2 bw2 ∧ p + 1 ≤ p2) (gg_M_numberToken N m v v1) := by
    have stop : ∀ (n : Nat) (v1 : Int64) (v : MS) (t1 : Int32) (s : Int) (G : MS → Int64 → Option (MS × Unit)), 1 ≤ n → p + n ≤ F w 5 → FR [10] [] [] [] w v → F v 10 = p + n → vp_nar .byte (t1.toInt8.toInt32) = I s → (s = 7 ∨ (s = 4 ∧ ¬ inB (byI w (p + n)))) → OK (fun x _ => ∃ (p2 : Int) (bw2 : Nat → Nat), RDI u x (tn + 1) p2 bw2 ∧ p + 1 ≤ p2) (fb_M_numberToken_90 N G v v1 t1) := fun n v1 v t1 s G hn hpn fv f10 ht hs => by
      unfold fb_M_numberToken_90
      have v9 : F v 9 = ((tn : Nat) : Int) := (fv.F (by decide)).trans a2
      refine k_token ht (I_of _) (by omega) (ok_some.mpr ⟨p + n, fun i => if i ≤ tn then bw i else (p + n).toNat, ?_, by omega⟩)
      have ry := ti_rng v1.toInt32
      have rs : RG s := by rcases hs with z | z <;> exact ⟨by omega, by omega⟩
      obtain ⟨t1', t2, t3, t4, t5⟩ := tkn_f (w := v) (s := s) (y := v1.toInt32.toInt) v9 (by omega) rs ry
      generalize tkn v s v1.toInt32.toInt = x at *
      have fx : FR [9, 10] [] [6, 7, 8] [] w x := FR.tr (FR.mo fv (by decide) (by decide) (by decide) (by decide)) (FR.mo t1' (by decide) (by decide) (by decide) (by decide))
      have eF : ∀ k, k ∉ [9, 10] → F x k = F w k := fun k hk => fx.F hk
      refine RDI_tok2 h (FR.mo fx (by decide) (by decide) (by decide) (by decide)) t2 ((t1'.F (by decide)).trans f10) t3 t4 (fun r j hr hj => by rw [t5 r j hr hj]; exact fv.A (by intro z; cases z)) ⟨by rw [eF 14 (by decide)]; exact Int.le_refl _, by rw [eF 17 (by decide)]; exact Int.le_refl _, by rw [eF 20 (by decide)]; exact Int.le_refl _⟩ ⟨by omega, by omega, by omega, by omega⟩ ?_ ?_ (fun q => ?_) (TBI_fr (FR.mo fx (by decide) (by decide) (by decide) (by decide)) a8 (by omega) (Or.inl (by omega)))
      · rcases hs with z | z <;> exact ⟨by omega, by omega, fun q => by omega, fun q => by omega, fun q => by omega, fun q => by omega⟩
      · rcases hs with z | z <;> exact ⟨fun q => by omega, fun q => by omega, fun q => by omega, fun q => by omega⟩
      · rcases hs with z | z
        · omega
        · rw [show (((p + n).toNat : Nat) : Int) = p + n by omega]; exact z.2
    intro d
    induction d with
    | zero =>
      intro n m v1 v hd hm fv f10
      obtain ⟨m', rfl⟩ : ∃ m', m = m' + 1 := ⟨m - 1, by omega⟩
      have bv : ∀ k, byI v k = byI w k := byI_fr (fun i => by rw [fv.2.2.1 4 (by intro z; cases z)]) (fv.F (by decide))
      have v5 : F v 5 = F w 5 := fv.F (by decide)
      show OK _ (fb_M_numberToken_2 N (gg_M_numberToken N m') v v1)
      unfold fb_M_numberToken_2 fb_M_numberToken_84
      refine k_byteAt (k := p + n) (I_F' f10) (by omega) (by omega) ?_
      rw [bv]
      refine k_digit (fun q => by have := dg_in _ (by omega) q; omega) (fun _ => ?_)
      rw [br00]
      refine ok_br.mpr ⟨fun _ => stop n v1 v 7 7 _ (by omega) (by omega) fv f10 rfl (Or.inl rfl), fun _ => ?_⟩
      refine k_byteAt (k := p + n) (I_F' f10) (by omega) (by omega) ?_
      rw [bv]
      refine k_inner (fun _ => ?_) (fun q => ?_)
      · rw [br10]; exact stop n v1 v 7 7 _ (by omega) (by omega) fv f10 rfl (Or.inl rfl)
      · rw [br00]; exact stop n v1 v 4 4 _ (by omega) (by omega) fv f10 rfl (Or.inr ⟨rfl, q⟩)
    | succ d ih =>
      intro n m v1 v hd hm fv f10
      obtain ⟨m', rfl⟩ : ∃ m', m = m' + 1 := ⟨m - 1, by omega⟩
      have bv : ∀ k, byI v k = byI w k := byI_fr (fun i => by rw [fv.2.2.1 4 (by intro z; cases z)]) (fv.F (by decide))
      have v5 : F v 5 = F w 5 := fv.F (by decide)
      show OK _ (fb_M_numberToken_2 N (gg_M_numberToken N m') v v1)
      unfold fb_M_numberToken_2 fb_M_numberToken_84
      refine k_byteAt (k := p + n) (I_F' f10) (by omega) (by omega) ?_
      rw [bv]
      refine k_digit (fun _ => ?_) (fun q => ?_)
      · rw [br10]
        have nx : ∀ t0, OK (fun x _ => ∃ (p2 : Int) (bw2 : Nat → Nat), RDI u x (tn + 1) p2 bw2 ∧ p + 1 ≤ p2) (fb_M_numberToken_47 N (gg_M_numberToken N m') v t0) := fun t0 => by
          unfold fb_M_numberToken_47
          have e : v.1 10 + 1 = I (p + ((n + 1 : Nat) : Int)) := by rw [I_F' f10, lit1q, I_add]; congr 1; omega
          rw [e, wi_e]
          exact ok_lt.mpr (ih (n + 1) m' t0 _ (by omega) (by omega) (FR.wi fv (by decide)) (wi_eq ⟨by omega, by omega⟩))
        refine ok_br.mpr ⟨fun _ => ?_, fun _ => nx _⟩
        exact k_byteAt (k := p + n) (I_F' f10) (by omega) (by omega) (nx _)
      · rw [br00]
        have hn : 1 ≤ n := by
          rcases Nat.eq_zero_or_pos n with z | z
          · subst z
            rw [show p + ((0 : Nat) : Int) = p by omega] at q
            exact absurd hc q
          · exact z
        refine ok_br.mpr ⟨fun _ => stop n v1 v 7 7 _ hn (by omega) fv f10 rfl (Or.inl rfl), fun _ => ?_⟩
        refine k_byteAt (k := p + n) (I_F' f10) (by omega) (by omega) ?_
        rw [bv]
        refine k_inner (fun _ => ?_) (fun q => ?_)
        · rw [br10]; exact stop n v1 v 7 7 _ hn (by omega) fv f10 rfl (Or.inl rfl)
        · rw [br00]; exact stop n v1 v 4 4 _ hn (by omega) fv f10 rfl (Or.inr ⟨rfl, q⟩)
  exact loop (F w 5 - p).toNat 0 N 0 w (by omega) (by omega) FR.rf (by omega)
end
end
section
def SGT (u : MS) : Prop := (∀ k, k < 18 → A u 22 (2 * k + 1) ≠ 10) ∧ ∀ k, k < 7 → A u 21 (3 * k + 1) ≠ -1
section
variable {u w x v : MS} {N tn e n : Nat} {p p2 s y : Int} {bw : Nat → Nat} {c r : Int32}
theorem signToken_ok (hN : 200000 ≤ N) (h5 : 0 ≤ F w 5 ∧ F w 5 ≤ 4000) (sg : SGT w) (h : RDI u w tn p bw) (hp : 0 ≤ p ∧ p < F w 5) : OK (fun x _ => ∃ (p2 : Int) (bw2 : Nat → Nat), RDI u x (tn + 1) p2 bw2 ∧ p + 1 ≤ p2) (fm_M_signToken N w c) := by
  obtain ⟨a1, ⟨a2, a3⟩, ⟨a4, a5⟩, ⟨a6, a6b, a6c⟩, a7, a8⟩ := id h
  have tl := TKI_le a5 a4 tn (Nat.le_refl _)
  unfold fm_M_signToken fb_M_signToken_0
  have e1 : w.1 10 + 1 = I (p + 1) := by rw [I_F' a3, lit1q, I_add]
  refine k_byteAt (k := p + 1) e1 (by omega) h5 ?_
  have fin : ∀ (G : (MS → Int32 → Int32 → Int32 → Int32 → Int32 → Option (MS × Unit)) × (MS → Int32 → Int32 → Int32 → Int32 → Int32 → Option (MS × Unit))) (sv : Int32) (nn : Int) (t1 : Int32) (st : Int), ((nn = 1 ∧ sv ≠ 10) ∨ (nn = 2 ∧ p + 1 < F w 5)) → vp_nar .byte (t1.toInt8.toInt32) = I st → (st = 7 ∨ st = 6) → OK (fun x _ => ∃ (p2 : Int) (bw2 : Nat → Nat), RDI u x (tn + 1) p2 bw2 ∧ p + 1 ≤ p2) (fb_M_signToken_129 N G w sv (I nn) t1) := fun G sv nn t1 st hs ht hst => by
    unfold fb_M_signToken_129
    have ry := ti_rng sv
    have rs : RG st := by rcases hst with z | z <;> exact ⟨by omega, by omega⟩
    refine k_token ht (I_of sv) (by omega) ?_
    obtain ⟨t1', t2, t3, t4, t5⟩ := tkn_f (w := w) (s := st) (y := sv.toInt) a2 (by omega) rs ry
    generalize tkn w st sv.toInt = X at *
    have x10 : F X 10 = p := (t1'.F (by decide)).trans a3
    rw [I_F' x10, I_add, wi_e]
    have nn2 : 1 ≤ nn ∧ p + nn ≤ F w 5 ∧ nn ≤ 2 := by rcases hs with z | z <;> omega
    refine ok_lt.mpr (ok_some.mpr ⟨p + nn, fun i => if i ≤ tn then bw i else (p + nn).toNat, ?_, by omega⟩)
    have fx : FR [9, 10] [] [6, 7, 8] [] w (wi X 10 (p + nn)) := FR.wi (FR.mo t1' (by decide) (by decide) (by decide) (by decide)) (by decide)
    have eF : ∀ k, k ∉ [9, 10] → F (wi X 10 (p + nn)) k = F w k := fun k hk => fx.F hk
    refine RDI_tok2 h (FR.mo fx (by decide) (by decide) (by decide) (by decide)) ((wi_ne (by decide)).trans t2) (wi_eq ⟨by omega, by omega⟩) t3 t4 (fun r j hr hj => t5 r j hr hj) ⟨by rw [eF 14 (by decide)]; exact Int.le_refl _, by rw [eF 17 (by decide)]; exact Int.le_refl _, by rw [eF 20 (by decide)]; exact Int.le_refl _⟩ ⟨by omega, by omega, by omega, by omega⟩ ?_ ⟨fun q => by omega, fun q1 q2 => ?_, fun q => by omega, fun q => by omega⟩ (fun q => by omega) (TBI_fr (FR.mo fx (by decide) (by decide) (by decide) (by decide)) a8 (by omega) (Or.inl (by omega)))
    · rcases hst with z | z <;> exact ⟨by omega, by omega, fun q => by omega, fun q => by omega, fun q => by omega, fun q => by omega⟩
    · rcases hs with z | z
      · exfalso
        apply z.2
        rw [I_of sv, q2]; rfl
      · omega
  have l2 : ∀ (d k m : Nat) (sv : Int32) (nn : Int), k + d = 7 → d + 1 ≤ m → ((nn = 1 ∧ sv ≠ 10) ∨ (nn = 2 ∧ p + 1 < F w 5)) → OK (fun x _ => ∃ (p2 : Int) (bw2 : Nat → Nat), RDI u x (tn + 1) p2 bw2 ∧ p + 1 ≤ p2) ((gg_M_signToken N m).2 w c (byI w (p + 1)) sv (I nn) (I ((3 * k : Nat) : Int))) := by
    intro d
    induction d with
    | zero =>
      intro k m sv nn hk hm hs
      obtain ⟨m', rfl⟩ : ∃ m', m = m' + 1 := ⟨m - 1, by omega⟩
      obtain rfl : k = 7 := by omega
      show OK _ (fb_M_signToken_63 N (gg_M_signToken N m') w c (byI w (p + 1)) sv (I nn) (I ((3 * 7 : Nat) : Int)))
      unfold fb_M_signToken_63
      show OK _ (br (decide (sv = -1)) _ _)
      exact ok_br.mpr ⟨fun _ => fin _ sv nn 7 7 hs rfl (Or.inl rfl), fun _ => fin _ sv nn 6 6 hs rfl (Or.inr rfl)⟩
    | succ d ih =>
      intro k m sv nn hk hm hs
      obtain ⟨m', rfl⟩ : ∃ m', m = m' + 1 := ⟨m - 1, by omega⟩
      show OK _ (fb_M_signToken_63 N (gg_M_signToken N m') w c (byI w (p + 1)) sv (I nn) (I ((3 * k : Nat) : Int)))
      unfold fb_M_signToken_63 fb_M_signToken_110
      have e0 : Int32.ofNat (ln 21) = I 21 := rfl
      have ek : (I ((3 * k : Nat) : Int)).toNatClampNeg = 3 * k := by rw [I_tn (by omega) (by omega)]; omega
      have ek1 : I ((3 * k : Nat) : Int) + 1 = I ((3 * k + 1 : Nat) : Int) := by rw [lit1q, I_add]; rfl
      have ek2 : I ((3 * k : Nat) : Int) + 2 = I ((3 * k + 2 : Nat) : Int) := by rw [show (2 : Int32) = I 2 from rfl, I_add]; rfl
      have ek3 : I ((3 * k : Nat) : Int) + 3 = I ((3 * (k + 1) : Nat) : Int) := by rw [show (3 : Int32) = I 3 from rfl, I_add]; congr 1
      have ec1 : (I ((3 * k + 1 : Nat) : Int)).toNatClampNeg = 3 * k + 1 := by rw [I_tn (by omega) (by omega)]; omega
      rw [e0, ek, ek1, ek2, ek3, ec1]
      refine k_le (x := 21) (y := ((3 * k : Nat) : Int)) ⟨by decide, by decide⟩ ⟨by omega, by omega⟩ (fun q => by omega) (fun _ => ?_)
      have nx := ih (k + 1) m' sv nn (by omega) (by omega) hs
      refine k_in (k := 21) (n := 21) rfl (by decide) (by omega) (ok_br.mpr ⟨fun _ => ?_, fun _ => nx⟩)
      refine k_in (k := 21) (n := 21) rfl (by decide) (by omega) (ok_br.mpr ⟨fun q => ?_, fun _ => nx⟩)
      refine k_in (k := 21) (n := 21) rfl (by decide) (by omega) (ok_lt.mpr ?_)
      refine ih (k + 1) m' _ 2 (by omega) (by omega) (Or.inr ⟨rfl, ?_⟩)
      have q' := of_decide_eq_true q
      rcases Int.lt_or_le (p + 1) (F w 5) with z | z
      · exact z
      · exfalso
        unfold byI at q'
        rw [if_pos z] at q'
        refine sg.2 k (by omega) ?_
        show (w.2.2.1 21 (3 * k + 1)).toInt = -1
        rw [q']; rfl
  have l1 : ∀ (d k m : Nat) (sv : Int32), k + d = 18 → d + 10 ≤ m → sv ≠ 10 → OK (fun x _ => ∃ (p2 : Int) (bw2 : Nat → Nat), RDI u x (tn + 1) p2 bw2 ∧ p + 1 ≤ p2) ((gg_M_signToken N m).1 w c (byI w (p + 1)) sv (I 1) (I ((2 * k : Nat) : Int))) := by
    intro d
    induction d with
    | zero =>
      intro k m sv hk hm hs
      obtain ⟨m', rfl⟩ : ∃ m', m = m' + 1 := ⟨m - 1, by omega⟩
      obtain rfl : k = 18 := by omega
      show OK _ (fb_M_signToken_19 N (gg_M_signToken N m') w c (byI w (p + 1)) sv (I 1) (I ((2 * 18 : Nat) : Int)))
      unfold fb_M_signToken_19
      exact l2 7 0 m' sv 1 rfl (by omega) (Or.inl ⟨rfl, hs⟩)
    | succ d ih =>
      intro k m sv hk hm hs
      obtain ⟨m', rfl⟩ : ∃ m', m = m' + 1 := ⟨m - 1, by omega⟩
      show OK _ (fb_M_signToken_19 N (gg_M_signToken N m') w c (byI w (p + 1)) sv (I 1) (I ((2 * k : Nat) : Int)))
      unfold fb_M_signToken_19 fb_M_signToken_53
      have e0 : Int32.ofNat (ln 22) = I 36 := rfl
      have ek : (I ((2 * k : Nat) : Int)).toNatClampNeg = 2 * k := by rw [I_tn (by omega) (by omega)]; omega
      have ek1 : I ((2 * k : Nat) : Int) + 1 = I ((2 * k + 1 : Nat) : Int) := by rw [lit1q, I_add]; rfl
      have ek2 : I ((2 * k : Nat) : Int) + 2 = I ((2 * (k + 1) : Nat) : Int) := by rw [show (2 : Int32) = I 2 from rfl, I_add]; congr 1
      have ec1 : (I ((2 * k + 1 : Nat) : Int)).toNatClampNeg = 2 * k + 1 := by rw [I_tn (by omega) (by omega)]; omega
      rw [e0, ek, ek1, ek2, ec1]
      refine k_le (x := 36) (y := ((2 * k : Nat) : Int)) ⟨by decide, by decide⟩ ⟨by omega, by omega⟩ (fun q => by omega) (fun _ => ?_)
      refine k_in (k := 22) (n := 36) rfl (by decide) (by omega) (ok_br.mpr ⟨fun _ => ?_, fun _ => ih (k + 1) m' sv (by omega) (by omega) hs⟩)
      refine k_in (k := 22) (n := 36) rfl (by decide) (by omega) (ih (k + 1) m' _ (by omega) (by omega) (fun q => sg.1 k (by omega) ?_))
      show (w.2.2.1 22 (2 * k + 1)).toInt = 10
      rw [q]; rfl
  exact l1 18 0 N (-1) rfl (by omega) (by decide)
end
end
section
section
variable {u w x v : MS} {N tn e n : Nat} {p p2 s y : Int} {bw : Nat → Nat} {c r : Int32}
theorem TBI_st (h : TBI w p) (hp : p + 2 + n ≤ p2) (h20 : F w 20 ≤ 2000) (f : FR [9, 10, 11, 20] [] [6, 7, 8, 18, 19] [] w x) (x20 : F x 20 = F w 20 + 1) (xn : A x 19 ((F w 20).toNat + 1) = A w 19 (F w 20).toNat + n) (xo : ∀ i, i ≠ (F w 20).toNat + 1 → A x 19 i = A w 19 i) (hx : A w 19 (F w 20).toNat + n ≤ 4002) : TBI x p2 := by
  have eF : ∀ k, k ∈ [5, 14, 17] → F x k = F w k := fun k hk => f.F (by
    have : ∀ k, k ∈ [5, 14, 17] → k ∉ [9, 10, 11, 20] := by decide
    exact this k hk)
  have eA : ∀ r i, r ∈ [12, 13, 15, 16] → A x r i = A w r i := fun r i hr => f.A (by
    have : ∀ r, r ∈ [12, 13, 15, 16] → r ∉ [6, 7, 8, 18, 19] := by decide
    exact this r hr)
  have e15 : ∀ i, x.2.2.1 15 i = w.2.2.1 15 i := fun i => by rw [f.2.2.1 15 (by decide)]
  obtain ⟨z0, ⟨a1, ⟨a2, a3, a4⟩, a5⟩, ⟨⟨b1, b2, b3⟩, b4, b5⟩, n1, n2, ⟨c1, ⟨c2, c3⟩, seen, c4, c5⟩, c6, c7, c8, c9⟩ := h
  have bt := b3 (F w 20).toNat (by omega)
  refine ⟨⟨by rw [eA 13 _ (by decide)]; exact z0.1, by rw [eA 16 _ (by decide)]; exact z0.2.1, by rw [xo 0 (by omega)]; exact z0.2.2⟩, ⟨?_, ⟨?_, ?_, fun k hk => ?_⟩, ?_⟩, ⟨⟨by omega, by omega, fun k hk => ?_⟩, by omega, ?_⟩, n1, n2, ⟨?_, ⟨c2, fun k hk => ?_⟩, seen, c4, fun c hc => ?_⟩, ?_, ?_, ?_, fun q => ?_⟩
  · rw [eF 14 (by decide)]; exact a1
  · rw [eF 14 (by decide)]; exact a2
  · rw [eF 14 (by decide)]; exact a3
  · rw [eF 14 (by decide)] at hk ⊢; rw [eA 13 _ (by decide), eA 13 _ (by decide)]; exact a4 k hk
  · rw [eF 14 (by decide), eA 13 _ (by decide)]; omega
  · rw [x20] at hk ⊢
    by_cases z : k = (F w 20).toNat + 1
    · rw [z, xn]; exact ⟨by omega, hx, fun q => by omega⟩
    · have bk := b3 k (by omega)
      rw [xo k z]
      refine ⟨bk.1, bk.2.1, fun q => ?_⟩
      by_cases z2 : k = (F w 20).toNat
      · rw [z2, xn]; omega
      · rw [xo (k + 1) (by omega)]; exact bk.2.2 (by omega)
  · rw [x20, show (F w 20 + 1).toNat = (F w 20).toNat + 1 by omega, xn]; omega
  · rw [eF 17 (by decide)]; exact c1
  · rw [eA 16 _ (by decide), eA 16 _ (by decide)]; exact c3 k hk
  · obtain ⟨k, d1, d2, d3⟩ := c5 c hc
    exact ⟨k, d1, by rw [eA 16 _ (by decide), eA 16 _ (by decide)]; exact d2, by rw [eA 16 _ (by decide), e15]; exact d3⟩
  · rw [eA 16 _ (by decide)]; omega
  · rw [eF 14 (by decide), eF 5 (by decide)]; exact c7
  · rw [eF 14 (by decide)]; omega
  · rw [eF 14 (by decide)]; omega
theorem stringToken_ok (hN : 200000 ≤ N) (h5 : 0 ≤ F w 5 ∧ F w 5 ≤ 4000) (h : RDI u w tn p bw) (hp : 0 ≤ p ∧ p < F w 5) : OK (fun x _ => ∃ (p2 : Int) (bw2 : Nat → Nat), RDI u x (tn + 1) p2 bw2 ∧ p + 1 ≤ p2) (fm_M_stringToken N w) := by
  obtain ⟨a1, ⟨a2, a3⟩, ⟨a4, a5⟩, ⟨a6, a6b, a6c⟩, a7, a8⟩ := id h
  have tl := TKI_le a5 a4 tn (Nat.le_refl _)
  obtain ⟨-, -, ⟨⟨b1, b2, b3⟩, b4, b5⟩, -⟩ := id a8
  have bt := b3 (F w 20).toNat (by omega)
  unfold fm_M_stringToken fb_M_stringToken_0
  have e1 : w.1 10 + 1 = I (p + 1) := by rw [I_F' a3, lit1q, I_add]
  rw [e1, wi_e]
  refine ok_lt.mpr ?_
  have fin : ∀ (n : Nat) (v : MS) (v2 : Int32) (G : MS → Int32 → Int32 → Option (MS × Unit)), p + 1 + n ≤ F w 5 → (v2 = 0 ∨ p + 2 + n ≤ F w 5) → FR [10] [] [18] [] w v → F v 10 = p + 1 + n → OK (fun x _ => ∃ (p2 : Int) (bw2 : Nat → Nat), RDI u x (tn + 1) p2 bw2 ∧ p + 1 ≤ p2) (fb_M_stringToken_102 N G v (I n) v2) := fun n v v2 G hn hv fv f10 => by
    unfold fb_M_stringToken_102 fb_M_stringToken_123
    have e2 : v.1 10 + 1 = I (p + 2 + n) := by rw [I_F' f10, lit1q, I_add]; congr 1; omega
    rw [e2, wi_e]
    refine ok_lt.mpr ?_
    have fV : FR [10] [] [18] [] w (wi v 10 (p + 2 + n)) := FR.wi fv (by decide)
    have V10 : F (wi v 10 (p + 2 + n)) 10 = p + 2 + n := wi_eq ⟨by omega, by omega⟩
    generalize wi v 10 (p + 2 + n) = V at *
    have V9 : F V 9 = ((tn : Nat) : Int) := (fV.F (by decide)).trans a2
    have V20 : F V 20 = F w 20 := fV.F (by decide)
    have tok : ∀ (t1 : Int32) (st : Int), vp_nar .byte (t1.toInt8.toInt32) = I st → (st = 7 ∨ (st = 5 ∧ p + 2 + n ≤ F w 5)) → OK (fun x _ => ∃ (p2 : Int) (bw2 : Nat → Nat), RDI u x (tn + 1) p2 bw2 ∧ p + 1 ≤ p2) (bnd (fm_M_token N V t1 (V.1 20)) (fun u1 _ => ck (inb (u1.1 20) (ln 19)) (ck (inb ((u1.1 20) + 1) (ln 19)) (lt (upA u1 19 (upd (u1.2.2.1 19) ((u1.1 20) + 1).toNatClampNeg ((u1.2.2.1 19 (u1.1 20).toNatClampNeg) + I n))) (fun w2 => lt (upI w2 20 ((w2.1 20) + 1)) (fun w3 => some (w3, ()))))))) := fun t1 st ht hst => by
      have rs : RG st := by rcases hst with z | z <;> exact ⟨by omega, by omega⟩
      refine k_token ht (I_F' V20) (by omega) ?_
      obtain ⟨t1', t2, t3, t4, t5⟩ := tkn_f (w := V) (s := st) (y := F w 20) V9 (by omega) rs ⟨by omega, by omega⟩
      generalize tkn V st (F w 20) = X at *
      have X20 : F X 20 = F w 20 := (t1'.F (by decide)).trans V20
      have X19 : ∀ i, A X 19 i = A w 19 i := fun i => by rw [t1'.A (by decide), fV.A (by decide)]
      have e3 : X.1 20 + 1 = I (F w 20 + 1) := by rw [I_F' X20, lit1q, I_add]
      have e4 : (I (F w 20 + 1)).toNatClampNeg = (F w 20).toNat + 1 := by rw [I_tn (by omega) (by omega)]; omega
      have e5 : X.2.2.1 19 (I (F w 20)).toNatClampNeg = I (A w 19 (F w 20).toNat) := by rw [I_tn (by omega) (by omega)]; exact I_A' (X19 _)
      rw [e3, I_F' X20, e4, e5, I_add, wa_e]
      refine k_in (k := 19) (n := 2002) rfl (by decide) (by omega) (k_in (k := 19) (n := 2002) rfl (by decide) (by omega) (ok_lt.mpr ?_))
      have Y20 : F (wa X 19 ((F w 20).toNat + 1) (A w 19 (F w 20).toNat + n)) 20 = F w 20 := by rw [F_wa]; exact X20
      have e6 : (wa X 19 ((F w 20).toNat + 1) (A w 19 (F w 20).toNat + n)).1 20 + 1 = I (F w 20 + 1) := by rw [I_F' Y20, lit1q, I_add]
      rw [e6, wi_e]
      have rv : RG (A w 19 (F w 20).toNat + n) := ⟨by omega, by omega⟩
      have fx : FR [9, 10, 20] [] [6, 7, 8, 18, 19] [] w (wi (wa X 19 ((F w 20).toNat + 1) (A w 19 (F w 20).toNat + n)) 20 (F w 20 + 1)) := FR.wi (FR.wa (FR.tr (FR.mo fV (by decide) (by decide) (by decide) (by decide)) (FR.mo t1' (by decide) (by decide) (by decide) (by decide))) (by decide)) (by decide)
      have x20 : F (wi (wa X 19 ((F w 20).toNat + 1) (A w 19 (F w 20).toNat + n)) 20 (F w 20 + 1)) 20 = F w 20 + 1 := wi_eq ⟨by omega, by omega⟩
      have x9 : F (wi (wa X 19 ((F w 20).toNat + 1) (A w 19 (F w 20).toNat + n)) 20 (F w 20 + 1)) 9 = ((tn + 1 : Nat) : Int) := by rw [wi_ne (by decide), F_wa]; exact t2
      have x10 : F (wi (wa X 19 ((F w 20).toNat + 1) (A w 19 (F w 20).toNat + n)) 20 (F w 20 + 1)) 10 = p + 2 + n := by rw [wi_ne (by decide), F_wa]; exact (t1'.F (by decide)).trans V10
      have x19 : A (wi (wa X 19 ((F w 20).toNat + 1) (A w 19 (F w 20).toNat + n)) 20 (F w 20 + 1)) 19 ((F w 20).toNat + 1) = A w 19 (F w 20).toNat + n := wa_eq (u := X) rv
      have x19o : ∀ i, i ≠ (F w 20).toNat + 1 → A (wi (wa X 19 ((F w 20).toNat + 1) (A w 19 (F w 20).toNat + n)) 20 (F w 20 + 1)) 19 i = A w 19 i := fun i hi => by
        show A (wa X 19 ((F w 20).toNat + 1) (A w 19 (F w 20).toNat + n)) 19 i = _
        rw [wa_ne hi]; exact X19 i
      have xr : ∀ r i, r ≠ 19 → A (wi (wa X 19 ((F w 20).toNat + 1) (A w 19 (F w 20).toNat + n)) 20 (F w 20 + 1)) r i = A X r i := fun r i hr => by
        show A (wa X 19 ((F w 20).toNat + 1) (A w 19 (F w 20).toNat + n)) r i = _
        exact wa_rne hr
      generalize wi (wa X 19 ((F w 20).toNat + 1) (A w 19 (F w 20).toNat + n)) 20 (F w 20 + 1) = Y at *
      have eF : ∀ k, k ∉ [9, 10, 20] → F Y k = F w k := fun k hk => fx.F hk
      have m67 : ∀ r, r ∈ [6, 7] → r ≠ 19 ∧ r ∉ [18] := by decide
      have tb := TBI_st (n := n) (p2 := p + 2 + n) a8 (Int.le_refl _) (by omega) (FR.mo fx (by decide) (by decide) (by decide) (by decide)) x20 x19 x19o (by omega)
      refine ok_lt.mpr (ok_some.mpr ⟨p + 2 + n, fun i => if i ≤ tn then bw i else (if p + 2 + n ≤ F w 5 then (p + 2 + n).toNat else (F w 5).toNat), ?_, by omega⟩)
      have ee : ∃ e : Nat, e = (if p + 2 + n ≤ F w 5 then (p + 2 + n).toNat else (F w 5).toNat) ∧ p + 1 ≤ e ∧ (e : Int) ≤ p + 2 + n ∧ (e : Int) ≤ F w 5 ∧ (p + 2 + n ≤ F w 5 → p + 2 ≤ e) := by
        refine ⟨_, rfl, ?_⟩
        split <;> omega
      obtain ⟨e, e7, e8, e9, e10, e11⟩ := ee
      rw [← e7]
      refine RDI_tok2 h (FR.mo fx (by decide) (by decide) (by decide) (by decide)) x9 x10 ((xr 6 tn (by decide)).trans t3) ((xr 7 tn (by decide)).trans t4) (fun r j hr hj => by rw [xr r j (m67 r hr).1, t5 r j hr hj]; exact fV.A (m67 r hr).2) ⟨by rw [eF 14 (by decide)]; exact Int.le_refl _, by rw [eF 17 (by decide)]; exact Int.le_refl _, by omega⟩ ⟨by omega, e9, e10, by omega⟩ ?_ ?_ (fun q => ?_) tb
      · rcases hst with z | z <;> exact ⟨by omega, by omega, fun q => by omega, fun q => by omega, fun q => by omega, fun q => by omega⟩
      · refine ⟨fun q => ?_, fun q => ?_, fun q => ?_, fun q => ?_⟩
        · rcases hst with z | z <;> omega
        · rcases hst with z | z <;> omega
        · rcases hst with z | z
          · omega
          · have := e11 z.2; omega
        · rcases hst with z | z <;> omega
      · rcases hst with z | z <;> omega
    refine ok_br.mpr ⟨fun _ => tok 7 7 rfl (Or.inl rfl), fun q => tok 5 5 rfl (Or.inr ⟨rfl, ?_⟩)⟩
    rcases hv with z | z
    · exact absurd z (of_decide_eq_false q)
    · exact z
  have bad : ∀ (n m : Nat) (v : MS), 1 ≤ m → p + 1 + n ≤ F w 5 → FR [10] [] [18] [] w v → F v 10 = p + 1 + n → OK (fun x _ => ∃ (p2 : Int) (bw2 : Nat → Nat), RDI u x (tn + 1) p2 bw2 ∧ p + 1 ≤ p2) (gg_M_stringToken N m v (I n) 0) := fun n m v hm hn fv f10 => by
    obtain ⟨m', rfl⟩ : ∃ m', m = m' + 1 := ⟨m - 1, by omega⟩
    show OK _ (fb_M_stringToken_14 N (gg_M_stringToken N m') v (I n) 0)
    unfold fb_M_stringToken_14
    rw [br00]
    exact fin n v 0 _ hn (Or.inl rfl) fv f10
  have loop : ∀ (d n m : Nat) (v : MS), n + d = 40 → d + 3 ≤ m → p + 1 + n ≤ F w 5 → FR [10] [] [18] [] w v → F v 10 = p + 1 + n → OK (fun x _ => ∃ (p2 : Int) (bw2 : Nat → Nat), RDI u x (tn + 1) p2 bw2 ∧ p + 1 ≤ p2) (gg_M_stringToken N m v (I n) 1) := by
    intro d
    induction d with
    | zero =>
      intro n m v hd hm hn fv f10
      obtain ⟨m', rfl⟩ : ∃ m', m = m' + 1 := ⟨m - 1, by omega⟩
      have v5 : F v 5 = F w 5 := fv.F (by decide)
      have bv : ∀ k, byI v k = byI w k := byI_fr (fun i => by rw [fv.2.2.1 4 (by decide)]) v5
      show OK _ (fb_M_stringToken_14 N (gg_M_stringToken N m') v (I n) 1)
      unfold fb_M_stringToken_14 fb_M_stringToken_62 fb_M_stringToken_63 fb_M_stringToken_99
      rw [br10]
      refine k_byteAt (k := p + 1 + n) (I_F' f10) (by omega) (by omega) ?_
      refine ok_br.mpr ⟨fun q => fin n v 1 _ hn (Or.inr ?_) fv f10, fun _ => ?_⟩
      · have q' := of_decide_eq_true q
        rcases Int.lt_or_le (p + 1 + n) (F w 5) with z | z
        · omega
        · exfalso
          unfold byI at q'
          rw [if_pos (by omega)] at q'
          exact absurd q' (by decide)
      · have b := bad n m' v (by omega) hn fv f10
        have e40 : (40 : Int32) = I 40 := rfl
        refine k_byteAt (k := p + 1 + n) (I_F' f10) (by omega) (by omega) ?_
        refine ok_br.mpr ⟨fun _ => b, fun _ => ok_br.mpr ⟨fun _ => b, fun _ => ?_⟩⟩
        rw [e40]
        exact k_le (x := 40) (y := (n : Int)) ⟨by decide, by decide⟩ ⟨by omega, by omega⟩ (fun _ => b) (fun q => by omega)
    | succ d ih =>
      intro n m v hd hm hn fv f10
      obtain ⟨m', rfl⟩ : ∃ m', m = m' + 1 := ⟨m - 1, by omega⟩
      have v5 : F v 5 = F w 5 := fv.F (by decide)
      have v20 : F v 20 = F w 20 := fv.F (by decide)
      show OK _ (fb_M_stringToken_14 N (gg_M_stringToken N m') v (I n) 1)
      unfold fb_M_stringToken_14 fb_M_stringToken_62 fb_M_stringToken_63 fb_M_stringToken_99
      rw [br10]
      refine k_byteAt (k := p + 1 + n) (I_F' f10) (by omega) (by omega) ?_
      refine ok_br.mpr ⟨fun q => fin n v 1 _ hn (Or.inr ?_) fv f10, fun _ => ?_⟩
      · have q' := of_decide_eq_true q
        rcases Int.lt_or_le (p + 1 + n) (F w 5) with z | z
        · omega
        · exfalso
          unfold byI at q'
          rw [if_pos (by omega)] at q'
          exact absurd q' (by decide)
      · have b := bad n m' v (by omega) hn fv f10
        have e40 : (40 : Int32) = I 40 := rfl
        refine k_byteAt (k := p + 1 + n) (I_F' f10) (by omega) (by omega) ?_
        refine ok_br.mpr ⟨fun _ => b, fun q32 => ok_br.mpr ⟨fun _ => b, fun _ => ?_⟩⟩
        have lt5 : p + 1 + n < F w 5 := by
          rcases Int.lt_or_le (p + 1 + n) (F w 5) with z | z
          · exact z
          · exfalso
            have q' := of_decide_eq_false q32
            unfold byI at q'
            rw [if_pos (by omega)] at q'
            exact q' (by decide)
        rw [e40]
        refine k_le (x := 40) (y := (n : Int)) ⟨by decide, by decide⟩ ⟨by omega, by omega⟩ (fun _ => b) (fun _ => ?_)
        show OK _ (ck (inb (v.1 20) (ln 19)) _)
        have e5 : v.2.2.1 19 (v.1 20).toNatClampNeg + I (n : Int) = I (A w 19 (F w 20).toNat + n) := by
          rw [tn_F, v20, I_A, fv.A (by decide), I_add]
        rw [e5]
        refine k_at (k := 19) (n := 2002) rfl (by decide) (by omega) (k_in (k := 18) (n := 4002) rfl (by decide) (by omega) (ok_lt.mpr ?_))
        rw [I_of (vp_nar .byte ((byI v (p + 1 + n)).toInt8.toInt32)), wa_e]
        have e6 : (wa v 18 (I (A w 19 (F w 20).toNat + n)).toNatClampNeg (vp_nar .byte ((byI v (p + 1 + n)).toInt8.toInt32)).toInt).1 10 + 1 = I (p + 1 + ((n + 1 : Nat) : Int)) := by
          rw [I_F (k := 10), F_wa, f10, lit1q, I_add]; congr 1; omega
        have e7 : I (n : Int) + 1 = I ((n + 1 : Nat) : Int) := by rw [lit1q, I_add]; rfl
        rw [e6, e7, wi_e]
        exact ok_lt.mpr (ih (n + 1) m' _ (by omega) (by omega) (by omega) (FR.wi (FR.wa fv (by decide)) (by decide)) (wi_eq ⟨by omega, by omega⟩))
  exact loop 40 0 N (wi w 10 (p + 1)) rfl (by omega) (by omega) (FR.wi FR.rf (by decide)) (by rw [wi_eq ⟨by omega, by omega⟩]; omega)
end
end
section
def TBS (u : MS) : Prop := FAB u ∧ WTB u ∧ SGT u ∧ TBL u
def RTQ (u x : MS) : Prop := FR [9, 10, 11, 14, 17, 20] [] [6, 7, 8, 12, 13, 15, 16, 18, 19] [] u x ∧ TB0 x ∧ ATM x ∧ 22 ≤ F x 14 ∧ ∃ (TN SN : Nat) (bw : Nat → Nat), TKW x TN SN bw ∧ F x 9 = ((TN : Nat) : Int) ∧ STR x SN
section
variable {u w x v : MS} {N tn e n : Nat} {p p2 s y : Int} {bw : Nat → Nat} {c r : Int32}
theorem RDI_skip {l : Int} (h : RDI u w tn p bw) (hp : p + 1 ≤ F w 5 + 1 ∧ 0 ≤ p ∧ F w 5 ≤ 4000) : RDI u (wi (wi w 11 l) 10 (p + 1)) tn (p + 1) bw := by
  obtain ⟨a1, ⟨a2, a3⟩, ⟨a4, a5⟩, ⟨a6, a6b, a6c⟩, a7, a8⟩ := h
  have f : FR [10, 11] [] [] [] w (wi (wi w 11 l) 10 (p + 1)) := FR.wi (FR.wi FR.rf (by decide)) (by decide)
  have x10 : F (wi (wi w 11 l) 10 (p + 1)) 10 = p + 1 := wi_eq ⟨by omega, by omega⟩
  generalize wi (wi w 11 l) 10 (p + 1) = X at *
  have eF : ∀ k, k ∉ [10, 11] → F X k = F w k := fun k hk => f.F hk
  have eA : ∀ r i, A X r i = A w r i := fun r i => f.A (by intro z; cases z)
  have by1 : ∀ k, byI X k = byI w k := byI_fr (fun i => by rw [f.2.2.1 4 (by intro z; cases z)]) (eF 5 (by decide))
  refine ⟨FR.tr a1 (FR.mo f (by decide) (by decide) (by decide) (by decide)), ⟨(eF 9 (by decide)).trans a2, x10⟩, ⟨a4, fun i hi => ?_⟩, by rw [eF 5 (by decide)]; omega, fun q1 q2 => ?_, TBI_fr (FR.mo f (by decide) (by decide) (by decide) (by decide)) a8 (by omega) (Or.inl (by omega))⟩
  · have nx : nu X i = nu w i := by unfold nu; simp only [eA]
    rw [eA, eA, nx, eF 14 (by decide), eF 17 (by decide), eF 20 (by decide)]; exact a5 i hi
  · rw [by1]; rw [eA] at q2; exact a7 q1 q2
theorem RDI_end (h : RDI u w tn p bw) (h5 : 0 ≤ F w 5 ∧ F w 5 ≤ 4000) : OK (fun x _ => RTQ u x) (fb_M_readTokens_216 N (gg_M_readTokens N n) w) := by
  obtain ⟨a1, ⟨a2, a3⟩, ⟨a4, a5⟩, ⟨a6, a6b, a6c⟩, a7, a8⟩ := h
  have tl := TKI_le a5 a4 tn (Nat.le_refl _)
  unfold fb_M_readTokens_216
  refine k_token (s := 0) (y := 0) rfl rfl (by omega) ?_
  obtain ⟨t1, t2, t3, t4, t5⟩ := tkn_f (w := w) (s := 0) (y := 0) a2 (by omega) ⟨by decide, by decide⟩ ⟨by decide, by decide⟩
  generalize tkn w 0 0 = X at *
  have e1 : X.1 9 - 1 = I (tn : Int) := by rw [I_F' t2, lit1q, I_sub]; congr 1; omega
  rw [e1, wi_e]
  refine ok_lt.mpr (ok_some.mpr ?_)
  have f : FR [9] [] [6, 7, 8] [] w (wi X 9 tn) := FR.wi t1 (by decide)
  have y9 : F (wi X 9 tn) 9 = ((tn : Nat) : Int) := wi_eq ⟨by omega, by omega⟩
  have y6 : A (wi X 9 tn) 6 tn = 0 := t3
  have yo : ∀ r j, r ∈ [6, 7] → j ≠ tn → A (wi X 9 tn) r j = A w r j := fun r j hr hj => t5 r j hr hj
  generalize wi X 9 tn = Y at *
  have eF : ∀ k, k ≠ 9 → F Y k = F w k := fun k hk => f.F (by simpa using hk)
  have tb := TBI_fr (p2 := p + 1) (FR.mo f (by decide) (by decide) (by decide) (by decide)) a8 (by omega) (Or.inl (by omega))
  obtain ⟨z0, ⟨b1, ⟨b2, b3, b4⟩, b5⟩, ⟨⟨c1, c2, c3⟩, c4, c5⟩, n1, n2, ⟨d1, ⟨d2, d3⟩, seen, d4, -⟩, d6, d7, d8, -⟩ := tb
  have len27 : G27.countP seen ≤ 27 := List.countP_le_length
  rw [eF 5 (by decide)] at d7
  have nx : ∀ i, i ≤ tn → nu Y i = nu w i := fun i hi => by
    unfold nu
    split
    · rfl
    · rw [yo 6 (i - 1) (by decide) (by omega)]
  refine ⟨FR.tr a1 (FR.mo f (by decide) (by decide) (by decide) (by decide)), z0, ⟨b2, by omega, fun k hk => ?_⟩, b1, tn, (F Y 20).toNat, bw, ⟨⟨by omega, Or.inl y6⟩, fun i hi => ?_, ⟨by omega, by omega, fun k hk => ?_⟩, fun i hi => ?_, by omega⟩, y9, ⟨by omega, fun s hs => ?_⟩⟩
  · have q1 := b4 k (by omega)
    have q2 := b4 (k + 1) (by omega)
    exact ⟨q1.1, q1.2.2 (by omega), q2.2.1⟩
  · obtain ⟨⟨g1, g2, g3, g4, g5, g6⟩, -⟩ := a5 i hi
    rw [yo 6 i (by decide) (by omega), yo 7 i (by decide) (by omega), eF 14 (by decide), eF 17 (by decide), eF 20 (by decide)]
    exact ⟨g1, g2, g3, g4, g5, fun q => by have := g6 q; omega⟩
  · have q1 := d3 k (by omega)
    have mono : ∀ d i, i + d = n1 + n2 → A Y 16 i ≤ A Y 16 (n1 + n2) := by
      intro d
      induction d with
      | zero => intro i hi; obtain rfl : i = n1 + n2 := by omega
                exact Int.le_refl _
      | succ d ih => intro i hi; have := (d3 i (by omega)).2.2 (by omega); have := ih (i + 1) (by omega); omega
    have q2 := mono (n1 + n2 - k) k (by omega)
    exact ⟨q1.1, by omega⟩
  · obtain ⟨-, g7⟩ := a5 i hi
    rw [yo 6 i (by decide) (by omega), yo 7 i (by decide) (by omega), nx i (by omega)]
    exact g7
  · have q1 := c3 s (by omega)
    have q2 := c3 (s + 1) (by omega)
    exact ⟨q1.1, q1.2.2 (by omega), q2.2.1⟩
set_option maxRecDepth 100000 in
theorem read_loop (hN : 200000 ≤ N) (h5 : 0 ≤ F u 5 ∧ F u 5 ≤ 4000) (hb : BYT u) (ts : TBS u) : ∀ d : Nat, (∀ (w : MS) (tn : Nat) (p : Int) (bw : Nat → Nat) (m : Nat), RDI u w tn p bw → 0 ≤ p → F u 5 + 2 - p ≤ d → 4 * d + 1 ≤ m → OK (fun x _ => RTQ u x) ((gg_M_readTokens N m).1 w)) ∧ (∀ (w : MS) (tn : Nat) (p : Int) (bw : Nat → Nat) (m : Nat), RDI u w tn p bw → 0 ≤ p → F u 5 + 2 - p ≤ d → 4 * d + 3 ≤ m → OK (fun x _ => RTQ u x) ((gg_M_readTokens N m).2 w)) := by
  intro d
  induction d with
  | zero =>
    refine ⟨fun w tn p bw m h hp hd hm => ?_, fun w tn p bw m h hp hd hm => ?_⟩
    · have q := h.2.2.2.1.2.2
      have f5 : F w 5 = F u 5 := h.1.F (by decide)
      omega
    · have q := h.2.2.2.1.2.2
      have f5 : F w 5 = F u 5 := h.1.F (by decide)
      omega
  | succ d ih =>
    obtain ⟨ih1, ih2⟩ := ih
    have P1 : ∀ (w : MS) (tn : Nat) (p : Int) (bw : Nat → Nat) (m : Nat), RDI u w tn p bw → 0 ≤ p → F u 5 + 2 - p ≤ ((d + 1 : Nat) : Int) → 4 * (d + 1) + 1 ≤ m → OK (fun x _ => RTQ u x) ((gg_M_readTokens N m).1 w) := fun w tn p bw m h hp hd hm => by
      obtain ⟨m', rfl⟩ : ∃ m', m = m' + 1 := ⟨m - 1, by omega⟩
      obtain ⟨a1, ⟨a2, a3⟩, ⟨a4, a5⟩, ⟨a6, a6b, a6c⟩, a7, a8⟩ := id h
      have tl := TKI_le a5 a4 tn (Nat.le_refl _)
      have f5 : F w 5 = F u 5 := a1.F (by decide)
      have hbw : BYT w := fun i => by rw [a1.A (by decide)]; exact hb i
      have wtw : WTB w := fun k hk => by rw [a1.A (by decide)]; exact ts.2.1 k hk
      have sgw : SGT w := ⟨fun k hk => by rw [a1.A (by decide)]; exact ts.2.2.1.1 k hk, fun k hk => by rw [a1.A (by decide)]; exact ts.2.2.1.2 k hk⟩
      show OK _ (fb_M_readTokens_19 N (gg_M_readTokens N m') w)
      unfold fb_M_readTokens_19
      rw [I_F (k := 5), I_F' a3]
      refine k_le (x := F w 5) (y := p) ⟨by omega, by omega⟩ ⟨by omega, by omega⟩ (fun _ => RDI_end h (by omega)) (fun hlt => ?_)
      have go : OK (fun x _ => RTQ u x) (fb_M_readTokens_53 N (gg_M_readTokens N m') w) := by
        unfold fb_M_readTokens_53 fb_M_readTokens_173 fb_M_readTokens_213 fb_M_readTokens_80 fb_M_readTokens_100
        refine k_byteAt (k := p) (I_F' a3) (by omega) (by omega) ?_
        have more : ∀ (w' : MS), (∃ (p2 : Int) (bw2 : Nat → Nat), RDI u w' (tn + 1) p2 bw2 ∧ p + 1 ≤ p2) → OK (fun x _ => RTQ u x) ((gg_M_readTokens N m').1 w') := fun w' ⟨p2, bw2, q1, q2⟩ => ih1 w' (tn + 1) p2 bw2 m' q1 (by omega) (by omega) (by omega)
        have sk : ∀ t1 : Int32, OK (fun x _ => RTQ u x) (lt (upI w 11 t1) (fun w6 => lt (upI w6 10 ((w6.1 10) + 1)) (fun w7 => (gg_M_readTokens N m').1 w7))) := fun t1 => by
          rw [I_of t1, wi_e]
          refine ok_lt.mpr ?_
          have g10 : F (wi w 11 t1.toInt) 10 = p := (wi_ne (by decide)).trans a3
          have e1 : (wi w 11 t1.toInt).1 10 + 1 = I (p + 1) := by rw [I_F' g10, lit1q, I_add]
          rw [e1, wi_e]
          exact ok_lt.mpr (ih1 _ tn (p + 1) bw m' (RDI_skip h (by omega)) (by omega) (by omega) (by omega))
        have blank : OK (fun x _ => RTQ u x) (br (decide (byI w p = 10)) (lt (upI w 11 ((w.1 11) + 1)) (fun w6 => lt (upI w6 10 ((w6.1 10) + 1)) (fun w7 => (gg_M_readTokens N m').1 w7))) (lt (upI w 11 (w.1 11)) (fun w6 => lt (upI w6 10 ((w6.1 10) + 1)) (fun w7 => (gg_M_readTokens N m').1 w7)))) := ok_br.mpr ⟨fun _ => sk _, fun _ => sk _⟩
        refine ok_br.mpr ⟨fun _ => blank, fun n10 => ok_br.mpr ⟨fun _ => blank, fun _ => ok_br.mpr ⟨fun _ => blank, fun _ => ok_br.mpr ⟨fun _ => ?_, fun _ => ?_⟩⟩⟩⟩
        · obtain ⟨m2, rfl⟩ : ∃ m2, m' = m2 + 1 := ⟨m' - 1, by omega⟩
          show OK _ (fb_M_readTokens_122 N (gg_M_readTokens N m2) w)
          unfold fb_M_readTokens_122
          rw [I_F (k := 5), I_F' a3]
          refine k_le (x := F w 5) (y := p) ⟨by omega, by omega⟩ ⟨by omega, by omega⟩ (fun q => by omega) (fun _ => ?_)
          refine k_byteAt (k := p) rfl (by omega) (by omega) ?_
          rw [n10, br_fq]
          have e1 : w.1 10 + 1 = I (p + 1) := by rw [I_F' a3, lit1q, I_add]
          rw [I_F' a3, lit1q, I_add, wi_e]
          have ww : wi (wi w 11 (F w 11)) 10 (p + 1) = wi w 10 (p + 1) := by
            have : wi w 11 (F w 11) = w := by
              obtain ⟨w1, w2⟩ := w
              show ((fun j => if j = 11 then I (w1 11).toInt else w1 j), w2) = (w1, w2)
              have : (fun j => if j = 11 then I (w1 11).toInt else w1 j) = w1 := by
                funext j
                by_cases z : j = 11
                · rw [if_pos z, z]; exact (I_of _).symm
                · rw [if_neg z]
              rw [this]
            rw [this]
          have sk2 := RDI_skip (l := F w 11) h (by omega)
          rw [ww] at sk2
          exact ok_lt.mpr (ih2 _ tn (p + 1) bw m2 sk2 (by omega) (by omega) (by omega))
        · refine k_small (fun q => ?_) (fun q => ?_)
          · rw [br10]
            exact ok_bnd.mpr (ok_mono (wordToken_ok hN (by omega) hbw wtw h ⟨hp, hlt⟩ rfl (Or.inl q)) (fun w' _ hw => more w' hw))
          · rw [br00]
            refine k_great (fun q2 => ?_) (fun q2 => ?_)
            · rw [br10]
              exact ok_bnd.mpr (ok_mono (wordToken_ok hN (by omega) hbw wtw h ⟨hp, hlt⟩ rfl (Or.inr q2)) (fun w' _ hw => more w' hw))
            · rw [br00]
              refine k_digit (fun q3 => ?_) (fun q3 => ?_)
              · rw [br10]
                exact ok_bnd.mpr (ok_mono (numberToken_ok hN (by omega) h ⟨hp, hlt⟩ q3) (fun w' _ hw => more w' hw))
              · rw [br00]
                refine ok_br.mpr ⟨fun _ => ?_, fun _ => ?_⟩
                · exact ok_bnd.mpr (ok_mono (stringToken_ok hN (by omega) h ⟨hp, hlt⟩) (fun w' _ hw => more w' hw))
                · exact ok_bnd.mpr (ok_mono (signToken_ok hN (by omega) sgw h ⟨hp, hlt⟩) (fun w' _ hw => more w' hw))
      refine k_F (y := 0) rfl ⟨by decide, by decide⟩ (fun _ => go) (fun nz => ?_)
      have e9 : w.1 9 - 1 = I ((tn : Int) - 1) := by rw [I_F' a2, lit1q, I_sub]
      rw [e9]
      refine k_in (k := 6) (n := 4002) rfl (by decide) (by omega) (ok_br.mpr ⟨fun _ => RDI_end h (by omega), fun _ => go⟩)
    refine ⟨P1, fun w tn p bw m h hp hd hm => ?_⟩
    obtain ⟨m', rfl⟩ : ∃ m', m = m' + 1 := ⟨m - 1, by omega⟩
    obtain ⟨a1, ⟨a2, a3⟩, ⟨a4, a5⟩, ⟨a6, a6b, a6c⟩, a7, a8⟩ := id h
    have f5 : F w 5 = F u 5 := a1.F (by decide)
    show OK _ (fb_M_readTokens_122 N (gg_M_readTokens N m') w)
    unfold fb_M_readTokens_122 fb_M_readTokens_213
    rw [I_F (k := 5), I_F' a3]
    have g1 := P1 w tn p bw m' h hp hd (by omega)
    refine k_le (x := F w 5) (y := p) ⟨by omega, by omega⟩ ⟨by omega, by omega⟩ (fun _ => g1) (fun hlt => ?_)
    refine k_byteAt (k := p) rfl (by omega) (by omega) (ok_br.mpr ⟨fun _ => g1, fun _ => ?_⟩)
    rw [I_F' a3, lit1q, I_add, wi_e]
    have ww : wi (wi w 11 (F w 11)) 10 (p + 1) = wi w 10 (p + 1) := by
      have : wi w 11 (F w 11) = w := by
        obtain ⟨w1, w2⟩ := w
        show ((fun j => if j = 11 then I (w1 11).toInt else w1 j), w2) = (w1, w2)
        have : (fun j => if j = 11 then I (w1 11).toInt else w1 j) = w1 := by
          funext j
          by_cases z : j = 11
          · rw [if_pos z, z]; exact (I_of _).symm
          · rw [if_neg z]
        rw [this]
      rw [this]
    have sk2 := RDI_skip (l := F w 11) h (by omega)
    rw [ww] at sk2
    exact ok_lt.mpr (ih2 _ tn (p + 1) bw m' sk2 (by omega) (by omega) (by omega))
end
end
section
section
variable {u : MS} {N : Nat}
theorem readTokens_ok (hN : 200000 ≤ N) (h5 : 0 ≤ F u 5 ∧ F u 5 ≤ 4000) (hb : BYT u) (ts : TBS u) (z0 : TB0 u) : OK (fun x _ => RTQ u x) (fm_M_readTokens N u) := by
  unfold fm_M_readTokens fb_M_readTokens_0
  refine ok_lt.mpr (ok_lt.mpr (ok_lt.mpr ?_))
  show OK _ (bnd (fm_M_allFirstAtoms N (wi (wi (wi u 10 0) 11 1) 9 0)) (fun u18 _ => (gg_M_readTokens N N).1 u18))
  have f1 : FR [9, 10, 11] [] [] [] u (wi (wi (wi u 10 0) 11 1) 9 0) := FR.wi (FR.wi (FR.wi FR.rf (by decide)) (by decide)) (by decide)
  have x9 : F (wi (wi (wi u 10 0) 11 1) 9 0) 9 = 0 := wi_eq ⟨by decide, by decide⟩
  have x10 : F (wi (wi (wi u 10 0) 11 1) 9 0) 10 = 0 := by rw [wi_ne (by decide), wi_ne (by decide)]; exact wi_eq ⟨by decide, by decide⟩
  have xA : ∀ r i, A (wi (wi (wi u 10 0) 11 1) 9 0) r i = A u r i := fun _ _ => rfl
  generalize wi (wi (wi u 10 0) 11 1) 9 0 = v at *
  refine ok_bnd.mpr (ok_mono (firstA_ok hN (fun i hi => by rw [xA]; exact ts.1 i hi) (by rw [xA]; exact z0.1)) (fun w _ hw => ?_))
  obtain ⟨b1, b2, b3, b4, b5, b6⟩ := hw
  have fw : FR [9, 10, 11, 14, 17, 20] [] [6, 7, 8, 12, 13, 15, 16, 18, 19] [] u w := FR.tr (FR.mo f1 (by decide) (by decide) (by decide) (by decide)) (FR.mo b1 (by decide) (by decide) (by decide) (by decide))
  have w5 : F w 5 = F u 5 := fw.F (by decide)
  have w16 : A w 16 0 = 0 := by rw [b1.A (by decide), xA]; exact z0.2.1
  have w19 : A w 19 0 = 0 := by rw [b1.A (by decide), xA]; exact z0.2.2
  have w13 : A w 13 0 = 0 := by rw [b5 0 (by omega)]; rfl
  have e22 : (F w 14).toNat = 22 := by omega
  have e20 : (F w 20).toNat = 0 := by omega
  have o22 := faO_mo 22 (by omega)
  have c22 : faO 22 = 139 := rfl
  refine (read_loop hN h5 hb ts (F u 5 + 2).toNat).1 w 0 0 (fun _ => 0) N ⟨fw, ⟨(b1.F (by decide)).trans x9, (b1.F (by decide)).trans x10⟩, ⟨rfl, fun i hi => by omega⟩, (show ((0 : Nat) : Int) ≤ 0 ∧ ((0 : Nat) : Int) ≤ F w 5 ∧ (0 : Int) ≤ F w 5 + 1 by omega), fun z => by omega, ⟨w13, w16, w19⟩, ⟨by omega, ⟨by omega, ?_⟩, ?_⟩, ⟨⟨by omega, by omega, fun s hs => ?_⟩, by omega, ?_⟩, 0, 0, ⟨b3, ⟨by omega, fun k hk => ?_⟩, fun _ => false, Nat.zero_le _, fun c hc => by cases hc⟩, ?_, by omega, by omega, fun _ => by omega⟩ (by omega) (by omega) (by omega)
  · rw [e22]
    refine ⟨by omega, fun k hk => ?_⟩
    rw [b5 k hk]
    have q1 := o22 k hk
    refine ⟨by omega, by omega, fun q => ?_⟩
    rw [b5 (k + 1) (by omega)]
    have := (fa_f k (by omega)).2.2.1
    omega
  · rw [e22, b5 22 (Nat.le_refl _)]; omega
  · obtain rfl : s = 0 := by omega
    rw [w19]; exact ⟨by omega, by omega, fun q => by omega⟩
  · rw [e20, w19]; omega
  · obtain rfl : k = 0 := by omega
    rw [w16]; exact ⟨by omega, by omega, fun q => by omega⟩
  · show A w 16 0 ≤ 0
    omega
end
end
section
section
variable {w : MS} {UN FN : Nat}
def FvO (w : MS) (UN FN : Nat) (a b : Int64) : Prop := (∃ f : Nat, f < FN ∧ a = -1 - (I f).toInt64 ∧ va b = 0) ∨ ∃ x : Nat, x < UN ∧ a = (I x).toInt64 ∧ va b = A w 54 x
theorem i64_n {x : Nat} (h : x < 100000) : ((I x).toInt64).toInt = x := by
  rw [Int32.toInt_toInt64, I_ti (by omega) (by omega)]
theorem i64_m {x : Nat} (h : x < 100000) : ((-1 : Int64) - (I x).toInt64).toInt = -1 - x := by
  rw [Int64.toInt_sub, i64_n h, show ((-1 : Int64)).toInt = -1 from rfl]
  exact Int.bmod_eq_of_le (by omega) (by omega)
theorem FvO_H (h1 : UN ≤ 1400) (h2 : FN ≤ 1000) : FVH (FvO w UN FN) := by
  refine ⟨fun a b h => ?_, fun a b c hb hc => ?_⟩
  · rcases h with ⟨f, q1, q2, -⟩ | ⟨x, q1, q2, -⟩
    · rw [q2, i64_m (by omega)]; omega
    · rw [q2, i64_n (by omega)]; omega
  · rcases hb with ⟨f, q1, q2, q3⟩ | ⟨x, q1, q2, q3⟩
    · rcases hc with ⟨f', r1, r2, r3⟩ | ⟨x', r1, r2, r3⟩
      · rw [q3, r3]
      · have := congrArg Int64.toInt (q2.symm.trans r2)
        rw [i64_m (by omega), i64_n (by omega)] at this
        omega
    · rcases hc with ⟨f', r1, r2, r3⟩ | ⟨x', r1, r2, r3⟩
      · have := congrArg Int64.toInt (q2.symm.trans r2)
        rw [i64_m (by omega), i64_n (by omega)] at this
        omega
      · have := congrArg Int64.toInt (q2.symm.trans r2)
        rw [i64_n (by omega), i64_n (by omega)] at this
        obtain rfl : x = x' := by omega
        rw [q3, r3]
theorem FvO_W : FVW (FvO w UN FN) w UN FN := ⟨fun f hf b hb => Or.inl ⟨f, hf, rfl, hb⟩, fun x hx b hb => Or.inr ⟨x, hx, rfl, hb⟩, fun a b h => h⟩
end
end
section
def RdI : List Nat := [3, 5, 9, 10, 11, 14, 17, 20, 86, 87, 52, 32, 39, 46, 56, 58, 65, 66, 67, 68, 69, 70, 71, 72, 73, 75, 77, 83, 84]
def RdA : List Nat := [6, 7, 8, 12, 13, 15, 16, 18, 19, 47, 48, 49, 50, 51, 23, 24, 25, 26, 27, 28, 29, 30, 31, 33, 35, 36, 37, 38, 40, 41, 42, 43, 44, 45, 53, 54, 55, 57, 59, 60, 61, 62, 63, 64, 74, 76, 78, 79, 80, 81, 82]
def RQ (u x : MS) : Prop := FR RdI [] RdA [34] u x ∧ F x 5 = 0 ∧ F x 87 = 0 ∧ TB0 x ∧ K44 x ∧ K49 x ∧ (F x 86 ≠ 0 → ∃ (Fv : Int64 → Int64 → Prop) (AN : Nat) (T : TY) (C : CY) (ND CN PN SN UN FN : Nat), PER Fv AN T C id id ND CN PN SN UN FN x)
def rdS (u : MS) : MS := wa (wa (wi (wi (wi (wi (wi (wi (wi (wi (wi (wi u 3 0) 86 0) 87 0) 67 0) 72 0) 71 0) 83 0) 75 0) 77 0) 65 0) 60 0 0) 63 0 0
section
variable {u x : MS} {N : Nat}
theorem rdS_FR : FR [3, 86, 87, 67, 72, 71, 83, 75, 77, 65] [] [60, 63] [] u (rdS u) := by
  unfold rdS
  exact FR.wa (FR.wa (FR.wi (FR.wi (FR.wi (FR.wi (FR.wi (FR.wi (FR.wi (FR.wi (FR.wi (FR.wi FR.rf (by decide)) (by decide)) (by decide)) (by decide)) (by decide)) (by decide)) (by decide)) (by decide)) (by decide)) (by decide)) (by decide)) (by decide)
theorem rdS_0 {k : Nat} (h : k ∈ [3, 86, 87, 67, 72, 71, 83, 75, 77, 65]) : F (rdS u) k = 0 := by
  have m : ∀ k, k ∈ [3, 86, 87, 67, 72, 71, 83, 75, 77, 65] → k = 3 ∨ k = 86 ∨ k = 87 ∨ k = 67 ∨ k = 72 ∨ k = 71 ∨ k = 83 ∨ k = 75 ∨ k = 77 ∨ k = 65 := by decide
  rcases m k h with z | z | z | z | z | z | z | z | z | z <;> (rw [z]; rfl)
set_option maxRecDepth 100000 in
theorem read_ok (hN : 200000 ≤ N) (h5 : 0 ≤ F u 5 ∧ F u 5 ≤ 4000) (hb : BYT u) (ts : TBS u) (z0 : TB0 u) (k44 : K44 u) (k49 : K49 u) : OK (fun x _ => RQ u x) (fm_M_read N u) := by
  unfold fm_M_read fb_M_read_0 fb_M_read_162
  refine ok_lt.mpr (ok_lt.mpr (ok_lt.mpr (ok_lt.mpr (ok_lt.mpr (ok_lt.mpr (ok_lt.mpr (ok_lt.mpr (ok_lt.mpr (ok_lt.mpr (ok_ck.mpr ⟨rfl, ok_lt.mpr (ok_ck.mpr ⟨rfl, ok_lt.mpr ?_⟩)⟩))))))))))
  show OK _ (bnd (fm_M_readTokens N (rdS u)) _)
  have f0 := rdS_FR (u := u)
  have s0 : ∀ k, k ∈ [3, 86, 87, 67, 72, 71, 83, 75, 77, 65] → F (rdS u) k = 0 := fun k hk => rdS_0 hk
  generalize rdS u = v at *
  have v5 : F v 5 = F u 5 := f0.F (by decide)
  have ts1 : TBS v := ⟨fun i hi => by rw [f0.A (by decide)]; exact ts.1 i hi, fun k hk => by rw [f0.A (by decide)]; exact ts.2.1 k hk, ⟨fun k hk => by rw [f0.A (by decide)]; exact ts.2.2.1.1 k hk, fun k hk => by rw [f0.A (by decide)]; exact ts.2.2.1.2 k hk⟩, fun k hk => by rw [f0.A (k := 2) (by decide), f0.A (k := 2) (by decide)]; exact ts.2.2.2 k hk⟩
  have z1 : TB0 v := ⟨by rw [f0.A (by decide)]; exact z0.1, by rw [f0.A (by decide)]; exact z0.2.1, by rw [f0.A (by decide)]; exact z0.2.2⟩
  refine ok_bnd.mpr (ok_mono (readTokens_ok hN (by omega) (fun i => by rw [f0.A (by decide)]; exact hb i) ts1 z1) (fun w _ hw => ?_))
  obtain ⟨f1, zw, aw, w22, TN, SN, bw, tk, w9, stw⟩ := hw
  have hT := tk.1.1
  have wF : ∀ k, k ∈ [3, 86, 87, 67, 72, 71, 83, 75, 77, 65] → F w k = 0 := fun k hk => by
    have : ∀ k, k ∈ [3, 86, 87, 67, 72, 71, 83, 75, 77, 65] → k ∉ [9, 10, 11, 14, 17, 20] := by decide
    rw [f1.F (this k hk)]; exact s0 k hk
  have tbw : TBL w := fun k hk => by rw [f1.A (k := 2) (by decide), f1.A (k := 2) (by decide)]; exact ts1.2.2.2 k hk
  have k44w : K44 w := fun i => by rw [f1.A (by decide), f0.A (by decide)]; exact k44 i
  have k49w : K49 w := fun i => by rw [f1.A (by decide), f0.A (by decide)]; exact k49 i
  have fuw : FR RdI [] RdA [34] u w := FR.tr (FR.mo f0 (by decide) (by decide) (by decide) (by decide)) (FR.mo f1 (by decide) (by decide) (by decide) (by decide))
  refine ok_bnd.mpr (ok_mono (program_ok (bw := bw) (by omega) hT (fun _ => tk) tbw aw ⟨wF 75 (by decide), wF 77 (by decide), wF 83 (by decide)⟩ (by rw [wF 71 (by decide)]; omega) k44w k49w) (fun y _ hy => ?_))
  refine ok_lt.mpr ?_
  have z5 : upI y 5 0 = wi y 5 0 := rfl
  rw [z5]
  have f5 : FR [5] [] [] [] y (wi y 5 0) := FR.wi FR.rf (by decide)
  have y5 : F (wi y 5 0) 5 = 0 := wi_eq ⟨by decide, by decide⟩
  generalize wi y 5 0 = X at *
  have XA : ∀ r i, A X r i = A y r i := fun r i => f5.A (by intro z; cases z)
  have XF : ∀ k, k ≠ 5 → F X k = F y k := fun k hk => f5.F (by simpa using hk)
  have done : ∀ Y : MS, PRO w y → FR [71, 72] [] [27] [] X Y → K44 y → K49 y → RQ u Y := fun Y pr fY q44 q49 => by
    refine ⟨FR.tr (FR.tr (FR.tr fuw (FR.mo pr (by decide) (by decide) (by decide) (by decide))) (FR.mo f5 (by decide) (by decide) (by decide) (by decide))) (FR.mo fY (by decide) (by decide) (by decide) (by decide)), (fY.F (by decide)).trans y5, ?_, ⟨?_, ?_, ?_⟩, fun i => ?_, fun i => ?_, fun z => absurd ?_ z⟩
    · rw [fY.F (by decide), XF 87 (by decide), pr.F (by decide)]; exact wF 87 (by decide)
    · rw [fY.A (by decide), XA, pr.A (by decide)]; exact zw.1
    · rw [fY.A (by decide), XA, pr.A (by decide)]; exact zw.2.1
    · rw [fY.A (by decide), XA, pr.A (by decide)]; exact zw.2.2
    · rw [fY.A (by decide), XA]; exact q44 i
    · rw [fY.A (by decide), XA]; exact q49 i
    · rw [fY.F (by decide), XF 86 (by decide), pr.F (by decide)]; exact wF 86 (by decide)
  rcases hy with ⟨G, hG0, ⟨g1, g2, ⟨p, n, q, c, f, h, g3, g4, g5⟩, g6, g7⟩, -⟩ | hy
  · obtain ⟨⟨e1, e2, e3, e4, e5, e6, e7, -⟩, ⟨e12, e13⟩, q44, ngd, q49, nm⟩ := id g3
    refine k_F (y := 0) rfl ⟨by decide, by decide⟩ (fun _ => ?_) (fun z => absurd ((XF 67 (by decide)).trans g2) z)
    have hG : G ≤ 1000 := by omega
    have tbX : TBL X := fun k hk => by rw [XA, XA, g1.A (k := 2) (by decide), g1.A (k := 2) (by decide)]; exact tbw k hk
    have aty : ATM y := ATM_pro aw g1
    have atX : ATM X := by
      obtain ⟨b1, b2, b3⟩ := aty
      have e14 := XF 14 (by decide)
      exact ⟨by rw [e14]; exact b1, by rw [e14]; exact b2, fun k hk => by rw [e14] at hk; rw [XA, XA]; exact b3 k hk⟩
    have ngX : NGD X X := fun i hi => by
      rw [XF 32 (by decide)] at hi
      rw [XA, XA, XA, XF 14 (by decide)]; exact ngd i hi
    have nb : 0 ≤ n ∧ n ≤ 12000 ∧ 0 ≤ c ∧ c ≤ 1400 ∧ 0 ≤ q ∧ q ≤ 2900 ∧ 0 ≤ f ∧ f ≤ c ∧ 0 ≤ h ∧ h ≤ 24000 := by unfold NM at nm; omega
    refine ok_bnd.mpr (ok_mono (calls_ok (G := G) (by omega) tbX atX ((XF 52 (by decide)).trans g6) hG ngX (by rw [XF 32 (by decide), e3]; omega) (by rw [XF 71 (by decide)]; exact e12)) (fun Y _ hY => ?_))
    have fY := hY.1
    have dY := done Y g1 fY q44 q49
    refine k_F (y := 0) rfl ⟨by decide, by decide⟩ (fun h72 => ?_) (fun _ => ?_)
    · refine k_F (y := 0) rfl ⟨by decide, by decide⟩ (fun h66 => ?_) (fun _ => ok_some.mpr dY)
      refine ok_br.mpr ⟨fun _ => ok_some.mpr dY, fun _ => ok_br.mpr ⟨fun _ => ok_some.mpr dY, fun _ => ?_⟩⟩
      have Y9 : F Y 9 = ((TN : Nat) : Int) := by rw [fY.F (by decide), XF 9 (by decide), g1.F (by decide)]; exact w9
      rw [I_F' Y9, show (1500 : Int32) = I 1500 from rfl]
      refine k_le (x := (TN : Int)) (y := 1500) ⟨by omega, by omega⟩ ⟨by decide, by decide⟩ (fun t15 => ?_) (fun _ => ok_some.mpr dY)
      rw [lit1q, wi_e]
      refine ok_lt.mpr (ok_some.mpr ?_)
      have f86 : FR [86] [] [] [] Y (wi Y 86 1) := FR.wi FR.rf (by decide)
      obtain ⟨r1, r2, r3, r4, r5, r6, -⟩ := dY
      refine ⟨FR.wi r1 (by decide), (f86.F (by decide)).trans r2, (f86.F (by decide)).trans r3, r4, r5, r6, fun _ => ?_⟩
      have X72 : F X 72 = 0 := (hY.2.2.2 h72).1
      have X66 : F X 66 = 0 := by rw [← fY.F (k := 66) (by decide)]; exact h66
      obtain ⟨Bd, d1, d2⟩ := g7 (by rw [← XF 72 (by decide)]; exact X72) (by rw [← XF 66 (by decide)]; exact X66) (by omega)
      have ey : EQY y X := EQY_fr f5 (by decide) (by decide)
      have my : mks X = mks y := mks_c (fun k hk => XF k (by
        have : ∀ k, k ∈ [32, 39, 46, 56, 58] → k ≠ 5 := by decide
        exact this k hk))
      have dX := FNT_eqy (w := X) (y := 0) (i0 := 0) d1 ey (fun i => by rw [d2]; exact Nat.le_refl _) (Or.inl rfl) (fun f _ => ⟨XA 48 f, XA 50 f⟩)
      have stY : STR Y SN := ⟨stw.1, fun s hs => by
        rw [fY.A (k := 19) (by decide), fY.A (k := 19) (by decide), XA, XA, g1.A (k := 19) (by decide), g1.A (k := 19) (by decide)]; exact stw.2 s hs⟩
      obtain ⟨T, C, prg⟩ := prg_of (v := X) (w := Y) dX (by rw [d2, my]) ⟨hG0, hG⟩ (by rw [XF 32 (by decide), e3]; omega) (by rw [XF 46 (by decide), e5]; omega) (by rw [XF 39 (by decide), e4]; omega) (by rw [XF 56 (by decide), e6]; omega) (by rw [XF 58 (by decide), e7]; omega) hY ((XF 52 (by decide)).trans g6) h72 stY
      have atY : ATM Y := by
        obtain ⟨b1, b2, b3⟩ := atX
        have e14 : F Y 14 = F X 14 := fY.F (by decide)
        exact ⟨by rw [e14]; exact b1, by rw [e14]; exact b2, fun k hk => by rw [e14] at hk; rw [fY.A (k := 13) (by decide), fY.A (k := 13) (by decide)]; exact b3 k hk⟩
      have Y14 : F Y 14 = F w 14 := by rw [fY.F (by decide), XF 14 (by decide), g1.F (by decide)]
      have per : PER (FvO Y (F X 56).toNat G) (F w 14).toNat T C id id (F X 32).toNat (F X 46).toNat (F X 39).toNat SN (F X 56).toNat G Y := ⟨prg, FvO_H (by rw [XF 56 (by decide), e6]; omega) hG, atY, by omega, by omega, FvO_W⟩
      exact ⟨_, _, _, _, _, _, _, _, _, _, PER_fr per f86 (by decide) (by intro k _ z; cases z)⟩
    · have y71 := hY.2.2.1
      exact k_at (k := 8) (n := 4002) rfl (by decide) (by omega) (ok_some.mpr dY)
  · obtain ⟨g1, g2, g3, g4, g5⟩ := hy
    refine k_F (y := 0) rfl ⟨by decide, by decide⟩ (fun z => absurd ((XF 67 (by decide)).symm.trans z) g2) (fun _ => ok_some.mpr (done X g1 FR.rf g4 g5))
end
end
section
section
variable {w : MS} {N : Nat}
theorem nar_rng {x : Int32} : -128 ≤ (vp_nar .byte x).toInt ∧ (vp_nar .byte x).toInt ≤ 127 := by
  show -128 ≤ (x.toInt8.toInt32).toInt ∧ (x.toInt8.toInt32).toInt ≤ 127
  rw [Int8.toInt_toInt32]
  exact ⟨Int8.le_toInt _, Int.le_of_lt_add_one (Int8.toInt_lt _)⟩
theorem feed_by {a b c d e : Int32} (h : 0 ≤ F w 5 ∧ F w 5 ≤ 4000) (hb : BYT w) (hN : 100 ≤ N) : OK (fun v _ => FR [3, 5] [] [4] [] w v ∧ (0 ≤ F v 5 ∧ F v 5 ≤ 4000) ∧ BYT v) (fm_M_feed N w a b c d e) := by
  unfold fm_M_feed fb_M_feed_0
  refine ok_lt.mpr ?_
  rw [three]
  have e5 : F (wi w 3 0) 5 = F w 5 := FR.F f3 (by decide)
  have lp : ∀ (m k : Nat) (v : MS), k ≤ 20 → 20 - k < m → FR [3, 5] [] [4] [] w v → 0 ≤ F v 5 → F v 5 + (20 - k) ≤ 4000 → BYT v → OK (fun v _ => FR [3, 5] [] [4] [] w v ∧ (0 ≤ F v 5 ∧ F v 5 ≤ 4000) ∧ BYT v) (gg_M_feed N m v a b c d e (I k)) := by
    intro m
    induction m with
    | zero => intro k v _ h; omega
    | succ m ih =>
      intro k v hk hm fv h0 h4 hv
      show OK _ (fb_M_feed_23 N (gg_M_feed N m) v a b c d e (I k))
      unfold fb_M_feed_23 fb_M_feed_76
      rw [show (20 : Int32) = I 20 from rfl, decI (by omega) (by omega) (by omega) (by omega)]
      refine ok_br.mpr ⟨fun _ => ok_some.mpr ⟨fv, ⟨h0, by omega⟩, hv⟩, fun zz => ?_⟩
      have zz' := of_decide_eq_false zz
      obtain ⟨t, ht⟩ : ∃ t : Nat, F v 5 = t := ⟨(F v 5).toNat, by omega⟩
      have stp : ∀ x : Int32, OK (fun v _ => FR [3, 5] [] [4] [] w v ∧ (0 ≤ F v 5 ∧ F v 5 ≤ 4000) ∧ BYT v) (ck (inb (v.1 5) (ln 4)) (lt (upA v 4 (upd (v.2.2.1 4) (v.1 5).toNatClampNeg (vp_nar .byte x))) (fun w1 => lt (upI w1 5 ((w1.1 5) + 1)) (fun w2 => gg_M_feed N m w2 a b c d e ((I k) + 1))))) := fun x => by
        rw [I_F' ht]
        refine ok_ck.mpr ⟨inb_at (k := 4) (n := 4000) rfl (by omega) (by omega) (by decide), ok_lt.mpr (ok_lt.mpr ?_)⟩
        rw [I_tn (x := (t : Int)) (by omega) (by omega), Int.toNat_natCast, I_of (vp_nar .byte x), wa_e, show (wa v 4 t (vp_nar .byte x).toInt).1 5 = I t from I_F' ht, lit1q, I_add, I_add, wi_e, show (k : Int) + 1 = ((k + 1 : Nat) : Int) from by omega]
        exact ih (k + 1) _ (by omega) (by omega) (FR.wi (FR.wa fv (by decide)) (by decide)) (by rw [F_wi (by omega) (by omega), if_pos rfl]; omega) (by rw [F_wi (by omega) (by omega), if_pos rfl]; omega) (fun i => by
          show -128 ≤ A (wa v 4 t (vp_nar .byte x).toInt) 4 i ∧ A (wa v 4 t (vp_nar .byte x).toInt) 4 i ≤ 127
          by_cases z : i = t
          · rw [z, wa_eq (ti_rng _)]; exact nar_rng
          · rw [wa_ne z]; exact hv i)
      exact ok_br.mpr ⟨fun _ => ok_br.mpr ⟨fun _ => ok_br.mpr ⟨fun _ => ok_br.mpr ⟨fun _ => stp _, fun _ => stp _⟩, fun _ => stp _⟩, fun _ => stp _⟩, fun _ => stp _⟩
  rw [I_F (k := 5), e5, show (20 : Int32) = I 20 from rfl, I_add, show (4000 : Int32) = I 4000 from rfl, decI (by omega) (by omega) (by omega) (by omega)]
  refine ok_br.mpr ⟨fun z => ?_, fun _ => ok_some.mpr ⟨FR.mo f3 (by decide) (by decide) (by decide) (by decide), ⟨by rw [e5]; exact h.1, by rw [e5]; exact h.2⟩, hb⟩⟩
  have := of_decide_eq_true z
  rw [show (0 : Int32) = I ((0 : Nat) : Int) from rfl]
  exact lp N 0 _ (by omega) (by omega) (FR.mo f3 (by decide) (by decide) (by decide) (by decide)) (by rw [e5]; exact h.1) (by rw [e5]; omega) hb
end
end
section
def INS (w : MS) : Prop := BYT w ∧ TBS w ∧ TB0 w ∧ K44 w ∧ K49 w
def INV (w : MS) : Prop := (0 ≤ F w 5 ∧ F w 5 ≤ 4000) ∧ INS w ∧ (0 ≤ F w 130 ∧ F w 130 ≤ 100) ∧ KEP w ∧ ∃ (Fv : Int64 → Int64 → Prop) (AN : Nat) (T : TY) (C : CY) (ND CN PN SN UN FN : Nat), (F w 86 ≠ 0 → PER Fv AN T C id id ND CN PN SN UN FN w) ∧ (F w 87 ≠ 0 → F w 86 ≠ 0 ∧ ∃ PR, REST Fv AN T ND UN FN PR w)
section
variable {u v w : MS} {N : Nat} {Fv : Int64 → Int64 → Prop} {AN ND UN FN PR : Nat} {T : TY}
theorem INS_b {is ls as js : List Nat} (h : INS w) (f : FR is ls as js w v) (ha : ∀ k, k ∈ [1, 0, 22, 21, 2, 13, 16, 19, 44, 49] → k ∉ as) (hb : BYT v) : INS v := by
  obtain ⟨-, ⟨h1, h2, ⟨h3, h4⟩, h5⟩, ⟨h6, h7, h8⟩, h9, h10⟩ := h
  have e : ∀ r i, r ∈ [1, 0, 22, 21, 2, 13, 16, 19, 44, 49] → A v r i = A w r i := fun r i hr => f.A (ha r hr)
  exact ⟨hb, ⟨fun i hi => by rw [e 1 i (by decide)]; exact h1 i hi, fun k hk => by rw [e 0 _ (by decide)]; exact h2 k hk, ⟨fun k hk => by rw [e 22 _ (by decide)]; exact h3 k hk, fun k hk => by rw [e 21 _ (by decide)]; exact h4 k hk⟩, fun k hk => by rw [e 2 _ (by decide), e 2 _ (by decide)]; exact h5 k hk⟩, ⟨by rw [e 13 _ (by decide)]; exact h6, by rw [e 16 _ (by decide)]; exact h7, by rw [e 19 _ (by decide)]; exact h8⟩, fun i => by rw [e 44 i (by decide)]; exact h9 i, fun i => by rw [e 49 i (by decide)]; exact h10 i⟩
theorem INS_fr {is ls as js : List Nat} (h : INS w) (f : FR is ls as js w v) (ha : ∀ k, k ∈ [1, 0, 22, 21, 2, 13, 16, 19, 44, 49] → k ∉ as) (h4 : 4 ∉ as) : INS v := INS_b h f ha (fun i => by rw [f.A h4]; exact h.1 i)
theorem KEP_f2 {is ls as js : List Nat} (h : KEP w) (f : FR is ls as js w v) (hi : 140 ∉ is) (ha : ∀ k, k ∈ [89, 127, 97, 132] → k ∉ as) : KEP v := by
  obtain ⟨h1, h2, h3, h4, h5⟩ := h
  exact ⟨by rw [f.F hi]; exact h1, by rw [f.A (ha 89 (by decide))]; exact h2, fun i => by rw [f.A (ha 127 (by decide))]; exact h3 i, fun i => by rw [f.A (ha 97 (by decide))]; exact h4 i, fun i => by rw [f.A (ha 132 (by decide))]; exact h5 i⟩
theorem REST_fr {is ls as js : List Nat} (r : REST Fv AN T ND UN FN PR w) (hT : ∀ q, q < ND → tK T q ≤ 26) (f : FR is ls as js w v) (hi : ∀ k, k ∈ [118, 140, 149, 150, 125, 128] → k ∉ is) (ha : ∀ k, k ∈ [89, 92, 94, 108, 109, 145, 146, 147, 116, 117, 123, 124, 127, 132, 95, 96, 97, 98, 99, 100, 101, 102, 103, 104, 105, 106, 110, 170, 19, 23, 24, 25, 26, 27, 30, 31, 33, 35, 36, 37, 38, 40, 41, 42, 43, 45, 48, 50, 53, 54, 55, 57] → k ∉ as) (hj : ∀ k, k ∈ [88, 91, 93, 107, 148, 111] → k ∉ js) : REST Fv AN T ND UN FN PR v := by
  obtain ⟨d, w1, h1, h2⟩ := r
  have m1 : ∀ k, k ∈ [92, 94, 95, 96, 97, 98, 99, 100, 101, 102, 103, 104, 105, 106, 110, 170] → k ∈ [89, 92, 94, 108, 109, 145, 146, 147, 116, 117, 123, 124, 127, 132, 95, 96, 97, 98, 99, 100, 101, 102, 103, 104, 105, 106, 110, 170, 19, 23, 24, 25, 26, 27, 30, 31, 33, 35, 36, 37, 38, 40, 41, 42, 43, 45, 48, 50, 53, 54, 55, 57] := by decide
  have m2 : ∀ k, k ∈ 116 :: 117 :: 123 :: 124 :: 127 :: 132 :: KP → k ∈ [89, 92, 94, 108, 109, 145, 146, 147, 116, 117, 123, 124, 127, 132, 95, 96, 97, 98, 99, 100, 101, 102, 103, 104, 105, 106, 110, 170, 19, 23, 24, 25, 26, 27, 30, 31, 33, 35, 36, 37, 38, 40, 41, 42, 43, 45, 48, 50, 53, 54, 55, 57] := by decide
  have m3 : ∀ k, k ∈ [125, 128] → k ∈ [118, 140, 149, 150, 125, 128] := by decide
  exact ⟨DW_fr d f (hi _ (by decide)) (hi _ (by decide)) (hi _ (by decide)) (hi _ (by decide)) (ha _ (by decide)) (ha _ (by decide)) (ha _ (by decide)) (ha _ (by decide)) (ha _ (by decide)) (ha _ (by decide)) (ha _ (by decide)) (ha _ (by decide)) (hj _ (by decide)) (hj _ (by decide)) (hj _ (by decide)) (hj _ (by decide)) (hj _ (by decide)), WLD_fr w1 hT (OTF_fr f (fun k hk => ha k (m1 k hk)) (hj _ (by decide))) f (fun k hk => hi k (m3 k hk)) (fun k hk => ha k (m2 k hk)) (fun z _ => Or.inl (f.A (ha _ (by decide)))), by rw [f.F (hi _ (by decide))]; exact h1, by rw [f.F (hi _ (by decide))]; exact h2⟩
theorem INV_q {is as js : List Nat} (h : INV w) (f : FR is [] as js w v) (hi : ∀ k, k ∈ is → k ∈ [3, 5, 120, 130, 144]) (ha : ∀ k, k ∈ as → k ∈ [4, 129, 143]) (hj : ∀ k, k ∈ js → k ∈ [141]) (h5 : 0 ≤ F v 5 ∧ F v 5 ≤ 4000) (h130 : 0 ≤ F v 130 ∧ F v 130 ≤ 100) (hb : BYT v) : INV v := by
  obtain ⟨-, a2, -, a4, Fv, AN, T, C, ND, CN, PN, SN, UN, FN, a5, a6⟩ := h
  have n1 : ∀ k, k ∈ [140, 14, 52, 56, 86, 87, 118, 149, 150, 125, 128] → k ∉ is := fun k hk z => by
    have : ∀ k, k ∈ [140, 14, 52, 56, 86, 87, 118, 149, 150, 125, 128] → k ∉ [3, 5, 120, 130, 144] := by decide
    exact this k hk (hi k z)
  have n2 : ∀ k, k ∉ [4, 129, 143] → k ∉ as := fun k hk z => hk (ha k z)
  have n3 : ∀ k, k ∉ [141] → k ∉ js := fun k hk z => hk (hj k z)
  have d1 : ∀ k, k ∈ [1, 0, 22, 21, 2, 13, 16, 19, 44, 49] → k ∉ [4, 129, 143] := by decide
  have d2 : ∀ k, k ∈ [89, 127, 97, 132] → k ∉ [4, 129, 143] := by decide
  have d3 : ∀ k, k ∈ 12 :: 13 :: KP → k ∉ [4, 129, 143] := by decide
  have d4 : ∀ k, k ∈ [14, 52, 56] → k ∈ [140, 14, 52, 56, 86, 87, 118, 149, 150, 125, 128] := by decide
  have d5 : ∀ k, k ∈ [118, 140, 149, 150, 125, 128] → k ∈ [140, 14, 52, 56, 86, 87, 118, 149, 150, 125, 128] := by decide
  have d6 : ∀ k, k ∈ [89, 92, 94, 108, 109, 145, 146, 147, 116, 117, 123, 124, 127, 132, 95, 96, 97, 98, 99, 100, 101, 102, 103, 104, 105, 106, 110, 170, 19, 23, 24, 25, 26, 27, 30, 31, 33, 35, 36, 37, 38, 40, 41, 42, 43, 45, 48, 50, 53, 54, 55, 57] → k ∉ [4, 129, 143] := by decide
  have d7 : ∀ k, k ∈ [88, 91, 93, 107, 148, 111] → k ∉ [141] := by decide
  have e86 : F v 86 = F w 86 := f.F (n1 _ (by decide))
  have e87 : F v 87 = F w 87 := f.F (n1 _ (by decide))
  refine ⟨h5, INS_b a2 f (fun k hk => n2 k (d1 k hk)) hb, h130, KEP_f2 a4 f (n1 _ (by decide)) (fun k hk => n2 k (d2 k hk)), Fv, AN, T, C, ND, CN, PN, SN, UN, FN, fun z => ?_, fun z => ?_⟩
  · exact PER_fr (a5 (by rw [← e86]; exact z)) f (fun k hk => n1 k (d4 k hk)) (fun k hk => n2 k (d3 k hk))
  · obtain ⟨q1, PR, q2⟩ := a6 (by rw [← e87]; exact z)
    exact ⟨by rw [e86]; exact q1, PR, REST_fr q2 (PRG_26 (a5 q1).1) f (fun k hk => n1 k (d5 k hk)) (fun k hk => n2 k (d6 k hk)) (fun k hk => n3 k (d7 k hk))⟩
theorem INV_3 (h : INV w) (f : FR [3] [] [] [] w v) : INV v := INV_q h f (by decide) (by decide) (by decide) (by rw [f.F (by decide)]; exact h.1) (by rw [f.F (by decide)]; exact h.2.2.1) (fun i => by rw [f.A (by decide)]; exact h.2.1.1 i)
theorem inv_feed {a b c d e : Int32} (hN : 1000000000000000 ≤ N) (h : INV w) : OK (fun v _ => INV v) (fm_M_feed N w a b c d e) := ok_mono (feed_by h.1 h.2.1.1 (by omega)) (fun v _ q => INV_q h q.1 (by decide) (by decide) (by decide) q.2.1 (by rw [q.1.F (by decide)]; exact h.2.2.1) q.2.2)
theorem inv_back {a : Int32} (h : INV w) : OK (fun v _ => INV v) (fm_M_back N w a) := ok_mono (back_ok h.1) (fun v _ q => INV_q h q.1 (by decide) (by decide) (by decide) q.2 (by rw [q.1.F (by decide)]; exact h.2.2.1) (fun i => by rw [q.1.A (by decide)]; exact h.2.1.1 i))
theorem inv_read (hN : 1000000000000000 ≤ N) (h : INV w) : OK (fun v _ => INV v) (fm_M_read N w) := by
  obtain ⟨a1, a2, a3, a4, -⟩ := h
  refine ok_mono (read_ok (by omega) a1 a2.1 a2.2.1 a2.2.2.1 a2.2.2.2.1 a2.2.2.2.2) (fun v _ q => ?_)
  obtain ⟨f, q5, q87, qz, q44, q49, qp⟩ := q
  have e : ∀ r i, r ∈ [1, 0, 22, 21, 2, 4] → A v r i = A w r i := fun r i hr => f.A (by
    have : ∀ r, r ∈ [1, 0, 22, 21, 2, 4] → r ∉ RdA := by decide
    exact this r hr)
  obtain ⟨hb, ⟨h1, h2, ⟨h3, h4⟩, h5⟩, -⟩ := a2
  have base : INS v := ⟨fun i => by rw [e 4 i (by decide)]; exact hb i, ⟨fun i hi => by rw [e 1 i (by decide)]; exact h1 i hi, fun k hk => by rw [e 0 _ (by decide)]; exact h2 k hk, ⟨fun k hk => by rw [e 22 _ (by decide)]; exact h3 k hk, fun k hk => by rw [e 21 _ (by decide)]; exact h4 k hk⟩, fun k hk => by rw [e 2 _ (by decide), e 2 _ (by decide)]; exact h5 k hk⟩, qz, q44, q49⟩
  have kp : KEP v := KEP_f2 a4 f (by decide) (by decide)
  by_cases z : F v 86 = 0
  · exact ⟨by omega, base, by rw [f.F (by decide)]; exact a3, kp, fun _ _ => True, 0, fun _ _ => 0, fun _ _ => 0, 0, 0, 0, 0, 0, 0, fun y => absurd z y, fun y => absurd q87 y⟩
  · obtain ⟨Fv, AN, T, C, ND, CN, PN, SN, UN, FN, per⟩ := qp z
    exact ⟨by omega, base, by rw [f.F (by decide)]; exact a3, kp, Fv, AN, T, C, ND, CN, PN, SN, UN, FN, fun _ => per, fun y => absurd q87 y⟩
theorem inv_clock {a : Int32} (h : INV w) : OK (fun v _ => INV v) (fm_M_clock N w a) := ok_mono clock_ok (fun v _ f => INV_q h f (by decide) (by decide) (by decide) (by rw [f.F (by decide)]; exact h.1) (by rw [f.F (by decide)]; exact h.2.2.1) (fun i => by rw [f.A (by decide)]; exact h.2.1.1 i))
theorem inv_count {a : Int32} (h : INV w) : OK (fun v _ => INV v) (fm_M_count N w a) := ok_mono count_ok (fun v _ f => INV_3 h f)
theorem inv_letter {a b : Int32} (h : INV w) : OK (fun v _ => INV v) (fm_M_letter N w a b) := by
  obtain ⟨Fv, AN, T, C, ND, CN, PN, SN, UN, FN, a5, a6⟩ := h.2.2.2.2
  exact ok_mono (letter_ok (fun z => (a5 z).2.2.1)) (fun v _ f => INV_3 h f)
theorem inv_printed {a b : Int32} (h : INV w) : OK (fun v _ => INV v) (fm_M_printed N w a b) := by
  obtain ⟨Fv, AN, T, C, ND, CN, PN, SN, UN, FN, a5, a6⟩ := h.2.2.2.2
  refine ok_mono (printed_ok (fun z => ?_)) (fun v _ f => INV_3 h f)
  obtain ⟨-, PR, q⟩ := a6 z
  exact ⟨q.2.1.2.2.1, q.2.1.2.2.2.1⟩
theorem inv_shown {a : Int32} (h : INV w) : OK (fun v _ => INV v) (fm_M_shown N w a) := ok_mono (shown_ok h.2.2.1) (fun v _ f => INV_3 h f)
theorem inv_link {a b : Int32} (h : INV w) : OK (fun v _ => INV v) (fm_M_link N w a b) := by
  obtain ⟨Fv, AN, T, C, ND, CN, PN, SN, UN, FN, a5, a6⟩ := h.2.2.2.2
  by_cases z : F w 87 = 0
  · exact ok_mono (link_ok (PR := 0) (fun y => absurd z y)) (fun v _ f => INV_3 h f)
  · obtain ⟨-, PR, q⟩ := a6 z
    exact ok_mono (link_ok (PR := PR) (fun _ => ⟨q.1.1, q.2.1.1.1⟩)) (fun v _ f => INV_3 h f)
theorem inv_process {a b : Int32} (hN : 1000000000000000 ≤ N) (h : INV w) : OK (fun v _ => INV v) (fm_M_process N w a b) := by
  obtain ⟨Fv, AN, T, C, ND, CN, PN, SN, UN, FN, a5, a6⟩ := h.2.2.2.2
  by_cases z : F w 87 = 0
  · exact ok_mono (process_ok (PR := 0) (fun y => absurd z y) (by omega)) (fun v _ f => INV_3 h f)
  · obtain ⟨-, PR, q⟩ := a6 z
    exact ok_mono (process_ok (PR := PR) (fun _ => ⟨q.1.1, q.2.1.2.1⟩) (by omega)) (fun v _ f => INV_3 h f)
theorem inv_function {a b : Int32} (h : INV w) : OK (fun v _ => INV v) (fm_M_function1 N w a b) := by
  obtain ⟨Fv, AN, T, C, ND, CN, PN, SN, UN, FN, a5, a6⟩ := h.2.2.2.2
  refine ok_mono (function1_ok (fun z => ?_) h.2.1.2.2.2.2) (fun v _ f => INV_3 h f)
  have q := (a5 z).1.1
  omega
theorem inv_frame {a b c : Int32} (h : INV w) : OK (fun v _ => INV v) (fm_M_frame1 N w a b c) := by
  obtain ⟨Fv, AN, T, C, ND, CN, PN, SN, UN, FN, a5, a6⟩ := h.2.2.2.2
  by_cases z : F w 87 = 0
  · exact ok_mono (frame1_ok (Fv := Fv) (AN := AN) (T := T) (ND := ND) (UN := UN) (FN := FN) (PR := 0) (fun y => absurd z y) h.2.1.2.2.2.1) (fun v _ f => INV_3 h f)
  · obtain ⟨-, PR, q⟩ := a6 z
    exact ok_mono (frame1_ok (fun _ => q) h.2.1.2.2.2.1) (fun v _ f => INV_3 h f)
theorem inv_show {a b c : Int32} (hN : 1000000000000000 ≤ N) (h : INV w) : OK (fun v _ => INV v) (fm_M_show N w a b c) := by
  obtain ⟨Fv, AN, T, C, ND, CN, PN, SN, UN, FN, a5, a6⟩ := h.2.2.2.2
  have fin : ∀ v, SHR w v → INV v := fun v q => INV_q h q.1 (by decide) (by decide) (by decide) (by rw [q.1.F (by decide)]; exact h.1) (q.2 h.2.2.1) (fun i => by rw [q.1.A (by decide)]; exact h.2.1.1 i)
  by_cases z : F w 87 = 0
  · exact ok_mono (show_ok (Fv := Fv) (AN := AN) (T := T) (C := C) (pM := id) (pE := id) (ND := ND) (CN := CN) (PN := PN) (SN := SN) (UN := UN) (FN := FN) (PR := 0) (fun y => absurd z y) (by omega)) (fun v _ q => fin v q)
  · obtain ⟨q1, PR, q⟩ := a6 z
    exact ok_mono (show_ok (fun _ => ⟨q, a5 q1⟩) (by omega)) (fun v _ q => fin v q)
theorem inv_begin {a : Int32} (hN : 1000000000000000 ≤ N) (h : INV w) : OK (fun v _ => INV v) (fm_M_begin N w a) := by
  obtain ⟨a1, a2, a3, a4, Fv, AN, T, C, ND, CN, PN, SN, UN, FN, a5, a6⟩ := id h
  refine ok_mono (begin_ok a4 a5 (by omega)) (fun v _ q => ?_)
  rcases q with q | ⟨q1, q2, q3, q4⟩
  · exact INV_3 h q
  · have f : FR [3, 87, 118, 119, 120, 121, 125, 128, 149, 150] [] [89, 90, 92, 94, 95, 96, 97, 98, 99, 100, 101, 106, 108, 109, 110, 112, 113, 114, 115, 117, 132, 170] [111] w v := q4
    have e86 : F v 86 = F w 86 := f.F (by decide)
    exact ⟨by rw [f.F (by decide)]; exact a1, INS_fr a2 f (by decide) (by decide), by rw [f.F (by decide)]; exact a3, REST_kep q3, Fv, AN, T, C, ND, CN, PN, SN, UN, FN, fun _ => PER_fr (a5 q1) f (by decide) (by decide), fun _ => ⟨by rw [e86]; exact q1, 1, q3⟩⟩
theorem inv_go {a b : Int32} (hN : 1000000000000000 ≤ N) (h : INV w) : OK (fun v _ => INV v) (fm_M_go N w a b) := by
  obtain ⟨a1, a2, a3, a4, Fv, AN, T, C, ND, CN, PN, SN, UN, FN, a5, a6⟩ := id h
  refine ok_mono (go_ok (Fv := Fv) (AN := AN) (T := T) (C := C) (pM := id) (pE := id) (ND := ND) (CN := CN) (PN := PN) (SN := SN) (UN := UN) (FN := FN) ?_ (by omega)) (fun v _ q => ?_)
  · by_cases z : F w 87 = 0
    · exact Or.inl z
    · exact Or.inr ⟨(a6 z).2, a5 (a6 z).1⟩
  · rcases q with q | ⟨q1, ⟨PR, q3⟩, q4⟩
    · exact INV_3 h q
    · have f := q4
      unfold CGR at f
      have e86 : F v 86 = F w 86 := f.F (by decide)
      have w86 := (a6 q1).1
      exact ⟨by rw [f.F (by decide)]; exact a1, INS_fr a2 f (by decide) (by decide), by rw [f.F (by decide)]; exact a3, REST_kep q3, Fv, AN, T, C, ND, CN, PN, SN, UN, FN, fun _ => PER_fr (a5 w86) f (by decide) (by decide), fun _ => ⟨by rw [e86]; exact w86, PR, q3⟩⟩
end
end
section
section
variable {w v : MS} {N : Nat} {Fv : Int64 → Int64 → Prop} {AN ND UN FN PR : Nat} {T : TY}
theorem REST_send (r : REST Fv AN T ND UN FN PR w) (hT : ∀ q, q < ND → tK T q ≤ 26) (c : CALLF w v) (e : ESI Fv (PQ AN PR) PR v) (z : F v 149 = 0 ∧ F v 150 = 0) : REST Fv AN T ND UN FN PR v := by
  obtain ⟨d, ⟨w1, w2, w3, w4, w5, w6, w7⟩, -⟩ := r
  obtain ⟨f, h109, rl⟩ := c
  refine ⟨e.1, ⟨e.2.1, e.2.2, by rw [f.F (by decide)]; exact w3, fun i => by rw [f.A (by decide)]; exact w4 i, fun i => by rw [f.A (by decide)]; exact w5 i, fun i => ?_, fun q hq hne => ?_⟩, z.1, z.2⟩
  · rcases rl i with h | h
    · rw [h]; exact w6 i
    · exact h
  · refine PSX_otf (w7 q hq hne) hne hT (OTF_fr f (by decide) (by decide)) (fun k hk i => f.A ?_) (h109 q)
    have : ∀ k, k ∈ KP → k ∉ [89, 90, 108, 109, 113, 116, 117, 122, 123, 124, 131, 132, 135, 142, 143, 145, 146, 147] := by decide
    exact this k hk
theorem inv_send {a b c : Int32} (hN : 1000000000000000 ≤ N) (h : INV w) : OK (fun v _ => INV v) (fm_M_send N w a b c) := by
  obtain ⟨a1, a2, a3, a4, Fv, AN, T, C, ND, CN, PN, SN, UN, FN, a5, a6⟩ := id h
  by_cases z : F w 87 = 0
  · exact ok_mono (send_ok (Fv := Fv) (P := fun _ => True) (PR := 0) (Or.inl z) (by omega)) (fun v _ q => INV_3 h (q.2.2 z))
  · obtain ⟨w86, PR, r⟩ := a6 z
    have per := a5 w86
    have atm := per.2.2.1
    have e14 := per.2.2.2.1
    have h22 := per.2.2.2.2.1
    have pr := r.1.1
    have r0 := r.2.2
    refine ok_mono (send_ok (Fv := Fv) (P := PQ AN PR) (PR := PR) (Or.inr ⟨⟨r.1, r.2.1.1, r.2.1.2.1⟩, atm, fun t ht => ?_, PQ_s, PQ_b h22 pr.2, fun x x1 x2 => PQ_atom x1 (by omega) ?_⟩) (by omega)) (fun v _ q => ?_)
    · intro s1
      rw [e14]
      rcases ht with q | q | q | q | q
      · omega
      · omega
      · omega
      · exact q.2
      · omega
    · have := atm.2.1
      omega
    · obtain ⟨cf, q1, -⟩ := q
      obtain ⟨q2, q3⟩ := q1 z
      have rv := REST_send r (PRG_26 per.1) cf q2 (q3 r0)
      have f := cf.1
      have e86 : F v 86 = F w 86 := f.F (by decide)
      exact ⟨by rw [f.F (by decide)]; exact a1, INS_fr a2 f (by decide) (by decide), by rw [f.F (by decide)]; exact a3, REST_kep rv, Fv, AN, T, C, ND, CN, PN, SN, UN, FN, fun _ => PER_fr per f (by decide) (by decide), fun _ => ⟨by rw [e86]; exact w86, PR, rv⟩⟩
end
end
section
theorem mS0_F {k : Nat} (h : k ≠ 140) : F mS0 k = 0 := by
  show (if k = 140 then (-1 : Int32) else 0).toInt = 0
  rw [if_neg h]; rfl
theorem mS0_A {k i : Nat} (h : k ≠ 0 ∧ k ≠ 1 ∧ k ≠ 2 ∧ k ≠ 21 ∧ k ≠ 22) : A mS0 k i = 0 := by
  show ((if k = 0 then tk tb_0 77 else if k = 1 then tk tb_1 161 else if k = 2 then tk tb_2 218 else if k = 21 then tk tb_21 21 else if k = 22 then tk tb_22 36 else fun _ => 0) i).toInt = 0
  rw [if_neg h.1, if_neg h.2.1, if_neg h.2.2.1, if_neg h.2.2.2.1, if_neg h.2.2.2.2]; rfl
theorem t0_1 : ∀ i, i < 161 → A mS0 1 i = ((faT i : Nat) : Int) := by decide +kernel
theorem t0_0 : ∀ k, k < 15 → A mS0 0 (wst k) = ((wln k : Nat) : Int) := by decide +kernel
theorem t0_22 : ∀ k, k < 18 → A mS0 22 (2 * k + 1) ≠ 10 := by decide +kernel
theorem t0_21 : ∀ k, k < 7 → A mS0 21 (3 * k + 1) ≠ -1 := by decide +kernel
theorem t0_2 : ∀ k, k < 30 → A mS0 2 (pst k) = ((npre k : Nat) : Int) ∧ A mS0 2 (pst k + 1) = ((plen k : Nat) : Int) := by decide +kernel
theorem inv_0 : INV mS0 := by
  have z : ∀ k i, k ≠ 0 ∧ k ≠ 1 ∧ k ≠ 2 ∧ k ≠ 21 ∧ k ≠ 22 → A mS0 k i = 0 := fun k i h => mS0_A h
  have f : ∀ k, k ≠ 140 → F mS0 k = 0 := fun k h => mS0_F h
  refine ⟨by rw [f 5 (by decide)]; decide, ⟨fun i => by rw [z 4 i (by decide)]; decide, ⟨t0_1, t0_0, ⟨t0_22, t0_21⟩, t0_2⟩, ⟨z 13 0 (by decide), z 16 0 (by decide), z 19 0 (by decide)⟩, fun i => by rw [z 44 i (by decide)]; decide, fun i => by rw [z 49 i (by decide)]; decide⟩, by rw [f 130 (by decide)]; decide, ⟨rfl, by rw [z 89 24 (by decide)]; decide, fun i => by rw [z 127 i (by decide)]; decide, fun i => by rw [z 97 i (by decide)]; decide, fun i => by rw [z 132 i (by decide)]; decide⟩, fun _ _ => True, 0, fun _ _ => 0, fun _ _ => 0, 0, 0, 0, 0, 0, 0, fun y => absurd (f 86 (by decide)) y, fun y => absurd (f 87 (by decide)) y⟩
end
section
set_option maxRecDepth 100000
def pq (q k : Nat) : Nat := 2000 + 100 * q + k
def rf (x : Int32) : Option Nat := if x < 0 then none else some x.toNatClampNeg
def MD (c : Nat → Nat) (q : Nat) : Prop := q < 24 ∧ c (pq q 0) ≠ 0
def isR (k : Nat) : Prop := k = 0 ∨ k = 20 ∨ k = 2 ∨ k = 3 ∨ k = 6 ∨ k = 14 ∨ k = 30 ∨ k = 32 ∨ k = 33 ∨ k = 35 ∨ k = 37
def rfv (j : Nat) : LV := .inr (.inr (some j))
def KI (k : Nat) : Prop := k = 4 ∨ k = 5 ∨ k = 7 ∨ k = 8 ∨ k = 9 ∨ k = 11 ∨ k = 12 ∨ k = 13 ∨ k = 15
def KG (k : Nat) : Prop := k = 1 ∨ k = 4 ∨ k = 6 ∨ k = 8 ∨ k = 9
def hmR (c : Nat → Nat) (m : MS) (q : Nat) : Option Nat := (rf (m.1 (pq q 17))).map (fun r => c (pq r 0))
def arJ (n : Nat) (f : Nat → Int64) (x : LC) : Prop := ∃ h, x = .inr (.inr (.inl (n, h))) ∧ ∀ i, i < n → h i = f i
def arI (n : Nat) (f : Nat → Int32) (x : LC) : Prop := ∃ h, x = .inr (.inl (4, n, h)) ∧ ∀ i, i < n → h i = f i
def roP (c : Nat → Nat) (m : MS) (q : Nat) (x : LC) : Prop := ∃ f, x = .inl (7, f) ∧ f 0 = .inl (Int32.ofNat q) ∧ f 1 = rfv (c (pq q 20)) ∧ f 2 = rfv (c (pq q 2)) ∧ f 3 = rfv (c (pq q 3)) ∧ f 6 = rfv (c (pq q 6)) ∧ f 14 = rfv (c (pq q 14)) ∧ f 17 = .inr (.inr (hmR c m q)) ∧ (∀ k, KI k → f k = .inl (m.1 (pq q k))) ∧ f 10 = .inr (.inl (m.2.1 (pq q 10))) ∧ f 16 = .inr (.inl (m.2.1 (pq q 16)))
def roF (c : Nat → Nat) (m : MS) (q : Nat) (x : LC) : Prop := ∃ f, x = .inl (4, f) ∧ f 0 = rfv (c (pq q 30)) ∧ f 2 = rfv (c (pq q 32)) ∧ f 3 = rfv (c (pq q 33)) ∧ f 5 = rfv (c (pq q 35)) ∧ f 7 = rfv (c (pq q 37)) ∧ ∀ k, KG k → f k = .inl (m.1 (pq q (20 + k)))
def lnQ (m : MS) (q k : Nat) : Nat := (m.1 (pq q k)).toNatClampNeg
def ROL (c : Nat → Nat) (m : MS) (q k : Nat) (x : LC) : Prop :=
  (k = 0 → roP c m q x) ∧ (k = 20 → roF c m q x) ∧ (k = 2 → arJ 512 (m.2.2.2 (pq q 2)) x) ∧ (k = 3 → arJ 512 (m.2.2.2 (pq q 3)) x) ∧ (k = 6 → arJ 30 (m.2.2.2 (pq q 6)) x) ∧ (k = 14 → arI 24 (m.2.2.1 (pq q 14)) x) ∧ (k = 30 → arI 300 (m.2.2.1 (pq q 30)) x) ∧ (k = 32 → arI (lnQ m q 42) (m.2.2.1 (pq q 32)) x) ∧ (k = 33 → arJ (lnQ m q 43) (m.2.2.2 (pq q 33)) x) ∧ (k = 35 → arJ (lnQ m q 45) (m.2.2.2 (pq q 35)) x) ∧ (k = 37 → arI (lnQ m q 47) (m.2.2.1 (pq q 37)) x)
def slQ (c : Nat → Nat) (m : MS) (q : Nat) : Nat := if c (pq q 0) = 0 then 0 else 1182 + 2 * (lnQ m q 42 + lnQ m q 43 + lnQ m q 45 + lnQ m q 47)
def slT (c : Nat → Nat) (m : MS) : Nat → Nat
  | 0 => 0
  | n + 1 => slT c m n + slQ c m n
def RS (m : MS) (u : CS) : Prop := skB u = true ∧ (∀ i k, i < 57 → k < 20 → FI u i k = m.1 (20 * i + k)) ∧ FJ u 55 10 = m.2.1 1110 ∧ (∀ i, i < 57 → AI u i = m.2.2.1 i) ∧ (∀ i, i < 57 → AJ u i = m.2.2.2 i) ∧ FRc u 43 4 = rf (m.1 1964) ∧ ∀ j, rf (m.1 1964) = some j → j = 52 ∨ j = 56
def RO (o : Option Nat) (c : Nat → Nat) (u : CS) : Prop := ∀ q, o = some q → MD c q ∧ FRc u 55 3 = some (c (pq q 0)) ∧ FRc u 55 4 = some (c (pq q 20))
def RQc (c : Nat → Nat) (m : MS) (u : CS) : Prop := (∀ q, q < 24 → AP u 48 q = (if c (pq q 0) = 0 then none else some (c (pq q 0)))) ∧ ∀ q, q < 24 → m.2.2.1 1948 q = if c (pq q 0) = 0 then -1 else Int32.ofNat q
def RD (c : Nat → Nat) (u : CS) : Prop := (∀ q k r l, MD c q → MD c r → isR k → isR l → c (pq q k) = c (pq r l) → q = r ∧ k = l) ∧ ∀ q k, MD c q → isR k → 57 ≤ c (pq q k) ∧ c (pq q k) < u.1.1
def RR (c : Nat → Nat) (m : MS) (u : CS) : Prop := (∀ q k, MD c q → isR k → ROL c m q k (u.2 (c (pq q k)))) ∧ ∀ q r, MD c q → rf (m.1 (pq q 17)) = some r → MD c r
def isL (k : Nat) : Prop := k = 42 ∨ k = 43 ∨ k = 45 ∨ k = 47
def RC (c : Nat → Nat) (m : MS) (u : CS) : Prop := u.1.2 = 145838 + slT c m 24 ∧ 64 * u.1.1 ≤ u.1.2 ∧ ∀ q k, MD c q → isL k → ¬ m.1 (pq q k) < 0
def RP (o : Option Nat) (c : Nat → Nat) (m : MS) (u : CS) : Prop := RS m u ∧ wfB u = true ∧ RO o c u ∧ RQc c m u ∧ RD c u ∧ RR c m u ∧ RC c m u
theorem pq_ne {q k r l : Nat} (hk : k < 100) (hl : l < 100) (h : ¬ (q = r ∧ k = l)) : pq q k ≠ pq r l := by unfold pq; omega
theorem pq_big {q k j : Nat} (h : j < 2000) : pq q k ≠ j := by unfold pq; omega
theorem isR_lt {k : Nat} (h : isR k) : k < 100 := by unfold isR at h; omega
theorem sk_cup57 {u : CS} {i : Nat} {x : LC} (h : skB u = true) (hi : 57 ≤ i) : skB (cup u i x) = true := by
  have h1 := sk_n h
  unfold skB
  rw [Bool.and_eq_true]
  refine ⟨decide_eq_true h1, List.all_eq_true.mpr (fun j hj => ?_)⟩
  have hj := List.mem_range.mp hj
  show okS (tbl.getD j (9, [])) (if j = i then x else u.2 j) = true
  rw [if_neg (by omega)]
  exact sk_at h hj
theorem cup_ne {u : CS} {i j : Nat} {x : LC} (h : j ≠ i) : (cup u i x).2 j = u.2 j := if_neg h
theorem cup_eq {u : CS} {i : Nat} {x : LC} : (cup u i x).2 i = x := if_pos rfl
theorem cup_1 {u : CS} {i : Nat} {x : LC} : (cup u i x).1 = u.1 := rfl
theorem FI_at {u w : CS} {i k : Nat} (h : w.2 i = u.2 i) : FI w i k = FI u i k := by unfold FI; rw [h]
theorem FJ_at {u w : CS} {i k : Nat} (h : w.2 i = u.2 i) : FJ w i k = FJ u i k := by unfold FJ; rw [h]
theorem FR_at {u w : CS} {i k : Nat} (h : w.2 i = u.2 i) : FRc w i k = FRc u i k := by unfold FRc; rw [h]
theorem AI_at {u w : CS} {i : Nat} (h : w.2 i = u.2 i) : AI w i = AI u i := by unfold AI; rw [h]
theorem AJ_at {u w : CS} {i : Nat} (h : w.2 i = u.2 i) : AJ w i = AJ u i := by unfold AJ; rw [h]
theorem AP_at {u w : CS} {i : Nat} (h : w.2 i = u.2 i) : AP w i = AP u i := by unfold AP; rw [h]
theorem wf_cup {u : CS} {i : Nat} {x : LC} (h : wfB u = true) (hx : i < u.1.1 → okC u.1.1 x = true) : wfB (cup u i x) = true := by
  unfold wfB at h ⊢
  refine List.all_eq_true.mpr (fun j hj => ?_)
  have hj2 := List.all_eq_true.mp h j hj
  have hj3 := List.mem_range.mp hj
  show okC u.1.1 (if j = i then x else u.2 j) = true
  by_cases e : j = i
  · rw [if_pos e]; exact hx (e ▸ hj3)
  · rw [if_neg e]; exact hj2
theorem wf_at {u : CS} {i : Nat} (h : wfB u = true) (hi : i < u.1.1) : okC u.1.1 (u.2 i) = true := by
  unfold wfB at h
  exact List.all_eq_true.mp h i (List.mem_range.mpr hi)
theorem okC_upd {n ci k : Nat} {f : Nat → LV} {v : LV} (h : okC n (.inl (ci, f)) = true) (hv : okV n v = true) : okC n (.inl (ci, fun j => if j = k then v else f j)) = true := by
  unfold okC at h ⊢
  refine List.all_eq_true.mpr (fun j hj => ?_)
  have := List.all_eq_true.mp h j hj
  by_cases e : j = k
  · simp only [if_pos e]; exact hv
  · simp only [if_neg e]; exact this
theorem slT_eq {c c2 : Nat → Nat} {m m2 : MS} {n : Nat} (h : ∀ q, q < n → slQ c2 m2 q = slQ c m q) : slT c2 m2 n = slT c m n := by
  induction n with
  | zero => rfl
  | succ n ih =>
    show slT c2 m2 n + slQ c2 m2 n = slT c m n + slQ c m n
    rw [ih (fun q hq => h q (by omega)), h n (by omega)]
theorem slQ_eq {c : Nat → Nat} {m m2 : MS} {q : Nat} (h : ∀ k, k = 42 ∨ k = 43 ∨ k = 45 ∨ k = 47 → m2.1 (pq q k) = m.1 (pq q k)) : slQ c m2 q = slQ c m q := by
  unfold slQ lnQ
  rw [h 42 (by omega), h 43 (by omega), h 45 (by omega), h 47 (by omega)]
def SMR (c : Nat → Nat) (m m2 : MS) (q k : Nat) : Prop :=
  (k = 0 → (∀ l, l < 20 → m2.1 (pq q l) = m.1 (pq q l)) ∧ ∀ l, l < 20 → m2.2.1 (pq q l) = m.2.1 (pq q l)) ∧ (k = 20 → ∀ l, 20 ≤ l → l < 30 → m2.1 (pq q l) = m.1 (pq q l)) ∧ (m2.2.2.1 (pq q k) = m.2.2.1 (pq q k)) ∧ (m2.2.2.2 (pq q k) = m.2.2.2 (pq q k)) ∧ ∀ l, 30 ≤ l → l < 100 → m2.1 (pq q l) = m.1 (pq q l)
theorem ROL_same {c : Nat → Nat} {m m2 : MS} {q k : Nat} {x : LC} (h : ROL c m q k x) (e : SMR c m m2 q k) : ROL c m2 q k x := by
  obtain ⟨e0, e20, eI, eJ, eL⟩ := e
  obtain ⟨h0, h20, h2, h3, h6, h14, h30, h32, h33, h35, h37⟩ := h
  refine ⟨fun z => ?_, fun z => ?_, fun z => ?_, fun z => ?_, fun z => ?_, fun z => ?_, fun z => ?_, fun z => ?_, fun z => ?_, fun z => ?_, fun z => ?_⟩
  · obtain ⟨e1, e2⟩ := e0 z
    obtain ⟨f, a0, a1, a2, a3, a4, a5, a6, a7, a8, a9, a10⟩ := h0 z
    refine ⟨f, a0, a1, a2, a3, a4, a5, a6, ?_, fun k hk => ?_, ?_, ?_⟩
    · rw [a7]; unfold hmR; rw [e1 17 (by omega)]
    · rw [a8 k hk, e1 k (by unfold KI at hk; omega)]
    · rw [a9, e2 10 (by omega)]
    · rw [a10, e2 16 (by omega)]
  · obtain ⟨f, a0, a1, a2, a3, a4, a5, a6⟩ := h20 z
    refine ⟨f, a0, a1, a2, a3, a4, a5, fun k hk => ?_⟩
    rw [a6 k hk, e20 z (20 + k) (by omega) (by unfold KG at hk; omega)]
  · subst z; rw [eJ]; exact h2 rfl
  · subst z; rw [eJ]; exact h3 rfl
  · subst z; rw [eJ]; exact h6 rfl
  · subst z; rw [eI]; exact h14 rfl
  · subst z; rw [eI]; exact h30 rfl
  · subst z; rw [eI]; unfold lnQ; rw [eL 42 (by omega) (by omega)]; exact h32 rfl
  · subst z; rw [eJ]; unfold lnQ; rw [eL 43 (by omega) (by omega)]; exact h33 rfl
  · subst z; rw [eJ]; unfold lnQ; rw [eL 45 (by omega) (by omega)]; exact h35 rfl
  · subst z; rw [eI]; unfold lnQ; rw [eL 47 (by omega) (by omega)]; exact h37 rfl
theorem RP_low {o o2 : Option Nat} {c : Nat → Nat} {m m2 : MS} {u w : CS} (h : RP o2 c m u) (hs : RS m2 w) (hw : wfB w = true) (ho : RO o c w) (e1 : w.1 = u.1) (e2 : ∀ i, i = 48 ∨ 57 ≤ i → w.2 i = u.2 i)
    (f1 : ∀ k, 2000 ≤ k → m2.1 k = m.1 k) (f2 : ∀ k, 2000 ≤ k → m2.2.1 k = m.2.1 k) (f3 : ∀ k, 1948 ≤ k → m2.2.2.1 k = m.2.2.1 k) (f4 : ∀ k, 1948 ≤ k → m2.2.2.2 k = m.2.2.2 k) : RP o c m2 w := by
  obtain ⟨r1, r2, r3, ⟨q1, q2⟩, ⟨d1, d2⟩, ⟨p1, p2⟩, t1, t2, t3⟩ := h
  have hp : ∀ q k, 2000 ≤ pq q k := fun q k => by unfold pq; omega
  refine ⟨hs, hw, ho, ⟨fun q hq => ?_, fun q hq => ?_⟩, ⟨d1, fun q k a b => ?_⟩, ⟨fun q k a b => ?_, fun q r a b => ?_⟩, ?_, ?_, fun q k a b => ?_⟩
  · rw [AP_at (e2 48 (Or.inl rfl))]; exact q1 q hq
  · rw [f3 1948 (by omega)]; exact q2 q hq
  · rw [e1]; exact d2 q k a b
  · rw [e2 _ (Or.inr (d2 q k a b).1)]
    exact ROL_same (p1 q k a b) ⟨fun _ => ⟨fun l _ => f1 _ (hp q l), fun l _ => f2 _ (hp q l)⟩, fun _ l _ _ => f1 _ (hp q l), f3 _ (by have := hp q k; omega), f4 _ (by have := hp q k; omega), fun l _ _ => f1 _ (hp q l)⟩
  · rw [f1 _ (hp q 17)] at b; exact p2 q r a b
  · rw [e1, slT_eq (m := m) (c := c) (fun q _ => slQ_eq (fun k _ => f1 _ (hp q k)))]; exact t1
  · rw [e1]; exact t2
  · rw [f1 _ (hp q k)]; exact t3 q k a b
theorem okC_of {u : CS} {i ci : Nat} {f : Nat → LV} (h : wfB u = true) (hi : i < u.1.1) (e : u.2 i = .inl (ci, f)) : okC u.1.1 (.inl (ci, f)) = true := by rw [← e]; exact wf_at h hi
theorem wf_uF {u : CS} {i k : Nat} {v : LV} (h : wfB u = true) (hv : okV u.1.1 v = true) : wfB (uF u i k v) = true := by
  unfold uF
  cases e : u.2 i with
  | inl q => exact wf_cup h (fun hi => okC_upd (okC_of h hi e) hv)
  | inr q => exact h
theorem wf_uA {u : CS} {i : Nat} {g : Nat → Int32} (h : wfB u = true) : wfB (uA u i g) = true := by
  unfold uA
  cases e : u.2 i with
  | inl q => exact h
  | inr q =>
    rcases q with q | q | q
    · exact wf_cup h (fun hi => rfl)
    · exact h
    · exact h
theorem wf_uJ {u : CS} {i : Nat} {g : Nat → Int64} (h : wfB u = true) : wfB (uJ u i g) = true := by
  unfold uJ
  cases e : u.2 i with
  | inl q => exact h
  | inr q =>
    rcases q with q | q | q
    · exact h
    · exact wf_cup h (fun hi => rfl)
    · exact h
theorem FJ_F {u : CS} {i k i2 k2 : Nat} {v : LV} (h : i2 ≠ i ∨ k2 ≠ k) : FJ (uF u i k v) i2 k2 = FJ u i2 k2 := by
  by_cases e : i2 = i
  · subst e
    have hk : k2 ≠ k := by rcases h with h | h; exact absurd rfl h; exact h
    unfold FJ uF
    cases hc : u.2 i2 with
    | inl q => simp [cup, hk]
    | inr q => simp [hc]
  · unfold FJ; rw [uF_ne e]
theorem FR_F {u : CS} {i k i2 k2 : Nat} {v : LV} (h : i2 ≠ i ∨ k2 ≠ k) : FRc (uF u i k v) i2 k2 = FRc u i2 k2 := by
  by_cases e : i2 = i
  · subst e
    have hk : k2 ≠ k := by rcases h with h | h; exact absurd rfl h; exact h
    unfold FRc uF
    cases hc : u.2 i2 with
    | inl q => simp [cup, hk]
    | inr q => simp [hc]
  · unfold FRc; rw [uF_ne e]
theorem AJ_F {u : CS} {i k i2 : Nat} {v : LV} : AJ (uF u i k v) i2 = AJ u i2 := by
  by_cases e : i2 = i
  · subst e
    unfold AJ uF
    cases hc : u.2 i2 with
    | inl q => simp [cup]
    | inr q => simp [hc]
  · unfold AJ; rw [uF_ne e]
theorem FJ_A {u : CS} {i i2 k2 : Nat} {g : Nat → Int32} : FJ (uA u i g) i2 k2 = FJ u i2 k2 := by
  by_cases e : i2 = i
  · subst e
    unfold FJ uA
    cases hc : u.2 i2 with
    | inl q => simp [hc]
    | inr q => rcases q with q | q | q <;> simp [cup, hc]
  · unfold FJ; rw [uA_ne e]
theorem FR_A {u : CS} {i i2 k2 : Nat} {g : Nat → Int32} : FRc (uA u i g) i2 k2 = FRc u i2 k2 := by
  by_cases e : i2 = i
  · subst e
    unfold FRc uA
    cases hc : u.2 i2 with
    | inl q => simp [hc]
    | inr q => rcases q with q | q | q <;> simp [cup, hc]
  · unfold FRc; rw [uA_ne e]
theorem AJ_A {u : CS} {i i2 : Nat} {g : Nat → Int32} : AJ (uA u i g) i2 = AJ u i2 := by
  by_cases e : i2 = i
  · subst e
    unfold AJ uA
    cases hc : u.2 i2 with
    | inl q => simp [hc]
    | inr q => rcases q with q | q | q <;> simp [cup, hc]
  · unfold AJ; rw [uA_ne e]
theorem FJ_J {u : CS} {i i2 k2 : Nat} {g : Nat → Int64} : FJ (uJ u i g) i2 k2 = FJ u i2 k2 := by
  by_cases e : i2 = i
  · subst e
    unfold FJ uJ
    cases hc : u.2 i2 with
    | inl q => simp [hc]
    | inr q => rcases q with q | q | q <;> simp [cup, hc]
  · unfold FJ; rw [uJ_ne e]
theorem FR_J {u : CS} {i i2 k2 : Nat} {g : Nat → Int64} : FRc (uJ u i g) i2 k2 = FRc u i2 k2 := by
  by_cases e : i2 = i
  · subst e
    unfold FRc uJ
    cases hc : u.2 i2 with
    | inl q => simp [hc]
    | inr q => rcases q with q | q | q <;> simp [cup, hc]
  · unfold FRc; rw [uJ_ne e]
theorem AJ_J {u : CS} {i i2 : Nat} {g : Nat → Int64} (h : i2 ≠ i) : AJ (uJ u i g) i2 = AJ u i2 := by unfold AJ; rw [uJ_ne h]
theorem AJ_self {u : CS} (h : skB u = true) {i n : Nat} {g : Nat → Int64} (hi : i < 57) (ht : tbl.getD i (9, []) = (1, [n])) : AJ (uJ u i g) i = g := by
  obtain ⟨h1, h2⟩ := sk_l h hi ht
  unfold uJ
  rw [h2]
  unfold AJ
  rw [cup_eq]
theorem FJ_self {u : CS} (h : skB u = true) {i ci k : Nat} {ks : List Nat} {v : Int64} (hi : i < 57) (ht : tbl.getD i (9, []) = (3, ci :: ks)) : FJ (uF u i k (.inr (.inl v))) i k = v := by
  obtain ⟨f, h1, h2, -⟩ := sk_o h hi ht
  unfold FJ uF
  rw [h2]
  simp [cup]
theorem FR_self {u : CS} (h : skB u = true) {i ci k : Nat} {ks : List Nat} {v : Option Nat} (hi : i < 57) (ht : tbl.getD i (9, []) = (3, ci :: ks)) : FRc (uF u i k (.inr (.inr v))) i k = v := by
  obtain ⟨f, h1, h2, -⟩ := sk_o h hi ht
  unfold FRc uF
  rw [h2]
  simp [cup]
theorem RP_pI {o : Option Nat} {c : Nat → Nat} {m : MS} {u : CS} (h : RP o c m u) {i ci k : Nat} {ks : List Nat} {v : Int32} (hi : i < 57 ∧ k < 20) (ht : tbl.getD i (9, []) = (3, ci :: ks)) (hk : ks[k]? = some 0) (hx : i ≠ 43 ∨ k ≠ 4) (hy : i ≠ 55 ∨ (k ≠ 3 ∧ k ≠ 4 ∧ k ≠ 10)) (hz : i ≠ 48) :
    pF u i ci k (.inl v) = some (uF u i k (.inl v)) ∧ RP o c (upI m (20 * i + k) v) (uF u i k (.inl v)) := by
  obtain ⟨⟨s1, s2, s3, s4, s5, s6, s7⟩, r2, r3, r4⟩ := h
  refine ⟨sk_pF s1 hi.1 ht, ?_⟩
  refine RP_low (u := u) (m := m) ⟨⟨s1, s2, s3, s4, s5, s6, s7⟩, r2, r3, r4⟩ ⟨sk_uF (x := 0) s1 hi.1 ht hk rfl, fun i2 k2 hi2 hk2 => ?_, ?_, fun i2 h2 => ?_, fun i2 h2 => ?_, ?_, ?_⟩ (wf_uF r2 rfl) (fun q hq => ?_) uF_1 (fun j hj => uF_ne (by omega)) (fun j hj => ?_) (fun _ _ => rfl) (fun _ _ => rfl) (fun _ _ => rfl)
  · by_cases e : i2 = i ∧ k2 = k
    · obtain ⟨rfl, rfl⟩ := e
      rw [FI_self s1 hi.1 ht]
      exact (if_pos rfl).symm
    · rw [FI_F (by omega), s2 i2 k2 hi2 hk2]
      exact (if_neg (by omega)).symm
  · rw [FJ_F (by omega)]; exact s3
  · rw [AI_F]; exact s4 i2 h2
  · rw [AJ_F]; exact s5 i2 h2
  · rw [FR_F (by omega), s6]
    show rf (m.1 1964) = rf (if 1964 = 20 * i + k then v else m.1 1964)
    rw [if_neg (by omega)]
  · intro j
    show rf (if 1964 = 20 * i + k then v else m.1 1964) = some j → _
    rw [if_neg (by omega)]
    exact s7 j
  · rw [FR_F (by omega), FR_F (by omega)]; exact r3 q hq
  · exact if_neg (by omega)
theorem RP_pL {o : Option Nat} {c : Nat → Nat} {m : MS} {u : CS} (h : RP o c m u) {v : Int64} :
    pF u 55 5 10 (.inr (.inl v)) = some (uF u 55 10 (.inr (.inl v))) ∧ RP o c (upL m 1110 v) (uF u 55 10 (.inr (.inl v))) := by
  obtain ⟨⟨s1, s2, s3, s4, s5, s6, s7⟩, r2, r3, r4⟩ := h
  refine ⟨sk_pF s1 (by decide) rfl, ?_⟩
  refine RP_low (u := u) (m := m) ⟨⟨s1, s2, s3, s4, s5, s6, s7⟩, r2, r3, r4⟩ ⟨sk_uF (x := 1) s1 (by decide) rfl rfl rfl, fun i2 k2 hi2 hk2 => ?_, ?_, fun i2 h2 => ?_, fun i2 h2 => ?_, ?_, s7⟩ (wf_uF r2 rfl) (fun q hq => ?_) uF_1 (fun j hj => uF_ne (by omega)) (fun _ _ => rfl) (fun j hj => ?_) (fun _ _ => rfl) (fun _ _ => rfl)
  · by_cases e : i2 = 55 ∧ k2 = 10
    · obtain ⟨rfl, rfl⟩ := e
      show _ = m.1 (20 * 55 + 10)
      rw [← s2 55 10 (by omega) (by omega)]
      obtain ⟨f, h1, h2, h3⟩ := sk_o s1 (i := 55) (by decide) rfl
      unfold FI uF
      rw [h2]
      simp only [cup, if_true]
      have := h3 10 (by decide)
      cases hf : f 10 with
      | inl z => rw [hf] at this; cases this
      | inr z => rfl
    · rw [FI_F (by omega), s2 i2 k2 hi2 hk2]; rfl
  · rw [FJ_self s1 (by decide) rfl]; rfl
  · rw [AI_F]; exact s4 i2 h2
  · rw [AJ_F]; exact s5 i2 h2
  · rw [FR_F (by omega), s6]; rfl
  · rw [FR_F (by omega), FR_F (by omega)]; exact r3 q hq
  · exact if_neg (by omega)
theorem RP_pA {o : Option Nat} {c : Nat → Nat} {m : MS} {u : CS} (h : RP o c m u) {i t n : Nat} {g : Nat → Int32} (hi : i < 57) (ht : tbl.getD i (9, []) = (0, [t, n])) (hz : i ≠ 48) : RP o c (upA m i g) (uA u i g) := by
  obtain ⟨⟨s1, s2, s3, s4, s5, s6, s7⟩, r2, r3, r4⟩ := h
  refine RP_low (u := u) (m := m) ⟨⟨s1, s2, s3, s4, s5, s6, s7⟩, r2, r3, r4⟩ ⟨sk_uA s1 hi, fun i2 k2 hi2 hk2 => ?_, ?_, fun i2 h2 => ?_, fun i2 h2 => ?_, ?_, s7⟩ (wf_uA r2) (fun q hq => ?_) uA_1 (fun j hj => uA_ne (by omega)) (fun _ _ => rfl) (fun _ _ => rfl) (fun j hj => if_neg (by omega)) (fun _ _ => rfl)
  · rw [FI_A]; exact s2 i2 k2 hi2 hk2
  · rw [FJ_A]; exact s3
  · by_cases e : i2 = i
    · subst e
      rw [AI_self s1 hi ht]
      exact (if_pos rfl).symm
    · rw [AI_A e, s4 i2 h2]
      exact (if_neg e).symm
  · rw [AJ_A]; exact s5 i2 h2
  · rw [FR_A]; exact s6
  · rw [FR_A, FR_A]; exact r3 q hq
theorem RP_pJ {o : Option Nat} {c : Nat → Nat} {m : MS} {u : CS} (h : RP o c m u) {i n : Nat} {g : Nat → Int64} (hi : i < 57) (ht : tbl.getD i (9, []) = (1, [n])) (hz : i ≠ 48) : RP o c (upJ m i g) (uJ u i g) := by
  obtain ⟨⟨s1, s2, s3, s4, s5, s6, s7⟩, r2, r3, r4⟩ := h
  refine RP_low (u := u) (m := m) ⟨⟨s1, s2, s3, s4, s5, s6, s7⟩, r2, r3, r4⟩ ⟨sk_uJ s1 hi, fun i2 k2 hi2 hk2 => ?_, ?_, fun i2 h2 => ?_, fun i2 h2 => ?_, ?_, s7⟩ (wf_uJ r2) (fun q hq => ?_) uJ_1 (fun j hj => uJ_ne (by omega)) (fun _ _ => rfl) (fun _ _ => rfl) (fun _ _ => rfl) (fun j hj => if_neg (by omega))
  · rw [FI_J]; exact s2 i2 k2 hi2 hk2
  · rw [FJ_J]; exact s3
  · rw [AI_J]; exact s4 i2 h2
  · by_cases e : i2 = i
    · subst e
      rw [AJ_self s1 hi ht]
      exact (if_pos rfl).symm
    · rw [AJ_J e, s5 i2 h2]
      exact (if_neg e).symm
  · rw [FR_J]; exact s6
  · rw [FR_J, FR_J]; exact r3 q hq
end
