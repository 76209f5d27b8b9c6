set_option maxRecDepth 100000
def AFT (v u : MS) : Prop := (∀ k, k ∉ [441, 709, 711, 712] → u.1 k = v.1 k) ∧ (∀ k, k ≠ 23 → k ≠ 32 → u.2.2.1 k = v.2.2.1 k) ∧ v.1 441 ≤ u.1 441
section
variable {m v u v0 m1 m2 m3 mi : MS} {K nm W Nk : Nat → Nat} {sc sc1 sc2 t t3 : SCT} {e3 : List Nat × List Nat × Nat} {x y N i j f L st p p2 q q1 q2 k lo li ni n2 ν π cm X1 X2 : Nat} {d lp : List Nat} {a b c e : Int32} {gd R1 R2 Z1 Z2 : Bool} {B1 B2 : MS → Prop}
theorem hold_b (h24 : 24000 ≤ F v 441) {a b : Int32} : PK (fun u r => u = v ∧ r = 0) (hm_Cm_hold N v a b) := by
  have lp : ∀ (M : Nat), (∀ j : Int32, PK (fun u r => u = v ∧ r = 0) ((hg_Cm_hold N M).1 v b (v.1 441) j)) ∧ ∀ j y : Int32, PK (fun u r => u = v ∧ r = 0) ((hg_Cm_hold N M).2 v b (v.1 441) j y (v.1 441)) := by
    intro M
    induction M with
    | zero => exact ⟨fun _ => pk_none, fun _ _ => pk_none⟩
    | succ M ih =>
      refine ⟨fun j => ?_, fun j y => ?_⟩
      · show PK _ (hb_Cm_hold_11 N (hg_Cm_hold N M) v b (v.1 441) j)
        unfold hb_Cm_hold_11 hb_Cm_hold_113
        refine pk_br (fun _ => pk_some ⟨rfl, ?_⟩) (fun _ => pk_ck (fun _ => pk_br (fun _ => pk_ck (fun _ => pk_br (fun _ => ih.1 _) (fun _ => pk_ck (fun _ => ih.2 _ _)))) (fun _ => ih.1 _)))
        rw [I_F (k := 441), I_sub, Int.sub_self]
        rfl
      · show PK _ (hb_Cm_hold_60 N (hg_Cm_hold N M) v b (v.1 441) j y (v.1 441))
        unfold hb_Cm_hold_60 hb_Cm_hold_92 hb_Cm_hold_113
        rw [decide_eq_true (Int32.le_refl (v.1 441)), br_tq, decide_eq_true (p := v.1 441 = v.1 441) rfl, br_tq]
        refine pk_bnd (fun w r x => ?_)
        rcases (put_pk (u := v) (N := N) w r x).2 with ⟨z, _⟩ | ⟨_, z⟩
        · omega
        · rw [z]; exact ih.1 _
  exact (lp N).1 _
theorem hold_q (hn : NMJ nm) (h1 : 1 ≤ F v 441) (hp : p < p2) (hp2 : p2 ≤ 4001) (tk : TKN v K nm Nk W p p2) (h709 : v.1 709 = I (L : Nat)) (hL : L ≤ 40) : PK (fun u r => Kuc v u ∧ ∃ d : List Nat, r = I ((d.length : Nat) : Int) ∧ d.Nodup ∧ (∀ x, x ∈ d → x < 1400 ∧ ∃ i, (p ≤ i ∧ i < p2) ∧ K i = 3 ∧ Nk i = x ∧ W i ≤ L) ∧ (u.1 441 < 24000 → ∀ i, p ≤ i → i < p2 → K i = 3 → W i ≤ L → Nk i ∈ d)) (hm_Cm_hold N v (I (p : Nat)) (I ((p2 : Nat) - 1 : Int))) := by
  by_cases h24 : 24000 ≤ F v 441
  · refine pk_mo (hold_b h24) (fun u r q => ?_)
    rw [q.1]
    refine ⟨Ku_rf, [], q.2, List.nodup_nil, fun x hx => absurd hx (List.not_mem_nil), fun z => ?_⟩
    have f := F_r v 441
    rw [I_F (k := 441)] at z
    have := (I_lt (y := 24000) f.1 f.2 (by decide) (by decide)).mp z
    omega
  · have e : v.1 441 = I (((F v 441).toNat : Nat) : Int) := by rw [I_F (k := 441), Int.toNat_of_nonneg (by omega)]
    refine pk_mo (hold_p (st := (F v 441).toNat) hn ⟨by omega, by omega⟩ e hp hp2 tk h709 hL) (fun u r q => ?_)
    obtain ⟨d, hd, hr⟩ := q
    have dl := d_len hd
    obtain ⟨d1, d2, d3, d4, d5, d6, d7⟩ := hd
    refine ⟨d1, d, hr, d4, d5, fun z => d6 ?_⟩
    rw [d2] at z
    have := (I_lt (x := ((F v 441).toNat + d.length : Nat)) (y := 24000) (by omega) (by omega) (by decide) (by decide)).mp z
    omega
theorem nd_sub : ∀ {a b : List Nat}, a.Nodup → (∀ x, x ∈ a → x ∈ b) → a.length ≤ b.length
  | [], _, _, _ => Nat.zero_le _
  | x :: a, b, h, k => by
    obtain ⟨h1, h2⟩ := List.nodup_cons.mp h
    have hx := k x (List.mem_cons_self ..)
    have := nd_sub (a := a) (b := b.erase x) h2 (fun y hy => (List.mem_erase_of_ne (fun (z : y = x) => h1 (by rw [← z]; exact hy))).mpr (k y (List.mem_cons_of_mem _ hy)))
    rw [List.length_erase_of_mem hx] at this
    have := List.length_pos_of_mem hx
    rw [List.length_cons]
    omega
theorem CNl_fr2 : ∀ {sc : SCT}, CNl m nm sc → (∀ j, j < sc.length → v.2.2.1 40 j = m.2.2.1 40 j) → (∀ j, j < tot sc → v.2.2.1 39 j = m.2.2.1 39 j) → CNl v nm sc
  | [], _, _, _ => trivial
  | e :: t, ⟨c1, c2, c3⟩, h1, h2 => by
    refine ⟨by rw [h1 t.length (Nat.lt_succ_self _)]; exact c1, fun k x hx => ?_, CNl_fr2 c3 (fun j hj => h1 j (Nat.lt_succ_of_lt hj)) (fun j hj => h2 j (Nat.lt_of_lt_of_le hj (Nat.le_add_right _ _)))⟩
    rw [h2 (tot t + k) ?_]
    · exact c2 k x hx
    · obtain ⟨hk, _⟩ := List.getElem?_eq_some_iff.mp hx
      exact Nat.add_lt_add_left hk _
theorem AFT_rf : AFT v v := ⟨fun _ _ => rfl, fun _ _ _ => rfl, Int32.le_refl _⟩
theorem AFT_tr {w : MS} (h : AFT v u) (k : AFT u w) : AFT v w := ⟨fun j hj => (k.1 j hj).trans (h.1 j hj), fun j a b => (k.2.1 j a b).trans (h.2.1 j a b), Int32.le_trans h.2.2 k.2.2⟩
theorem AFT_u (k : Kuc v u) : AFT v u := ⟨fun j hj => k.1 j (fun z => hj (by rw [z]; decide)), fun j h1 _ => k.2.1 j h1, k.2.2⟩
theorem AFT_I {y : Int32} (h : k = 709 ∨ k = 711 ∨ k = 712) : AFT v (upI v k y) := ⟨fun j hj => upI_ne (fun z => hj (by rw [z]; rcases h with h | h | h <;> rw [h] <;> decide)), fun _ _ _ => rfl, by rw [upI_ne (by omega)]; exact Int32.le_refl _⟩
theorem AFT_A {g : Nat → Int32} : AFT v (upA v 32 g) := ⟨fun _ _ => rfl, fun j _ h => upA_no h, Int32.le_refl _⟩
theorem AFT_fr (h : AFT v u) : FRC v u := ⟨fun k hk => h.1 k (by simp only [List.mem_cons, List.not_mem_nil, or_false]; omega), fun k hk => h.2.1 k (by omega) (by omega)⟩
end
