/-! goOn, and goOn as long as its states are safe: the same -/
set_option maxRecDepth 100000
section
variable {α β : Type}
theorem bnd_cg {o : Option (MS × α)} {f g : MS → α → Option (MS × β)} (h : ∀ u r, o = some (u, r) → f u r = g u r) : bnd o f = bnd o g := by
  cases o with
  | none => rfl
  | some y =>
    obtain ⟨u, r⟩ := y
    exact h u r rfl
end
/-- one step there, whatever comes behind it -/
def stC (N : Nat) (u : MS) (p : Nat) : Option (MS × Unit) := bnd (hm_Co_at N u (u.1 1105)) (fun u17 r17 => br (decide (r17 = 39)) (bnd (hm_Co_at N u17 ((u17.1 1105) + 1)) (fun u29 r29 => bnd (hm_Ma_predefined N u29 p r29) (fun u _ => some (u, ())))) (br (decide (r17 = 40)) (bnd (hm_Co_at N u17 ((u17.1 1105) + 1)) (fun u24 r24 => bnd (hm_Ma_toward N u24 p r24) (fun u _ => some (u, ())))) (br (decide (8 ≤ r17)) (br (decide (18 ≤ r17)) (bnd (hm_Ma_flow N u17 p r17) (fun u _ => some (u, ()))) (bnd (hm_Ma_value N u17 p r17) (fun u _ => some (u, ())))) (bnd (hm_Ma_making N u17 p r17) (fun u _ => some (u, ()))))))
section
variable {Sf : MS → Int32 → Prop} {T : Nat → Option (Nat × Nat × List Nat × Nat × Nat)} {Fv : Int64 → Int64 → Prop} {P : Int64 → Prop} {u w : MS} {PR N q i h m g x j wb nb cb rk c f : Nat} {L : List Nat} {G G' : MS → Nat → Int32 → Option (MS × Int32)} {v : Nat}
theorem stC_k {K : MS → Option (MS × Int32)} : bnd (stC N u q) (fun w _ => K w) = bnd (hm_Co_at N u (u.1 1105)) (fun u17 r17 => br (decide (r17 = 39)) (bnd (hm_Co_at N u17 ((u17.1 1105) + 1)) (fun u29 r29 => bnd (hm_Ma_predefined N u29 q r29) (fun u31 _ => K u31))) (br (decide (r17 = 40)) (bnd (hm_Co_at N u17 ((u17.1 1105) + 1)) (fun u24 r24 => bnd (hm_Ma_toward N u24 q r24) (fun u26 _ => K u26))) (br (decide (8 ≤ r17)) (br (decide (18 ≤ r17)) (bnd (hm_Ma_flow N u17 q r17) (fun u19 _ => K u19)) (bnd (hm_Ma_value N u17 q r17) (fun u20 _ => K u20))) (bnd (hm_Ma_making N u17 q r17) (fun u21 _ => K u21))))) := by
  unfold stC
  simp only [bb_e, bnd_br, bnd_so]
/-- what a step leaves, there -/
theorem stC_pk (M : MIc T Fv P PR q u i h m L g x j wb nb cb rk) (t9 : F u 1109 = 0) (t8 : F u 1108 = 0) (hf : PHc T u q i x rk ≤ c) (hN : 600000000010 ≤ N) : PK (fun w (_ : Unit) => ∃ PR2, OPQ T Fv P PR2 q c w) (stC N u q) := by
  intro w r e
  have ok := op_ok (K := fun w => @ite _ (∃ PR2, OPQ T Fv P PR2 q c w) (Classical.propDecidable _) (some (w, (0 : Int32))) none) (Q := fun _ _ => True) M t9 t8 hf hN (fun w PR2 o => by
    rw [@if_pos _ (Classical.propDecidable _) (⟨PR2, o⟩ : ∃ PR2, OPQ T Fv P PR2 q c w)]
    exact ok_some.mpr trivial)
  rw [← stC_k, e] at ok
  by_cases z : ∃ PR2, OPQ T Fv P PR2 q c w
  · exact z
  · exfalso
    have e2 : bnd (some (w, r)) (fun w (_ : Unit) => @ite _ (∃ PR2, OPQ T Fv P PR2 q c w) (Classical.propDecidable _) (some (w, (0 : Int32))) none) = none := @if_neg _ (Classical.propDecidable _) z _ _ _
    rw [e2] at ok
    obtain ⟨_, _, e3, -⟩ := ok
    cases e3
theorem q206_eq (l : LPQ T Fv P PR q c u) (hs : Sf u (I ((v : Nat) : Int))) (hG : ∀ w, LPQ T Fv P PR q c w → G w q (I ((v + 1 : Nat) : Int)) = G' w q (I ((v + 1 : Nat) : Int))) (hN : 3000000 ≤ N) : q206 Sf N G u q (I ((v : Nat) : Int)) = hb_Ma_goOn_206 N G' u q (I ((v : Nat) : Int)) := by
  have d : DWc Fv P PR u ∧ CTX Fv P u := by
    rcases l with ⟨⟨i, h, m, L, g, x, j, wb, nb, cb, rk, M, hf⟩, -⟩ | ⟨G, -⟩ | ⟨G, -⟩
    · exact ⟨M.1.1, M.1.2.1⟩
    · exact ⟨G.1, G.2.1⟩
    · exact ⟨G.1, G.2.1⟩
  unfold q206 hb_Ma_goOn_206
  rw [rsc_t hs, show I ((v : Nat) : Int) + 1 = I ((v + 1 : Nat) : Int) from addN]
  exact bnd_cg (fun w r e => hG w (LPQ_w l (pk_ok (settle_ok (N := N) d.1 d.2 hN) w r e)))
theorem q195_eq (hS : ∀ PR c u (v : Nat), OPQ T Fv P PR q c u → c + v + 1 ≤ 900000000 → Sf u (I ((v : Nat) : Int))) (o : OPQ T Fv P PR q c u) (hv : c + v + 1 ≤ 900000000) (hG : ∀ w, LPQ T Fv P PR q c w → G w q (I ((v + 1 : Nat) : Int)) = G' w q (I ((v + 1 : Nat) : Int))) (hN : 3000000 ≤ N) : q195 Sf N G u q (I ((v : Nat) : Int)) = hb_Ma_goOn_195 N G' u q (I ((v : Nat) : Int)) := by
  have hs := hS _ _ _ _ o hv
  have r9 := F_r u 1109
  unfold q195 hb_Ma_goOn_195
  rw [rsc_t hs]
  have lp : F u 1109 = 0 → LPQ T Fv P PR q c u := fun z => by
    rcases o with o | o | o | o
    · exact Or.inl o
    · exfalso
      obtain ⟨v, how, ar, t, -, -, -, -, hh, ha, rfl⟩ := o
      have e : F (wi (wi v 1109 how) 1111 ar) 1109 = 0 := z
      rw [F_wi (by omega) (by omega), if_neg (by decide), F_wi (by omega) (by omega), if_pos rfl] at e
      omega
    · exact Or.inr (Or.inl o)
    · exact Or.inr (Or.inr o)
  by_cases z : F u 1109 = 0
  · rw [I_F' z, show decide (I 0 = 0) = true from rfl, br_t, br_t]
    exact q206_eq (lp z) hs hG hN
  · have er : ERR T Fv P PR q c u := by
      rcases o with o | o | o | o
      · exact absurd o.2.1 z
      · exact o
      · exact absurd o.2.2.1 z
      · exact absurd o.2.2.1 z
    rw [I_F (k := 1109), show decide (I (F u 1109) = 0) = false from by rw [show (0 : Int32) = I 0 from rfl, decE r9.1 r9.2 (by omega) (by omega)]; exact decide_eq_false z, br_f, br_f]
    refine bnd_cg (fun w r e => ?_)
    rcases pk_ok (raise_ok (N := N) er hN) w r e with hw | hw
    · exact q206_eq (Or.inl hw) (hS _ _ _ _ (Or.inl hw) hv) hG hN
    · exact q206_eq (Or.inr (Or.inl hw)) (hS _ _ _ _ (Or.inr (Or.inr (Or.inl hw))) hv) hG hN
theorem qgo_eq (hN : 600000000010 ≤ N) (hS : ∀ PR c u (v : Nat), OPQ T Fv P PR q c u → c + v + 1 ≤ 900000000 → Sf u (I ((v : Nat) : Int))) : ∀ (K f PR v : Nat) (u : MS), f + v ≤ 900000000 → LPQ T Fv P PR q f u → qgo Sf N K u q (I ((v : Nat) : Int)) = hg_Ma_goOn N K u q (I ((v : Nat) : Int)) := by
  intro K
  induction K with
  | zero => intro f PR v u _ _; rfl
  | succ K ih =>
    intro f PR v u hv l
    show q67 Sf N (qgo Sf N K) u q (I ((v : Nat) : Int)) = hb_Ma_goOn_67 N (hg_Ma_goOn N K) u q (I ((v : Nat) : Int))
    have e219 : hb_Ma_goOn_219 N (qgo Sf N K) u q = hb_Ma_goOn_219 N (hg_Ma_goOn N K) u q := rfl
    unfold q67 hb_Ma_goOn_67
    rw [e219, ← stC_k (K := fun w => q195 Sf N (qgo Sf N K) w q (I ((v : Nat) : Int))), ← stC_k (K := fun w => hb_Ma_goOn_195 N (hg_Ma_goOn N K) w q (I ((v : Nat) : Int)))]
    rcases l with ⟨⟨i, h, m, L, g, x, j, wb, nb, cb, rk, M, hf⟩, t9, t8⟩ | l | l
    · have st := stC_pk (N := N) (c := f - 1) M t9 t8 (by omega) hN
      rw [bnd_cg (fun w r e => ?_)]
      obtain ⟨PR2, o⟩ := st w r e
      exact q195_eq hS o (by omega) (fun w l => ih (f - 1) PR2 (v + 1) w (by omega) l) (by omega)
    · have e3 := l.2.1
      rw [I_F' e3]
      rfl
    · by_cases z : F u (pq q 9) = 0
      · have r8 := F_r u 1108
        rw [I_F (k := 1108), show decide (I (F u 1108) = 0) = false from by rw [show (0 : Int32) = I 0 from rfl, decE r8.1 r8.2 (by omega) (by omega)]; exact decide_eq_false (l.2.1.2 z), br_f, br_f]
      · have r9 := F_r u (pq q 9)
        rw [I_F (k := pq q 9), show decide (I (F u (pq q 9)) = 0) = false from by rw [show (0 : Int32) = I 0 from rfl, decE r9.1 r9.2 (by omega) (by omega)]; exact decide_eq_false z, br_f, br_f]
end
