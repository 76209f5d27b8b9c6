set_option maxRecDepth 100000
def TKN (m : MS) (K nm Nk W : Nat → Nat) (p p2 : Nat) : Prop := ∀ j, p ≤ j → j < p2 → m.2.2.1 6 j = I (K j : Nat) ∧ K j < 46 ∧ (K j = 3 → m.2.2.1 7 j = I (nm (Nk j) : Nat) ∧ Nk j < 1400 ∧ m.2.2.1 42 j = I (W j : Nat) ∧ W j ≤ 32)
def HDL (K Nk W : Nat → Nat) (nm : Nat → Nat) (L p j : Nat) (st : Nat) (v0 v : MS) (d : List Nat) : Prop := Kuc v0 v ∧ v.1 441 = I ((st + d.length : Nat) : Int) ∧ (∀ k x, d[k]? = some x → v.2.2.1 23 (st + k) = I (nm x : Nat)) ∧ d.Nodup ∧ (∀ x, x ∈ d → x < 1400 ∧ ∃ i, (p ≤ i ∧ i < j) ∧ K i = 3 ∧ Nk i = x ∧ W i ≤ L) ∧ (st + d.length < 24000 → ∀ i, p ≤ i → i < j → K i = 3 → W i ≤ L → Nk i ∈ d) ∧ (d ≠ [] → st + d.length ≤ 24000)
section
variable {m v u v0 m1 m2 m3 mi : MS} {K nm W Nk : Nat → Nat} {x y N i j f L st p p2 k : Nat} {d : List Nat} {a b c e : Int32}
theorem at_p (h : k < 24000) : hm_Co_at N u (I (k : Nat)) = some (u, u.2.2.1 23 k) := by
  unfold hm_Co_at hb_Co_at_0 hb_Co_at_11 hb_Co_at_21
  rw [decide_eq_false (p := I (k : Nat) < 0) (fun z => by have := (I_lt (x := (k : Nat)) (y := 0) (by omega) (by omega) (by omega) (by omega)).mp z; omega), br_fq, decide_eq_true (p := I (k : Nat) < 24000) ((I_lt (x := (k : Nat)) (y := 24000) (by omega) (by omega) (by omega) (by omega)).mpr (by omega)), br_tq, show inb (I (k : Nat)) 24000 = true from (I_inb (by omega) (by omega)).mpr ⟨by omega, by omega⟩, tnI (n := k) rfl (by omega)]
  rfl
theorem d_len (h : HDL K Nk W nm L p j st v0 v d) : d.length ≤ 1400 := nd_len 1400 d h.2.2.2.1 (fun x hx => (h.2.2.2.2.1 x hx).1)
theorem hold_lp (hn : NMJ nm) (hst : 1 ≤ st ∧ st ≤ 100000) (hp2 : p2 ≤ 4001) (tk : TKN v0 K nm Nk W p p2) (h709 : v0.1 709 = I (L : Nat)) (hL : L ≤ 40) : ∀ (M : Nat), (∀ (j : Nat) (v : MS) (d : List Nat), p ≤ j → j ≤ p2 → HDL K Nk W nm L p j st v0 v d → PK (fun u r => ∃ d2, HDL K Nk W nm L p p2 st v0 u d2 ∧ r = I ((d2.length : Nat) : Int)) ((hg_Cm_hold N M).1 v (I ((p2 : Nat) - 1 : Int)) (I (st : Nat)) (I (j : Nat)))) ∧ (∀ (j i : Nat) (v : MS) (d : List Nat), p ≤ j → j < p2 → K j = 3 → W j ≤ L → i ≤ d.length → (∀ k, k < i → d[k]? ≠ some (Nk j)) → HDL K Nk W nm L p j st v0 v d → PK (fun u r => ∃ d2, HDL K Nk W nm L p p2 st v0 u d2 ∧ r = I ((d2.length : Nat) : Int)) ((hg_Cm_hold N M).2 v (I ((p2 : Nat) - 1 : Int)) (I (st : Nat)) (I (j : Nat)) (I (nm (Nk j) : Nat)) (I ((st + i : Nat) : Int)))) := by
  intro M
  induction M with
  | zero => exact ⟨fun _ _ _ _ _ _ => pk_none, fun _ _ _ _ _ _ _ _ _ _ _ => pk_none⟩
  | succ M ih =>
    have nx : ∀ (j : Nat) (v : MS) (d : List Nat), p ≤ j → j < p2 → HDL K Nk W nm L p (j + 1) st v0 v d → PK (fun u r => ∃ d2, HDL K Nk W nm L p p2 st v0 u d2 ∧ r = I ((d2.length : Nat) : Int)) (hb_Cm_hold_113 N (hg_Cm_hold N M) v (I ((p2 : Nat) - 1 : Int)) (I (st : Nat)) (I (j : Nat))) := fun j v d h1 h2 hd => by
      unfold hb_Cm_hold_113
      rw [i_suc]
      exact ih.1 (j + 1) v d (by omega) (by omega) hd
    refine ⟨fun j v d h1 h2 hd => ?_, fun j i v d h1 h2 hk hw hi hno hd => ?_⟩
    · show PK _ (hb_Cm_hold_11 N (hg_Cm_hold N M) v (I ((p2 : Nat) - 1 : Int)) (I (st : Nat)) (I (j : Nat)))
      unfold hb_Cm_hold_11
      refine pk_br (fun z => pk_some ?_) (fun z => pk_ck (fun _ => ?_))
      · have z := (I_lt (x := (p2 : Nat) - 1) (y := (j : Nat)) (by omega) (by omega) (by omega) (by omega)).mp (of_decide_eq_true z)
        have e : j = p2 := by omega
        subst e
        refine ⟨d, hd, ?_⟩
        rw [hd.2.1, I_sub]
        congr 1
        omega
      · have z : ¬ ((p2 : Nat) - 1 : Int) < (j : Nat) := fun y => of_decide_eq_false z ((I_lt (x := (p2 : Nat) - 1) (y := (j : Nat)) (by omega) (by omega) (by omega) (by omega)).mpr y)
        have hj : j < p2 := by omega
        obtain ⟨t1, t2, t3⟩ := tk j h1 hj
        have r6 : v.2.2.1 6 j = I (K j : Nat) := by rw [hd.1.2.1 6 (by decide)]; exact t1
        rw [tnI (n := j) rfl (by omega), r6, I_dn (a := K j) (b := 3) (s := 3) (by omega) (by decide) rfl]
        have skip : (K j = 3 → L < W j) → HDL K Nk W nm L p (j + 1) st v0 v d := fun hs => by
          obtain ⟨d1, d2, d3, d4, d5, d6, d7⟩ := hd
          refine ⟨d1, d2, d3, d4, fun x hx => ?_, fun hr i hi1 hi2 hi3 hi4 => ?_, d7⟩
          · obtain ⟨a1, i, a2, a3⟩ := d5 x hx
            exact ⟨a1, i, ⟨a2.1, by omega⟩, a3⟩
          · by_cases hij : i = j
            · rw [hij] at hi3 hi4
              have := hs hi3
              omega
            · exact d6 hr i hi1 (by omega) hi3 hi4
        by_cases k3 : K j = 3
        · rw [decide_eq_true k3, br_tq]
          obtain ⟨t4, t5, t6, t7⟩ := t3 k3
          have r42 : v.2.2.1 42 j = I (W j : Nat) := by rw [hd.1.2.1 42 (by decide)]; exact t6
          have r7 : v.2.2.1 7 j = I (nm (Nk j) : Nat) := by rw [hd.1.2.1 7 (by decide)]; exact t4
          rw [r42, r7, hd.1.1 709 (by decide), h709]
          refine pk_ck (fun _ => pk_br (fun z => ?_) (fun z => pk_ck (fun _ => ?_)))
          · have z := (I_lt (x := (L : Nat)) (y := (W j : Nat)) (by omega) (by omega) (by omega) (by omega)).mp (of_decide_eq_true z)
            exact nx j v d h1 hj (skip (fun _ => by omega))
          · have z : ¬ ((L : Nat) : Int) < (W j : Nat) := fun y => of_decide_eq_false z ((I_lt (x := (L : Nat)) (y := (W j : Nat)) (by omega) (by omega) (by omega) (by omega)).mpr y)
            have := ih.2 j 0 v d h1 hj k3 (by omega) (Nat.zero_le _) (fun k hk => absurd hk (by omega)) hd
            exact this
        · rw [decide_eq_false k3, br_fq]
          exact nx j v d h1 hj (skip (fun z => absurd z k3))
    · show PK _ (hb_Cm_hold_60 N (hg_Cm_hold N M) v (I ((p2 : Nat) - 1 : Int)) (I (st : Nat)) (I (j : Nat)) (I (nm (Nk j) : Nat)) (I ((st + i : Nat) : Int)))
      obtain ⟨t1, t2, t3⟩ := tk j h1 h2
      obtain ⟨t4, t5, t6, t7⟩ := t3 hk
      have dl := d_len hd
      have hd0 := hd
      obtain ⟨d1, d2, d3, d4, d5, d6, d7⟩ := hd0
      have fnd1 : Nk j ∈ d → HDL K Nk W nm L p (j + 1) st v0 v d := fun hm => by
        refine ⟨d1, d2, d3, d4, fun x hx => ?_, fun hr i hi1 hi2 hi3 hi4 => ?_, d7⟩
        · obtain ⟨a1, i, a2, a3⟩ := d5 x hx
          exact ⟨a1, i, ⟨a2.1, by omega⟩, a3⟩
        · by_cases hij : i = j
          · rw [hij]; exact hm
          · exact d6 hr i hi1 (by omega) hi3 hi4
      unfold hb_Cm_hold_60
      rw [d2]
      refine pk_br (fun z => ?_) (fun z => ?_)
      · have z := (I_le (x := (st + d.length : Nat)) (y := (st + i : Nat)) (by omega) (by omega) (by omega) (by omega)).mp (of_decide_eq_true z)
        have ei : i = d.length := by omega
        subst ei
        have nin : Nk j ∉ d := fun hm => by
          obtain ⟨k, hk1, hk2⟩ := List.getElem_of_mem hm
          exact hno k hk1 (by rw [List.getElem?_eq_getElem hk1, hk2])
        unfold hb_Cm_hold_92
        rw [d2, decide_eq_true (p := I ((st + d.length : Nat) : Int) = I ((st + d.length : Nat) : Int)) rfl, br_tq]
        refine pk_bnd (fun w r9 x9 => ?_)
        have fu : Kuc v0 w := yu_hm_Co_put (u0 := v0) d1 w r9 x9
        have fe : F v 441 = ((st + d.length : Nat) : Int) := by
          unfold F
          rw [d2, I_ti (by omega) (by omega)]
        obtain ⟨p1, p2'⟩ := put_pk (u := v) (N := N) w r9 x9
        rw [fe] at p2'
        rcases p2' with ⟨pa, pb, pc⟩ | ⟨pa, pb⟩
        · refine nx j w (d ++ [Nk j]) h1 h2 ⟨fu, ?_, fun k x hx => ?_, ?_, fun x hx => ?_, fun hr i hi1 hi2 hi3 hi4 => ?_, fun _ => ?_⟩
          · rw [I_F (k := 441), pb, List.length_append, List.length_singleton]
            congr 1
          · rw [pc, Int.toNat_natCast]
            by_cases hkd : k < d.length
            · rw [List.getElem?_append_left hkd] at hx
              rw [upd_no (by omega)]
              exact d3 k x hx
            · rw [List.getElem?_append_right (by omega)] at hx
              have e0 : k - d.length = 0 := by
                cases hkk : k - d.length with
                | zero => rfl
                | succ n => rw [hkk] at hx; cases hx
              rw [e0] at hx
              injection hx with hx
              rw [show k = d.length by omega, upd_at, hx]
          · refine List.nodup_append.mpr ⟨d4, List.nodup_cons.mpr ⟨List.not_mem_nil, List.nodup_nil⟩, fun x hx y hy => ?_⟩
            rw [List.mem_singleton] at hy
            rw [hy]
            exact fun z => nin (z ▸ hx)
          · rcases List.mem_append.mp hx with hx | hx
            · obtain ⟨a1, i, a2, a3⟩ := d5 x hx
              exact ⟨a1, i, ⟨a2.1, by omega⟩, a3⟩
            · rw [List.mem_singleton] at hx
              rw [hx]
              exact ⟨t5, j, ⟨h1, by omega⟩, hk, rfl, hw⟩
          · rw [List.length_append, List.length_singleton] at hr
            by_cases hij : i = j
            · rw [hij]; exact List.mem_append.mpr (Or.inr (List.mem_singleton.mpr rfl))
            · exact List.mem_append.mpr (Or.inl (d6 (by omega) i hi1 (by omega) hi3 hi4))
          · rw [List.length_append, List.length_singleton]
            omega
        · rw [pb]
          refine nx j v d h1 h2 ⟨d1, d2, d3, d4, fun x hx => ?_, fun hr => absurd hr (by omega), d7⟩
          obtain ⟨a1, i, a2, a3⟩ := d5 x hx
          exact ⟨a1, i, ⟨a2.1, by omega⟩, a3⟩
      · have z : ¬ ((st + d.length : Nat) : Int) ≤ (st + i : Nat) := fun y => of_decide_eq_false z ((I_le (x := (st + d.length : Nat)) (y := (st + i : Nat)) (by omega) (by omega) (by omega) (by omega)).mpr y)
        have hi2 : i < d.length := by omega
        have h24 := d7 (fun z => by rw [z] at hi2; exact absurd hi2 (Nat.not_lt_zero _))
        rw [at_p (by omega), bnd_s]
        have ed : d[i]? = some d[i] := List.getElem?_eq_getElem hi2
        have e3 := d3 i _ ed
        rw [e3]
        have md : d[i] ∈ d := List.getElem_mem hi2
        refine pk_br (fun z => ?_) (fun z => ?_)
        · have z := nmi_i hn (d5 _ md).1 t5 (of_decide_eq_true z)
          unfold hb_Cm_hold_92
          rw [d2, decide_eq_false (p := I ((st + i : Nat) : Int) = I ((st + d.length : Nat) : Int)) (fun y => by have := (I_eq (x := (st + i : Nat)) (y := (st + d.length : Nat)) (by omega) (by omega) (by omega) (by omega)).mp y; omega), br_fq]
          exact nx j v d h1 h2 (fnd1 (z ▸ md))
        · rw [i_suc]
          refine ih.2 j (i + 1) v d h1 h2 hk hw (by omega) (fun k hk2 => ?_) hd
          by_cases hki : k = i
          · rw [hki, ed]
            intro y
            injection y with y
            exact of_decide_eq_false z (by rw [y])
          · exact hno k (by omega)
theorem hold_p (hn : NMJ nm) (hst : 1 ≤ st ∧ st ≤ 100000) (h441 : v.1 441 = I (st : Nat)) (hp : p < p2) (hp2 : p2 ≤ 4001) (tk : TKN v K nm Nk W p p2) (h709 : v.1 709 = I (L : Nat)) (hL : L ≤ 40) : PK (fun u r => ∃ d2, HDL K Nk W nm L p p2 st v u d2 ∧ r = I ((d2.length : Nat) : Int)) (hm_Cm_hold N v (I (p : Nat)) (I ((p2 : Nat) - 1 : Int))) := by
  unfold hm_Cm_hold hb_Cm_hold_0
  rw [h441]
  exact (hold_lp hn hst hp2 tk h709 hL N).1 p v [] (Nat.le_refl _) (by omega) ⟨Ku_rf, h441, (fun k x hx => by rw [List.getElem?_nil] at hx; cases hx), List.nodup_nil, fun x hx => absurd hx (List.not_mem_nil), fun _ i h1 h2 => absurd h2 (by omega), fun z => absurd rfl z⟩
end
