/-! the names that a fun holds, there: in the order of their tokens -/
set_option maxRecDepth 100000
/-- n tokens from p on: names bound at level L or further out come behind l, each once -/
def hdn (Nk K W : Nat → Nat) (L : Nat) : Nat → Nat → List Nat → List Nat
  | 0, _, l => l
  | n + 1, p, l => hdn Nk K W L n (p + 1) (if K p = 3 ∧ W p ≤ L ∧ Nk p ∉ l then l ++ [Nk p] else l)
/-- tokens, names, levels, there -/
def TKh (m : MS) (K nm Nk W : Nat → Nat) (p p2 : Nat) : Prop := ∀ j, p ≤ j → j < p2 → m.2.2.1 6 j = I (K j : Nat) ∧ K j < 46 ∧ (K j = 3 → m.2.2.1 7 j = I (nm (Nk j) : Nat) ∧ nm (Nk j) ≤ 1401 ∧ m.2.2.1 42 j = I (W j : Nat) ∧ W j ≤ 32)
/-- names d have been written from place st on -/
def HDm (nm : Nat → Nat) (st : Nat) (v0 v : MS) (d : List Nat) : Prop := (∀ k, k ≠ 441 → v.1 k = v0.1 k) ∧ v.1 441 = I ((st + d.length : Nat) : Int) ∧ (∀ k, k ≠ 23 → v.2.2.1 k = v0.2.2.1 k) ∧ (∀ j, j < st → v.2.2.1 23 j = v0.2.2.1 23 j) ∧ (∀ k x, d[k]? = some x → v.2.2.1 23 (st + k) = I (nm x : Nat) ∧ nm x ≤ 1401) ∧ st + d.length ≤ 23990
section
variable {m v u v0 : MS} {K nm W Nk : Nat → Nat} {x y N i j f L st p p2 k n : Nat} {d l : List Nat}
theorem hdn_len : ∀ (n p : Nat) (l : List Nat), l.length ≤ (hdn Nk K W L n p l).length
  | 0, _, _ => Nat.le_refl _
  | n + 1, p, l => by
    show l.length ≤ (hdn Nk K W L n (p + 1) _).length
    split
    · have := hdn_len n (p + 1) (l ++ [Nk p])
      rw [List.length_append, List.length_singleton] at this
      omega
    · exact hdn_len n (p + 1) l
/-- few names: none is left out -/
theorem hdn_hdc : ∀ (n p : Nat) (l : List Nat), (hdn Nk K W L n p l).length ≤ 60 → hdc Nk K W (L + 1) n p l = hdn Nk K W L n p l
  | 0, _, _, _ => rfl
  | n + 1, p, l, h => by
    have h : (hdn Nk K W L n (p + 1) (if K p = 3 ∧ W p ≤ L ∧ Nk p ∉ l then l ++ [Nk p] else l)).length ≤ 60 := h
    show hdc Nk K W (L + 1) n (p + 1) (if K p = 3 ∧ W p < L + 1 ∧ Nk p ∉ l ∧ l.length < 60 then l ++ [Nk p] else l) = hdn Nk K W L n (p + 1) (if K p = 3 ∧ W p ≤ L ∧ Nk p ∉ l then l ++ [Nk p] else l)
    by_cases z : K p = 3 ∧ W p ≤ L ∧ Nk p ∉ l
    · rw [if_pos z] at h ⊢
      have := hdn_len (Nk := Nk) (K := K) (W := W) (L := L) n (p + 1) (l ++ [Nk p])
      rw [List.length_append, List.length_singleton] at this
      rw [if_pos ⟨z.1, by omega, z.2.2, by omega⟩]
      exact hdn_hdc n (p + 1) _ h
    · rw [if_neg z] at h ⊢
      rw [if_neg (fun y => z ⟨y.1, by omega, y.2.2.1⟩)]
      exact hdn_hdc n (p + 1) _ h
theorem at_j (h : k < 24000) : hm_Co_at N u (I (k : Nat)) = some (u, u.2.2.1 23 k) := by
  unfold hm_Co_at hb_Co_at_0 hb_Co_at_21
  rw [decide_eq_false (p := I (k : Nat) < 0) (fun z => by have := (I_lt (x := (k : Nat)) (y := 0) (by omega) (by omega) (by omega) (by omega)).mp z; omega), br_f, decide_eq_true (p := I (k : Nat) < 24000) ((I_lt (x := (k : Nat)) (y := 24000) (by omega) (by omega) (by omega) (by omega)).mpr (by omega)), br_t, show inb (I (k : Nat)) 24000 = true from (I_inb (by omega) (by omega)).mpr ⟨by omega, by omega⟩, ck_t, i_nt2 (p := k) (by omega)]
theorem hdj_lp (hn : NMJ nm) (hst : 1 ≤ st) (hp2 : p2 ≤ 4001) (h1p : 1 ≤ p2) (tk : TKh v0 K nm Nk W p p2) (h709 : v0.1 709 = I (L : Nat)) (hL : L ≤ 40) : ∀ (M : Nat), (∀ (j : Nat) (v : MS) (d : List Nat), p ≤ j → j ≤ p2 → HDm nm st v0 v d → PK (fun u r => HDm nm st v0 u (hdn Nk K W L (p2 - j) j d) ∧ r = I (((hdn Nk K W L (p2 - j) j d).length : Nat) : Int)) ((jg_Cm_hold N M).1 v (I ((p2 - 1 : Nat) : Int)) (I (st : Nat)) (I (j : Nat)))) ∧ (∀ (j i : Nat) (v : MS) (d : List Nat), p ≤ j → j < p2 → K j = 3 → W j ≤ L → i ≤ d.length → (∀ k, k < i → d[k]? ≠ some (Nk j)) → HDm nm st v0 v d → PK (fun u r => HDm nm st v0 u (hdn Nk K W L (p2 - j) j d) ∧ r = I (((hdn Nk K W L (p2 - j) j d).length : Nat) : Int)) ((jg_Cm_hold N M).2 v (I ((p2 - 1 : Nat) : Int)) (I (st : Nat)) (I (j : Nat)) (I (nm (Nk j) : Nat)) (I ((st + i : Nat) : Int))))
  | 0 => ⟨fun _ _ _ _ _ _ => pk_none, fun _ _ _ _ _ _ _ _ _ _ _ => pk_none⟩
  | M + 1 => by
    have ih := hdj_lp hn hst hp2 h1p tk h709 hL M
    -- one token on
    have nx : ∀ (j : Nat) (v : MS) (d d' : List Nat), p ≤ j → j < p2 → d' = (if K j = 3 ∧ W j ≤ L ∧ Nk j ∉ d then d ++ [Nk j] else d) → HDm nm st v0 v d' → PK (fun u r => HDm nm st v0 u (hdn Nk K W L (p2 - j) j d) ∧ r = I (((hdn Nk K W L (p2 - j) j d).length : Nat) : Int)) (jb_Cm_hold_113 N (jg_Cm_hold N M) v (I ((p2 - 1 : Nat) : Int)) (I (st : Nat)) (I (j : Nat))) := fun j v d d' h1 h2 he hd => by
      unfold jb_Cm_hold_113
      rw [i_suc]
      have e : hdn Nk K W L (p2 - j) j d = hdn Nk K W L (p2 - (j + 1)) (j + 1) d' := by
        rw [show p2 - j = (p2 - (j + 1)) + 1 by omega, he]; rfl
      rw [e]
      exact ih.1 (j + 1) v d' (by omega) (by omega) hd
    refine ⟨fun j v d h1 h2 hd => ?_, fun j i v d h1 h2 hk hw hi hno hd => ?_⟩
    · show PK _ (jb_Cm_hold_11 N (jg_Cm_hold N M) v (I ((p2 - 1 : Nat) : Int)) (I (st : Nat)) (I (j : Nat)))
      unfold jb_Cm_hold_11
      obtain ⟨d1, d2, d3, d4, d5, d6⟩ := hd
      refine pk_br (fun z => ?_) (fun z => ?_)
      · have z := (I_lt (x := ((p2 - 1 : Nat) : Int)) (y := ((j : Nat) : Int)) (by omega) (by omega) (by omega) (by omega)).mp (of_decide_eq_true z)
        have ej : j = p2 := by omega
        subst ej
        refine pk_some ?_
        rw [Nat.sub_self]
        refine ⟨⟨d1, d2, d3, d4, d5, d6⟩, ?_⟩
        show v.1 441 - I (st : Nat) = I ((d.length : Nat) : Int)
        rw [d2, I_sub]
        congr 1
        omega
      · have hj : j < p2 := by
          have z : ¬ (((p2 - 1 : Nat) : Int) < ((j : Nat) : Int)) := fun y => of_decide_eq_false z ((I_lt (x := ((p2 - 1 : Nat) : Int)) (y := ((j : Nat) : Int)) (by omega) (by omega) (by omega) (by omega)).mpr y)
          omega
        obtain ⟨t1, t2, t3⟩ := tk j h1 hj
        have e6 : v.2.2.1 6 j = I (K j : Nat) := by rw [d3 6 (by decide)]; exact t1
        rw [i_nt2 (p := j) (by omega), e6]
        refine pk_ck (fun _ => ?_)
        by_cases k3 : K j = 3
        · obtain ⟨t4, t5, t6, t7⟩ := t3 k3
          rw [decide_eq_true (by rw [k3]; rfl), br_t]
          refine pk_ck (fun _ => ?_)
          have e42 : v.2.2.1 42 j = I (W j : Nat) := by rw [d3 42 (by decide)]; exact t6
          have e7 : v.2.2.1 7 j = I (nm (Nk j) : Nat) := by rw [d3 7 (by decide)]; exact t4
          rw [d1 709 (by decide), h709, e42, e7]
          refine pk_br (fun z => ?_) (fun z => pk_ck (fun _ => ?_))
          · have z := (I_lt (x := ((L : Nat) : Int)) (y := ((W j : Nat) : Int)) (by omega) (by omega) (by omega) (by omega)).mp (of_decide_eq_true z)
            exact nx j v d d h1 hj (by rw [if_neg (fun y => by omega)]) ⟨d1, d2, d3, d4, d5, d6⟩
          · have z : ¬ (((L : Nat) : Int) < ((W j : Nat) : Int)) := fun y => of_decide_eq_false z ((I_lt (x := ((L : Nat) : Int)) (y := ((W j : Nat) : Int)) (by omega) (by omega) (by omega) (by omega)).mpr y)
            have := ih.2 j 0 v d h1 hj k3 (by omega) (Nat.zero_le _) (fun k hk => by omega) ⟨d1, d2, d3, d4, d5, d6⟩
            rw [Nat.add_zero] at this
            exact this
        · rw [decide_eq_false (fun y => k3 (by
            have := (I_eq (x := ((K j : Nat) : Int)) (y := 3) (by omega) (by omega) (by decide) (by decide)).mp (y.trans rfl)
            omega)), br_f]
          exact nx j v d d h1 hj (by rw [if_neg (fun y => k3 y.1)]) ⟨d1, d2, d3, d4, d5, d6⟩
    · show PK _ (jb_Cm_hold_60 N (jg_Cm_hold N M) v (I ((p2 - 1 : Nat) : Int)) (I (st : Nat)) (I (j : Nat)) (I (nm (Nk j) : Nat)) (I ((st + i : Nat) : Int)))
      have hd0 := hd
      obtain ⟨d1, d2, d3, d4, d5, d6⟩ := hd0
      obtain ⟨t1, t2, t3⟩ := tk j h1 h2
      obtain ⟨t4, t5, t6, t7⟩ := t3 hk
      unfold jb_Cm_hold_60
      rw [d2]
      refine pk_br (fun z => ?_) (fun z => ?_)
      · have z := (I_le (x := ((st + d.length : Nat) : Int)) (y := ((st + i : Nat) : Int)) (by omega) (by omega) (by omega) (by omega)).mp (of_decide_eq_true z)
        have ei : i = d.length := by omega
        subst ei
        have nin : Nk j ∉ d := fun hm => by
          obtain ⟨k, hk1, hk2⟩ := List.getElem_of_mem hm
          exact hno k hk1 (by rw [List.getElem?_eq_getElem hk1, hk2])
        unfold jb_Cm_hold_92
        rw [d2, decide_eq_true (p := I ((st + d.length : Nat) : Int) = I ((st + d.length : Nat) : Int)) rfl, br_t]
        refine pk_put d2 d6 (fun ha => ?_)
        refine nx j _ d (d ++ [Nk j]) h1 h2 (by rw [if_pos ⟨hk, hw, nin⟩]) ⟨fun k hk => by rw [ptc_i hk]; exact d1 k hk, ?_, fun k hk => by rw [ptc_r hk]; exact d3 k hk, fun j hj => by rw [ptc_o (by omega)]; exact d4 j hj, fun k x hx => ?_, by rw [List.length_append, List.length_singleton]; omega⟩
        · rw [ptc_s, List.length_append, List.length_singleton]
          rfl
        · by_cases hkd : k < d.length
          · rw [List.getElem?_append_left hkd] at hx
            rw [ptc_o (by omega)]
            exact d5 k x hx
          · rw [List.getElem?_append_right (by omega)] at hx
            have e0 : k - d.length = 0 := by
              cases hkk : k - d.length with
              | zero => rfl
              | succ n => rw [hkk] at hx; cases hx
            rw [e0] at hx
            injection hx with hx
            rw [show k = d.length by omega, ← hx]
            exact ⟨ptcs_at (l := [I (nm (Nk j) : Nat)]) (k := 0) rfl, t5⟩
      · have z : ¬ ((st + d.length : Nat) : Int) ≤ ((st + i : Nat) : Int) := fun y => of_decide_eq_false z ((I_le (x := ((st + d.length : Nat) : Int)) (y := ((st + i : Nat) : Int)) (by omega) (by omega) (by omega) (by omega)).mpr y)
        have hi2 : i < d.length := by omega
        rw [at_j (by omega), bnd_s]
        have ed : d[i]? = some d[i] := List.getElem?_eq_getElem hi2
        obtain ⟨e3, e3b⟩ := d5 i _ ed
        rw [e3]
        have md : d[i] ∈ d := List.getElem_mem hi2
        refine pk_br (fun z => ?_) (fun z => ?_)
        · have z := (I_eq (x := ((nm d[i] : Nat) : Int)) (y := ((nm (Nk j) : Nat) : Int)) (by omega) (by omega) (by omega) (by omega)).mp (of_decide_eq_true z)
          have en : d[i] = Nk j := hn.1 _ _ (by omega)
          unfold jb_Cm_hold_92
          rw [d2, decide_eq_false (p := I ((st + i : Nat) : Int) = I ((st + d.length : Nat) : Int)) (fun y => by have := (I_eq (x := ((st + i : Nat) : Int)) (y := ((st + d.length : Nat) : Int)) (by omega) (by omega) (by omega) (by omega)).mp y; omega), br_f]
          exact nx j v d d h1 h2 (by rw [if_neg (fun y => y.2.2 (en ▸ md))]) hd
        · rw [i_suc, show ((st + i + 1 : Nat) : Int) = ((st + (i + 1) : Nat) : Int) from rfl]
          refine ih.2 j (i + 1) v d h1 h2 hk hw (by omega) (fun k hk2 => ?_) hd
          by_cases hki : k = i
          · rw [hki, ed]
            intro y
            injection y with y
            exact of_decide_eq_false z (by rw [y])
          · exact hno k (by omega)
/-- the names of the tokens from p on, as far as p2 -/
theorem hdj_p (hn : NMJ nm) (hst : 1 ≤ st ∧ st ≤ 23990) (hp : p ≤ p2 ∧ 1 ≤ p2) (hp2 : p2 ≤ 4001) (h441 : v.1 441 = I (st : Nat)) (tk : TKh v K nm Nk W p p2) (h709 : v.1 709 = I (L : Nat)) (hL : L ≤ 40) : PK (fun u r => HDm nm st v u (hdn Nk K W L (p2 - p) p []) ∧ r = I (((hdn Nk K W L (p2 - p) p []).length : Nat) : Int)) (jm_Cm_hold N v (I (p : Nat)) (I ((p2 - 1 : Nat) : Int))) := by
  unfold jm_Cm_hold jb_Cm_hold_0
  rw [h441]
  exact (hdj_lp hn hst.1 hp2 hp.2 tk h709 hL N).1 p v [] (Nat.le_refl _) hp.1 ⟨fun _ _ => rfl, h441, fun _ _ => rfl, fun _ _ => rfl, fun k x hx => (by cases hx), hst.2⟩
end
