/-! a fun, both: what stands round its CLAUSE -/
set_option maxRecDepth 100000
/-- behind the names held, here -/
def fnT (N : Nat) (V : MS) (v1 v2 v3 : Int32) : Option (MS × Int32) := lt (upI V 65 ((V.1 65) - 1)) (fun w1 => ck (inb v3 (ln 25)) (lt (upA w1 25 (upd (w1.2.2.1 25) v3.toNatClampNeg (w1.1 32))) (fun w2 => bnd (fm_M_node N w2 14 v1) (fun u3 r3 => ck (inb r3 (ln 25)) (lt (upA u3 25 (upd (u3.2.2.1 25) r3.toNatClampNeg v2)) (fun w4 => some (w4, r3)))))))
section
variable {α β : Type} {m0 w0 m w m2 w2 u v V : MS} {K nm Nk W W2 : Nat → Nat} {N T a b cm q r s lo hi i j f n k p B l qf nd kk : Nat} {Q Q2 : Nat → Nat} {sc sc2 t t2 : SCT} {e e2 : List Nat × List Nat × Nat} {v1 v2 v3 v4 : Int32} {S : SG_M_behind}
theorem HDo_bd : ∀ {a b : SCT} {p p2 : Nat}, HDo Nk K W p p2 a b → ∀ j, p ≤ j → j < p2 → K j = 3 → W j ≤ 32
  | [], [], _, _, h, j, h1, h2, h3 => h j h1 h2 h3
  | [], _ :: _, _, _, h, _, _, _, _ => h.elim
  | _ :: _, [], _, _, h, _, _, _, _ => h.elim
  | _ :: _, _ :: _, _, _, h, j, h1, h2, h3 => HDo_bd h.2 j h1 h2 h3
/-- a row's length, there -/
theorem len_j (fr : FRC m0 u) (hb : b ≤ 8015) (h : ORcK m0 1 26 (PAcK m0 f) k n lo hi a b q r) : PK (fun v x => v = u ∧ x = I (k : Nat)) (hm_Tr_length N u (I (n : Nat))) := by
  have z0 : ∀ (M j : Nat), PK (fun v x => v = u ∧ x = I (j : Nat)) (hg_Tr_length N M u (I (j : Nat)) (I ((0 : Nat) : Int))) := fun M j => by
    cases M with
    | zero => exact pk_none
    | succ M =>
      show PK _ (hb_Tr_length_4 N (hg_Tr_length N M) u (I (j : Nat)) (I ((0 : Nat) : Int)))
      unfold hb_Tr_length_4
      rw [show decide (I ((0 : Nat) : Int) = (0 : Int32)) = true from rfl, br_t]
      exact pk_some ⟨rfl, rfl⟩
  have gen : ∀ (k M j n lo a q : Nat), RWcK m0 1 26 (PAcK m0 f) k n lo hi a b q r → PK (fun v x => v = u ∧ x = I ((j + k : Nat) : Int)) (hg_Tr_length N M u (I (j : Nat)) (I (n : Nat))) := by
    intro k
    induction k with
    | zero => intro M j n lo a q h; exact h.elim
    | succ k ih =>
      intro M j n lo a q h
      have hd := (RW_hdK (PA_bdK f) h).1
      unfold HDc at hd
      obtain ⟨m2, c, s, e, h⟩ := h
      have hd2 := PA_bdK _ _ _ _ _ _ _ _ e
      unfold HDc at hd2
      cases M with
      | zero => exact pk_none
      | succ M =>
        show PK _ (hb_Tr_length_4 N (hg_Tr_length N M) u (I (j : Nat)) (I (n : Nat)))
        unfold hb_Tr_length_4
        rw [decide_eq_false (fun z => by
          have := (I_eq (x := ((n : Nat) : Int)) (y := 0) (by omega) (by omega) (by decide) (by decide)).mp z
          omega), br_f, i_nt2 (show n ≤ 100000 by omega), i_suc]
        refine pk_ck (fun _ => ?_)
        rcases h with ⟨rfl, h21, -⟩ | ⟨-, n2, h21, hw⟩
        · rw [tre fr (by decide) h21]
          exact z0 M (j + 1)
        · rw [tre fr (by decide) h21]
          have := ih M (j + 1) n2 _ _ _ hw
          rw [show j + 1 + k = j + (k + 1) by omega] at this
          exact this
  unfold hm_Tr_length hb_Tr_length_0
  rcases h with ⟨h1, h2, -⟩ | ⟨-, h⟩
  · subst h1
    subst h2
    exact z0 N 0
  · have := gen k N 0 n lo a q h
    rw [Nat.zero_add] at this
    exact this
theorem RNl_psh : ∀ {sc : SCT}, RNl w sc → (∀ s, s < sc.length → v.2.2.1 60 s = w.2.2.1 60 s ∧ v.2.2.1 63 s = w.2.2.1 63 s ∧ v.2.2.1 64 s = w.2.2.1 64 s) → v.2.2.1 59 = w.2.2.1 59 → v.2.2.1 61 = w.2.2.1 61 → RNl v sc
  | [], _, _, _, _ => trivial
  | e :: t, ⟨⟨h1, h2, h3, h4, h5⟩, h6⟩, hs, h59, h61 => by
    obtain ⟨s1, s2, s3⟩ := hs t.length (Nat.lt_succ_self _)
    exact ⟨⟨by rw [s1]; exact h1, fun k x hk => by rw [h59]; exact h2 k x hk, by rw [s2]; exact h3, fun k x hk => by rw [h61]; exact h4 k x hk, by rw [s3]; exact h5⟩, RNl_psh h6 (fun s hs' => hs s (Nat.lt_succ_of_lt hs')) h59 h61⟩
/-- a level more, here -/
theorem PRd_psh {pi : Nat} (h : PRd w0 T w p pi sc) (hl : sc.length ≤ 26) (hi : ∀ k, k ∈ [5, 9, 10, 11, 14, 17, 20, 39, 67] → v.1 k = w.1 k) (h65 : v.1 65 = I (sc.length : Nat)) (hr : ∀ k, k < 23 ∨ k = 59 ∨ k = 61 ∨ k = 62 → v.2.2.1 k = w.2.2.1 k) (h60 : ∀ k, k = 60 ∨ k = 63 ∨ k = 64 → v.2.2.1 k sc.length = 0 ∧ ∀ s, s ≠ sc.length → v.2.2.1 k s = w.2.2.1 k s) (h69 : v.1 69 = I (n : Nat)) (hn : n ≤ T) : PRd w0 T v n pi (([], [], 0) :: sc) := by
  obtain ⟨h1, h2, h3, h4, h5, h6⟩ := h
  refine ⟨⟨fun k hk => ?_, fun k hk => ?_⟩, ⟨h69, hn⟩, (hi 67 (by decide)).trans h3, ⟨by rw [h65]; rfl, ⟨by show 1 ≤ sc.length + 1; omega, by show sc.length + 1 ≤ 27; omega⟩, ⟨⟨?_, fun k x hk => (by cases hk), ?_, fun k x hk => (by cases hk), ?_⟩, RNl_psh h4.2.2.1 (fun s hs => ⟨(h60 60 (by omega)).2 s (by omega), (h60 63 (by omega)).2 s (by omega), (h60 64 (by omega)).2 s (by omega)⟩) (hr 59 (by omega)) (hr 61 (by omega))⟩, ⟨⟨List.nodup_nil, fun x hx => (by cases hx), by decide, by decide, by decide, fun x hx => (by cases hx), List.nodup_nil⟩, h4.2.2.2⟩⟩, ⟨fun k x hk => (by cases hk), HFl_fr h4.2.2.2 h5 (fun j _ => by rw [hr 62 (by omega)])⟩, (hi 39 (by decide)).trans h6.1, h6.2⟩
  · have : k ∈ [5, 9, 10, 11, 14, 17, 20, 39, 67] := by
      unfold TIN at hk
      revert hk
      simp only [List.mem_cons, List.not_mem_nil, or_false]
      omega
    rw [hi k this]; exact h1.1 k hk
  · have : k < 23 := by unfold TRW at hk; simp only [List.mem_cons, List.not_mem_nil, or_false] at hk; omega
    rw [hr k (by omega)]; exact h1.2 k hk
  · exact (h60 60 (by omega)).1
  · exact (h60 63 (by omega)).1
  · exact (h60 64 (by omega)).1
/-- a level less -/
theorem PRd_pop {pi : Nat} (h : PRd w0 T w p pi (e :: t)) (ht : 1 ≤ t.length) (hi : ∀ k, k ∈ [5, 9, 10, 11, 14, 17, 20, 39, 67] → v.1 k = w.1 k) (h65 : v.1 65 = I ((t.length - 1 : Nat) : Int)) (hr : ∀ k, k < 23 ∨ (59 ≤ k ∧ k ≤ 64) → v.2.2.1 k = w.2.2.1 k) (h69 : v.1 69 = I (n : Nat)) (hn : n ≤ T) : PRd w0 T v n pi t := by
  obtain ⟨h1, h2, h3, h4, h5, h6⟩ := h
  have hl : t.length + 1 ≤ 27 := h4.2.1.2
  refine ⟨⟨fun k hk => ?_, fun k hk => ?_⟩, ⟨h69, hn⟩, (hi 67 (by decide)).trans h3, ⟨h65, ⟨ht, by omega⟩, RNl_e h4.2.2.1.2 (hr 59 (by omega)) (hr 60 (by omega)) (hr 61 (by omega)) (hr 63 (by omega)) (hr 64 (by omega)), h4.2.2.2.2⟩, HFl_fr h4.2.2.2.2 h5.2 (fun j _ => by rw [hr 62 (by omega)]), (hi 39 (by decide)).trans h6.1, h6.2⟩
  · have : k ∈ [5, 9, 10, 11, 14, 17, 20, 39, 67] := by
      unfold TIN at hk
      revert hk
      simp only [List.mem_cons, List.not_mem_nil, or_false]
      omega
    rw [hi k this]; exact h1.1 k hk
  · have : k < 23 := by unfold TRW at hk; simp only [List.mem_cons, List.not_mem_nil, or_false] at hk; omega
    rw [hr k (by omega)]; exact h1.2 k hk
/-- the names held are copied, here -/
theorem cph {A' : Option (MS × α)} {RR : MS → α → MS → Int32 → Prop} (hs : s ≤ 26) (hl : l ≤ 60) : ∀ (M i : Nat) (w : MS), i ≤ l → B + i ≤ 24000 → w.1 65 = I (s : Nat) → w.2.2.1 63 s = I (l : Nat) → w.1 58 = I ((B + i : Nat) : Int) → (∀ V, B + l ≤ 24000 → (∀ k, k ≠ 58 → V.1 k = w.1 k) → V.1 58 = I ((B + l : Nat) : Int) → (∀ k, k ≠ 57 → V.2.2.1 k = w.2.2.1 k) → (∀ n, n < B + i ∨ B + l ≤ n → V.2.2.1 57 n = w.2.2.1 57 n) → (∀ k, i ≤ k → k < l → V.2.2.1 57 (B + k) = w.2.2.1 62 (1400 * s + k)) → V.2.2.2 = w.2.2.2 → PP RR A' (fnT N V v1 v2 v3)) → PP RR A' (kg_M_fun N S M w v1 v2 v3 (I (i : Nat)))
  | 0, _, _, _, _, _, _, _, _ => pp_nr
  | M + 1, i, w, hi, hBi, h65, h63, h58, hh => by
    show PP RR A' (kb_M_fun_257 N S (kg_M_fun N S M) w v1 v2 v3 (I (i : Nat)))
    unfold kb_M_fun_257
    rw [h65, i_nt2 (p := s) (by omega), h63]
    refine r_ck (fun _ => r_br (fun z => ?_) (fun z => ?_))
    · have z := (I_le (x := ((l : Nat) : Int)) (y := ((i : Nat) : Int)) (by omega) (by omega) (by omega) (by omega)).mp (of_decide_eq_true z)
      have el : i = l := by omega
      subst el
      have := hh w hBi (fun _ _ => rfl) h58 (fun _ _ => rfl) (fun _ _ => rfl) (fun k k1 k2 => by omega) rfl
      unfold fnT at this
      rw [h65] at this
      exact this
    · have z : ¬ ((l : Nat) : Int) ≤ ((i : Nat) : Int) := fun y => of_decide_eq_false z ((I_le (x := ((l : Nat) : Int)) (y := ((i : Nat) : Int)) (by omega) (by omega) (by omega) (by omega)).mpr y)
      have ix : (1400 * I (s : Nat) + I (i : Nat)) = I ((1400 * s + i : Nat) : Int) := by
        rw [show (1400 : Int32) = I 1400 from rfl, I_mul, I_add]
        congr 1
      rw [ix, i_nt2 (p := 1400 * s + i) (by omega), h58, i_nt2 (p := B + i) (by omega), i_suc]
      refine r_ck (fun _ => r_ck (fun z57 => r_lt (r_lt ?_)))
      have hB2 : B + i < 24000 := by
        have := (I_inb (n := ln 57) (x := ((B + i : Nat) : Int)) (by omega) (by omega)).mp z57
        have l57 : ln 57 ≤ 24000 := by decide
        omega
      have e58 : (upA w 57 (upd (w.2.2.1 57) (B + i) (w.2.2.1 62 (1400 * s + i)))).1 58 = I ((B + i : Nat) : Int) := h58
      rw [e58, i_suc]
      refine cph hs hl M (i + 1) _ (by omega) (by omega) (by rw [upI_ne (by decide)]; exact h65) (by show (upA w 57 _).2.2.1 63 s = _; rw [upA_no (by decide)]; exact h63) (by rw [upI_at]; rfl) (fun V hBl h1 h2 h3 h4 h5 h6 => ?_)
      refine hh V hBl (fun k hk => by rw [h1 k hk, upI_ne hk]; rfl) h2 (fun k hk => by rw [h3 k hk]; show (upA w 57 _).2.2.1 k = _; rw [upA_no hk]) (fun n hn => ?_) (fun k k1 k2 => ?_) h6
      · rw [h4 n (by omega)]
        show (upA w 57 _).2.2.1 57 n = _
        rw [upA_at, upd_no (by omega)]
      · by_cases y : k = i
        · subst y
          rw [h4 (B + k) (by omega)]
          show (upA w 57 _).2.2.1 57 (B + k) = _
          rw [upA_at, upd_at]
        · rw [h5 k (by omega) k2]
          show (upA w 57 _).2.2.1 62 _ = _
          rw [upA_no (by decide)]
/-- a fun's rows, here -/
theorem r_221 {A' : Option (MS × α)} {RR : MS → α → MS → Int32 → Prop} (hs : s ≤ 26) (hl : l ≤ 60) (hB : B ≤ 24000) (hq : qf ≤ 24000) (h65 : w.1 65 = I (s : Nat)) (h63 : w.2.2.1 63 s = I (l : Nat)) (h58 : w.1 58 = I (B : Nat)) (hh : ∀ V, B + l ≤ 24000 → (∀ k, k ≠ 58 → V.1 k = w.1 k) → V.1 58 = I ((B + l : Nat) : Int) → (∀ k n, (k ≠ 57 ∧ (k ≠ 53 ∧ k ≠ 54 ∧ k ≠ 55) ∨ (k ≠ 57 ∧ n ≠ qf) ∨ (k = 57 ∧ (n < B ∨ B + l ≤ n))) → V.2.2.1 k n = w.2.2.1 k n) → (V.2.2.1 53 qf = v4 ∧ V.2.2.1 54 qf = I (l : Nat) ∧ V.2.2.1 55 qf = I (B : Nat)) → (∀ k, k < l → V.2.2.1 57 (B + k) = w.2.2.1 62 (1400 * s + k)) → V.2.2.2 = w.2.2.2 → PP RR A' (fnT N V v1 (I (qf : Nat)) v3)) : PP RR A' (kb_M_fun_221 N S (kg_M_fun N S N) w v1 (I (qf : Nat)) v3 v4) := by
  unfold kb_M_fun_221
  rw [i_nt2 (p := qf) (by omega)]
  refine r_ck (fun _ => r_lt ?_)
  have h1 : W46 w (upA w 53 (upd (w.2.2.1 53) qf v4)) 53 qf v4 := w46_of
  generalize upA w 53 (upd (w.2.2.1 53) qf v4) = V1 at h1
  have e65 : V1.1 65 = I (s : Nat) := by rw [h1.1]; exact h65
  rw [e65, i_nt2 (p := s) (by omega), h1.2.2.1 63 s (Or.inl (by decide)), h63]
  refine r_ck (fun _ => r_ck (fun _ => r_lt ?_))
  have h2 : W46 V1 (upA V1 54 (upd (V1.2.2.1 54) qf (I (l : Nat)))) 54 qf (I (l : Nat)) := w46_of
  generalize upA V1 54 (upd (V1.2.2.1 54) qf (I (l : Nat))) = V2 at h2
  have e58 : V2.1 58 = I (B : Nat) := by rw [h2.1, h1.1]; exact h58
  rw [e58]
  refine r_ck (fun _ => r_lt ?_)
  have h3 : W46 V2 (upA V2 55 (upd (V2.2.2.1 55) qf (I (B : Nat)))) 55 qf (I (B : Nat)) := w46_of
  generalize upA V2 55 (upd (V2.2.2.1 55) qf (I (B : Nat))) = V3 at h3
  have i3 : V3.1 = w.1 := by rw [h3.1, h2.1, h1.1]
  have r3 : ∀ k n, (k ≠ 53 ∧ k ≠ 54 ∧ k ≠ 55) ∨ n ≠ qf → V3.2.2.1 k n = w.2.2.1 k n := fun k n hk => by
    rw [h3.2.2.1 k n (by omega), h2.2.2.1 k n (by omega), h1.2.2.1 k n (by omega)]
  have q53 : V3.2.2.1 53 qf = v4 := by
    rw [h3.2.2.1 53 _ (Or.inl (by decide)), h2.2.2.1 53 _ (Or.inl (by decide))]; exact h1.2.2.2
  have q54 : V3.2.2.1 54 qf = I (l : Nat) := by rw [h3.2.2.1 54 _ (Or.inl (by decide))]; exact h2.2.2.2
  have q55 : V3.2.2.1 55 qf = I (B : Nat) := h3.2.2.2
  have j3 : V3.2.2.2 = w.2.2.2 := by rw [h3.2.1, h2.2.1, h1.2.1]
  have := cph (N := N) (S := S) (v1 := v1) (v2 := I (qf : Nat)) (v3 := v3) (A' := A') (RR := RR) (s := s) (l := l) (B := B) hs hl N 0 V3 (Nat.zero_le _) hB (by rw [i3]; exact h65) (by rw [r3 63 s (Or.inl (by decide))]; exact h63) (by rw [i3]; exact h58) (fun V hBl h1 h2 h3 h4 h5 h6 => hh V hBl (fun k hk => by rw [h1 k hk, i3]) h2 (fun k n hk => ?_) ⟨by rw [h3 53 (by decide)]; exact q53, by rw [h3 54 (by decide)]; exact q54, by rw [h3 55 (by decide)]; exact q55⟩ (fun k hk => by rw [h5 k (Nat.zero_le _) hk, r3 62 _ (Or.inl (by decide))]) (h6.trans j3))
  · exact this
  · by_cases y : k = 57
    · subst y
      rw [h4 n (by omega), r3 57 n (Or.inl (by decide))]
    · rw [h3 k y, r3 k n (by omega)]
end
