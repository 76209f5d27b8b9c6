set_option maxRecDepth 100000
def PDQc (T : Nat → Option (Nat × Nat × List Nat × Nat × Nat)) (Fv : Int64 → Int64 → Prop) (P : Int64 → Prop) (PR q c : Nat) (w : MS) : Prop := (F w 1109 = 0 ∧ OPQ T Fv P PR q c (upI w 1105 ((w.1 1105) + I 2))) ∨ (F w 1109 ≠ 0 ∧ OPQ T Fv P PR q c w)
theorem br_same {α : Type} {b : Bool} {p : α} : br b p p = p := by cases b <;> rfl
section
variable {T : Nat → Option (Nat × Nat × List Nat × Nat × Nat)} {Fv : Int64 → Int64 → Prop} {P : Int64 → Prop} {u v w w1 : MS} {PR N q r n B W Y i h m g x j wb nb cb rk c f i2 h2 m2 k a U d : Nat} {L : List Nat} {ow kd : Nat → Nat} {t rest : Int64} {gi gl ga ki kl ka kj : List Nat}
theorem MI_x (M : MIc T Fv P PR q u i h m L g x j wb nb cb rk) (f : FC q gi gl ga ki kl ka kj u w) (dw : DWc Fv P PR w) (hgi : ∀ k, k ∈ [22, 442, 449, 1105, 1106, 1107, 1108, 1109, 1112, 1113, 1114] → k ∉ gi) (hga : ∀ k, k ∈ [3, 23, 25, 29, 30, 31, 32, 1948] → k ∉ ga) (hki : ∀ k, k ∈ [7, 8, 9, 21, 24, 26, 28, 42, 43, 45, 47] → k ∉ ki) (hka : ∀ k, k ∈ [30, 37] → k ∉ ka) (hkl : 10 ∉ kl) : MIc T Fv P PR q w i h m L g x j wb nb cb rk ∧ PHc T w q i x rk = PHc T u q i x rk ∧ F w 1109 = F u 1109 ∧ F w 1108 = F u 1108 := by
  have G := M.1
  have ln : LNB w q := LNB_fc (MI_ln M) (fun l hl => f.2.2.2.2.1 q l (by simp at hl; omega) (fun _ => hki l (by simp at hl ⊢; omega)))
  have fq : ∀ k, k ∈ [7, 8, 9, 21, 24, 26, 28, 42, 43, 45, 47] → F w (pq q k) = F u (pq q k) := fun k hk => f.Fq (by simp at hk; omega) (hki k hk)
  have fg : ∀ k, k ∈ [22, 442, 449, 1105, 1106, 1107, 1108, 1109, 1112, 1113, 1114] → F w k = F u k := fun k hk => f.Fg (by simp at hk; omega) (hgi k hk)
  refine ⟨⟨GEN_f G f dw (fun k hk => hgi k (by simp at hk ⊢; omega)) hga ln, by rw [fq 9 (by simp)]; exact M.2.1, STc_s M.2.2.1 (f.2.2.2.2.2.2.1 q 30 (by omega) (fun _ => hka 30 (by simp))) (f.2.2.2.2.2.2.1 q 37 (by omega) (fun _ => hka 37 (by simp))) (f.2.2.2.2.1 q 21 (by omega) (fun _ => hki 21 (by simp))) (f.2.2.2.2.1 q 28 (by omega) (fun _ => hki 28 (by simp))), ⟨M.2.2.2.1.1, by rw [fg 1105 (by simp)]; exact M.2.2.2.1.2⟩, ⟨by rw [fq 26 (by simp)]; exact M.2.2.2.2.1.1, by rw [fq 24 (by simp)]; exact M.2.2.2.2.1.2⟩, GDS_s M.2.2.2.2.2.1 (fun k hk => f.1 k (by simp at hk; omega) (hgi k (by simp at hk ⊢; omega))) (f.2.2.1 23 (by omega) (hga 23 (by simp))), fun h1 h2 => ?_, UN_k M.2.2.2.2.2.2.2 (f.2.2.2.2.2.1 q 10 (by omega) (fun _ => hkl)) (f.2.2.1 23 (by omega) (hga 23 (by simp)))⟩, ?_, fg 1109 (by simp), fg 1108 (by simp)⟩
  · rw [fq 8 (by simp), fq 7 (by simp)]; exact M.2.2.2.2.2.2.1 h1 h2
  · unfold PHc
    rw [fq 8 (by simp), fg 1106 (by simp), fg 1107 (by simp)]
theorem ans_x {y z : Int} {wd : Nat} (M : MIc T Fv P PR q u i h m L g x j wb nb cb rk) (hx : x < i) (t9 : F u 1109 = 0) (t8 : F u 1108 = 0) (hf : PHc T u q i x rk ≤ c) (p : PTQ u q n ow kd Fv P (nb + m) (wb + h) Y) (gt : GT n ow kd P t) (hy : y = ((k : Nat) : Int)) (hk : k ≤ h) (hz : z = ((wd : Nat) : Int)) (hwd : 1 ≤ wd ∧ wd ≤ 4) (t2 : T (i + wd) = some (h - k + 1, m, L, g, x)) : OK (fun w _ => F w 1109 = 0 ∧ ∀ w2, FC q [945] [] [] [11] [] [] [] w w2 → F w2 1109 = 0 ∧ OPQ T Fv P PR q c (upI w2 1105 ((w2.1 1105) + I z))) (hm_Ma_answer N u q (I y) t) := by
  have mb := MI_b M
  have w2b := (M.1.2.2.1 _ _ _ _ _ _ t2).1
  have wf := (M.1.2.2.1 _ _ _ _ _ _ t2).2.1
  refine ok_mono (answer_t (N := N) p (MI_ln M) hy (by omega) (by omega) gt) (fun w5 _ hw5 => ?_)
  obtain ⟨fm5, p5, ln5⟩ := hw5
  rw [show wb + h - k + 1 = wb + (h - k + 1) by omega] at p5
  refine ⟨by rw [fm5.Fg (by omega) (by simp)]; exact t9, fun w2 f2 => ⟨by rw [f2.Fg (by omega) (by simp), fm5.Fg (by omega) (by simp)]; exact t9, ?_⟩⟩
  have e5 : F w2 1105 = ((i : Nat) : Int) := by rw [f2.Fg (by omega) (by simp), fm5.Fg (by omega) (by simp)]; exact M.2.2.2.1.2
  rw [at_e e5, show ((i : Nat) : Int) + z = ((i + wd : Nat) : Int) by omega]
  have f3 : FC q [1105, 945] [] [] [4, 5, 24, 26, 42, 43, 45, 11] [] [32] [2, 3, 33, 35, 6] u (wi w2 1105 ((i + wd : Nat) : Int)) := FC.wi_g (FC.tr (FC.mo fm5 (by simp) (by simp) (by simp) (by simp) (by simp) (by simp) (by simp)) (FC.mo f2 (by simp) (by simp) (by simp) (by simp) (by simp) (by simp) (by simp))) (by omega) (by simp)
  have p3 : PTQ (wi w2 1105 ((i + wd : Nat) : Int)) q n ow kd Fv P (nb + m) (wb + (h - k + 1)) Y := PT_g (by omega) (PTQ_same p5 (fun k hk => f2.2.2.2.2.1 q k (by simp at hk; omega) (fun _ => by simp at hk ⊢; omega)) (fun k hk => f2.jq (by simp at hk; omega) (by simp)))
  have ln3 : LNB (wi w2 1105 ((i + wd : Nat) : Int)) q := LNB_g (LNB_fc ln5 (fun l hl => f2.2.2.2.2.1 q l (by simp at hl; omega) (fun _ => by simp at hl ⊢; omega))) (by omega)
  have M2 := MI_new M f3 (by simp) (by simp) (SMQ_f M f3 (by simp)) (by rw [f3.Fq (by omega) (by simp)]; exact M.2.1) p3 ln3 (STc_s M.2.2.1 (f3.2.2.2.2.2.2.1 q 30 (by omega) (by simp)) (f3.2.2.2.2.2.2.1 q 37 (by omega) (by simp)) (f3.2.2.2.2.1 q 21 (by omega) (by simp)) (f3.2.2.2.2.1 q 28 (by omega) (by simp))) t2 (at_F (by omega)) (GDS_s M.2.2.2.2.2.1 (fun k hk => f3.1 k (by simp at hk; omega) (by simp at hk ⊢; omega)) (f3.2.2.1 23 (by omega) (by simp))) (fun h1 _ => by rw [f3.Fq (by omega) (by simp), f3.Fq (by omega) (by simp)]; exact M.2.2.2.2.2.2.1 h1 (by omega)) (UN_k M.2.2.2.2.2.2.2 (f3.2.2.2.2.2.1 q 10 (by omega) (by simp)) (f3.2.2.1 23 (by omega) (by simp))) (BEGc M f3 (by simp) (by simp))
  refine NRM_n M2 hf (f3.Fg (by omega) (by simp)) (f3.Fg (by omega) (by simp)) ?_ (by rw [f3.Fg (by omega) (by simp)]; exact t9) (by rw [f3.Fg (by omega) (by simp)]; exact t8)
  rw [f3.Fq (by omega) (by simp)]
  have := pot_x (j := i + wd) (t := (F u (pq q 8)).toNat) M.2.2.2.1.1 mb.1.2 (by omega)
  omega
theorem tellP {how ar : Int} (M : MIc T Fv P PR q u i h m L g x j wb nb cb rk) (t9 : F u 1109 = 0) (t8 : F u 1108 = 0) (hf : PHc T u q i x rk ≤ c) (gt : GTQ Fv P u q t) (h1 : how = 1 ∨ how = 2 ∨ how = 3) (h2 : ar = -1 ∨ (0 ≤ ar ∧ ar < 22)) : PDQc T Fv P PR q c (wl (wi (wi u 1109 how) 1111 ar) 1110 t) := by
  refine Or.inr ⟨?_, ERR_t M t9 t8 hf gt h1 h2⟩
  show F (wi (wi u 1109 how) 1111 ar) 1109 ≠ 0
  rw [F_wi (by omega) (by omega), if_neg (by decide), F_wi (by omega) (by omega), if_pos rfl]; omega
theorem errP (M : MIc T Fv P PR q u i h m L g x j wb nb cb rk) (t9 : F u 1109 = 0) (t8 : F u 1108 = 0) (hf : PHc T u q i x rk ≤ c) (ha : a < 22) : OK (fun w _ => PDQc T Fv P PR q c w) (bnd (hm_Ma_wrong N u q (I ((a : Nat) : Int))) (fun u1 _ => some (u1, ()))) := by
  rw [wrong_e, bnd_so]
  exact ok_some.mpr (tellP M t9 t8 hf (GTQ_at M ha) (Or.inl rfl) (Or.inl rfl))
theorem ansP {y : Int} (M : MIc T Fv P PR q u i h m L g x j wb nb cb rk) (hx : x < i) (t9 : F u 1109 = 0) (t8 : F u 1108 = 0) (hf : PHc T u q i x rk ≤ c) (p : PTQ u q n ow kd Fv P (nb + m) (wb + h) Y) (gt : GT n ow kd P t) (hy : y = ((k : Nat) : Int)) (hk : k ≤ h) (t2 : T (i + 2) = some (h - k + 1, m, L, g, x)) : OK (fun w _ => PDQc T Fv P PR q c w) (bnd (hm_Ma_answer N u q (I y) t) (fun u1 _ => some (u1, ()))) :=
  ok_bnd.mpr (ok_mono (ans_ok (N := N) (z := 2) (wd := 2) M hx t9 t8 hf p gt hy hk rfl (by omega) t2) (fun _ _ hw => ok_some.mpr (Or.inl hw)))
theorem wansP {y : Int} (M : MIc T Fv P PR q u i h m L g x j wb nb cb rk) (hx : x < i) (t9 : F u 1109 = 0) (t8 : F u 1108 = 0) (hf : PHc T u q i x rk ≤ c) (wq : WQ Fv P PR u w1) (hy : y = ((k : Nat) : Int)) (hk : k ≤ h) (gt : F w1 (pq q 9) ≠ 3 → ∀ n ow kd Y, PTQ w1 q n ow kd Fv P (nb + m) (wb + h) Y → GT n ow kd P t) (t2 : T (i + 2) = some (h - k + 1, m, L, g, x)) : OK (fun w _ => PDQc T Fv P PR q c w) (bnd (hm_Ma_answer N w1 q (I y) t) (fun u1 _ => some (u1, ()))) :=
  ok_bnd.mpr (ok_mono (wans_ok (N := N) (z := 2) (wd := 2) M hx t9 t8 hf wq hy hk gt rfl (by omega) t2) (fun _ _ hw => ok_some.mpr (Or.inl hw)))
theorem truP {y : Int32} (M : MIc T Fv P PR q u i h m L g x j wb nb cb rk) (hx : x < i) (t9 : F u 1109 = 0) (t8 : F u 1108 = 0) (hf : PHc T u q i x rk ≤ c) (hk : 1 ≤ h) (t2 : T (i + 2) = some (h - 1 + 1, m, L, g, x)) : OK (fun w _ => PDQc T Fv P PR q c w) (bnd (hm_Ma_truth N u y) (fun u1 r1 => bnd (hm_Ma_answer N u1 q 1 r1) (fun u2 _ => some (u2, ())))) := by
  obtain ⟨n, ow, kd, Y, p⟩ := MI_p M
  obtain ⟨a2, ha, et⟩ := truth_e (N := N) (u := u) y
  rw [et, bnd_so]
  exact ansP (y := 1) (k := 1) M hx t9 t8 hf p (GT_at M.1.2.1 ha) rfl hk t2
theorem tst17 : hm_Ma_test N u q (I 17) = bnd (hm_Fr_below N u q 0) (fun u16 r16 => bnd (hm_Te_tag N u16 r16) (fun u18 r18 => br (decide (r18 = 0)) (hb_Ma_test_72 N () u18 q 1 1) (hb_Ma_test_72 N () u18 q 1 0))) := rfl
theorem tst18 : hm_Ma_test N u q (I 18) = bnd (hm_Fr_below N u q 0) (fun u16 r16 => bnd (hm_Te_tag N u16 r16) (fun u18 r18 => br (decide (r18 = 1)) (hb_Ma_test_94 N () u18 q 1 1) (hb_Ma_test_94 N () u18 q 1 0))) := rfl
theorem tst19 : hm_Ma_test N u q (I 19) = bnd (hm_Fr_below N u q 0) (fun u16 r16 => bnd (hm_Te_tag N u16 r16) (fun u18 r18 => br (decide (r18 = 6)) (hb_Ma_test_119 N () u18 q 1) (br (decide (r18 = 7)) (hb_Ma_test_119 N () u18 q 1) (hb_Ma_test_124 N () u18 q 1 0)))) := rfl
theorem tst20 : hm_Ma_test N u q (I 20) = bnd (hm_Fr_below N u q 0) (fun u16 r16 => bnd (hm_Te_tag N u16 r16) (fun u18 r18 => br (decide (r18 = 5)) (hb_Ma_test_146 N () u18 q 1 1) (hb_Ma_test_146 N () u18 q 1 0))) := rfl
theorem tst21 : hm_Ma_test N u q (I 21) = bnd (hm_Fr_below N u q 0) (fun u16 r16 => bnd (hm_Te_tag N u16 r16) (fun u18 r18 => br (decide (r18 = 3)) (hb_Ma_test_168 N () u18 q 1 1) (hb_Ma_test_168 N () u18 q 1 0))) := rfl
theorem tst22 : hm_Ma_test N u q (I 22) = bnd (hm_Fr_below N u q 0) (fun u16 r16 => bnd (hm_Te_tag N u16 r16) (fun u18 r18 => br (decide (r18 = 4)) (hb_Ma_test_190 N () u18 q 1 1) (hb_Ma_test_190 N () u18 q 1 0))) := rfl
theorem tst23 : hm_Ma_test N u q (I 23) = bnd (hm_Fr_below N u q 0) (fun u16 r16 => bnd (hm_Te_tag N u16 r16) (fun u18 r18 => br (decide (r18 = 2)) (hb_Ma_test_212 N () u18 q 1 1) (hb_Ma_test_212 N () u18 q 1 0))) := rfl
theorem tst24 : hm_Ma_test N u q (I 24) = bnd (hm_Fr_below N u q 0) (fun u16 r16 => bnd (hm_Te_tag N u16 r16) (fun u18 r18 => bnd (br (decide (r18 = 7)) (ck (inb r16.toInt32 512) (bnd (hm_Ma_answer N u18 q 1 (u18.2.2.2 (pq q 2) r16.toInt32.toNatClampNeg)) (fun u4 _ => some (u4, ())))) (bnd (hm_Ma_wrong N u18 q 11) (fun u25 _ => some (u25, ())))) (fun u19 _ => some (u19, ())))) := rfl
theorem tst25 : hm_Ma_test N u q (I 25) = bnd (hm_Fr_below N u q 0) (fun u16 r16 => bnd (hm_Te_tag N u16 r16) (fun u18 r18 => bnd (br (decide (r18 = 7)) (ck (inb (r16.toInt32 + 1) 512) (bnd (hm_Ma_answer N u18 q 1 (u18.2.2.2 (pq q 2) (r16.toInt32 + 1).toNatClampNeg)) (fun u4 _ => some (u4, ())))) (bnd (hm_Ma_wrong N u18 q 11) (fun u25 _ => some (u25, ())))) (fun u19 _ => some (u19, ())))) := rfl
theorem tst26 : hm_Ma_test N u q (I 26) = bnd (hm_Fr_below N u q 0) (fun u16 r16 => bnd (hm_Te_tag N u16 r16) (fun u18 _ => bnd (bnd (hm_Te_listLength N u18 (pq q 2) r16) (fun u30 r30 => br (decide (r30 = (-1))) (bnd (hm_Ma_wrong N u30 q 11) (fun u34 _ => some (u34, ()))) (bnd (hm_Te_make N u30 0 r30) (fun u32 r32 => bnd (hm_Ma_answer N u32 q 1 r32) (fun u33 _ => some (u33, ())))))) (fun u19 _ => some (u19, ())))) := rfl
theorem tst28 : hm_Ma_test N u q (I 28) = bnd (hm_Fr_below N u q 0) (fun u16 r16 => bnd (hm_Te_tag N u16 r16) (fun u18 r18 => bnd (br (decide (r18 = 5)) (ck (inb r16.toInt32 512) (bnd (hm_Te_make N u18 0 ((u18.2.2.2 (pq q 2) r16.toInt32.toNatClampNeg).toInt32)) (fun u23 r23 => bnd (hm_Ma_answer N u23 q 1 r23) (fun u24 _ => some (u24, ()))))) (bnd (hm_Ma_wrong N u18 q 11) (fun u25 _ => some (u25, ())))) (fun u19 _ => some (u19, ())))) := rfl
theorem tst27 : hm_Ma_test N u q (I 27) = bnd (hm_Fr_below N u q 0) (fun u16 r16 => bnd (hm_Te_tag N u16 r16) (fun u18 r18 => bnd (br (decide (r18 = 5)) (ck (inb r16.toInt32 512) (bnd (hm_Fr_below N u18 q 1) (fun u14 r14 => bnd (hm_Te_tag N u14 r14) (fun u21 r21 => br (decide (r21 = 0)) (br (decide (r14.toInt32 < 1)) (hb_Ma_part_189 N () u21 q) (br (decide (r14.toInt32 ≤ (u18.2.2.2 (pq q 2) r16.toInt32.toNatClampNeg).toInt32)) (ck (inb (r16.toInt32 + r14.toInt32) 512) (bnd (hm_Ma_answer N u21 q 2 (u21.2.2.2 (pq q 2) (r16.toInt32 + r14.toInt32).toNatClampNeg)) (fun u22 _ => some (u22, ())))) (hb_Ma_part_189 N () u21 q))) (hb_Ma_part_189 N () u21 q))))) (bnd (hm_Ma_wrong N u18 q 11) (fun u25 _ => some (u25, ())))) (fun u19 _ => some (u19, ())))) := rfl
theorem okP {o : Option (MS × Unit)} (hh : OK (fun w _ => PDQc T Fv P PR q c w) o) : OK (fun w _ => PDQc T Fv P PR q c w) (bnd o (fun u1 _ => some (u1, ()))) := ok_bnd.mpr (ok_mono hh (fun _ _ hw => ok_some.mpr hw))
theorem test_ok {y : Int} (M : MIc T Fv P PR q u i h m L g x j wb nb cb rk) (hx : x < i) (t9 : F u 1109 = 0) (t8 : F u 1108 = 0) (hf : PHc T u q i x rk ≤ c) (hy : 17 ≤ y ∧ y ≤ 28) (hk : tkc y ≤ h) (t2 : T (i + 2) = some (h - tkc y + 1, m, L, g, x)) (hN : 6000 ≤ N) : OK (fun w _ => PDQc T Fv P PR q c w) (hm_Ma_test N u q (I y)) := by
  obtain ⟨n, ow, kd, Y, p⟩ := MI_p M
  have cx := M.1.2.1
  have k1 : y ≠ 27 → tkc y = 1 := fun z => by unfold tkc; rw [if_neg (by omega), if_neg (by omega)]
  have er : ∀ {a : Nat}, a < 22 → OK (fun w _ => PDQc T Fv P PR q c w) (bnd (hm_Ma_wrong N u q (I ((a : Nat) : Int))) (fun u1 _ => some (u1, ()))) := fun ha => errP M t9 t8 hf ha
  have h1 : 1 ≤ h := by
    by_cases z : y = 27
    · subst z; have : tkc 27 = 2 := rfl; omega
    · have := k1 z; omega
  obtain ⟨b0, g0⟩ := below_0 (N := N) M p h1
  have one : y ≠ 27 → T (i + 2) = some (h - 1 + 1, m, L, g, x) := fun z => by have e := t2; rw [k1 z] at e; exact e
  have tr : ∀ y2, y ≠ 27 → OK (fun w _ => PDQc T Fv P PR q c w) (bnd (hm_Ma_truth N u y2) (fun u1 r1 => bnd (hm_Ma_answer N u1 q 1 r1) (fun u2 _ => some (u2, ())))) := fun y2 z => truP M hx t9 t8 hf h1 (one z)
  have ls : ∀ {p1 p2 : Option (MS × Unit)} {b : Bool}, OK (fun w _ => PDQc T Fv P PR q c w) p1 → OK (fun w _ => PDQc T Fv P PR q c w) p2 → OK (fun w _ => PDQc T Fv P PR q c w) (br b p1 p2) := fun a b => ok_br.mpr ⟨fun _ => a, fun _ => b⟩
  have cs : y = 17 ∨ y = 18 ∨ y = 19 ∨ y = 20 ∨ y = 21 ∨ y = 22 ∨ y = 23 ∨ y = 24 ∨ y = 25 ∨ y = 26 ∨ y = 27 ∨ y = 28 := by omega
  have g2 := p.1.2.2
  have n5 := p.1.2.1
  rcases cs with e | e | e | e | e | e | e | e | e | e | e | e
  · subst e; rw [tst17, b0, bnd_so, e_tag, bnd_so]; exact ls (tr _ (by decide)) (tr _ (by decide))
  · subst e; rw [tst18, b0, bnd_so, e_tag, bnd_so]; exact ls (tr _ (by decide)) (tr _ (by decide))
  · subst e; rw [tst19, b0, bnd_so, e_tag, bnd_so]; unfold hb_Ma_test_119; exact ls (tr _ (by decide)) (ls (tr _ (by decide)) (tr _ (by decide)))
  · subst e; rw [tst20, b0, bnd_so, e_tag, bnd_so]; exact ls (tr _ (by decide)) (tr _ (by decide))
  · subst e; rw [tst21, b0, bnd_so, e_tag, bnd_so]; exact ls (tr _ (by decide)) (tr _ (by decide))
  · subst e; rw [tst22, b0, bnd_so, e_tag, bnd_so]; exact ls (tr _ (by decide)) (tr _ (by decide))
  · subst e; rw [tst23, b0, bnd_so, e_tag, bnd_so]; exact ls (tr _ (by decide)) (tr _ (by decide))
  · subst e
    rw [tst24, b0, bnd_so, e_tag, bnd_so, valI]
    refine okP ?_
    rw [I_lit (n := 7)]
    refine k_eq (so_r _) ⟨by decide, by decide⟩ (fun e7 => ?_) (fun _ => er (a := 11) (by omega))
    obtain ⟨a1, a2, a3, a4⟩ := pair_at g2 g0 e7
    refine e_in ⟨by omega, by omega⟩ (by decide) ?_
    rw [tnI a1 (by omega)]
    exact ansP (y := 1) (k := 1) M hx t9 t8 hf p a3 rfl h1 (one (by decide))
  · subst e
    rw [tst25, b0, bnd_so, e_tag, bnd_so, valI]
    refine okP ?_
    rw [I_lit (n := 7)]
    refine k_eq (so_r _) ⟨by decide, by decide⟩ (fun e7 => ?_) (fun _ => er (a := 11) (by omega))
    obtain ⟨a1, a2, a3, a4⟩ := pair_at g2 g0 e7
    rw [lit1q, I_add]
    refine e_in ⟨by omega, by omega⟩ (by decide) ?_
    rw [tnI (n := vn (u.2.2.2 (pq q 35) (wb + h - 1)) + 1) (by omega) (by omega)]
    exact ansP (y := 1) (k := 1) M hx t9 t8 hf p a4 rfl h1 (one (by decide))
  · subst e
    rw [tst26, b0, bnd_so, e_tag, bnd_so]
    refine okP ?_
    obtain ⟨f0, s, z⟩ := HP_szc g2 g0
    have zm := SZ_max g2 z
    refine ok_bnd.mpr (ok_mono (listLength_ok (N := N) rfl (by omega) z (by omega) hN) (fun w r hw => ?_))
    obtain ⟨rfl, hr⟩ := hw
    rcases hr with hr | ⟨k2, hr, hk2, -⟩
    · subst hr
      exact ok_br.mpr ⟨fun _ => er (a := 11) (by omega), fun z => absurd z (by decide)⟩
    · subst hr
      rw [m1I]
      refine k_eq ⟨by omega, by omega⟩ ⟨by decide, by decide⟩ (fun _ => er (a := 11) (by omega)) (fun _ => ?_)
      rw [lit0q, e_make, bnd_so]
      exact ansP (y := 1) (k := 1) M hx t9 t8 hf p (GT_0c cx ⟨by omega, by omega⟩) rfl h1 (one (by decide))
  · subst e
    have hk2 : tkc 27 = 2 := rfl
    rw [hk2] at hk t2
    obtain ⟨b1, g1⟩ := below_1 (N := N) M p hk
    rw [tst27, b0, bnd_so, e_tag, bnd_so, valI]
    refine okP ?_
    rw [I_lit (n := 5)]
    refine k_eq (so_r _) ⟨by decide, by decide⟩ (fun e5 => ?_) (fun _ => er (a := 11) (by omega))
    obtain ⟨a1, a2, a3, a4⟩ := tup_at g2 g0 e5
    refine e_in ⟨by omega, by omega⟩ (by decide) ?_
    rw [b1, bnd_so, e_tag, bnd_so, valI (u.2.2.2 (pq q 35) (wb + h - 1 - 1)), tnI a1 (by omega), valI (u.2.2.2 (pq q 2) _), lit0q, I_lit (n := 1)]
    refine k_eq (so_r _) ⟨by decide, by decide⟩ (fun e0 => ?_) (fun _ => er (a := 11) (by omega))
    refine k_lt (va_r _) ⟨by decide, by decide⟩ (fun _ => er (a := 11) (by omega)) (fun c1 => ?_)
    have c1 : 1 ≤ va (u.2.2.2 (pq q 35) (wb + h - 1 - 1)) := c1
    refine k_le (va_r _) (va_r _) (fun c2 => ?_) (fun _ => er (a := 11) (by omega))
    rw [I_add]
    refine e_in ⟨by omega, by omega⟩ (by decide) ?_
    rw [tnI (n := vn (u.2.2.2 (pq q 35) (wb + h - 1)) + (va (u.2.2.2 (pq q 35) (wb + h - 1 - 1))).toNat) (by omega) (by omega)]
    exact ansP (y := 2) (k := 2) M hx t9 t8 hf p (a4 _ (by omega) (by omega)) rfl hk t2
  · subst e
    rw [tst28, b0, bnd_so, e_tag, bnd_so, valI]
    refine okP ?_
    rw [I_lit (n := 5)]
    refine k_eq (so_r _) ⟨by decide, by decide⟩ (fun e5 => ?_) (fun _ => er (a := 11) (by omega))
    obtain ⟨a1, a2, a3, a4⟩ := tup_at g2 g0 e5
    refine e_in ⟨by omega, by omega⟩ (by decide) ?_
    rw [tnI a1 (by omega), valI (u.2.2.2 (pq q 2) _), lit0q, e_make, bnd_so]
    exact ansP (y := 1) (k := 1) M hx t9 t8 hf p (GT_0c cx (va_r _)) rfl h1 (one (by decide))
end
