section
set_option maxRecDepth 100000
def PDQc (T : Nat → Option (Nat × Nat × List Nat × Nat × Nat)) (Fv : Int64 → Int64 → Prop) (P : Int64 → Prop) (PR q c : Nat) (w : MS) : Prop := (F w 1109 = 0 ∧ OPQ T Fv P PR q c (upI w 1105 ((w.1 1105) + I 2))) ∨ (F w 1109 ≠ 0 ∧ OPQ T Fv P PR q c w)
theorem br_same {α : Type} {b : Bool} {p : α} : br b p p = p := by cases b <;> rfl
section
variable {T : Nat → Option (Nat × Nat × List Nat × Nat × Nat)} {Fv : Int64 → Int64 → Prop} {P : Int64 → Prop} {u v w w1 : MS} {PR N q r n B W Y i h m g x j wb nb cb rk c f i2 h2 m2 k a U d : Nat} {L : List Nat} {ow kd : Nat → Nat} {t rest : Int64} {gi gl ga ki kl ka kj : List Nat}
theorem MI_x (M : MIc T Fv P PR q u i h m L g x j wb nb cb rk) (f : FC q gi gl ga ki kl ka kj u w) (dw : DWc Fv P PR w) (hgi : ∀ k, k ∈ [22, 442, 449, 1105, 1106, 1107, 1108, 1109, 1112, 1113, 1114] → k ∉ gi) (hga : ∀ k, k ∈ [3, 23, 25, 29, 30, 31, 32, 1948] → k ∉ ga) (hki : ∀ k, k ∈ [7, 8, 9, 21, 24, 26, 28, 42, 43, 45, 47] → k ∉ ki) (hka : ∀ k, k ∈ [30, 37] → k ∉ ka) (hkl : 10 ∉ kl) : MIc T Fv P PR q w i h m L g x j wb nb cb rk ∧ PHc T w q i x rk = PHc T u q i x rk ∧ F w 1109 = F u 1109 ∧ F w 1108 = F u 1108 := by
  have G := M.1
  have ln : LNB w q := LNB_fc (MI_ln M) (fun l hl => f.2.2.2.2.1 q l (by simp at hl; omega) (fun _ => hki l (by simp at hl ⊢; omega)))
  have fq : ∀ k, k ∈ [7, 8, 9, 21, 24, 26, 28, 42, 43, 45, 47] → F w (pq q k) = F u (pq q k) := fun k hk => f.Fq (by simp at hk; omega) (hki k hk)
  have fg : ∀ k, k ∈ [22, 442, 449, 1105, 1106, 1107, 1108, 1109, 1112, 1113, 1114] → F w k = F u k := fun k hk => f.Fg (by simp at hk; omega) (hgi k hk)
  refine ⟨⟨GEN_f G f dw (fun k hk => hgi k (by simp at hk ⊢; omega)) hga ln, by rw [fq 9 (by simp)]; exact M.2.1, STc_s M.2.2.1 (f.2.2.2.2.2.2.1 q 30 (by omega) (fun _ => hka 30 (by simp))) (f.2.2.2.2.2.2.1 q 37 (by omega) (fun _ => hka 37 (by simp))) (f.2.2.2.2.1 q 21 (by omega) (fun _ => hki 21 (by simp))) (f.2.2.2.2.1 q 28 (by omega) (fun _ => hki 28 (by simp))), ⟨M.2.2.2.1.1, by rw [fg 1105 (by simp)]; exact M.2.2.2.1.2⟩, ⟨by rw [fq 26 (by simp)]; exact M.2.2.2.2.1.1, by rw [fq 24 (by simp)]; exact M.2.2.2.2.1.2⟩, GDS_s M.2.2.2.2.2.1 (fun k hk => f.1 k (by simp at hk; omega) (hgi k (by simp at hk ⊢; omega))) (f.2.2.1 23 (by omega) (hga 23 (by simp))), fun h1 h2 => ?_, UN_k M.2.2.2.2.2.2.2 (f.2.2.2.2.2.1 q 10 (by omega) (fun _ => hkl)) (f.2.2.1 23 (by omega) (hga 23 (by simp)))⟩, ?_, fg 1109 (by simp), fg 1108 (by simp)⟩
  · rw [fq 8 (by simp), fq 7 (by simp)]; exact M.2.2.2.2.2.2.1 h1 h2
  · unfold PHc
    rw [fq 8 (by simp), fg 1106 (by simp), fg 1107 (by simp)]
theorem ans_x {y z : Int} {wd : Nat} (M : MIc T Fv P PR q u i h m L g x j wb nb cb rk) (hx : x < i) (t9 : F u 1109 = 0) (t8 : F u 1108 = 0) (hf : PHc T u q i x rk ≤ c) (p : PTQ u q n ow kd Fv P (nb + m) (wb + h) Y) (gt : GT n ow kd P t) (hy : y = ((k : Nat) : Int)) (hk : k ≤ h) (hz : z = ((wd : Nat) : Int)) (hwd : 1 ≤ wd ∧ wd ≤ 4) (t2 : T (i + wd) = some (h - k + 1, m, L, g, x)) : OK (fun w _ => F w 1109 = 0 ∧ ∀ w2, FC q [945] [] [] [11] [] [] [] w w2 → F w2 1109 = 0 ∧ OPQ T Fv P PR q c (upI w2 1105 ((w2.1 1105) + I z))) (hm_Ma_answer N u q (I y) t) := by
  have mb := MI_b M
  have w2b := (M.1.2.2.1 _ _ _ _ _ _ t2).1
  have wf := (M.1.2.2.1 _ _ _ _ _ _ t2).2.1
  refine ok_mono (answer_t (N := N) p (MI_ln M) hy (by omega) (by omega) gt) (fun w5 _ hw5 => ?_)
  obtain ⟨fm5, p5, ln5⟩ := hw5
  rw [show wb + h - k + 1 = wb + (h - k + 1) by omega] at p5
  refine ⟨by rw [fm5.Fg (by omega) (by simp)]; exact t9, fun w2 f2 => ⟨by rw [f2.Fg (by omega) (by simp), fm5.Fg (by omega) (by simp)]; exact t9, ?_⟩⟩
  have e5 : F w2 1105 = ((i : Nat) : Int) := by rw [f2.Fg (by omega) (by simp), fm5.Fg (by omega) (by simp)]; exact M.2.2.2.1.2
  rw [at_e e5, show ((i : Nat) : Int) + z = ((i + wd : Nat) : Int) by omega]
  have f3 : FC q [1105, 945] [] [] [4, 5, 24, 26, 42, 43, 45, 11] [] [32] [2, 3, 33, 35, 6] u (wi w2 1105 ((i + wd : Nat) : Int)) := FC.wi_g (FC.tr (FC.mo fm5 (by simp) (by simp) (by simp) (by simp) (by simp) (by simp) (by simp)) (FC.mo f2 (by simp) (by simp) (by simp) (by simp) (by simp) (by simp) (by simp))) (by omega) (by simp)
  have p3 : PTQ (wi w2 1105 ((i + wd : Nat) : Int)) q n ow kd Fv P (nb + m) (wb + (h - k + 1)) Y := PT_g (by omega) (PTQ_same p5 (fun k hk => f2.2.2.2.2.1 q k (by simp at hk; omega) (fun _ => by simp at hk ⊢; omega)) (fun k hk => f2.jq (by simp at hk; omega) (by simp)))
  have ln3 : LNB (wi w2 1105 ((i + wd : Nat) : Int)) q := LNB_g (LNB_fc ln5 (fun l hl => f2.2.2.2.2.1 q l (by simp at hl; omega) (fun _ => by simp at hl ⊢; omega))) (by omega)
  have M2 := MI_new M f3 (by simp) (by simp) (SMQ_f M f3 (by simp)) (by rw [f3.Fq (by omega) (by simp)]; exact M.2.1) p3 ln3 (STc_s M.2.2.1 (f3.2.2.2.2.2.2.1 q 30 (by omega) (by simp)) (f3.2.2.2.2.2.2.1 q 37 (by omega) (by simp)) (f3.2.2.2.2.1 q 21 (by omega) (by simp)) (f3.2.2.2.2.1 q 28 (by omega) (by simp))) t2 (at_F (by omega)) (GDS_s M.2.2.2.2.2.1 (fun k hk => f3.1 k (by simp at hk; omega) (by simp at hk ⊢; omega)) (f3.2.2.1 23 (by omega) (by simp))) (fun h1 _ => by rw [f3.Fq (by omega) (by simp), f3.Fq (by omega) (by simp)]; exact M.2.2.2.2.2.2.1 h1 (by omega)) (UN_k M.2.2.2.2.2.2.2 (f3.2.2.2.2.2.1 q 10 (by omega) (by simp)) (f3.2.2.1 23 (by omega) (by simp))) (BEGc M f3 (by simp) (by simp))
  refine NRM_n M2 hf (f3.Fg (by omega) (by simp)) (f3.Fg (by omega) (by simp)) ?_ (by rw [f3.Fg (by omega) (by simp)]; exact t9) (by rw [f3.Fg (by omega) (by simp)]; exact t8)
  rw [f3.Fq (by omega) (by simp)]
  have := pot_x (j := i + wd) (t := (F u (pq q 8)).toNat) M.2.2.2.1.1 mb.1.2 (by omega)
  omega
theorem tellP {how ar : Int} (M : MIc T Fv P PR q u i h m L g x j wb nb cb rk) (t9 : F u 1109 = 0) (t8 : F u 1108 = 0) (hf : PHc T u q i x rk ≤ c) (gt : GTQ Fv P u q t) (h1 : how = 1 ∨ how = 2 ∨ how = 3) (h2 : ar = -1 ∨ (0 ≤ ar ∧ ar < 22)) : PDQc T Fv P PR q c (wl (wi (wi u 1109 how) 1111 ar) 1110 t) := by
  refine Or.inr ⟨?_, ERR_t M t9 t8 hf gt h1 h2⟩
  show F (wi (wi u 1109 how) 1111 ar) 1109 ≠ 0
  rw [F_wi (by omega) (by omega), if_neg (by decide), F_wi (by omega) (by omega), if_pos rfl]; omega
theorem errP (M : MIc T Fv P PR q u i h m L g x j wb nb cb rk) (t9 : F u 1109 = 0) (t8 : F u 1108 = 0) (hf : PHc T u q i x rk ≤ c) (ha : a < 22) : OK (fun w _ => PDQc T Fv P PR q c w) (bnd (hm_Ma_wrong N u q (I ((a : Nat) : Int))) (fun u1 _ => some (u1, ()))) := by
  rw [wrong_e, bnd_so]
  exact ok_some.mpr (tellP M t9 t8 hf (GTQ_at M ha) (Or.inl rfl) (Or.inl rfl))
theorem ansP {y : Int} (M : MIc T Fv P PR q u i h m L g x j wb nb cb rk) (hx : x < i) (t9 : F u 1109 = 0) (t8 : F u 1108 = 0) (hf : PHc T u q i x rk ≤ c) (p : PTQ u q n ow kd Fv P (nb + m) (wb + h) Y) (gt : GT n ow kd P t) (hy : y = ((k : Nat) : Int)) (hk : k ≤ h) (t2 : T (i + 2) = some (h - k + 1, m, L, g, x)) : OK (fun w _ => PDQc T Fv P PR q c w) (bnd (hm_Ma_answer N u q (I y) t) (fun u1 _ => some (u1, ()))) :=
  ok_bnd.mpr (ok_mono (ans_ok (N := N) (z := 2) (wd := 2) M hx t9 t8 hf p gt hy hk rfl (by omega) t2) (fun _ _ hw => ok_some.mpr (Or.inl hw)))
theorem wansP {y : Int} (M : MIc T Fv P PR q u i h m L g x j wb nb cb rk) (hx : x < i) (t9 : F u 1109 = 0) (t8 : F u 1108 = 0) (hf : PHc T u q i x rk ≤ c) (wq : WQ Fv P PR u w1) (hy : y = ((k : Nat) : Int)) (hk : k ≤ h) (gt : F w1 (pq q 9) ≠ 3 → ∀ n ow kd Y, PTQ w1 q n ow kd Fv P (nb + m) (wb + h) Y → GT n ow kd P t) (t2 : T (i + 2) = some (h - k + 1, m, L, g, x)) : OK (fun w _ => PDQc T Fv P PR q c w) (bnd (hm_Ma_answer N w1 q (I y) t) (fun u1 _ => some (u1, ()))) :=
  ok_bnd.mpr (ok_mono (wans_ok (N := N) (z := 2) (wd := 2) M hx t9 t8 hf wq hy hk gt rfl (by omega) t2) (fun _ _ hw => ok_some.mpr (Or.inl hw)))
theorem truP {y : Int32} (M : MIc T Fv P PR q u i h m L g x j wb nb cb rk) (hx : x < i) (t9 : F u 1109 = 0) (t8 : F u 1108 = 0) (hf : PHc T u q i x rk ≤ c) (hk : 1 ≤ h) (t2 : T (i + 2) = some (h - 1 + 1, m, L, g, x)) : OK (fun w _ => PDQc T Fv P PR q c w) (bnd (hm_Ma_truth N u y) (fun u1 r1 => bnd (hm_Ma_answer N u1 q 1 r1) (fun u2 _ => some (u2, ())))) := by
  obtain ⟨n, ow, kd, Y, p⟩ := MI_p M
  obtain ⟨a2, ha, et⟩ := truth_e (N := N) (u := u) y
  rw [et, bnd_so]
  exact ansP (y := 1) (k := 1) M hx t9 t8 hf p (GT_at M.1.2.1 ha) rfl hk t2
theorem tst17 : hm_Ma_test N u q (I 17) = bnd (hm_Fr_below N u q 0) (fun u16 r16 => bnd (hm_Te_tag N u16 r16) (fun u18 r18 => br (decide (r18 = 0)) (hb_Ma_test_72 N () u18 q 1 1) (hb_Ma_test_72 N () u18 q 1 0))) := rfl
theorem tst18 : hm_Ma_test N u q (I 18) = bnd (hm_Fr_below N u q 0) (fun u16 r16 => bnd (hm_Te_tag N u16 r16) (fun u18 r18 => br (decide (r18 = 1)) (hb_Ma_test_94 N () u18 q 1 1) (hb_Ma_test_94 N () u18 q 1 0))) := rfl
theorem tst19 : hm_Ma_test N u q (I 19) = bnd (hm_Fr_below N u q 0) (fun u16 r16 => bnd (hm_Te_tag N u16 r16) (fun u18 r18 => br (decide (r18 = 6)) (hb_Ma_test_119 N () u18 q 1) (br (decide (r18 = 7)) (hb_Ma_test_119 N () u18 q 1) (hb_Ma_test_124 N () u18 q 1 0)))) := rfl
theorem tst20 : hm_Ma_test N u q (I 20) = bnd (hm_Fr_below N u q 0) (fun u16 r16 => bnd (hm_Te_tag N u16 r16) (fun u18 r18 => br (decide (r18 = 5)) (hb_Ma_test_146 N () u18 q 1 1) (hb_Ma_test_146 N () u18 q 1 0))) := rfl
theorem tst21 : hm_Ma_test N u q (I 21) = bnd (hm_Fr_below N u q 0) (fun u16 r16 => bnd (hm_Te_tag N u16 r16) (fun u18 r18 => br (decide (r18 = 3)) (hb_Ma_test_168 N () u18 q 1 1) (hb_Ma_test_168 N () u18 q 1 0))) := rfl
theorem tst22 : hm_Ma_test N u q (I 22) = bnd (hm_Fr_below N u q 0) (fun u16 r16 => bnd (hm_Te_tag N u16 r16) (fun u18 r18 => br (decide (r18 = 4)) (hb_Ma_test_190 N () u18 q 1 1) (hb_Ma_test_190 N () u18 q 1 0))) := rfl
theorem tst23 : hm_Ma_test N u q (I 23) = bnd (hm_Fr_below N u q 0) (fun u16 r16 => bnd (hm_Te_tag N u16 r16) (fun u18 r18 => br (decide (r18 = 2)) (hb_Ma_test_212 N () u18 q 1 1) (hb_Ma_test_212 N () u18 q 1 0))) := rfl
theorem tst24 : hm_Ma_test N u q (I 24) = bnd (hm_Fr_below N u q 0) (fun u16 r16 => bnd (hm_Te_tag N u16 r16) (fun u18 r18 => bnd (br (decide (r18 = 7)) (ck (inb r16.toInt32 512) (bnd (hm_Ma_answer N u18 q 1 (u18.2.2.2 (pq q 2) r16.toInt32.toNatClampNeg)) (fun u4 _ => some (u4, ())))) (bnd (hm_Ma_wrong N u18 q 11) (fun u25 _ => some (u25, ())))) (fun u19 _ => some (u19, ())))) := rfl
theorem tst25 : hm_Ma_test N u q (I 25) = bnd (hm_Fr_below N u q 0) (fun u16 r16 => bnd (hm_Te_tag N u16 r16) (fun u18 r18 => bnd (br (decide (r18 = 7)) (ck (inb (r16.toInt32 + 1) 512) (bnd (hm_Ma_answer N u18 q 1 (u18.2.2.2 (pq q 2) (r16.toInt32 + 1).toNatClampNeg)) (fun u4 _ => some (u4, ())))) (bnd (hm_Ma_wrong N u18 q 11) (fun u25 _ => some (u25, ())))) (fun u19 _ => some (u19, ())))) := rfl
theorem tst26 : hm_Ma_test N u q (I 26) = bnd (hm_Fr_below N u q 0) (fun u16 r16 => bnd (hm_Te_tag N u16 r16) (fun u18 _ => bnd (bnd (hm_Te_listLength N u18 (pq q 2) r16) (fun u30 r30 => br (decide (r30 = (-1))) (bnd (hm_Ma_wrong N u30 q 11) (fun u34 _ => some (u34, ()))) (bnd (hm_Te_make N u30 0 r30) (fun u32 r32 => bnd (hm_Ma_answer N u32 q 1 r32) (fun u33 _ => some (u33, ())))))) (fun u19 _ => some (u19, ())))) := rfl
theorem tst28 : hm_Ma_test N u q (I 28) = bnd (hm_Fr_below N u q 0) (fun u16 r16 => bnd (hm_Te_tag N u16 r16) (fun u18 r18 => bnd (br (decide (r18 = 5)) (ck (inb r16.toInt32 512) (bnd (hm_Te_make N u18 0 ((u18.2.2.2 (pq q 2) r16.toInt32.toNatClampNeg).toInt32)) (fun u23 r23 => bnd (hm_Ma_answer N u23 q 1 r23) (fun u24 _ => some (u24, ()))))) (bnd (hm_Ma_wrong N u18 q 11) (fun u25 _ => some (u25, ())))) (fun u19 _ => some (u19, ())))) := rfl
theorem tst27 : hm_Ma_test N u q (I 27) = bnd (hm_Fr_below N u q 0) (fun u16 r16 => bnd (hm_Te_tag N u16 r16) (fun u18 r18 => bnd (br (decide (r18 = 5)) (ck (inb r16.toInt32 512) (bnd (hm_Fr_below N u18 q 1) (fun u14 r14 => bnd (hm_Te_tag N u14 r14) (fun u21 r21 => br (decide (r21 = 0)) (br (decide (r14.toInt32 < 1)) (hb_Ma_part_189 N () u21 q) (br (decide (r14.toInt32 ≤ (u18.2.2.2 (pq q 2) r16.toInt32.toNatClampNeg).toInt32)) (ck (inb (r16.toInt32 + r14.toInt32) 512) (bnd (hm_Ma_answer N u21 q 2 (u21.2.2.2 (pq q 2) (r16.toInt32 + r14.toInt32).toNatClampNeg)) (fun u22 _ => some (u22, ())))) (hb_Ma_part_189 N () u21 q))) (hb_Ma_part_189 N () u21 q))))) (bnd (hm_Ma_wrong N u18 q 11) (fun u25 _ => some (u25, ())))) (fun u19 _ => some (u19, ())))) := rfl
theorem okP {o : Option (MS × Unit)} (hh : OK (fun w _ => PDQc T Fv P PR q c w) o) : OK (fun w _ => PDQc T Fv P PR q c w) (bnd o (fun u1 _ => some (u1, ()))) := ok_bnd.mpr (ok_mono hh (fun _ _ hw => ok_some.mpr hw))
theorem test_ok {y : Int} (M : MIc T Fv P PR q u i h m L g x j wb nb cb rk) (hx : x < i) (t9 : F u 1109 = 0) (t8 : F u 1108 = 0) (hf : PHc T u q i x rk ≤ c) (hy : 17 ≤ y ∧ y ≤ 28) (hk : tkc y ≤ h) (t2 : T (i + 2) = some (h - tkc y + 1, m, L, g, x)) (hN : 6000 ≤ N) : OK (fun w _ => PDQc T Fv P PR q c w) (hm_Ma_test N u q (I y)) := by
  obtain ⟨n, ow, kd, Y, p⟩ := MI_p M
  have cx := M.1.2.1
  have k1 : y ≠ 27 → tkc y = 1 := fun z => by unfold tkc; rw [if_neg (by omega), if_neg (by omega)]
  have er : ∀ {a : Nat}, a < 22 → OK (fun w _ => PDQc T Fv P PR q c w) (bnd (hm_Ma_wrong N u q (I ((a : Nat) : Int))) (fun u1 _ => some (u1, ()))) := fun ha => errP M t9 t8 hf ha
  have h1 : 1 ≤ h := by
    by_cases z : y = 27
    · subst z; have : tkc 27 = 2 := rfl; omega
    · have := k1 z; omega
  obtain ⟨b0, g0⟩ := below_0 (N := N) M p h1
  have one : y ≠ 27 → T (i + 2) = some (h - 1 + 1, m, L, g, x) := fun z => by have e := t2; rw [k1 z] at e; exact e
  have tr : ∀ y2, y ≠ 27 → OK (fun w _ => PDQc T Fv P PR q c w) (bnd (hm_Ma_truth N u y2) (fun u1 r1 => bnd (hm_Ma_answer N u1 q 1 r1) (fun u2 _ => some (u2, ())))) := fun y2 z => truP M hx t9 t8 hf h1 (one z)
  have ls : ∀ {p1 p2 : Option (MS × Unit)} {b : Bool}, OK (fun w _ => PDQc T Fv P PR q c w) p1 → OK (fun w _ => PDQc T Fv P PR q c w) p2 → OK (fun w _ => PDQc T Fv P PR q c w) (br b p1 p2) := fun a b => ok_br.mpr ⟨fun _ => a, fun _ => b⟩
  have cs : y = 17 ∨ y = 18 ∨ y = 19 ∨ y = 20 ∨ y = 21 ∨ y = 22 ∨ y = 23 ∨ y = 24 ∨ y = 25 ∨ y = 26 ∨ y = 27 ∨ y = 28 := by omega
  have g2 := p.1.2.2
  have n5 := p.1.2.1
  rcases cs with e | e | e | e | e | e | e | e | e | e | e | e
  · subst e; rw [tst17, b0, bnd_so, e_tag, bnd_so]; exact ls (tr _ (by decide)) (tr _ (by decide))
  · subst e; rw [tst18, b0, bnd_so, e_tag, bnd_so]; exact ls (tr _ (by decide)) (tr _ (by decide))
  · subst e; rw [tst19, b0, bnd_so, e_tag, bnd_so]; unfold hb_Ma_test_119; exact ls (tr _ (by decide)) (ls (tr _ (by decide)) (tr _ (by decide)))
  · subst e; rw [tst20, b0, bnd_so, e_tag, bnd_so]; exact ls (tr _ (by decide)) (tr _ (by decide))
  · subst e; rw [tst21, b0, bnd_so, e_tag, bnd_so]; exact ls (tr _ (by decide)) (tr _ (by decide))
  · subst e; rw [tst22, b0, bnd_so, e_tag, bnd_so]; exact ls (tr _ (by decide)) (tr _ (by decide))
  · subst e; rw [tst23, b0, bnd_so, e_tag, bnd_so]; exact ls (tr _ (by decide)) (tr _ (by decide))
  · subst e
    rw [tst24, b0, bnd_so, e_tag, bnd_so, valI]
    refine okP ?_
    rw [I_lit (n := 7)]
    refine k_eq (so_r _) ⟨by decide, by decide⟩ (fun e7 => ?_) (fun _ => er (a := 11) (by omega))
    obtain ⟨a1, a2, a3, a4⟩ := pair_at g2 g0 e7
    refine e_in ⟨by omega, by omega⟩ (by decide) ?_
    rw [tnI a1 (by omega)]
    exact ansP (y := 1) (k := 1) M hx t9 t8 hf p a3 rfl h1 (one (by decide))
  · subst e
    rw [tst25, b0, bnd_so, e_tag, bnd_so, valI]
    refine okP ?_
    rw [I_lit (n := 7)]
    refine k_eq (so_r _) ⟨by decide, by decide⟩ (fun e7 => ?_) (fun _ => er (a := 11) (by omega))
    obtain ⟨a1, a2, a3, a4⟩ := pair_at g2 g0 e7
    rw [lit1q, I_add]
    refine e_in ⟨by omega, by omega⟩ (by decide) ?_
    rw [tnI (n := vn (u.2.2.2 (pq q 35) (wb + h - 1)) + 1) (by omega) (by omega)]
    exact ansP (y := 1) (k := 1) M hx t9 t8 hf p a4 rfl h1 (one (by decide))
  · subst e
    rw [tst26, b0, bnd_so, e_tag, bnd_so]
    refine okP ?_
    obtain ⟨f0, s, z⟩ := HP_szc g2 g0
    have zm := SZ_max g2 z
    refine ok_bnd.mpr (ok_mono (listLength_ok (N := N) rfl (by omega) z (by omega) hN) (fun w r hw => ?_))
    obtain ⟨rfl, hr⟩ := hw
    rcases hr with hr | ⟨k2, hr, hk2, -⟩
    · subst hr
      exact ok_br.mpr ⟨fun _ => er (a := 11) (by omega), fun z => absurd z (by decide)⟩
    · subst hr
      rw [m1I]
      refine k_eq ⟨by omega, by omega⟩ ⟨by decide, by decide⟩ (fun _ => er (a := 11) (by omega)) (fun _ => ?_)
      rw [lit0q, e_make, bnd_so]
      exact ansP (y := 1) (k := 1) M hx t9 t8 hf p (GT_0c cx ⟨by omega, by omega⟩) rfl h1 (one (by decide))
  · subst e
    have hk2 : tkc 27 = 2 := rfl
    rw [hk2] at hk t2
    obtain ⟨b1, g1⟩ := below_1 (N := N) M p hk
    rw [tst27, b0, bnd_so, e_tag, bnd_so, valI]
    refine okP ?_
    rw [I_lit (n := 5)]
    refine k_eq (so_r _) ⟨by decide, by decide⟩ (fun e5 => ?_) (fun _ => er (a := 11) (by omega))
    obtain ⟨a1, a2, a3, a4⟩ := tup_at g2 g0 e5
    refine e_in ⟨by omega, by omega⟩ (by decide) ?_
    rw [b1, bnd_so, e_tag, bnd_so, valI (u.2.2.2 (pq q 35) (wb + h - 1 - 1)), tnI a1 (by omega), valI (u.2.2.2 (pq q 2) _), lit0q, I_lit (n := 1)]
    refine k_eq (so_r _) ⟨by decide, by decide⟩ (fun e0 => ?_) (fun _ => er (a := 11) (by omega))
    refine k_lt (va_r _) ⟨by decide, by decide⟩ (fun _ => er (a := 11) (by omega)) (fun c1 => ?_)
    have c1 : 1 ≤ va (u.2.2.2 (pq q 35) (wb + h - 1 - 1)) := c1
    refine k_le (va_r _) (va_r _) (fun c2 => ?_) (fun _ => er (a := 11) (by omega))
    rw [I_add]
    refine e_in ⟨by omega, by omega⟩ (by decide) ?_
    rw [tnI (n := vn (u.2.2.2 (pq q 35) (wb + h - 1)) + (va (u.2.2.2 (pq q 35) (wb + h - 1 - 1))).toNat) (by omega) (by omega)]
    exact ansP (y := 2) (k := 2) M hx t9 t8 hf p (a4 _ (by omega) (by omega)) rfl hk t2
  · subst e
    rw [tst28, b0, bnd_so, e_tag, bnd_so, valI]
    refine okP ?_
    rw [I_lit (n := 5)]
    refine k_eq (so_r _) ⟨by decide, by decide⟩ (fun e5 => ?_) (fun _ => er (a := 11) (by omega))
    obtain ⟨a1, a2, a3, a4⟩ := tup_at g2 g0 e5
    refine e_in ⟨by omega, by omega⟩ (by decide) ?_
    rw [tnI a1 (by omega), valI (u.2.2.2 (pq q 2) _), lit0q, e_make, bnd_so]
    exact ansP (y := 1) (k := 1) M hx t9 t8 hf p (GT_0c cx (va_r _)) rfl h1 (one (by decide))
end
end
section
set_option maxRecDepth 100000
section
variable {T : Nat → Option (Nat × Nat × List Nat × Nat × Nat)} {Fv : Int64 → Int64 → Prop} {P : Int64 → Prop} {u v w w1 : MS} {PR N q r n B W Y i h m g x j wb nb cb rk c f i2 h2 m2 k a U d : Nat} {L : List Nat} {ow kd : Nat → Nat} {t rest : Int64} {gi gl ga ki kl ka kj : List Nat}
theorem below_any (M : MIc T Fv P PR q u i h m L g x j wb nb cb rk) : ∃ r, hm_Fr_below N u q 0 = some (u, r) := by
  obtain ⟨n, ow, kd, Y, p⟩ := MI_p M
  obtain ⟨l, l1, l2, l3⟩ := p.2.2.2.2.2.1
  by_cases z : wb + h = 0
  · refine ⟨0, ?_⟩
    unfold hm_Fr_below hb_Fr_below_0 hb_Fr_below_23
    rw [I_F (k := pq q 26), p.2.2.1.1, z, lit1q, I_sub, lit0q, I_sub, decI (by decide) (by decide) (by decide) (by decide), decide_eq_false (by decide), br_fq]
  · exact ⟨_, below_e (x := 0) (k := 0) p.2.2.1.1 l1 l2 l3 rfl (by omega)⟩
theorem aln0 : hm_Ma_alone N u q (I 0) = bnd (hm_Fr_below N u q 0) (fun u11 _ => bnd (hm_Te_make N u11 4 (Int32.ofNat q)) (fun u16 r16 => bnd (hm_Ma_answer N u16 q 0 r16) (fun u17 _ => some (u17, ())))) := rfl
theorem aln5 : hm_Ma_alone N u q (I 5) = bnd (hm_Fr_below N u q 0) (fun u11 r11 => bnd (hm_Te_tag N u11 r11) (fun u22 r22 => br (decide (r22 = 2)) (bnd (hm_Wl_removeWatch N u22 (Int32.ofNat q) (r11.toInt32)) (fun u27 _ => bnd (hm_Ma_atom N u27 0) (fun u29 r29 => bnd (hm_Ma_answer N u29 q 1 r29) (fun u30 _ => some (u30, ()))))) (bnd (hm_Ma_wrong N u22 q 11) (fun u31 _ => some (u31, ()))))) := rfl
theorem aln6 : hm_Ma_alone N u q (I 6) = bnd (hm_Fr_below N u q 0) (fun u11 r11 => bnd (hm_Ma_atom N u11 0) (fun u32 r32 => br (decide ((lg_cmp r11 r32) = 0)) (hb_Ma_alone_183 N () u32 q (r11)) (bnd (hm_Ma_atom N u32 1) (fun u33 r33 => br (decide ((lg_cmp r11 r33) = 0)) (hb_Ma_alone_183 N () u33 q (r11)) (bnd (hm_Ma_wrong N u33 q 11) (fun u34 _ => some (u34, ()))))))) := rfl
theorem aln7 : hm_Ma_alone N u q (I 7) = bnd (hm_Fr_below N u q 0) (fun u11 r11 => bnd (hm_Ma_tell N u11 q 2 (-1) r11) (fun u35 _ => some (u35, ()))) := rfl
theorem aln8 : hm_Ma_alone N u q (I 8) = bnd (hm_Fr_below N u q 0) (fun u11 r11 => bnd (hm_Ma_tell N u11 q 3 (-1) r11) (fun u35 _ => some (u35, ()))) := rfl
theorem aln9 : hm_Ma_alone N u q (I 9) = bnd (hm_Fr_below N u q 0) (fun u11 r11 => bnd (hm_Ma_tell N u11 q 1 (-1) r11) (fun u35 _ => some (u35, ()))) := rfl
theorem aln11 : hm_Ma_alone N u q (I 11) = bnd (hm_Fr_below N u q 0) (fun u11 _ => bnd (hm_Te_make N u11 2 (u11.1 945)) (fun u42 r42 => bnd (hm_Ma_answer N u42 q 0 r42) (fun u43 _ => lt (upI u43 945 ((u43.1 945) + 1)) (fun w47 => some (w47, ()))))) := rfl
theorem aln16 : hm_Ma_alone N u q (I 16) = bnd (hm_Fr_below N u q 0) (fun u11 _ => bnd (hm_Te_make N u11 0 (u11.1 944)) (fun u16 r16 => bnd (hm_Ma_answer N u16 q 0 r16) (fun u17 _ => some (u17, ())))) := rfl
theorem alnw {y : Int} (hr : RG y) (hy : y ∉ [0, 5, 6, 7, 8, 9, 11, 16]) : hm_Ma_alone N u q (I y) = bnd (hm_Fr_below N u q 0) (fun u11 _ => bnd (hm_Ma_wrong N u11 q 11) (fun u18 _ => some (u18, ()))) := by
  have ne : ∀ k : Int, RG k → y ≠ k → decide (I y = I k) = false := fun k hk z => decide_eq_false (fun e => z ((I_eq hr.1 hr.2 hk.1 hk.2).mp e))
  have nn : y ≠ 0 ∧ y ≠ 5 ∧ y ≠ 6 ∧ y ≠ 7 ∧ y ≠ 8 ∧ y ≠ 9 ∧ y ≠ 11 ∧ y ≠ 16 := by simp at hy; omega
  have n0 : decide (I y = 0) = false := ne 0 ⟨by decide, by decide⟩ nn.1
  have n5 : decide (I y = 5) = false := ne 5 ⟨by decide, by decide⟩ nn.2.1
  have n6 : decide (I y = 6) = false := ne 6 ⟨by decide, by decide⟩ nn.2.2.1
  have n7 : decide (I y = 7) = false := ne 7 ⟨by decide, by decide⟩ nn.2.2.2.1
  have n8 : decide (I y = 8) = false := ne 8 ⟨by decide, by decide⟩ nn.2.2.2.2.1
  have n9 : decide (I y = 9) = false := ne 9 ⟨by decide, by decide⟩ nn.2.2.2.2.2.1
  have n11 : decide (I y = 11) = false := ne 11 ⟨by decide, by decide⟩ nn.2.2.2.2.2.2.1
  have n16 : decide (I y = 16) = false := ne 16 ⟨by decide, by decide⟩ nn.2.2.2.2.2.2.2
  unfold hm_Ma_alone hb_Ma_alone_0 hb_Ma_alone_309
  simp only [n0, n5, n6, n7, n8, n9, n11, n16, br_fq, br_same]
theorem alone_okc {y : Int} (M : MIc T Fv P PR q u i h m L g x j wb nb cb rk) (hx : x < i) (t9 : F u 1109 = 0) (t8 : F u 1108 = 0) (hf : PHc T u q i x rk ≤ c) (hr : RG y) (hy : y ≠ 12 ∧ y ≠ 27) (hk : tkc y ≤ h) (t2 : T (i + 2) = some (h - tkc y + 1, m, L, g, x)) (hN : 6000 ≤ N) : OK (fun w _ => PDQc T Fv P PR q c w) (hm_Ma_alone N u q (I y)) := by
  obtain ⟨n, ow, kd, Y, p⟩ := MI_p M
  have cx := M.1.2.1
  have hq2 := M.1.2.2.2.2.2.2.1
  have hq := M.1.1.1.1.2
  by_cases w : y ∉ [0, 5, 6, 7, 8, 9, 11, 16]
  · rw [alnw hr w]
    obtain ⟨r, e⟩ := below_any (N := N) M
    rw [e, bnd_so]
    exact errP (a := 11) M t9 t8 hf (by omega)
  · have cs : y = 0 ∨ y = 5 ∨ y = 6 ∨ y = 7 ∨ y = 8 ∨ y = 9 ∨ y = 11 ∨ y = 16 := by simp at w; omega
    rcases cs with e | e | e | e | e | e | e | e
    · subst e
      obtain ⟨r, e⟩ := below_any (N := N) M
      rw [aln0, e, bnd_so, I_lit (n := 4), show Int32.ofNat q = I ((q : Nat) : Int) from rfl, e_make, bnd_so]
      exact ansP (y := 0) (k := 0) M hx t9 t8 hf p (GT_nu cx (Or.inr (Or.inr rfl)) ⟨by omega, by omega⟩) rfl (by omega) t2
    · subst e
      have h1 : 1 ≤ h := hk
      obtain ⟨b0, g0⟩ := below_0 (N := N) M p h1
      rw [aln5, b0, bnd_so, e_tag, bnd_so, I_lit (n := 2)]
      refine k_eq (so_r _) ⟨by decide, by decide⟩ (fun e7 => ?_) (fun _ => errP (a := 11) M t9 t8 hf (by omega))
      rw [valI, show Int32.ofNat q = I ((q : Nat) : Int) from rfl]
      refine ok_bnd.mpr (ok_mono (removeWatchc_ok (N := N) M.1.1 ⟨by omega, by omega⟩ (va_r _) (by omega)) (fun w1 _ hw1 => ?_))
      rw [lit0q, atom_e, bnd_so]
      exact wansP (y := 1) (k := 1) M hx t9 t8 hf hw1.1 rfl h1 (fun _ n ow kd Y _ => GT_at (a := 0) cx (by omega)) t2
    · subst e
      have h1 : 1 ≤ h := hk
      obtain ⟨b0, g0⟩ := below_0 (N := N) M p h1
      have tr : ∀ v2, OK (fun w _ => PDQc T Fv P PR q c w) (hb_Ma_alone_183 N () u q v2) := fun v2 => by
        unfold hb_Ma_alone_183
        obtain ⟨a2, ha, et⟩ := truth_e (N := N) (u := u) (u.1 (pq q 11))
        rw [et, bnd_so]
        refine ok_bnd.mpr (ok_mono (ans_x (N := N) (y := 1) (k := 1) (z := 2) (wd := 2) M hx t9 t8 hf p (GT_at cx ha) rfl h1 rfl (by omega) t2) (fun w1 _ hw1 => ?_))
        rw [lit0q, atom_e, bnd_so]
        unfold hb_Ma_alone_216 hb_Ma_alone_309
        refine ok_br.mpr ⟨fun _ => ?_, fun _ => ?_⟩
        · exact ok_ck.mpr ⟨by decide, ok_lt.mpr (ok_some.mpr (Or.inl (hw1.2 (wi w1 (pq q 11) 1) (FC.wi_q FC.rf (by omega) (by simp)))))⟩
        · exact ok_ck.mpr ⟨by decide, ok_lt.mpr (ok_some.mpr (Or.inl (hw1.2 (wi w1 (pq q 11) 0) (FC.wi_q FC.rf (by omega) (by simp)))))⟩
      rw [aln6, b0, bnd_so, lit0q, atom_e, bnd_so]
      refine ok_br.mpr ⟨fun _ => tr _, fun _ => ?_⟩
      rw [lit1q, atom_e, bnd_so]
      exact ok_br.mpr ⟨fun _ => tr _, fun _ => errP (a := 11) M t9 t8 hf (by omega)⟩
    · subst e
      obtain ⟨b0, g0⟩ := below_0 (N := N) M p hk
      rw [aln7, b0, bnd_so, m1I, I_lit (n := 2), tell_e, bnd_so]
      exact ok_some.mpr (tellP M t9 t8 hf ⟨n, ow, kd, _, _, Y, p, g0⟩ (Or.inr (Or.inl rfl)) (Or.inl rfl))
    · subst e
      obtain ⟨b0, g0⟩ := below_0 (N := N) M p hk
      rw [aln8, b0, bnd_so, m1I, I_lit (n := 3), tell_e, bnd_so]
      exact ok_some.mpr (tellP M t9 t8 hf ⟨n, ow, kd, _, _, Y, p, g0⟩ (Or.inr (Or.inr rfl)) (Or.inl rfl))
    · subst e
      obtain ⟨b0, g0⟩ := below_0 (N := N) M p hk
      rw [aln9, b0, bnd_so, m1I, I_lit (n := 1), tell_e, bnd_so]
      exact ok_some.mpr (tellP M t9 t8 hf ⟨n, ow, kd, _, _, Y, p, g0⟩ (Or.inl rfl) (Or.inl rfl))
    · subst e
      obtain ⟨r, e⟩ := below_any (N := N) M
      rw [aln11, e, bnd_so, I_lit (n := 2), I_F (k := 945), e_make, bnd_so]
      refine ok_bnd.mpr (ok_mono (ans_x (N := N) (y := 0) (k := 0) (z := 2) (wd := 2) M hx t9 t8 hf p (GT_nu cx (Or.inr (Or.inl rfl)) (FRG1 u _)) rfl (by omega) rfl (by omega) t2) (fun w1 _ hw1 => ok_lt.mpr (ok_some.mpr (Or.inl ?_))))
      rw [I_F (k := 945), lit1q, I_add, wi_e]
      exact hw1.2 _ (FC.wi_g FC.rf (by omega) (by simp))
    · subst e
      obtain ⟨r, e⟩ := below_any (N := N) M
      rw [aln16, e, bnd_so, lit0q, I_F (k := 944), e_make, bnd_so]
      exact ansP (y := 0) (k := 0) M hx t9 t8 hf p (GT_0c cx (FRG1 u _)) rfl (by omega) t2
theorem WQ_nm {y : Int} (dw : DWc Fv P PR u) : WQ Fv P PR u (wi u (pq r 12) y) := by
  have f : FC r [] [] [] [12] [] [] [] u (wi u (pq r 12) y) := FC.wi_q FC.rf (by omega) (by simp)
  refine ⟨DWc_gl dw f (by simp) (by simp) (fun hr => ?_) (by simp) (by rw [f.Fg (by omega) (by simp)]; exact dw.1.2.2.1) (by rw [f.Fg (by omega) (by simp)]; exact dw.1.2.2.2.1.2) (by simp), FC.W f (by simp) (by simp) (by simp) (by simp) (by simp) (by simp) rfl, ST3.of f (by simp) (by simp)⟩
  have s := (dw.2 r hr).1
  unfold SMQ
  rw [f.Fq (by omega) (by simp), f.Fq (by omega) (by simp), f.Fq (by omega) (by simp), f.Fq (by omega) (by simp)]; exact s
theorem nam12 : hm_Ma_naming N u q (I 12) = bnd (hm_Fr_below N u q 1) (fun u3 r3 => bnd (hm_Te_tag N u3 r3) (fun u5 r5 => br (decide (r5 = 1)) (bnd (hm_Wl_named N u5 (r3.toInt32)) (fun u7 r7 => bnd (hm_Ma_processAt N u7 q 0) (fun u9 r9 => br (decide (r9 = none)) (hb_Ma_naming_147 N () u9 q) (br (decide (r7 = none)) (bo r9 (fun j10 => br (decide ((u9.1 (pq j10 12)) = (-1))) (br (decide ((u9.1 (pq j10 9)) = 3)) (hb_Ma_naming_147 N () u9 q) (lt (upI u9 (pq j10 12) (r3.toInt32)) (fun w15 => bnd (hm_Ma_atom N w15 0) (fun u16 r16 => bnd (hm_Ma_answer N u16 q 2 r16) (fun u17 _ => some (u17, ())))))) (hb_Ma_naming_147 N () u9 q))) (hb_Ma_naming_147 N () u9 q))))) (bnd (hm_Ma_wrong N u5 q 11) (fun u27 _ => some (u27, ()))))) := rfl
theorem nam13 : hm_Ma_naming N u q (I 13) = bnd (hm_Fr_below N u q 0) (fun u3 r3 => bnd (hm_Te_tag N u3 r3) (fun u5 r5 => br (decide (r5 = 1)) (bnd (hm_Wl_named N u5 (r3.toInt32)) (fun u7 r7 => br (decide (r7 = none)) (bnd (hm_Ma_wrong N u7 q 11) (fun u22 _ => some (u22, ()))) (bo r7 (fun j18 => lt (upI u7 (pq j18 12) (-1)) (fun w19 => bnd (hm_Ma_atom N w19 0) (fun u20 r20 => bnd (hm_Ma_answer N u20 q 1 r20) (fun u21 _ => some (u21, ())))))))) (bnd (hm_Ma_wrong N u5 q 11) (fun u27 _ => some (u27, ()))))) := rfl
theorem nam14 : hm_Ma_naming N u q (I 14) = bnd (hm_Fr_below N u q 0) (fun u3 r3 => bnd (hm_Te_tag N u3 r3) (fun u5 r5 => br (decide (r5 = 1)) (bnd (hm_Wl_named N u5 (r3.toInt32)) (fun u7 r7 => br (decide (r7 = none)) (bnd (hm_Ma_atom N u7 3) (fun u26 r26 => bnd (hm_Ma_answer N u26 q 1 r26) (fun u2 _ => some (u2, ())))) (bo r7 (fun j23 => bnd (hm_Te_make N u7 4 (Int32.ofNat j23)) (fun u25 r25 => bnd (hm_Ma_answer N u25 q 1 r25) (fun u2 _ => some (u2, ()))))))) (bnd (hm_Ma_wrong N u5 q 11) (fun u27 _ => some (u27, ()))))) := rfl
theorem naming_ok {y : Int} (M : MIc T Fv P PR q u i h m L g x j wb nb cb rk) (hx : x < i) (t9 : F u 1109 = 0) (t8 : F u 1108 = 0) (hf : PHc T u q i x rk ≤ c) (hy : y = 12 ∨ y = 13 ∨ y = 14) (hk : tkc y ≤ h) (t2 : T (i + 2) = some (h - tkc y + 1, m, L, g, x)) (hN : 6000 ≤ N) : OK (fun w _ => PDQc T Fv P PR q c w) (hm_Ma_naming N u q (I y)) := by
  obtain ⟨n, ow, kd, Y, p⟩ := MI_p M
  have cx := M.1.2.1
  have hq := M.1.1.1.1.2
  have er := errP (N := N) (a := 11) M t9 t8 hf (by omega)
  rcases hy with e | e | e
  · subst e
    have h1 : 2 ≤ h := hk
    obtain ⟨b1, g1⟩ := below_1 (N := N) M p h1
    rw [nam12, b1, bnd_so, e_tag, bnd_so, I_lit (n := 1)]
    refine k_eq (so_r _) ⟨by decide, by decide⟩ (fun e7 => ?_) (fun _ => er)
    rw [valI]
    refine ok_bnd.mpr (ok_mono (namedc_ok (N := N) M.1.1.1 (va_r _) (by omega)) (fun w r7 hw => ?_))
    obtain ⟨rfl, hr⟩ := hw
    rw [lit0q]
    refine ok_bnd.mpr (ok_mono (procAt_ok (N := N) (y := 0) (k := 0) M p rfl (by omega)) (fun w r9 hw => ?_))
    obtain ⟨rfl, hr9⟩ := hw
    rcases r9 with _ | jj
    · exact ok_br.mpr ⟨fun _ => er, fun z => absurd z (by decide)⟩
    · refine ok_br.mpr ⟨fun z => absurd z (by simp), fun _ => ok_br.mpr ⟨fun _ => ?_, fun _ => er⟩⟩
      rw [bo_s]
      refine ok_br.mpr ⟨fun _ => ok_br.mpr ⟨fun _ => er, fun _ => ok_lt.mpr ?_⟩, fun _ => er⟩
      rw [wi_e, atom_e, bnd_so]
      exact wansP (y := 2) (k := 2) M hx t9 t8 hf (WQ_nm M.1.1) rfl h1 (fun _ n ow kd Y _ => GT_at (a := 0) cx (by omega)) t2
  · subst e
    have h1 : 1 ≤ h := hk
    obtain ⟨b0, g0⟩ := below_0 (N := N) M p h1
    rw [nam13, b0, bnd_so, e_tag, bnd_so, I_lit (n := 1)]
    refine k_eq (so_r _) ⟨by decide, by decide⟩ (fun e7 => ?_) (fun _ => er)
    rw [valI]
    refine ok_bnd.mpr (ok_mono (namedc_ok (N := N) M.1.1.1 (va_r _) (by omega)) (fun w r7 hw => ?_))
    obtain ⟨rfl, hr⟩ := hw
    rcases r7 with _ | jj
    · exact ok_br.mpr ⟨fun _ => er, fun z => absurd z (by decide)⟩
    · refine ok_br.mpr ⟨fun z => absurd z (by simp), fun _ => ?_⟩
      rw [bo_s]
      refine ok_lt.mpr ?_
      rw [lit0q, atom_e, bnd_so]
      rw [show (-I 1 : Int32) = I (-1) from rfl, wi_e]
      exact wansP (y := 1) (k := 1) M hx t9 t8 hf (WQ_nm M.1.1) rfl h1 (fun _ n ow kd Y _ => GT_at (a := 0) cx (by omega)) t2
  · subst e
    have h1 : 1 ≤ h := hk
    obtain ⟨b0, g0⟩ := below_0 (N := N) M p h1
    rw [nam14, b0, bnd_so, e_tag, bnd_so, I_lit (n := 1)]
    refine k_eq (so_r _) ⟨by decide, by decide⟩ (fun e7 => ?_) (fun _ => er)
    rw [valI]
    refine ok_bnd.mpr (ok_mono (namedc_ok (N := N) M.1.1.1 (va_r _) (by omega)) (fun w r7 hw => ?_))
    obtain ⟨rfl, hr⟩ := hw
    rcases r7 with _ | jj
    · refine ok_br.mpr ⟨fun _ => ?_, fun z => absurd z (by decide)⟩
      rw [I_lit (n := 3), atom_e, bnd_so]
      exact ansP (y := 1) (k := 1) M hx t9 t8 hf p (GT_at (a := 3) cx (by omega)) rfl h1 t2
    · refine ok_br.mpr ⟨fun z => absurd z (by simp), fun _ => ?_⟩
      have := (hr jj rfl).1
      rw [bo_s, I_lit (n := 4), show Int32.ofNat jj = I ((jj : Nat) : Int) from rfl, e_make, bnd_so]
      exact ansP (y := 1) (k := 1) M hx t9 t8 hf p (GT_nu cx (Or.inr (Or.inr rfl)) ⟨by omega, by omega⟩) rfl h1 t2
theorem print_ok (dw : DWc Fv P PR u) (cx : CTX Fv P u) (hn : n ≤ 512) (g : HPc (u.2.2.2 (pq q 2)) n ow kd Fv P) (gt : GT n ow kd P t) (hN : 1000000010 ≤ N) : OK (fun w _ => FC q [1964, 865, 866, 953] [] [52, 53] [] [] [] [] u w ∧ DWc Fv P PR w) (hm_Wl_print N u (pq q 2) t) := by
  have g18 := dw.1.2.2.2.2.2
  unfold hm_Wl_print hb_Wl_print_0 hb_Wl_print_49
  rw [I_F (k := 953), I_lit (n := 200)]
  refine k_le ⟨by decide, by decide⟩ (FRG1 u _) (fun _ => ok_some.mpr ⟨FC.rf, dw⟩) (fun h1 => ?_)
  have h1 : F u 953 < 200 := h1
  rw [I_lit (n := 100), I_mul]
  refine ok_bnd.mpr (ok_mono (text_ok (N := N) (j := 52) cx.2.2.2.2.2.2 cx.2.2.1 (by unfold pq; omega) rfl hn g gt (Or.inl rfl) ⟨by show _ ≤ F u 953 * 100; omega, by show F u 953 * 100 ≤ _; omega⟩ hN) (fun w1 r hw1 => ?_))
  obtain ⟨f1, k, rfl, k0, k1⟩ := hw1
  refine e_in ⟨g18.1.1, by omega⟩ (by decide) (ok_lt.mpr (ok_lt.mpr (ok_some.mpr ?_)))
  have e1 : F w1 953 = F u 953 := congrArg _ (f1.1 953 (by simp))
  rw [tnI (n := (F u 953).toNat) (by omega) (by omega), wa_e, I_F (k := 953), show F (wa w1 53 (F u 953).toNat k) 953 = F u 953 from e1, lit1q, I_add, wi_e]
  have f2 : FC q [1964, 865, 866, 953] [] [52, 53] [] [] [] [] u (wi (wa w1 53 (F u 953).toNat k) 953 (F u 953 + 1)) := FC.wi_g (FC.wa_g (FC.mo (FC.of f1 (by simp) (by simp) (by simp) (by simp)) (by simp) (by simp) (by simp) (by simp) (by simp) (by simp) (by simp)) (by omega) (by simp)) (by omega) (by simp)
  refine ⟨f2, DWc_gl2 dw f2 (by simp) (by simp) (fun hq => ?_) (by simp) (by rw [f2.Fg (by omega) (by simp)]; exact dw.1.2.2.1) (by rw [f2.Fg (by omega) (by simp)]; exact dw.1.2.2.2.1.2) (by simp) ?_⟩
  · have s := (dw.2 q hq).1
    unfold SMQ
    rw [f2.Fq (by omega) (by simp), f2.Fq (by omega) (by simp), f2.Fq (by omega) (by simp), f2.Fq (by omega) (by simp)]; exact s
  · have e3 : F (wi (wa w1 53 (F u 953).toNat k) 953 (F u 953 + 1)) 953 = F u 953 + 1 := by rw [F_wi (by omega) (by omega), if_pos rfl]
    rw [e3]
    refine ⟨by omega, fun i hi => ?_⟩
    have eA : A (wi (wa w1 53 (F u 953).toNat k) 953 (F u 953 + 1)) 53 i = if i = (F u 953).toNat then k else A w1 53 i := by
      show A (wa w1 53 (F u 953).toNat k) 53 i = _
      rw [A_wa (by omega) (by omega), if_pos rfl]
    have e4 : A w1 53 i = A u 53 i := by show (w1.2.2.1 53 i).toInt = _; rw [f1.2.2.1 53 (by simp)]; rfl
    rw [eA, e4]
    by_cases z : i = (F u 953).toNat
    · rw [if_pos z]; exact ⟨k0, k1⟩
    · rw [if_neg z]; exact g18.2 i (by omega)
theorem pretst {y : Int} (hy : 17 ≤ y ∧ y ≤ 28) : hm_Ma_predefined N u q (I y) = bnd (hm_Ma_test N u q (I y)) (fun u6 _ => hb_Ma_predefined_146 N () u6 q) := by
  have cs : y = 17 ∨ y = 18 ∨ y = 19 ∨ y = 20 ∨ y = 21 ∨ y = 22 ∨ y = 23 ∨ y = 24 ∨ y = 25 ∨ y = 26 ∨ y = 27 ∨ y = 28 := by omega
  rcases cs with e | e | e | e | e | e | e | e | e | e | e | e <;> (subst e; rfl)
theorem prenam {y : Int} (hy : y = 12 ∨ y = 13 ∨ y = 14) : hm_Ma_predefined N u q (I y) = bnd (hm_Ma_naming N u q (I y)) (fun u6 _ => hb_Ma_predefined_146 N () u6 q) := by
  rcases hy with e | e | e <;> (subst e; rfl)
theorem pre10 : hm_Ma_predefined N u q (I 10) = bnd (hm_Fr_below N u q 0) (fun u19 r19 => bnd (hm_Wl_print N u19 (pq q 2) r19) (fun u21 _ => bnd (hm_Ma_atom N u21 2) (fun u23 r23 => bnd (hm_Ma_answer N u23 q 1 r23) (fun u24 _ => hb_Ma_predefined_146 N () u24 q)))) := rfl
theorem pre1 : hm_Ma_predefined N u q (I 1) = bnd (hm_Ma_spawn N u q) (fun u5 _ => hb_Ma_predefined_146 N () u5 q) := rfl
theorem preal {y : Int} (hr : RG y) (hy : y ∉ [1, 10, 12, 13, 14]) (h17 : y < 17 ∨ 28 < y) : hm_Ma_predefined N u q (I y) = bnd (hm_Ma_alone N u q (I y)) (fun u6 _ => hb_Ma_predefined_146 N () u6 q) := by
  have ne : ∀ k : Int, RG k → y ≠ k → decide (I y = I k) = false := fun k hk z => decide_eq_false (fun e => z ((I_eq hr.1 hr.2 hk.1 hk.2).mp e))
  have nn : y ≠ 1 ∧ y ≠ 10 ∧ y ≠ 12 ∧ y ≠ 13 ∧ y ≠ 14 := by simp at hy; omega
  have n1 : decide (I y = 1) = false := ne 1 ⟨by decide, by decide⟩ nn.1
  have n10 : decide (I y = 10) = false := ne 10 ⟨by decide, by decide⟩ nn.2.1
  have n12 : decide (I y = 12) = false := ne 12 ⟨by decide, by decide⟩ nn.2.2.1
  have n13 : decide (I y = 13) = false := ne 13 ⟨by decide, by decide⟩ nn.2.2.2.1
  have n14 : decide (I y = 14) = false := ne 14 ⟨by decide, by decide⟩ nn.2.2.2.2
  have eX : ∀ (z : Option (MS × Unit)), br (decide (I y < 17)) (hb_Ma_predefined_141 N () u q (I y)) (br (decide (28 < I y)) (hb_Ma_predefined_141 N () u q (I y)) z) = hb_Ma_predefined_141 N () u q (I y) := fun z => by
    rcases h17 with a | a
    · have e : decide (I y < I 17) = true := by rw [decL hr.1 hr.2 (by decide) (by decide)]; exact decide_eq_true a
      exact br_t_of e
    · have e : decide (I 28 < I y) = true := by rw [decL (by decide) (by decide) hr.1 hr.2]; exact decide_eq_true a
      rw [br_t_of (b := decide (28 < I y)) e]; exact br_same
  unfold hm_Ma_predefined hb_Ma_predefined_0
  simp only [n1, n10, n12, n13, n14, eX, br_fq, br_same]
  rfl
theorem pre_fin {o : Option (MS × Unit)} (hh : OK (fun w _ => PDQc T Fv P PR q c w) o) : OK (fun w _ => OPQ T Fv P PR q c w) (bnd o (fun u6 _ => hb_Ma_predefined_146 N () u6 q)) := by
  refine ok_bnd.mpr (ok_mono hh (fun w _ hw => ?_))
  unfold hb_Ma_predefined_146 hb_Ma_predefined_163
  refine k_F (y := 0) rfl ⟨by decide, by decide⟩ (fun z => ok_lt.mpr (ok_some.mpr ?_)) (fun z => ok_some.mpr ?_)
  · rcases hw with ⟨a, b⟩ | ⟨a, b⟩
    · exact b
    · exact absurd z a
  · rcases hw with ⟨a, b⟩ | ⟨a, b⟩
    · exact absurd a z
    · exact b
theorem pre_ok {y : Int} (M : MIc T Fv P PR q u i h m L g x j wb nb cb rk) (hx : x < i) (t9 : F u 1109 = 0) (t8 : F u 1108 = 0) (hf : PHc T u q i x rk ≤ c) (hr : RG y) (hy : y ≠ 1) (hk : tkc y ≤ h) (t2 : T (i + 2) = some (h - tkc y + 1, m, L, g, x)) (hN : 1000000010 ≤ N) : OK (fun w _ => OPQ T Fv P PR q c w) (hm_Ma_predefined N u q (I y)) := by
  by_cases c1 : 17 ≤ y ∧ y ≤ 28
  · rw [pretst c1]; exact pre_fin (test_ok M hx t9 t8 hf c1 hk t2 (by omega))
  by_cases c2 : y = 12 ∨ y = 13 ∨ y = 14
  · rw [prenam c2]; exact pre_fin (naming_ok M hx t9 t8 hf c2 hk t2 (by omega))
  by_cases c3 : y = 10
  · subst c3
    have h1 : 1 ≤ h := hk
    obtain ⟨n, ow, kd, Y, p⟩ := MI_p M
    obtain ⟨b0, g0⟩ := below_0 (N := N) M p h1
    rw [pre10, b0, bnd_so]
    refine ok_bnd.mpr (ok_mono (print_ok (N := N) M.1.1 M.1.2.1 (by have := p.1.2.1; omega) p.1.2.2 g0 hN) (fun w1 _ hw1 => ?_))
    obtain ⟨f1, d1⟩ := hw1
    obtain ⟨M1, ph, s9, s8⟩ := MI_x M f1 d1 (by simp) (by simp) (by simp) (by simp) (by simp)
    obtain ⟨n, ow, kd, Y, p⟩ := MI_p M1
    rw [I_lit (n := 2), atom_e, bnd_so]
    have a := ansP (N := N) (y := 1) (k := 1) M1 hx (by rw [s9]; exact t9) (by rw [s8]; exact t8) (by rw [ph]; exact hf) p (GT_at (a := 2) M1.1.2.1 (by omega)) rfl h1 t2
    have b := pre_fin (N := N) a
    refine ok_bnd.mpr ?_
    have c := ok_bnd.mp (ok_bnd.mp b)
    exact ok_mono c (fun w _ hw => ok_some.mp hw)
  · rw [preal hr (by simp; omega) (by omega)]
    exact pre_fin (alone_okc M hx t9 t8 hf hr (by omega) hk t2 (by omega))
end
end
section
set_option maxRecDepth 100000
section
variable {T : Nat → Option (Nat × Nat × List Nat × Nat × Nat)} {Fv : Int64 → Int64 → Prop} {P : Int64 → Prop} {u v w w1 : MS} {PR N q r n B W Y i h m g x j wb nb cb rk c f i2 h2 m2 k a U d : Nat} {L : List Nat} {ow kd : Nat → Nat} {t rest : Int64} {gi gl ga ki kl ka kj : List Nat}
theorem fin335 {y : Int} (M : MIc T Fv P PR q u i h m L g x j wb nb cb rk) (hx : x < i) (t9 : F u 1109 = 0) (t8 : F u 1108 = 0) (hf : PHc T u q i x rk ≤ c) (wq : WQ Fv P PR u w1) (hy : y = ((k : Nat) : Int)) (hk : k ≤ h) (gt : F w1 (pq q 9) ≠ 3 → ∀ n ow kd Y, PTQ w1 q n ow kd Fv P (nb + m) (wb + h) Y → GT n ow kd P t) (t2 : T (i + 2) = some (h - k + 1, m, L, g, x)) : OK (fun w _ => OPQ T Fv P PR q c w) (hb_Ma_toward_335 N () w1 q (I y) t) := by
  unfold hb_Ma_toward_335
  rw [I_lit (n := 2)]
  exact ok_bnd.mpr (ok_mono (wans_ok (N := N) (z := 2) (wd := 2) M hx t9 t8 hf wq hy hk gt rfl (by omega) t2) (fun w _ hw => ok_lt.mpr (ok_some.mpr hw.2)))
theorem endsBy_any {a : Nat} (dw : DWc Fv P PR u) (cx : CTX Fv P u) (hq : r < PR) (ha : a < 22) : OK (fun w _ => WQ Fv P PR u w) (hm_Wl_endsBy N u r (I ((a : Nat) : Int))) := by
  by_cases hal : F u (pq r 9) = 3
  · unfold hm_Wl_endsBy hb_Wl_endsBy_0 hm_Wl_endsWith hb_Wl_endsWith_0 hb_Wl_endsWith_17
    rw [lit1q, e_make, bnd_so]
    refine ok_bnd.mpr (k_F (y := 3) rfl ⟨by decide, by decide⟩ (fun _ => ok_some.mpr (ok_some.mpr (WQ.rf dw))) (fun z => absurd hal z))
  · exact ok_mono (endsBy_ok dw cx hq hal ha) (fun w _ hw => ⟨hw.1, hw.2.1, ST3.ends hw.2.2.1 hw.2.2.2.1 hw.2.2.2.2.2.2⟩)
theorem SRC_at (cx : CTX Fv P u) (ha : a < 22) : SRCc Fv P PR w r (mk 1 ((a : Nat) : Int)) none := Or.inl ⟨rfl, nh_mk2 (Or.inr (Or.inl rfl)), cx.2.2.2.2.2.1 _ (by omega) (by have := cx.2.2.2.1; omega)⟩
theorem DWc_945 {y : Int} (dw : DWc Fv P PR u) : DWc Fv P PR (wi u 945 y) := by
  have f : FC 0 [945] [] [] [] [] [] [] u (wi u 945 y) := FC.wi_g FC.rf (by omega) (by simp)
  refine DWc_gl dw f (by simp) (by simp) (fun hr => ?_) (by simp) (by rw [f.Fg (by omega) (by simp)]; exact dw.1.2.2.1) (by rw [f.Fg (by omega) (by simp)]; exact dw.1.2.2.2.1.2) (by simp)
  have s := (dw.2 0 hr).1
  unfold SMQ
  rw [f.Fq (by omega) (by simp), f.Fq (by omega) (by simp), f.Fq (by omega) (by simp), f.Fq (by omega) (by simp)]; exact s
theorem watch_okc {jj : Nat} (M : MIc T Fv P PR q u i h m L g x j wb nb cb rk) (hj : jj < PR) (hN : 3000000 ≤ N) : OK (fun w r => WQ Fv P PR (wi u 945 (F u 945 + 1)) w ∧ r = mk 2 (F u 945)) (hm_Ma_watch N u q jj) := by
  have hq2 := M.1.2.2.2.2.2.2.1
  have hq := M.1.1.1.1.2
  have d8 : DWc Fv P PR (wi u 945 (F u 945 + 1)) := DWc_945 M.1.1
  have c8 : CTX Fv P (wi u 945 (F u 945 + 1)) := CTX_fr (w := wi u 945 (F u 945 + 1)) M.1.2.1 ((FC.wi_g (q := 0) (gi := [945]) (gl := []) (ga := []) (ki := []) (kl := []) (ka := []) (kj := []) FC.rf (by omega) (by simp)).1 22 (by omega) (by simp)) rfl
  have f81 : ∀ w3, WQ Fv P PR (wi u 945 (F u 945 + 1)) w3 → OK (fun w r => WQ Fv P PR (wi u 945 (F u 945 + 1)) w ∧ r = mk 2 (F u 945)) (hb_Ma_watch_81 N () w3 q (I (F u 945))) := fun w3 h3 => by
    unfold hb_Ma_watch_81
    rw [I_lit (n := 2), e_make, bnd_so]
    exact ok_some.mpr ⟨h3, rfl⟩
  unfold hm_Ma_watch hb_Ma_watch_0
  rw [I_F (k := 945), lit1q, I_add, wi_e]
  refine ok_lt.mpr ?_
  generalize wi u 945 (F u 945 + 1) = w8 at d8 c8 f81
  refine k_F (y := 3) rfl ⟨by decide, by decide⟩ (fun _ => ?_) (fun _ => ok_br.mpr ⟨fun _ => f81 _ (WQ.rf d8), fun _ => ?_⟩)
  · rw [I_lit (n := 3), atom_e, bnd_so, show Int32.ofNat jj = I ((jj : Nat) : Int) from rfl]
    exact ok_bnd.mpr (ok_mono (postc_ok (N := N) (a := 5) d8 c8 hq2 (Or.inr (Or.inr rfl)) ⟨by omega, by omega⟩ (FRG1 u _) (fun _ => SRC_at (a := 3) c8 (by omega)) hN) (fun w3 _ h3 => f81 _ h3.1))
  · rw [show Int32.ofNat jj = I ((jj : Nat) : Int) from rfl, show Int32.ofNat q = I ((q : Nat) : Int) from rfl]
    exact ok_bnd.mpr (ok_mono (addWatchc_ok (N := N) d8) (fun w3 _ h3 => f81 _ h3.1))
theorem tow95 {y : Int} {jj : Nat} (M : MIc T Fv P PR q u i h m L g x j wb nb cb rk) (hx : x < i) (t9 : F u 1109 = 0) (t8 : F u 1108 = 0) (hf : PHc T u q i x rk ≤ c) (hr : RG y) (hk : k = if y = 29 then 2 else 1) (hkh : k ≤ h) (t2 : T (i + 2) = some (h - k + 1, m, L, g, x)) (hj : jj < PR) (p : PTQ u q n ow kd Fv P (nb + m) (wb + h) Y) (hsz : y = 29 → ∃ f0 s, SZc (u.2.2.2 (pq q 2)) n ow kd Fv P f0 (u.2.2.2 (pq q 35) (wb + h - 1)) s ∧ s ≤ 500) (hN : 3000000 ≤ N) : OK (fun w _ => OPQ T Fv P PR q c w) (hb_Ma_toward_95 N () u q (I y) (I ((k : Nat) : Int)) (some jj)) := by
  have cx := M.1.2.1
  have dw := M.1.1
  have hq2 := M.1.2.2.2.2.2.2.1
  have hq := M.1.1.1.1.2
  have h1 : 1 ≤ h := by
    by_cases z : y = 29
    · rw [if_pos z] at hk; omega
    · rw [if_neg z] at hk; omega
  have fin0 : ∀ w3, WQ Fv P PR u w3 → OK (fun w _ => OPQ T Fv P PR q c w) (hb_Ma_toward_335 N () w3 q (I ((k : Nat) : Int)) (mk 1 0)) := fun w3 h3 => fin335 M hx t9 t8 hf h3 rfl hkh (fun _ n ow kd Y _ => GT_at (a := 0) cx (by omega)) t2
  have hjI : Int32.ofNat jj = I ((jj : Nat) : Int) := rfl
  have hqI : Int32.ofNat q = I ((q : Nat) : Int) := rfl
  unfold hb_Ma_toward_95
  simp only [bo_s]
  rw [hjI, hqI, show (0 : Int32) = I 0 from rfl, atom_e, bnd_so, show (2 : Int32) = I 2 from rfl]
  refine k_eq hr ⟨by decide, by decide⟩ (fun e => ?_) (fun e2 => ?_)
  · refine k_F (y := 3) rfl ⟨by decide, by decide⟩ (fun _ => ?_) (fun _ => ok_br.mpr ⟨fun _ => fin0 _ (WQ.rf dw), fun _ => ?_⟩)
    · rw [show (3 : Int32) = I 3 from rfl, atom_e, bnd_so]
      exact ok_bnd.mpr (ok_mono (signalc_ok (N := N) (x := ((jj : Nat) : Int)) dw cx hq2 ⟨by omega, by omega⟩ (fun _ => SRC_at (a := 3) cx (by omega)) (fun _ j z => by cases z) hN) (fun w3 _ h3 => fin0 _ h3.1))
    · refine ok_bnd.mpr (ok_mono (seekLink_ok (N := N) (dw.2 q hq2).1.1 ⟨by omega, by omega⟩ (by omega)) (fun w3 r3 h3 => ?_))
      obtain ⟨rfl, -⟩ := h3
      refine ok_br.mpr ⟨fun _ => ?_, fun _ => fin0 _ (WQ.rf dw)⟩
      refine ok_bnd.mpr (ok_mono (addLinkc_ok (N := N) dw hq2) (fun w4 _ h4 => ?_))
      exact ok_bnd.mpr (ok_mono (addLinkc_ok (N := N) h4.1.1 hj) (fun w5 _ h5 => fin0 _ (WQ.tr h4.1 h5.1)))
  · rw [show (3 : Int32) = I 3 from rfl]
    refine k_eq hr ⟨by decide, by decide⟩ (fun e => ?_) (fun e3 => ?_)
    · refine ok_bnd.mpr (ok_mono (removeLinkc_ok (N := N) dw hq2 ⟨by omega, by omega⟩ (by omega)) (fun w4 _ h4 => ?_))
      exact ok_bnd.mpr (ok_mono (removeLinkc_ok (N := N) h4.1.1 hj ⟨by omega, by omega⟩ (by omega)) (fun w5 _ h5 => fin0 _ (WQ.tr h4.1 h5.1)))
    · rw [show (4 : Int32) = I 4 from rfl]
      refine k_eq hr ⟨by decide, by decide⟩ (fun e => ?_) (fun e4 => ?_)
      · refine ok_bnd.mpr (ok_mono (watch_okc (N := N) M hj hN) (fun w4 r4 h4 => ?_))
        obtain ⟨h4, rfl⟩ := h4
        obtain ⟨M8, ph, s9, s8⟩ := MI_x M (w := wi u 945 (F u 945 + 1)) (gi := [945]) (gl := []) (ga := []) (ki := []) (kl := []) (ka := []) (kj := []) (FC.wi_g FC.rf (by omega) (by simp)) (DWc_945 dw) (by simp) (by simp) (by simp) (by simp) (by simp)
        exact fin335 M8 hx (by rw [s9]; exact t9) (by rw [s8]; exact t8) (by rw [ph]; exact hf) h4 rfl hkh (fun _ n ow kd Y _ => GT_nu cx (Or.inr (Or.inl rfl)) (FRG1 u _)) t2
      · rw [show (29 : Int32) = I 29 from rfl]
        refine k_eq hr ⟨by decide, by decide⟩ (fun e => ?_) (fun e29 => ?_)
        · obtain ⟨b0, g0⟩ := below_0 (N := N) M p h1
          have b0 : hm_Fr_below N u q (I 0) = some (u, u.2.2.2 (pq q 35) (wb + h - 1)) := b0
          rw [b0, bnd_so, show (5 : Int32) = I 5 from rfl, atom_e, bnd_so]
          refine ok_br.mpr ⟨fun _ => ?_, fun _ => ?_⟩
          · exact ok_bnd.mpr (ok_mono (endsBy_any (N := N) (a := 6) dw cx hj (by omega)) (fun w4 _ h4 => fin0 _ h4))
          · rw [b0, bnd_so]
            refine ok_bnd.mpr (ok_mono (signalc_ok (N := N) (x := ((q : Nat) : Int)) dw cx hj ⟨by omega, by omega⟩ (fun _ => SRC_top M p h1) (fun _ j z _ _ => ?_) hN) (fun w3 _ h3 => fin0 _ h3.1))
            injection z with z
            subst z
            obtain ⟨f0, s, z1, z2⟩ := hsz e
            exact ⟨n, ow, kd, f0, s, by have := p.1.2.1; omega, p.1.2.2, z1, z2⟩
        · have f330 : ∀ y2, OK (fun w _ => OPQ T Fv P PR q c w) (hb_Ma_toward_330 N () u q (I ((k : Nat) : Int)) y2) := fun y2 => by
            unfold hb_Ma_toward_330
            obtain ⟨a2, ha, et⟩ := truth_e (N := N) (u := u) y2
            rw [et, bnd_so]
            exact fin335 M hx t9 t8 hf (WQ.rf dw) rfl hkh (fun _ n ow kd Y _ => GT_at cx ha) t2
          exact ok_br.mpr ⟨fun _ => f330 _, fun _ => f330 _⟩
theorem toward_ok {y : Int} (M : MIc T Fv P PR q u i h m L g x j wb nb cb rk) (hx : x < i) (t9 : F u 1109 = 0) (t8 : F u 1108 = 0) (hf : PHc T u q i x rk ≤ c) (hr : RG y) (hkh : (if y = 29 then 2 else 1) ≤ h) (t2 : T (i + 2) = some (h - (if y = 29 then 2 else 1) + 1, m, L, g, x)) (hN : 3000000 ≤ N) : OK (fun w _ => OPQ T Fv P PR q c w) (hm_Ma_toward N u q (I y)) := by
  have h88 : ∀ {w : MS}, MIc T Fv P PR q w i h m L g x j wb nb cb rk → F w 1109 = 0 → F w 1108 = 0 → PHc T w q i x rk ≤ c → OK (fun w _ => OPQ T Fv P PR q c w) (hb_Ma_toward_88 N () w q) := fun M t9 t8 hf => ERR_o (a := 11) M t9 t8 hf (by omega)
  obtain ⟨n, ow, kd, Y, p⟩ := MI_p M
  have hq := M.1.1.1.1.2
  by_cases e : y = 29
  · subst e
    rw [if_pos rfl] at hkh t2
    show OK _ (hb_Ma_toward_11 N () u q (I 29) (I 2))
    unfold hb_Ma_toward_11
    rw [show I 2 - 1 = I 1 from rfl]
    refine ok_bnd.mpr (ok_mono (procAt_ok (N := N) (y := 1) (k := 1) M p rfl (by omega)) (fun w r9 hw => ?_))
    obtain ⟨rfl, hr9⟩ := hw
    obtain ⟨b0, g0⟩ := below_0 (N := N) M p (by omega)
    rw [decide_eq_true (show I 29 = (29 : Int32) from rfl), br_tq, b0, bnd_so]
    obtain ⟨f0, s, z⟩ := HP_szc p.1.2.2 g0
    have zm := SZ_max p.1.2.2 z
    have n5 := p.1.2.1
    refine ok_bnd.mpr (ok_mono (size_ok (N := N) (b := pq q 2) (by unfold pq; omega) rfl (by omega) M.1.2.1.1.1 (by omega) z (by omega)) (fun w3 r3 h3 => ?_))
    obtain ⟨f3, rfl⟩ := h3
    have fr : FR [] [] [] [44, 45, 46] w w3 := FR.mo f3 (by simp) (by simp) (by simp) (by simp)
    obtain ⟨M1, ph1, s9, s8⟩ := MI_fr M hx fr
    have p1 := PT_fr (q := q) fr p
    have u9 : F w3 1109 = 0 := by rw [s9]; exact t9
    have u8 : F w3 1108 = 0 := by rw [s8]; exact t8
    have uf : PHc T w3 q i x rk ≤ c := by rw [ph1]; exact hf
    rw [I_lit (n := 500)]
    refine k_le ⟨by omega, by omega⟩ ⟨by decide, by decide⟩ (fun h5 => ?_) (fun h5 => ?_)
    · have h5 : ((s : Nat) : Int) ≤ 500 := h5
      unfold hb_Ma_toward_58 hb_Ma_toward_59
      rcases r9 with _ | jj
      · exact ok_br.mpr ⟨fun _ => h88 M1 u9 u8 uf, fun z => absurd z (by decide)⟩
      · refine ok_br.mpr ⟨fun z => absurd z (by simp), fun _ => ?_⟩
        rw [decide_eq_true rfl, br_tq, decide_eq_false (show ¬ I 29 = (4 : Int32) from by decide), br_fq]
        refine tow95 (y := 29) (k := 2) M1 hx u9 u8 uf hr rfl hkh t2 (hr9 jj rfl) p1 (fun _ => ⟨f0, s, ?_, by omega⟩) hN
        rw [fr.2.2.2 (pq q 2) (by simp; unfold pq; omega), fr.2.2.2 (pq q 35) (by simp; unfold pq; omega)]; exact z
    · unfold hb_Ma_toward_59
      rcases r9 with _ | jj
      · exact ok_br.mpr ⟨fun _ => h88 M1 u9 u8 uf, fun z => absurd z (by decide)⟩
      · refine ok_br.mpr ⟨fun z => absurd z (by simp), fun _ => ?_⟩
        rw [decide_eq_false (by decide), br_fq]
        exact h88 M1 u9 u8 uf
  · rw [if_neg e] at hkh t2
    have ne : decide (I y = (29 : Int32)) = false := decide_eq_false (fun z => e ((I_eq hr.1 hr.2 (by decide) (by decide)).mp (show I y = I 29 from z)))
    have e0 : hm_Ma_toward N u q (I y) = hb_Ma_toward_11 N () u q (I y) 1 := by
      unfold hm_Ma_toward hb_Ma_toward_0
      rw [ne, br_fq]
    rw [e0]
    unfold hb_Ma_toward_11
    rw [show (1 : Int32) - 1 = I 0 from rfl]
    refine ok_bnd.mpr (ok_mono (procAt_ok (N := N) (y := 0) (k := 0) M p rfl (by omega)) (fun w r9 hw => ?_))
    obtain ⟨rfl, hr9⟩ := hw
    rw [ne, br_fq]
    unfold hb_Ma_toward_58 hb_Ma_toward_59
    rcases r9 with _ | jj
    · exact ok_br.mpr ⟨fun _ => h88 M t9 t8 hf, fun z => absurd z (by decide)⟩
    · refine ok_br.mpr ⟨fun z => absurd z (by simp), fun _ => ?_⟩
      have a95 := tow95 (N := N) (y := y) (k := 1) M hx t9 t8 hf hr (by rw [if_neg e]) hkh t2 (hr9 jj rfl) p (fun z => absurd z e) hN
      rw [decide_eq_true rfl, br_tq]
      exact ok_br.mpr ⟨fun _ => ok_br.mpr ⟨fun _ => a95, fun _ => h88 M t9 t8 hf⟩, fun _ => a95⟩
end
end
