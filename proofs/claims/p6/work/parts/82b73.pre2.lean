set_option maxRecDepth 100000
section
variable {T : Nat → Option (Nat × Nat × List Nat × Nat × Nat)} {Fv : Int64 → Int64 → Prop} {P : Int64 → Prop} {u v w w1 : MS} {PR N q r n B W Y i h m g x j wb nb cb rk c f i2 h2 m2 k a U d : Nat} {L : List Nat} {ow kd : Nat → Nat} {t rest : Int64} {gi gl ga ki kl ka kj : List Nat}
theorem below_any (M : MIc T Fv P PR q u i h m L g x j wb nb cb rk) : ∃ r, hm_Fr_below N u q 0 = some (u, r) := by
  obtain ⟨n, ow, kd, Y, p⟩ := MI_p M
  obtain ⟨l, l1, l2, l3⟩ := p.2.2.2.2.2.1
  by_cases z : wb + h = 0
  · refine ⟨0, ?_⟩
    unfold hm_Fr_below hb_Fr_below_0 hb_Fr_below_23
    rw [I_F (k := pq q 26), p.2.2.1.1, z, lit1q, I_sub, lit0q, I_sub, decI (by decide) (by decide) (by decide) (by decide), decide_eq_false (by decide), br_fq]
  · exact ⟨_, below_e (x := 0) (k := 0) p.2.2.1.1 l1 l2 l3 rfl (by omega)⟩
theorem aln0 : hm_Ma_alone N u q (I 0) = bnd (hm_Fr_below N u q 0) (fun u11 _ => bnd (hm_Te_make N u11 4 (Int32.ofNat q)) (fun u16 r16 => bnd (hm_Ma_answer N u16 q 0 r16) (fun u17 _ => some (u17, ())))) := rfl
theorem aln5 : hm_Ma_alone N u q (I 5) = bnd (hm_Fr_below N u q 0) (fun u11 r11 => bnd (hm_Te_tag N u11 r11) (fun u22 r22 => br (decide (r22 = 2)) (bnd (hm_Wl_removeWatch N u22 (Int32.ofNat q) (r11.toInt32)) (fun u27 _ => bnd (hm_Ma_atom N u27 0) (fun u29 r29 => bnd (hm_Ma_answer N u29 q 1 r29) (fun u30 _ => some (u30, ()))))) (bnd (hm_Ma_wrong N u22 q 11) (fun u31 _ => some (u31, ()))))) := rfl
theorem aln6 : hm_Ma_alone N u q (I 6) = bnd (hm_Fr_below N u q 0) (fun u11 r11 => bnd (hm_Ma_atom N u11 0) (fun u32 r32 => br (decide ((lg_cmp r11 r32) = 0)) (hb_Ma_alone_183 N () u32 q (r11)) (bnd (hm_Ma_atom N u32 1) (fun u33 r33 => br (decide ((lg_cmp r11 r33) = 0)) (hb_Ma_alone_183 N () u33 q (r11)) (bnd (hm_Ma_wrong N u33 q 11) (fun u34 _ => some (u34, ()))))))) := rfl
theorem aln7 : hm_Ma_alone N u q (I 7) = bnd (hm_Fr_below N u q 0) (fun u11 r11 => bnd (hm_Ma_tell N u11 q 2 (-1) r11) (fun u35 _ => some (u35, ()))) := rfl
theorem aln8 : hm_Ma_alone N u q (I 8) = bnd (hm_Fr_below N u q 0) (fun u11 r11 => bnd (hm_Ma_tell N u11 q 3 (-1) r11) (fun u35 _ => some (u35, ()))) := rfl
theorem aln9 : hm_Ma_alone N u q (I 9) = bnd (hm_Fr_below N u q 0) (fun u11 r11 => bnd (hm_Ma_tell N u11 q 1 (-1) r11) (fun u35 _ => some (u35, ()))) := rfl
theorem aln11 : hm_Ma_alone N u q (I 11) = bnd (hm_Fr_below N u q 0) (fun u11 _ => bnd (hm_Te_make N u11 2 (u11.1 945)) (fun u42 r42 => bnd (hm_Ma_answer N u42 q 0 r42) (fun u43 _ => lt (upI u43 945 ((u43.1 945) + 1)) (fun w47 => some (w47, ()))))) := rfl
theorem aln16 : hm_Ma_alone N u q (I 16) = bnd (hm_Fr_below N u q 0) (fun u11 _ => bnd (hm_Te_make N u11 0 (u11.1 944)) (fun u16 r16 => bnd (hm_Ma_answer N u16 q 0 r16) (fun u17 _ => some (u17, ())))) := rfl
theorem alnw {y : Int} (hr : RG y) (hy : y ∉ [0, 5, 6, 7, 8, 9, 11, 16]) : hm_Ma_alone N u q (I y) = bnd (hm_Fr_below N u q 0) (fun u11 _ => bnd (hm_Ma_wrong N u11 q 11) (fun u18 _ => some (u18, ()))) := by
  have ne : ∀ k : Int, RG k → y ≠ k → decide (I y = I k) = false := fun k hk z => decide_eq_false (fun e => z ((I_eq hr.1 hr.2 hk.1 hk.2).mp e))
  have nn : y ≠ 0 ∧ y ≠ 5 ∧ y ≠ 6 ∧ y ≠ 7 ∧ y ≠ 8 ∧ y ≠ 9 ∧ y ≠ 11 ∧ y ≠ 16 := by simp at hy; omega
  have n0 : decide (I y = 0) = false := ne 0 ⟨by decide, by decide⟩ nn.1
  have n5 : decide (I y = 5) = false := ne 5 ⟨by decide, by decide⟩ nn.2.1
  have n6 : decide (I y = 6) = false := ne 6 ⟨by decide, by decide⟩ nn.2.2.1
  have n7 : decide (I y = 7) = false := ne 7 ⟨by decide, by decide⟩ nn.2.2.2.1
  have n8 : decide (I y = 8) = false := ne 8 ⟨by decide, by decide⟩ nn.2.2.2.2.1
  have n9 : decide (I y = 9) = false := ne 9 ⟨by decide, by decide⟩ nn.2.2.2.2.2.1
  have n11 : decide (I y = 11) = false := ne 11 ⟨by decide, by decide⟩ nn.2.2.2.2.2.2.1
  have n16 : decide (I y = 16) = false := ne 16 ⟨by decide, by decide⟩ nn.2.2.2.2.2.2.2
  unfold hm_Ma_alone hb_Ma_alone_0 hb_Ma_alone_309
  simp only [n0, n5, n6, n7, n8, n9, n11, n16, br_fq, br_same]
theorem alone_okc {y : Int} (M : MIc T Fv P PR q u i h m L g x j wb nb cb rk) (hx : x < i) (t9 : F u 1109 = 0) (t8 : F u 1108 = 0) (hf : PHc T u q i x rk ≤ c) (hr : RG y) (hy : y ≠ 12 ∧ y ≠ 27) (hk : tkc y ≤ h) (t2 : T (i + 2) = some (h - tkc y + 1, m, L, g, x)) (hN : 6000 ≤ N) : OK (fun w _ => PDQc T Fv P PR q c w) (hm_Ma_alone N u q (I y)) := by
  obtain ⟨n, ow, kd, Y, p⟩ := MI_p M
  have cx := M.1.2.1
  have hq2 := M.1.2.2.2.2.2.2.1
  have hq := M.1.1.1.1.2
  by_cases w : y ∉ [0, 5, 6, 7, 8, 9, 11, 16]
  · rw [alnw hr w]
    obtain ⟨r, e⟩ := below_any (N := N) M
    rw [e, bnd_so]
    exact errP (a := 11) M t9 t8 hf (by omega)
  · have cs : y = 0 ∨ y = 5 ∨ y = 6 ∨ y = 7 ∨ y = 8 ∨ y = 9 ∨ y = 11 ∨ y = 16 := by simp at w; omega
    rcases cs with e | e | e | e | e | e | e | e
    · subst e
      obtain ⟨r, e⟩ := below_any (N := N) M
      rw [aln0, e, bnd_so, I_lit (n := 4), show Int32.ofNat q = I ((q : Nat) : Int) from rfl, e_make, bnd_so]
      exact ansP (y := 0) (k := 0) M hx t9 t8 hf p (GT_nu cx (Or.inr (Or.inr rfl)) ⟨by omega, by omega⟩) rfl (by omega) t2
    · subst e
      have h1 : 1 ≤ h := hk
      obtain ⟨b0, g0⟩ := below_0 (N := N) M p h1
      rw [aln5, b0, bnd_so, e_tag, bnd_so, I_lit (n := 2)]
      refine k_eq (so_r _) ⟨by decide, by decide⟩ (fun e7 => ?_) (fun _ => errP (a := 11) M t9 t8 hf (by omega))
      rw [valI, show Int32.ofNat q = I ((q : Nat) : Int) from rfl]
      refine ok_bnd.mpr (ok_mono (removeWatchc_ok (N := N) M.1.1 ⟨by omega, by omega⟩ (va_r _) (by omega)) (fun w1 _ hw1 => ?_))
      rw [lit0q, atom_e, bnd_so]
      exact wansP (y := 1) (k := 1) M hx t9 t8 hf hw1.1 rfl h1 (fun _ n ow kd Y _ => GT_at (a := 0) cx (by omega)) t2
    · subst e
      have h1 : 1 ≤ h := hk
      obtain ⟨b0, g0⟩ := below_0 (N := N) M p h1
      have tr : ∀ v2, OK (fun w _ => PDQc T Fv P PR q c w) (hb_Ma_alone_183 N () u q v2) := fun v2 => by
        unfold hb_Ma_alone_183
        obtain ⟨a2, ha, et⟩ := truth_e (N := N) (u := u) (u.1 (pq q 11))
        rw [et, bnd_so]
        refine ok_bnd.mpr (ok_mono (ans_x (N := N) (y := 1) (k := 1) (z := 2) (wd := 2) M hx t9 t8 hf p (GT_at cx ha) rfl h1 rfl (by omega) t2) (fun w1 _ hw1 => ?_))
        rw [lit0q, atom_e, bnd_so]
        unfold hb_Ma_alone_216 hb_Ma_alone_309
        refine ok_br.mpr ⟨fun _ => ?_, fun _ => ?_⟩
        · exact ok_ck.mpr ⟨by decide, ok_lt.mpr (ok_some.mpr (Or.inl (hw1.2 (wi w1 (pq q 11) 1) (FC.wi_q FC.rf (by omega) (by simp)))))⟩
        · exact ok_ck.mpr ⟨by decide, ok_lt.mpr (ok_some.mpr (Or.inl (hw1.2 (wi w1 (pq q 11) 0) (FC.wi_q FC.rf (by omega) (by simp)))))⟩
      rw [aln6, b0, bnd_so, lit0q, atom_e, bnd_so]
      refine ok_br.mpr ⟨fun _ => tr _, fun _ => ?_⟩
      rw [lit1q, atom_e, bnd_so]
      exact ok_br.mpr ⟨fun _ => tr _, fun _ => errP (a := 11) M t9 t8 hf (by omega)⟩
    · subst e
      obtain ⟨b0, g0⟩ := below_0 (N := N) M p hk
      rw [aln7, b0, bnd_so, m1I, I_lit (n := 2), tell_e, bnd_so]
      exact ok_some.mpr (tellP M t9 t8 hf ⟨n, ow, kd, _, _, Y, p, g0⟩ (Or.inr (Or.inl rfl)) (Or.inl rfl))
    · subst e
      obtain ⟨b0, g0⟩ := below_0 (N := N) M p hk
      rw [aln8, b0, bnd_so, m1I, I_lit (n := 3), tell_e, bnd_so]
      exact ok_some.mpr (tellP M t9 t8 hf ⟨n, ow, kd, _, _, Y, p, g0⟩ (Or.inr (Or.inr rfl)) (Or.inl rfl))
    · subst e
      obtain ⟨b0, g0⟩ := below_0 (N := N) M p hk
      rw [aln9, b0, bnd_so, m1I, I_lit (n := 1), tell_e, bnd_so]
      exact ok_some.mpr (tellP M t9 t8 hf ⟨n, ow, kd, _, _, Y, p, g0⟩ (Or.inl rfl) (Or.inl rfl))
    · subst e
      obtain ⟨r, e⟩ := below_any (N := N) M
      rw [aln11, e, bnd_so, I_lit (n := 2), I_F (k := 945), e_make, bnd_so]
      refine ok_bnd.mpr (ok_mono (ans_x (N := N) (y := 0) (k := 0) (z := 2) (wd := 2) M hx t9 t8 hf p (GT_nu cx (Or.inr (Or.inl rfl)) (FRG1 u _)) rfl (by omega) rfl (by omega) t2) (fun w1 _ hw1 => ok_lt.mpr (ok_some.mpr (Or.inl ?_))))
      rw [I_F (k := 945), lit1q, I_add, wi_e]
      exact hw1.2 _ (FC.wi_g FC.rf (by omega) (by simp))
    · subst e
      obtain ⟨r, e⟩ := below_any (N := N) M
      rw [aln16, e, bnd_so, lit0q, I_F (k := 944), e_make, bnd_so]
      exact ansP (y := 0) (k := 0) M hx t9 t8 hf p (GT_0c cx (FRG1 u _)) rfl (by omega) t2
theorem WQ_nm {y : Int} (dw : DWc Fv P PR u) : WQ Fv P PR u (wi u (pq r 12) y) := by
  have f : FC r [] [] [] [12] [] [] [] u (wi u (pq r 12) y) := FC.wi_q FC.rf (by omega) (by simp)
  refine ⟨DWc_gl dw f (by simp) (by simp) (fun hr => ?_) (by simp) (by rw [f.Fg (by omega) (by simp)]; exact dw.1.2.2.1) (by rw [f.Fg (by omega) (by simp)]; exact dw.1.2.2.2.1.2) (by simp), FC.W f (by simp) (by simp) (by simp) (by simp) (by simp) (by simp) rfl, ST3.of f (by simp) (by simp)⟩
  have s := (dw.2 r hr).1
  unfold SMQ
  rw [f.Fq (by omega) (by simp), f.Fq (by omega) (by simp), f.Fq (by omega) (by simp), f.Fq (by omega) (by simp)]; exact s
theorem nam12 : hm_Ma_naming N u q (I 12) = bnd (hm_Fr_below N u q 1) (fun u3 r3 => bnd (hm_Te_tag N u3 r3) (fun u5 r5 => br (decide (r5 = 1)) (bnd (hm_Wl_named N u5 (r3.toInt32)) (fun u7 r7 => bnd (hm_Ma_processAt N u7 q 0) (fun u9 r9 => br (decide (r9 = none)) (hb_Ma_naming_147 N () u9 q) (br (decide (r7 = none)) (bo r9 (fun j10 => br (decide ((u9.1 (pq j10 12)) = (-1))) (br (decide ((u9.1 (pq j10 9)) = 3)) (hb_Ma_naming_147 N () u9 q) (lt (upI u9 (pq j10 12) (r3.toInt32)) (fun w15 => bnd (hm_Ma_atom N w15 0) (fun u16 r16 => bnd (hm_Ma_answer N u16 q 2 r16) (fun u17 _ => some (u17, ())))))) (hb_Ma_naming_147 N () u9 q))) (hb_Ma_naming_147 N () u9 q))))) (bnd (hm_Ma_wrong N u5 q 11) (fun u27 _ => some (u27, ()))))) := rfl
theorem nam13 : hm_Ma_naming N u q (I 13) = bnd (hm_Fr_below N u q 0) (fun u3 r3 => bnd (hm_Te_tag N u3 r3) (fun u5 r5 => br (decide (r5 = 1)) (bnd (hm_Wl_named N u5 (r3.toInt32)) (fun u7 r7 => br (decide (r7 = none)) (bnd (hm_Ma_wrong N u7 q 11) (fun u22 _ => some (u22, ()))) (bo r7 (fun j18 => lt (upI u7 (pq j18 12) (-1)) (fun w19 => bnd (hm_Ma_atom N w19 0) (fun u20 r20 => bnd (hm_Ma_answer N u20 q 1 r20) (fun u21 _ => some (u21, ())))))))) (bnd (hm_Ma_wrong N u5 q 11) (fun u27 _ => some (u27, ()))))) := rfl
theorem nam14 : hm_Ma_naming N u q (I 14) = bnd (hm_Fr_below N u q 0) (fun u3 r3 => bnd (hm_Te_tag N u3 r3) (fun u5 r5 => br (decide (r5 = 1)) (bnd (hm_Wl_named N u5 (r3.toInt32)) (fun u7 r7 => br (decide (r7 = none)) (bnd (hm_Ma_atom N u7 3) (fun u26 r26 => bnd (hm_Ma_answer N u26 q 1 r26) (fun u2 _ => some (u2, ())))) (bo r7 (fun j23 => bnd (hm_Te_make N u7 4 (Int32.ofNat j23)) (fun u25 r25 => bnd (hm_Ma_answer N u25 q 1 r25) (fun u2 _ => some (u2, ()))))))) (bnd (hm_Ma_wrong N u5 q 11) (fun u27 _ => some (u27, ()))))) := rfl
theorem naming_ok {y : Int} (M : MIc T Fv P PR q u i h m L g x j wb nb cb rk) (hx : x < i) (t9 : F u 1109 = 0) (t8 : F u 1108 = 0) (hf : PHc T u q i x rk ≤ c) (hy : y = 12 ∨ y = 13 ∨ y = 14) (hk : tkc y ≤ h) (t2 : T (i + 2) = some (h - tkc y + 1, m, L, g, x)) (hN : 6000 ≤ N) : OK (fun w _ => PDQc T Fv P PR q c w) (hm_Ma_naming N u q (I y)) := by
  obtain ⟨n, ow, kd, Y, p⟩ := MI_p M
  have cx := M.1.2.1
  have hq := M.1.1.1.1.2
  have er := errP (N := N) (a := 11) M t9 t8 hf (by omega)
  rcases hy with e | e | e
  · subst e
    have h1 : 2 ≤ h := hk
    obtain ⟨b1, g1⟩ := below_1 (N := N) M p h1
    rw [nam12, b1, bnd_so, e_tag, bnd_so, I_lit (n := 1)]
    refine k_eq (so_r _) ⟨by decide, by decide⟩ (fun e7 => ?_) (fun _ => er)
    rw [valI]
    refine ok_bnd.mpr (ok_mono (namedc_ok (N := N) M.1.1.1 (va_r _) (by omega)) (fun w r7 hw => ?_))
    obtain ⟨rfl, hr⟩ := hw
    rw [lit0q]
    refine ok_bnd.mpr (ok_mono (procAt_ok (N := N) (y := 0) (k := 0) M p rfl (by omega)) (fun w r9 hw => ?_))
    obtain ⟨rfl, hr9⟩ := hw
    rcases r9 with _ | jj
    · exact ok_br.mpr ⟨fun _ => er, fun z => absurd z (by decide)⟩
    · refine ok_br.mpr ⟨fun z => absurd z (by simp), fun _ => ok_br.mpr ⟨fun _ => ?_, fun _ => er⟩⟩
      rw [bo_s]
      refine ok_br.mpr ⟨fun _ => ok_br.mpr ⟨fun _ => er, fun _ => ok_lt.mpr ?_⟩, fun _ => er⟩
      rw [wi_e, atom_e, bnd_so]
      exact wansP (y := 2) (k := 2) M hx t9 t8 hf (WQ_nm M.1.1) rfl h1 (fun _ n ow kd Y _ => GT_at (a := 0) cx (by omega)) t2
  · subst e
    have h1 : 1 ≤ h := hk
    obtain ⟨b0, g0⟩ := below_0 (N := N) M p h1
    rw [nam13, b0, bnd_so, e_tag, bnd_so, I_lit (n := 1)]
    refine k_eq (so_r _) ⟨by decide, by decide⟩ (fun e7 => ?_) (fun _ => er)
    rw [valI]
    refine ok_bnd.mpr (ok_mono (namedc_ok (N := N) M.1.1.1 (va_r _) (by omega)) (fun w r7 hw => ?_))
    obtain ⟨rfl, hr⟩ := hw
    rcases r7 with _ | jj
    · exact ok_br.mpr ⟨fun _ => er, fun z => absurd z (by decide)⟩
    · refine ok_br.mpr ⟨fun z => absurd z (by simp), fun _ => ?_⟩
      rw [bo_s]
      refine ok_lt.mpr ?_
      rw [lit0q, atom_e, bnd_so]
      rw [show (-I 1 : Int32) = I (-1) from rfl, wi_e]
      exact wansP (y := 1) (k := 1) M hx t9 t8 hf (WQ_nm M.1.1) rfl h1 (fun _ n ow kd Y _ => GT_at (a := 0) cx (by omega)) t2
  · subst e
    have h1 : 1 ≤ h := hk
    obtain ⟨b0, g0⟩ := below_0 (N := N) M p h1
    rw [nam14, b0, bnd_so, e_tag, bnd_so, I_lit (n := 1)]
    refine k_eq (so_r _) ⟨by decide, by decide⟩ (fun e7 => ?_) (fun _ => er)
    rw [valI]
    refine ok_bnd.mpr (ok_mono (namedc_ok (N := N) M.1.1.1 (va_r _) (by omega)) (fun w r7 hw => ?_))
    obtain ⟨rfl, hr⟩ := hw
    rcases r7 with _ | jj
    · refine ok_br.mpr ⟨fun _ => ?_, fun z => absurd z (by decide)⟩
      rw [I_lit (n := 3), atom_e, bnd_so]
      exact ansP (y := 1) (k := 1) M hx t9 t8 hf p (GT_at (a := 3) cx (by omega)) rfl h1 t2
    · refine ok_br.mpr ⟨fun z => absurd z (by simp), fun _ => ?_⟩
      have := (hr jj rfl).1
      rw [bo_s, I_lit (n := 4), show Int32.ofNat jj = I ((jj : Nat) : Int) from rfl, e_make, bnd_so]
      exact ansP (y := 1) (k := 1) M hx t9 t8 hf p (GT_nu cx (Or.inr (Or.inr rfl)) ⟨by omega, by omega⟩) rfl h1 t2
theorem print_ok (dw : DWc Fv P PR u) (cx : CTX Fv P u) (hn : n ≤ 512) (g : HPc (u.2.2.2 (pq q 2)) n ow kd Fv P) (gt : GT n ow kd P t) (hN : 1000000010 ≤ N) : OK (fun w _ => FC q [1964, 865, 866, 953] [] [52, 53] [] [] [] [] u w ∧ DWc Fv P PR w) (hm_Wl_print N u (pq q 2) t) := by
  have g18 := dw.1.2.2.2.2.2
  unfold hm_Wl_print hb_Wl_print_0 hb_Wl_print_49
  rw [I_F (k := 953), I_lit (n := 200)]
  refine k_le ⟨by decide, by decide⟩ (FRG1 u _) (fun _ => ok_some.mpr ⟨FC.rf, dw⟩) (fun h1 => ?_)
  have h1 : F u 953 < 200 := h1
  rw [I_lit (n := 100), I_mul]
  refine ok_bnd.mpr (ok_mono (text_ok (N := N) (j := 52) cx.2.2.2.2.2.2 cx.2.2.1 (by unfold pq; omega) rfl hn g gt (Or.inl rfl) ⟨by show _ ≤ F u 953 * 100; omega, by show F u 953 * 100 ≤ _; omega⟩ hN) (fun w1 r hw1 => ?_))
  obtain ⟨f1, k, rfl, k0, k1⟩ := hw1
  refine e_in ⟨g18.1.1, by omega⟩ (by decide) (ok_lt.mpr (ok_lt.mpr (ok_some.mpr ?_)))
  have e1 : F w1 953 = F u 953 := congrArg _ (f1.1 953 (by simp))
  rw [tnI (n := (F u 953).toNat) (by omega) (by omega), wa_e, I_F (k := 953), show F (wa w1 53 (F u 953).toNat k) 953 = F u 953 from e1, lit1q, I_add, wi_e]
  have f2 : FC q [1964, 865, 866, 953] [] [52, 53] [] [] [] [] u (wi (wa w1 53 (F u 953).toNat k) 953 (F u 953 + 1)) := FC.wi_g (FC.wa_g (FC.mo (FC.of f1 (by simp) (by simp) (by simp) (by simp)) (by simp) (by simp) (by simp) (by simp) (by simp) (by simp) (by simp)) (by omega) (by simp)) (by omega) (by simp)
  refine ⟨f2, DWc_gl2 dw f2 (by simp) (by simp) (fun hq => ?_) (by simp) (by rw [f2.Fg (by omega) (by simp)]; exact dw.1.2.2.1) (by rw [f2.Fg (by omega) (by simp)]; exact dw.1.2.2.2.1.2) (by simp) ?_⟩
  · have s := (dw.2 q hq).1
    unfold SMQ
    rw [f2.Fq (by omega) (by simp), f2.Fq (by omega) (by simp), f2.Fq (by omega) (by simp), f2.Fq (by omega) (by simp)]; exact s
  · have e3 : F (wi (wa w1 53 (F u 953).toNat k) 953 (F u 953 + 1)) 953 = F u 953 + 1 := by rw [F_wi (by omega) (by omega), if_pos rfl]
    rw [e3]
    refine ⟨by omega, fun i hi => ?_⟩
    have eA : A (wi (wa w1 53 (F u 953).toNat k) 953 (F u 953 + 1)) 53 i = if i = (F u 953).toNat then k else A w1 53 i := by
      show A (wa w1 53 (F u 953).toNat k) 53 i = _
      rw [A_wa (by omega) (by omega), if_pos rfl]
    have e4 : A w1 53 i = A u 53 i := by show (w1.2.2.1 53 i).toInt = _; rw [f1.2.2.1 53 (by simp)]; rfl
    rw [eA, e4]
    by_cases z : i = (F u 953).toNat
    · rw [if_pos z]; exact ⟨k0, k1⟩
    · rw [if_neg z]; exact g18.2 i (by omega)
theorem pretst {y : Int} (hy : 17 ≤ y ∧ y ≤ 28) : hm_Ma_predefined N u q (I y) = bnd (hm_Ma_test N u q (I y)) (fun u6 _ => hb_Ma_predefined_146 N () u6 q) := by
  have cs : y = 17 ∨ y = 18 ∨ y = 19 ∨ y = 20 ∨ y = 21 ∨ y = 22 ∨ y = 23 ∨ y = 24 ∨ y = 25 ∨ y = 26 ∨ y = 27 ∨ y = 28 := by omega
  rcases cs with e | e | e | e | e | e | e | e | e | e | e | e <;> (subst e; rfl)
theorem prenam {y : Int} (hy : y = 12 ∨ y = 13 ∨ y = 14) : hm_Ma_predefined N u q (I y) = bnd (hm_Ma_naming N u q (I y)) (fun u6 _ => hb_Ma_predefined_146 N () u6 q) := by
  rcases hy with e | e | e <;> (subst e; rfl)
theorem pre10 : hm_Ma_predefined N u q (I 10) = bnd (hm_Fr_below N u q 0) (fun u19 r19 => bnd (hm_Wl_print N u19 (pq q 2) r19) (fun u21 _ => bnd (hm_Ma_atom N u21 2) (fun u23 r23 => bnd (hm_Ma_answer N u23 q 1 r23) (fun u24 _ => hb_Ma_predefined_146 N () u24 q)))) := rfl
theorem pre1 : hm_Ma_predefined N u q (I 1) = bnd (hm_Ma_spawn N u q) (fun u5 _ => hb_Ma_predefined_146 N () u5 q) := rfl
theorem preal {y : Int} (hr : RG y) (hy : y ∉ [1, 10, 12, 13, 14]) (h17 : y < 17 ∨ 28 < y) : hm_Ma_predefined N u q (I y) = bnd (hm_Ma_alone N u q (I y)) (fun u6 _ => hb_Ma_predefined_146 N () u6 q) := by
  have ne : ∀ k : Int, RG k → y ≠ k → decide (I y = I k) = false := fun k hk z => decide_eq_false (fun e => z ((I_eq hr.1 hr.2 hk.1 hk.2).mp e))
  have nn : y ≠ 1 ∧ y ≠ 10 ∧ y ≠ 12 ∧ y ≠ 13 ∧ y ≠ 14 := by simp at hy; omega
  have n1 : decide (I y = 1) = false := ne 1 ⟨by decide, by decide⟩ nn.1
  have n10 : decide (I y = 10) = false := ne 10 ⟨by decide, by decide⟩ nn.2.1
  have n12 : decide (I y = 12) = false := ne 12 ⟨by decide, by decide⟩ nn.2.2.1
  have n13 : decide (I y = 13) = false := ne 13 ⟨by decide, by decide⟩ nn.2.2.2.1
  have n14 : decide (I y = 14) = false := ne 14 ⟨by decide, by decide⟩ nn.2.2.2.2
  have eX : ∀ (z : Option (MS × Unit)), br (decide (I y < 17)) (hb_Ma_predefined_141 N () u q (I y)) (br (decide (28 < I y)) (hb_Ma_predefined_141 N () u q (I y)) z) = hb_Ma_predefined_141 N () u q (I y) := fun z => by
    rcases h17 with a | a
    · have e : decide (I y < I 17) = true := by rw [decL hr.1 hr.2 (by decide) (by decide)]; exact decide_eq_true a
      exact br_t_of e
    · have e : decide (I 28 < I y) = true := by rw [decL (by decide) (by decide) hr.1 hr.2]; exact decide_eq_true a
      rw [br_t_of (b := decide (28 < I y)) e]; exact br_same
  unfold hm_Ma_predefined hb_Ma_predefined_0
  simp only [n1, n10, n12, n13, n14, eX, br_fq, br_same]
  rfl
theorem pre_fin {o : Option (MS × Unit)} (hh : OK (fun w _ => PDQc T Fv P PR q c w) o) : OK (fun w _ => OPQ T Fv P PR q c w) (bnd o (fun u6 _ => hb_Ma_predefined_146 N () u6 q)) := by
  refine ok_bnd.mpr (ok_mono hh (fun w _ hw => ?_))
  unfold hb_Ma_predefined_146 hb_Ma_predefined_163
  refine k_F (y := 0) rfl ⟨by decide, by decide⟩ (fun z => ok_lt.mpr (ok_some.mpr ?_)) (fun z => ok_some.mpr ?_)
  · rcases hw with ⟨a, b⟩ | ⟨a, b⟩
    · exact b
    · exact absurd z a
  · rcases hw with ⟨a, b⟩ | ⟨a, b⟩
    · exact absurd a z
    · exact b
theorem pre_ok {y : Int} (M : MIc T Fv P PR q u i h m L g x j wb nb cb rk) (hx : x < i) (t9 : F u 1109 = 0) (t8 : F u 1108 = 0) (hf : PHc T u q i x rk ≤ c) (hr : RG y) (hy : y ≠ 1) (hk : tkc y ≤ h) (t2 : T (i + 2) = some (h - tkc y + 1, m, L, g, x)) (hN : 1000000010 ≤ N) : OK (fun w _ => OPQ T Fv P PR q c w) (hm_Ma_predefined N u q (I y)) := by
  by_cases c1 : 17 ≤ y ∧ y ≤ 28
  · rw [pretst c1]; exact pre_fin (test_ok M hx t9 t8 hf c1 hk t2 (by omega))
  by_cases c2 : y = 12 ∨ y = 13 ∨ y = 14
  · rw [prenam c2]; exact pre_fin (naming_ok M hx t9 t8 hf c2 hk t2 (by omega))
  by_cases c3 : y = 10
  · subst c3
    have h1 : 1 ≤ h := hk
    obtain ⟨n, ow, kd, Y, p⟩ := MI_p M
    obtain ⟨b0, g0⟩ := below_0 (N := N) M p h1
    rw [pre10, b0, bnd_so]
    refine ok_bnd.mpr (ok_mono (print_ok (N := N) M.1.1 M.1.2.1 (by have := p.1.2.1; omega) p.1.2.2 g0 hN) (fun w1 _ hw1 => ?_))
    obtain ⟨f1, d1⟩ := hw1
    obtain ⟨M1, ph, s9, s8⟩ := MI_x M f1 d1 (by simp) (by simp) (by simp) (by simp) (by simp)
    obtain ⟨n, ow, kd, Y, p⟩ := MI_p M1
    rw [I_lit (n := 2), atom_e, bnd_so]
    have a := ansP (N := N) (y := 1) (k := 1) M1 hx (by rw [s9]; exact t9) (by rw [s8]; exact t8) (by rw [ph]; exact hf) p (GT_at (a := 2) M1.1.2.1 (by omega)) rfl h1 t2
    have b := pre_fin (N := N) a
    refine ok_bnd.mpr ?_
    have c := ok_bnd.mp (ok_bnd.mp b)
    exact ok_mono c (fun w _ hw => ok_some.mp hw)
  · rw [preal hr (by simp; omega) (by omega)]
    exact pre_fin (alone_okc M hx t9 t8 hf hr (by omega) hk t2 (by omega))
end
