set_option maxRecDepth 100000
section
variable {T : Nat → Option (Nat × Nat × List Nat × Nat × Nat)} {Fv : Int64 → Int64 → Prop} {P : Int64 → Prop} {u v w w1 : MS} {PR N q r n B W Y i h m g x j wb nb cb rk c f i2 h2 m2 k a U d : Nat} {L : List Nat} {ow kd : Nat → Nat} {t rest : Int64} {gi gl ga ki kl ka kj : List Nat}
theorem fin335 {y : Int} (M : MIc T Fv P PR q u i h m L g x j wb nb cb rk) (hx : x < i) (t9 : F u 1109 = 0) (t8 : F u 1108 = 0) (hf : PHc T u q i x rk ≤ c) (wq : WQ Fv P PR u w1) (hy : y = ((k : Nat) : Int)) (hk : k ≤ h) (gt : F w1 (pq q 9) ≠ 3 → ∀ n ow kd Y, PTQ w1 q n ow kd Fv P (nb + m) (wb + h) Y → GT n ow kd P t) (t2 : T (i + 2) = some (h - k + 1, m, L, g, x)) : OK (fun w _ => OPQ T Fv P PR q c w) (hb_Ma_toward_335 N () w1 q (I y) t) := by
  unfold hb_Ma_toward_335
  rw [I_lit (n := 2)]
  exact ok_bnd.mpr (ok_mono (wans_ok (N := N) (z := 2) (wd := 2) M hx t9 t8 hf wq hy hk gt rfl (by omega) t2) (fun w _ hw => ok_lt.mpr (ok_some.mpr hw.2)))
theorem endsBy_any {a : Nat} (dw : DWc Fv P PR u) (cx : CTX Fv P u) (hq : r < PR) (ha : a < 22) : OK (fun w _ => WQ Fv P PR u w) (hm_Wl_endsBy N u r (I ((a : Nat) : Int))) := by
  by_cases hal : F u (pq r 9) = 3
  · unfold hm_Wl_endsBy hb_Wl_endsBy_0 hm_Wl_endsWith hb_Wl_endsWith_0 hb_Wl_endsWith_17
    rw [lit1q, e_make, bnd_so]
    refine ok_bnd.mpr (k_F (y := 3) rfl ⟨by decide, by decide⟩ (fun _ => ok_some.mpr (ok_some.mpr (WQ.rf dw))) (fun z => absurd hal z))
  · exact ok_mono (endsBy_ok dw cx hq hal ha) (fun w _ hw => ⟨hw.1, hw.2.1, ST3.ends hw.2.2.1 hw.2.2.2.1 hw.2.2.2.2.2.2⟩)
theorem SRC_at (cx : CTX Fv P u) (ha : a < 22) : SRCc Fv P PR w r (mk 1 ((a : Nat) : Int)) none := Or.inl ⟨rfl, nh_mk2 (Or.inr (Or.inl rfl)), cx.2.2.2.2.2.1 _ (by omega) (by have := cx.2.2.2.1; omega)⟩
theorem DWc_945 {y : Int} (dw : DWc Fv P PR u) : DWc Fv P PR (wi u 945 y) := by
  have f : FC 0 [945] [] [] [] [] [] [] u (wi u 945 y) := FC.wi_g FC.rf (by omega) (by simp)
  refine DWc_gl dw f (by simp) (by simp) (fun hr => ?_) (by simp) (by rw [f.Fg (by omega) (by simp)]; exact dw.1.2.2.1) (by rw [f.Fg (by omega) (by simp)]; exact dw.1.2.2.2.1.2) (by simp)
  have s := (dw.2 0 hr).1
  unfold SMQ
  rw [f.Fq (by omega) (by simp), f.Fq (by omega) (by simp), f.Fq (by omega) (by simp), f.Fq (by omega) (by simp)]; exact s
theorem watch_okc {jj : Nat} (M : MIc T Fv P PR q u i h m L g x j wb nb cb rk) (hj : jj < PR) (hN : 3000000 ≤ N) : OK (fun w r => WQ Fv P PR (wi u 945 (F u 945 + 1)) w ∧ r = mk 2 (F u 945)) (hm_Ma_watch N u q jj) := by
  have hq2 := M.1.2.2.2.2.2.2.1
  have hq := M.1.1.1.1.2
  have d8 : DWc Fv P PR (wi u 945 (F u 945 + 1)) := DWc_945 M.1.1
  have c8 : CTX Fv P (wi u 945 (F u 945 + 1)) := CTX_fr (w := wi u 945 (F u 945 + 1)) M.1.2.1 ((FC.wi_g (q := 0) (gi := [945]) (gl := []) (ga := []) (ki := []) (kl := []) (ka := []) (kj := []) FC.rf (by omega) (by simp)).1 22 (by omega) (by simp)) rfl
  have f81 : ∀ w3, WQ Fv P PR (wi u 945 (F u 945 + 1)) w3 → OK (fun w r => WQ Fv P PR (wi u 945 (F u 945 + 1)) w ∧ r = mk 2 (F u 945)) (hb_Ma_watch_81 N () w3 q (I (F u 945))) := fun w3 h3 => by
    unfold hb_Ma_watch_81
    rw [I_lit (n := 2), e_make, bnd_so]
    exact ok_some.mpr ⟨h3, rfl⟩
  unfold hm_Ma_watch hb_Ma_watch_0
  rw [I_F (k := 945), lit1q, I_add, wi_e]
  refine ok_lt.mpr ?_
  generalize wi u 945 (F u 945 + 1) = w8 at d8 c8 f81
  refine k_F (y := 3) rfl ⟨by decide, by decide⟩ (fun _ => ?_) (fun _ => ok_br.mpr ⟨fun _ => f81 _ (WQ.rf d8), fun _ => ?_⟩)
  · rw [I_lit (n := 3), atom_e, bnd_so, show Int32.ofNat jj = I ((jj : Nat) : Int) from rfl]
    exact ok_bnd.mpr (ok_mono (postc_ok (N := N) (a := 5) d8 c8 hq2 (Or.inr (Or.inr rfl)) ⟨by omega, by omega⟩ (FRG1 u _) (fun _ => SRC_at (a := 3) c8 (by omega)) hN) (fun w3 _ h3 => f81 _ h3.1))
  · rw [show Int32.ofNat jj = I ((jj : Nat) : Int) from rfl, show Int32.ofNat q = I ((q : Nat) : Int) from rfl]
    exact ok_bnd.mpr (ok_mono (addWatchc_ok (N := N) d8) (fun w3 _ h3 => f81 _ h3.1))
theorem tow95 {y : Int} {jj : Nat} (M : MIc T Fv P PR q u i h m L g x j wb nb cb rk) (hx : x < i) (t9 : F u 1109 = 0) (t8 : F u 1108 = 0) (hf : PHc T u q i x rk ≤ c) (hr : RG y) (hk : k = if y = 29 then 2 else 1) (hkh : k ≤ h) (t2 : T (i + 2) = some (h - k + 1, m, L, g, x)) (hj : jj < PR) (p : PTQ u q n ow kd Fv P (nb + m) (wb + h) Y) (hsz : y = 29 → ∃ f0 s, SZc (u.2.2.2 (pq q 2)) n ow kd Fv P f0 (u.2.2.2 (pq q 35) (wb + h - 1)) s ∧ s ≤ 500) (hN : 3000000 ≤ N) : OK (fun w _ => OPQ T Fv P PR q c w) (hb_Ma_toward_95 N () u q (I y) (I ((k : Nat) : Int)) (some jj)) := by
  have cx := M.1.2.1
  have dw := M.1.1
  have hq2 := M.1.2.2.2.2.2.2.1
  have hq := M.1.1.1.1.2
  have h1 : 1 ≤ h := by
    by_cases z : y = 29
    · rw [if_pos z] at hk; omega
    · rw [if_neg z] at hk; omega
  have fin0 : ∀ w3, WQ Fv P PR u w3 → OK (fun w _ => OPQ T Fv P PR q c w) (hb_Ma_toward_335 N () w3 q (I ((k : Nat) : Int)) (mk 1 0)) := fun w3 h3 => fin335 M hx t9 t8 hf h3 rfl hkh (fun _ n ow kd Y _ => GT_at (a := 0) cx (by omega)) t2
  have hjI : Int32.ofNat jj = I ((jj : Nat) : Int) := rfl
  have hqI : Int32.ofNat q = I ((q : Nat) : Int) := rfl
  unfold hb_Ma_toward_95
  simp only [bo_s]
  rw [hjI, hqI, show (0 : Int32) = I 0 from rfl, atom_e, bnd_so, show (2 : Int32) = I 2 from rfl]
  refine k_eq hr ⟨by decide, by decide⟩ (fun e => ?_) (fun e2 => ?_)
  · refine k_F (y := 3) rfl ⟨by decide, by decide⟩ (fun _ => ?_) (fun _ => ok_br.mpr ⟨fun _ => fin0 _ (WQ.rf dw), fun _ => ?_⟩)
    · rw [show (3 : Int32) = I 3 from rfl, atom_e, bnd_so]
      exact ok_bnd.mpr (ok_mono (signalc_ok (N := N) (x := ((jj : Nat) : Int)) dw cx hq2 ⟨by omega, by omega⟩ (fun _ => SRC_at (a := 3) cx (by omega)) (fun _ j z => by cases z) hN) (fun w3 _ h3 => fin0 _ h3.1))
    · refine ok_bnd.mpr (ok_mono (seekLink_ok (N := N) (dw.2 q hq2).1.1 ⟨by omega, by omega⟩ (by omega)) (fun w3 r3 h3 => ?_))
      obtain ⟨rfl, -⟩ := h3
      refine ok_br.mpr ⟨fun _ => ?_, fun _ => fin0 _ (WQ.rf dw)⟩
      refine ok_bnd.mpr (ok_mono (addLinkc_ok (N := N) dw hq2) (fun w4 _ h4 => ?_))
      exact ok_bnd.mpr (ok_mono (addLinkc_ok (N := N) h4.1.1 hj) (fun w5 _ h5 => fin0 _ (WQ.tr h4.1 h5.1)))
  · rw [show (3 : Int32) = I 3 from rfl]
    refine k_eq hr ⟨by decide, by decide⟩ (fun e => ?_) (fun e3 => ?_)
    · refine ok_bnd.mpr (ok_mono (removeLinkc_ok (N := N) dw hq2 ⟨by omega, by omega⟩ (by omega)) (fun w4 _ h4 => ?_))
      exact ok_bnd.mpr (ok_mono (removeLinkc_ok (N := N) h4.1.1 hj ⟨by omega, by omega⟩ (by omega)) (fun w5 _ h5 => fin0 _ (WQ.tr h4.1 h5.1)))
    · rw [show (4 : Int32) = I 4 from rfl]
      refine k_eq hr ⟨by decide, by decide⟩ (fun e => ?_) (fun e4 => ?_)
      · refine ok_bnd.mpr (ok_mono (watch_okc (N := N) M hj hN) (fun w4 r4 h4 => ?_))
        obtain ⟨h4, rfl⟩ := h4
        obtain ⟨M8, ph, s9, s8⟩ := MI_x M (w := wi u 945 (F u 945 + 1)) (gi := [945]) (gl := []) (ga := []) (ki := []) (kl := []) (ka := []) (kj := []) (FC.wi_g FC.rf (by omega) (by simp)) (DWc_945 dw) (by simp) (by simp) (by simp) (by simp) (by simp)
        exact fin335 M8 hx (by rw [s9]; exact t9) (by rw [s8]; exact t8) (by rw [ph]; exact hf) h4 rfl hkh (fun _ n ow kd Y _ => GT_nu cx (Or.inr (Or.inl rfl)) (FRG1 u _)) t2
      · rw [show (29 : Int32) = I 29 from rfl]
        refine k_eq hr ⟨by decide, by decide⟩ (fun e => ?_) (fun e29 => ?_)
        · obtain ⟨b0, g0⟩ := below_0 (N := N) M p h1
          have b0 : hm_Fr_below N u q (I 0) = some (u, u.2.2.2 (pq q 35) (wb + h - 1)) := b0
          rw [b0, bnd_so, show (5 : Int32) = I 5 from rfl, atom_e, bnd_so]
          refine ok_br.mpr ⟨fun _ => ?_, fun _ => ?_⟩
          · exact ok_bnd.mpr (ok_mono (endsBy_any (N := N) (a := 6) dw cx hj (by omega)) (fun w4 _ h4 => fin0 _ h4))
          · rw [b0, bnd_so]
            refine ok_bnd.mpr (ok_mono (signalc_ok (N := N) (x := ((q : Nat) : Int)) dw cx hj ⟨by omega, by omega⟩ (fun _ => SRC_top M p h1) (fun _ j z _ _ => ?_) hN) (fun w3 _ h3 => fin0 _ h3.1))
            injection z with z
            subst z
            obtain ⟨f0, s, z1, z2⟩ := hsz e
            exact ⟨n, ow, kd, f0, s, by have := p.1.2.1; omega, p.1.2.2, z1, z2⟩
        · have f330 : ∀ y2, OK (fun w _ => OPQ T Fv P PR q c w) (hb_Ma_toward_330 N () u q (I ((k : Nat) : Int)) y2) := fun y2 => by
            unfold hb_Ma_toward_330
            obtain ⟨a2, ha, et⟩ := truth_e (N := N) (u := u) y2
            rw [et, bnd_so]
            exact fin335 M hx t9 t8 hf (WQ.rf dw) rfl hkh (fun _ n ow kd Y _ => GT_at cx ha) t2
          exact ok_br.mpr ⟨fun _ => f330 _, fun _ => f330 _⟩
theorem toward_ok {y : Int} (M : MIc T Fv P PR q u i h m L g x j wb nb cb rk) (hx : x < i) (t9 : F u 1109 = 0) (t8 : F u 1108 = 0) (hf : PHc T u q i x rk ≤ c) (hr : RG y) (hkh : (if y = 29 then 2 else 1) ≤ h) (t2 : T (i + 2) = some (h - (if y = 29 then 2 else 1) + 1, m, L, g, x)) (hN : 3000000 ≤ N) : OK (fun w _ => OPQ T Fv P PR q c w) (hm_Ma_toward N u q (I y)) := by
  have h88 : ∀ {w : MS}, MIc T Fv P PR q w i h m L g x j wb nb cb rk → F w 1109 = 0 → F w 1108 = 0 → PHc T w q i x rk ≤ c → OK (fun w _ => OPQ T Fv P PR q c w) (hb_Ma_toward_88 N () w q) := fun M t9 t8 hf => ERR_o (a := 11) M t9 t8 hf (by omega)
  obtain ⟨n, ow, kd, Y, p⟩ := MI_p M
  have hq := M.1.1.1.1.2
  by_cases e : y = 29
  · subst e
    rw [if_pos rfl] at hkh t2
    show OK _ (hb_Ma_toward_11 N () u q (I 29) (I 2))
    unfold hb_Ma_toward_11
    rw [show I 2 - 1 = I 1 from rfl]
    refine ok_bnd.mpr (ok_mono (procAt_ok (N := N) (y := 1) (k := 1) M p rfl (by omega)) (fun w r9 hw => ?_))
    obtain ⟨rfl, hr9⟩ := hw
    obtain ⟨b0, g0⟩ := below_0 (N := N) M p (by omega)
    rw [decide_eq_true (show I 29 = (29 : Int32) from rfl), br_tq, b0, bnd_so]
    obtain ⟨f0, s, z⟩ := HP_szc p.1.2.2 g0
    have zm := SZ_max p.1.2.2 z
    have n5 := p.1.2.1
    refine ok_bnd.mpr (ok_mono (size_ok (N := N) (b := pq q 2) (by unfold pq; omega) rfl (by omega) M.1.2.1.1.1 (by omega) z (by omega)) (fun w3 r3 h3 => ?_))
    obtain ⟨f3, rfl⟩ := h3
    have fr : FR [] [] [] [44, 45, 46] w w3 := FR.mo f3 (by simp) (by simp) (by simp) (by simp)
    obtain ⟨M1, ph1, s9, s8⟩ := MI_fr M hx fr
    have p1 := PT_fr (q := q) fr p
    have u9 : F w3 1109 = 0 := by rw [s9]; exact t9
    have u8 : F w3 1108 = 0 := by rw [s8]; exact t8
    have uf : PHc T w3 q i x rk ≤ c := by rw [ph1]; exact hf
    rw [I_lit (n := 500)]
    refine k_le ⟨by omega, by omega⟩ ⟨by decide, by decide⟩ (fun h5 => ?_) (fun h5 => ?_)
    · have h5 : ((s : Nat) : Int) ≤ 500 := h5
      unfold hb_Ma_toward_58 hb_Ma_toward_59
      rcases r9 with _ | jj
      · exact ok_br.mpr ⟨fun _ => h88 M1 u9 u8 uf, fun z => absurd z (by decide)⟩
      · refine ok_br.mpr ⟨fun z => absurd z (by simp), fun _ => ?_⟩
        rw [decide_eq_true rfl, br_tq, decide_eq_false (show ¬ I 29 = (4 : Int32) from by decide), br_fq]
        refine tow95 (y := 29) (k := 2) M1 hx u9 u8 uf hr rfl hkh t2 (hr9 jj rfl) p1 (fun _ => ⟨f0, s, ?_, by omega⟩) hN
        rw [fr.2.2.2 (pq q 2) (by simp; unfold pq; omega), fr.2.2.2 (pq q 35) (by simp; unfold pq; omega)]; exact z
    · unfold hb_Ma_toward_59
      rcases r9 with _ | jj
      · exact ok_br.mpr ⟨fun _ => h88 M1 u9 u8 uf, fun z => absurd z (by decide)⟩
      · refine ok_br.mpr ⟨fun z => absurd z (by simp), fun _ => ?_⟩
        rw [decide_eq_false (by decide), br_fq]
        exact h88 M1 u9 u8 uf
  · rw [if_neg e] at hkh t2
    have ne : decide (I y = (29 : Int32)) = false := decide_eq_false (fun z => e ((I_eq hr.1 hr.2 (by decide) (by decide)).mp (show I y = I 29 from z)))
    have e0 : hm_Ma_toward N u q (I y) = hb_Ma_toward_11 N () u q (I y) 1 := by
      unfold hm_Ma_toward hb_Ma_toward_0
      rw [ne, br_fq]
    rw [e0]
    unfold hb_Ma_toward_11
    rw [show (1 : Int32) - 1 = I 0 from rfl]
    refine ok_bnd.mpr (ok_mono (procAt_ok (N := N) (y := 0) (k := 0) M p rfl (by omega)) (fun w r9 hw => ?_))
    obtain ⟨rfl, hr9⟩ := hw
    rw [ne, br_fq]
    unfold hb_Ma_toward_58 hb_Ma_toward_59
    rcases r9 with _ | jj
    · exact ok_br.mpr ⟨fun _ => h88 M t9 t8 hf, fun z => absurd z (by decide)⟩
    · refine ok_br.mpr ⟨fun z => absurd z (by simp), fun _ => ?_⟩
      have a95 := tow95 (N := N) (y := y) (k := 1) M hx t9 t8 hf hr (by rw [if_neg e]) hkh t2 (hr9 jj rfl) p (fun z => absurd z e) hN
      rw [decide_eq_true rfl, br_tq]
      exact ok_br.mpr ⟨fun _ => ok_br.mpr ⟨fun _ => a95, fun _ => h88 M t9 t8 hf⟩, fun _ => a95⟩
end
