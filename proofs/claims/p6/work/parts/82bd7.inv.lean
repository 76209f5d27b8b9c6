set_option maxRecDepth 100000
def INVc (u : MS) : Prop := STA u ∧ ((F u 10 = 0 ∧ NOP u) ∨ ∃ T Fv P PR, WRD T Fv P PR u)
def KFc {α : Type} (o : Option (MS × α)) : Prop := ∀ w r, o = some (w, r) → ∀ j, rf (w.1 1964) = some j → 44 ≤ j
section
variable {α β : Type} {u v w u0 : MS} {N : Nat} {T : Nat → Option (Nat × Nat × List Nat × Nat × Nat)} {Fv : Int64 → Int64 → Prop} {P : Int64 → Prop} {PR : Nat} {x z : Int} {y : Int32}
theorem KF_some {r : α} (h : ∀ j, rf (w.1 1964) = some j → 44 ≤ j) : KFc (some (w, r)) := fun _ _ e => by injection e with e; injection e with e1 _; exact e1 ▸ h
theorem KF_br {b : Bool} {p q : Option (MS × α)} (h1 : KFc p) (h2 : KFc q) : KFc (br b p q) := by cases b <;> assumption
theorem KF_none : KFc (none : Option (MS × α)) := fun _ _ e => by cases e
theorem KF_ck {b : Bool} {p : Option (MS × α)} (h1 : KFc p) : KFc (ck b p) := by
  cases b
  · exact KF_none
  · exact h1
theorem KF_bo {o : Option β} {f : β → Option (MS × α)} (h : ∀ j, KFc (f j)) : KFc (bo o f) := by
  cases o with
  | none => exact KF_none
  | some j => exact h j
theorem KF_bnd {o : Option (MS × β)} {f : MS → β → Option (MS × α)} (h1 : KE u0 o) (h2 : ∀ w r, KPS u0 w → KFc (f w r)) : KFc (bnd o f) := by
  cases o with
  | none => exact KF_none
  | some x => exact h2 x.1 x.2 (h1 x.1 x.2 rfl)
theorem KF_9 {r : Int32} (h : KPS u0 w) : KFc (lt (upI w 9 r) (fun w7 => some (w7, (w7.1 9)))) := KF_some (fun j hj => h.2.2 j (by
  have e : (upI w 9 r).1 1964 = w.1 1964 := rfl
  rw [e] at hj
  exact hj))
theorem show_64 {v1 v2 v3 : Int32} (h : KPS u0 u) : KFc (hm_H_show N u v1 v2 v3) := by
  have tx : ∀ {w : MS} {b : Nat} {t : Int64}, KPS u0 w → KFc (bnd (hm_Te_text N w b t 56 0) (fun u5 r5 => lt (upI u5 9 r5) (fun w7 => some (w7, (w7.1 9))))) := fun hw => KF_bnd (zm_Te_text hw (Or.inr rfl)) (fun w r hw => KF_9 hw)
  have so : ∀ {w : MS} {r : Int32}, KPS u0 w → KFc (some (w, r)) := fun hw => KF_some hw.2.2
  have e145 : ∀ {w : MS} {v2 v3 v6 t0 : Int32} {v4 v5 : Nat}, KPS u0 w → KFc (hb_H_show_145 N () w v2 v3 v4 v5 v6 t0) := fun hw => by
    unfold hb_H_show_145 hb_H_show_209
    exact KF_br (KF_br (KF_ck (tx hw)) (KF_br (KF_bnd (zm_Fr_of hw) (fun w r hw => KF_ck (tx hw))) (KF_bnd (zm_Fr_of hw) (fun w r hw => KF_ck (tx hw))))) (so hw)
  unfold hm_H_show hb_H_show_0 hb_H_show_19 hb_H_show_39 hb_H_show_93
  exact KF_bnd (zm_Wl_find h) (fun w r hw => KF_br (so hw) (KF_br (KF_br (KF_bo (fun j => KF_br (KF_br (KF_bo (fun j => tx hw)) (so hw)) (so hw))) (KF_br (so hw) (KF_br (so hw) (KF_bo (fun j => KF_br (so hw) (KF_br (e145 hw) (KF_br (KF_bnd (zm_Fr_namesIn hw) (fun w r hw => e145 hw)) (KF_bnd (zm_Fr_waitsIn hw) (fun w r hw => e145 hw))))))))) (so hw)))
theorem STA_k (h : STA u) (k : KPS u w) (a : ALN w) : STA w := by
  obtain ⟨s1, s2, s3, s4, s5, s6, s7⟩ := h
  have fF : ∀ j, j < 860 → F w j = F u j := fun j hj => congrArg _ (k.1 j hj)
  have aA : ∀ r j, r < 44 → A w r j = A u r j := fun r j hr => by show (w.2.2.1 r j).toInt = _; rw [k.2.1 r hr]; rfl
  have wd : ∀ m, m < 42 → WDc u m → WDc w m := fun m hm h => by
    unfold WDc at h ⊢
    rw [fF _ (by omega)]
    refine ⟨h.1, h.2.1, h.2.2.1, h.2.2.2.1, fun k hk => ?_⟩
    rw [aA _ _ (by omega), aA _ _ (by omega)]
    exact h.2.2.2.2 k hk
  refine ⟨⟨by rw [fF 81 (by omega)]; exact s1.1, fun j hj => by rw [k.2.1 5 (by omega)]; exact s1.2.1 j hj, wd 9 (by omega) s1.2.2.1, by rw [fF 182 (by omega)]; exact s1.2.2.2⟩, ⟨⟨fun j hj => by rw [aA _ _ (by omega), aA _ _ (by omega)]; exact s2.1.1 j hj, s2.1.2⟩, fun j hj => by rw [aA _ _ (by omega), aA _ _ (by omega)]; exact s2.2 j hj⟩, wd 36 (by omega) s3, fun j hj => by rw [aA 40 j (by omega), aA 41 j (by omega)]; exact s4 j hj, by rw [fF 9 (by omega)]; exact s5, a, k.2.2⟩
theorem nofind (n : NOP u) (hx : RG x) : OK (fun w r => w = u ∧ r = none) (hm_Wl_find N u (I x)) := ok_mono (findc_ok (N := N) n hx) (fun w r h => ⟨h.1, by
  cases r with
  | none => rfl
  | some j => have := h.2 j rfl; omega⟩)
theorem inv_u {o : Option (MS × α)} (h : INVc u) (ho : OK (fun w _ => w = u) o) : OK (fun w _ => INVc w) o := ok_mono ho (fun w _ e => by rw [e]; exact h)
theorem invc_count (h : INVc u) : OK (fun w _ => INVc w) (hm_H_count N u y) := inv_u h count_okc
theorem invc_shown (h : INVc u) : OK (fun w _ => INVc w) (hm_H_shown N u y) := inv_u h (shown_okc h.1.2.2.2.2.1)
theorem invc_read (h : INVc u) (hN : 1000000000 ≤ N) : OK (fun w _ => INVc w) (hm_H_read N u) := ok_mono (read_okc (N := N) h.1 hN) (fun w _ hw => ⟨hw.1, by
  rcases hw.2 with z | ⟨T, Fv, P, z⟩
  · exact Or.inl z
  · exact Or.inr ⟨T, Fv, P, 0, z⟩⟩)
theorem invc_go (h : INVc u) (hx : RG x) (hN : 600000000010 ≤ N) : OK (fun w _ => INVc w) (hm_H_go N u (I x) y) := by
  rcases h.2 with ⟨h10, np⟩ | ⟨T, Fv, P, PR, W⟩
  · refine inv_u h ?_
    unfold hm_H_go hb_H_go_0 hb_H_go_11
    refine br_u so_u (br_u (ok_bnd.mpr (ok_mono (nofind np hx) (fun w r hw => ?_))) so_u)
    obtain ⟨rfl, rfl⟩ := hw
    exact ok_br.mpr ⟨fun _ => so_u, fun z => absurd z (by decide)⟩
  · exact ok_mono (OK_KE (go_okc (N := N) (y := y) W hx hN) (zm_H_go (KPS_rf h.1.2.2.2.2.2.2))) (fun w _ hw => by
      obtain ⟨⟨PR2, W2⟩, k⟩ := hw
      exact ⟨STA_k h.1 k W2.2.2.2.2.2, Or.inr ⟨T, Fv, P, PR2, W2⟩⟩)
theorem invc_clock (h : INVc u) : OK (fun w _ => INVc w) (hm_H_clock N u y) := by
  rcases h.2 with ⟨h10, np⟩ | ⟨T, Fv, P, PR, W⟩
  · have me : ∀ {z : Nat}, OK (fun w _ => INVc w) (some (u, (.inr z : Int32 ⊕ Nat))) := fun {z} => ok_some.mpr h
    unfold hm_H_clock hb_H_clock_0 hb_H_clock_24
    refine ok_br.mpr ⟨fun _ => me, fun _ => ok_br.mpr ⟨fun _ => me, fun _ => ok_br.mpr ⟨fun _ => ok_br.mpr ⟨fun _ => me, fun _ => ok_lt.mpr (ok_some.mpr ?_)⟩, fun _ => me⟩⟩⟩
    rw [I_of (u.1 944 + y), wi_e]
    have f : FR [944] [] [] [] u (wi u 944 (u.1 944 + y).toInt) := FR.wi FR.rf (by simp)
    have fF : ∀ k, k ≠ 944 → F (wi u 944 (u.1 944 + y).toInt) k = F u k := fun k hk => FRc_F f (by simp; exact hk)
    have fA : ∀ r j, A (wi u 944 (u.1 944 + y).toInt) r j = A u r j := fun _ _ => rfl
    have f19 : (wi u 944 (u.1 944 + y).toInt).2.2.1 = u.2.2.1 := rfl
    have st : STA (wi u 944 (u.1 944 + y).toInt) := STA_fr h.1 f (CST_fr f h.1.1 (by simp) (by simp) (by simp) (by simp)) ⟨⟨fun j hj => h.1.2.1.1.1 j hj, h.1.2.1.1.2⟩, fun j hj => h.1.2.1.2 j hj⟩ (fun j hj => h.1.2.2.2.1 j hj) (by simp) (by simp)
    obtain ⟨⟨n1, n2⟩, n3, n4, ⟨n5, n6⟩, n7, n8, n9⟩ := np
    refine ⟨st, Or.inl ⟨by rw [fF 10 (by decide)]; exact h10, ⟨by rw [fF 942 (by decide)]; exact n1, n2⟩, fun r hr => absurd hr (by omega), by rw [fF 950 (by decide)]; exact n4, ⟨by rw [fF 955 (by decide)]; exact n5, by rw [fF 955 (by decide), fF 956 (by decide)]; exact n6⟩, fun i hi => ?_, by rw [fF 953 (by decide)]; exact n8, fun i hi => ?_⟩⟩
    · rw [fF 955 (by decide), n5] at hi
      have : ((cEc u 0 : Nat) : Int) = 0 := rfl
      omega
    · rw [fF 953 (by decide)] at hi
      exact n9 i hi
  · exact ok_mono (OK_KE (clock_okc (N := N) (y := y) W) (zm_H_clock (KPS_rf h.1.2.2.2.2.2.2))) (fun w _ hw => ⟨STA_k h.1 hw.2 hw.1.2.2.2.2.2, Or.inr ⟨T, Fv, P, PR, hw.1⟩⟩)
theorem invc_send (h : INVc u) (hx : RG x) (hz : RG z) (hN : 3000000 ≤ N) : OK (fun w _ => INVc w) (hm_H_send N u (I x) y (I z)) := by
  rcases h.2 with ⟨h10, np⟩ | ⟨T, Fv, P, PR, W⟩
  · refine inv_u h ?_
    unfold hm_H_send hb_H_send_0 hb_H_send_35
    refine ok_bnd.mpr (ok_mono (nofind np hx) (fun w r hw => ?_))
    obtain ⟨rfl, rfl⟩ := hw
    exact ok_br.mpr ⟨fun _ => so_u, fun z => absurd z (by decide)⟩
  · exact ok_mono (OK_KE (send_okc (N := N) (y := y) W hx hz hN) (zm_H_send (KPS_rf h.1.2.2.2.2.2.2))) (fun w _ hw => ⟨STA_k h.1 hw.2 hw.1.2.2.2.2.2, Or.inr ⟨T, Fv, P, PR, hw.1⟩⟩)
theorem invc_process (h : INVc u) (hx : RG x) (hN : 3000000 ≤ N) : OK (fun w _ => INVc w) (hm_H_process N u (I x) y) := inv_u h (by
  rcases h.2 with ⟨h10, np⟩ | ⟨T, Fv, P, PR, W⟩
  · unfold hm_H_process hb_H_process_0
    refine ok_bnd.mpr (ok_mono (nofind np hx) (fun w r hw => ?_))
    obtain ⟨rfl, rfl⟩ := hw
    exact ok_br.mpr ⟨fun _ => so_u, fun z => absurd z (by decide)⟩
  · exact process_okc W hx hN)
theorem invc_frame {y2 : Int32} (h : INVc u) (hx : RG x) : OK (fun w _ => INVc w) (hm_H_frame N u (I x) y y2) := inv_u h (by
  rcases h.2 with ⟨h10, np⟩ | ⟨T, Fv, P, PR, W⟩
  · unfold hm_H_frame hb_H_frame_0 hb_H_frame_40
    refine ok_bnd.mpr (ok_mono (nofind np hx) (fun w r hw => ?_))
    obtain ⟨rfl, rfl⟩ := hw
    exact ok_br.mpr ⟨fun _ => so_u, fun z => absurd z (by decide)⟩
  · exact frame_okc W hx)
theorem invc_link (h : INVc u) (hx : RG x) : OK (fun w _ => INVc w) (hm_H_link N u (I x) y) := inv_u h (by
  rcases h.2 with ⟨h10, np⟩ | ⟨T, Fv, P, PR, W⟩
  · unfold hm_H_link hb_H_link_0 hb_H_link_33
    refine ok_bnd.mpr (ok_mono (nofind np hx) (fun w r hw => ?_))
    obtain ⟨rfl, rfl⟩ := hw
    exact ok_br.mpr ⟨fun _ => so_u, fun z => absurd z (by decide)⟩
  · exact link_okc W hx)
theorem invc_printed {y2 : Int32} (h : INVc u) : OK (fun w _ => INVc w) (hm_H_printed N u y y2) := inv_u h (by
  have g : GLQ 0 u ∨ ∃ PR, GLQ PR u := by
    rcases h.2 with ⟨h10, np⟩ | ⟨T, Fv, P, PR, W⟩
    · exact Or.inl np
    · exact Or.inr ⟨PR, W.1.1⟩
  have g := (by
    rcases g with g | ⟨PR, g⟩
    · exact g.2.2.2.2.2
    · exact g.2.2.2.2.2 : (0 ≤ F u 953 ∧ F u 953 ≤ 200) ∧ _)
  unfold hm_H_printed hb_H_printed_0 hb_H_printed_32
  rw [I_of y, I_of y2, lit0q, I_F (k := 953)]
  have ry := ti_rng y
  have rz := ti_rng y2
  refine k_lt ry ⟨by decide, by decide⟩ (fun _ => so_u) (fun h0 => k_le (FRG1 u _) ry (fun _ => so_u) (fun h1 => k_lt rz ⟨by decide, by decide⟩ (fun _ => so_u) (fun h2 => ?_)))
  have g2 := g.2 y.toInt.toNat (by omega)
  refine e_in ⟨by omega, by omega⟩ (by decide) ?_
  rw [tnI (n := y.toInt.toNat) (by omega) (by omega), I_A (k := 53)]
  refine k_lt rz (A_r u 53 _) (fun h3 => ?_) (fun _ => so_u)
  rw [I_lit (n := 100), I_mul, I_add]
  exact e_in ⟨by show 0 ≤ _ * (100 : Int) + _; omega, by show _ * (100 : Int) + _ < _; omega⟩ (by decide) so_u)
theorem invc_function {y2 : Int32} (h : INVc u) : OK (fun w _ => INVc w) (hm_H_function N u y y2) := inv_u h (by
  rcases h.2 with ⟨h10, np⟩ | ⟨T, Fv, P, PR, W⟩
  · unfold hm_H_function hb_H_function_0
    obtain ⟨r, e, hr⟩ := isFun_e (N := N) (u := u) (y := y)
    rw [e, bnd_so]
    exact ok_br.mpr ⟨fun _ => so_u, fun h0 => absurd h10 (hr (of_decide_eq_false h0)).1⟩
  · exact function_okc W)
theorem invc_letter {y2 : Int32} (h : INVc u) : OK (fun w _ => INVc w) (hm_H_letter N u y y2) := inv_u h (by
  rcases h.2 with ⟨h10, np⟩ | ⟨T, Fv, P, PR, W⟩
  · unfold hm_H_letter hb_H_letter_0
    exact k_F (y := 0) rfl ⟨by decide, by decide⟩ (fun _ => so_u) (fun z => absurd h10 z)
  · exact letter_okc W)
theorem invc_begin (h : INVc u) (hx : RG x) : OK (fun w _ => INVc w) (hm_H_begin N u (I x)) := by
  rcases h.2 with ⟨h10, np⟩ | ⟨T, Fv, P, PR, W⟩
  · refine inv_u h ?_
    unfold hm_H_begin hb_H_begin_0
    exact k_F (y := 0) rfl ⟨by decide, by decide⟩ (fun _ => so_u) (fun z => absurd h10 z)
  · exact ok_mono (OK_KE (begin_okc (N := N) W hx) (zm_H_begin (KPS_rf h.1.2.2.2.2.2.2))) (fun w _ hw => by
      obtain ⟨⟨PR2, W2⟩, k⟩ := hw
      exact ⟨STA_k h.1 k W2.2.2.2.2.2, Or.inr ⟨T, Fv, P, PR2, W2⟩⟩)
theorem invc_show {y2 : Int32} (h : INVc u) (hx : RG x) (hN : 1000000010 ≤ N) : OK (fun w _ => INVc w) (hm_H_show N u (I x) y y2) := by
  rcases h.2 with ⟨h10, np⟩ | ⟨T, Fv, P, PR, W⟩
  · refine inv_u h ?_
    unfold hm_H_show hb_H_show_0 hb_H_show_19
    refine ok_bnd.mpr (ok_mono (nofind np hx) (fun w r hw => ?_))
    obtain ⟨rfl, rfl⟩ := hw
    exact ok_br.mpr ⟨fun _ => so_u, fun z => absurd z (by decide)⟩
  · obtain ⟨w, r, e, q⟩ := show_okc (N := N) (y := y) (z := y2) W hx hN
    have k64 := show_64 (N := N) (v1 := I x) (v2 := y) (v3 := y2) (KPS_rf h.1.2.2.2.2.2.2) w r e
    refine ⟨w, r, e, ?_⟩
    rcases q with rfl | ⟨W2, h9, fc⟩
    · exact h
    · obtain ⟨s1, s2, s3, s4, s5, s6, s7⟩ := h.1
      have fF : ∀ j, j < 860 → j ≠ 9 → F w j = F u j := fun j hj h1 => fc.Fg (by omega) (by simp; omega)
      have aA : ∀ r j, r < 44 → A w r j = A u r j := fun r j hr => fc.ag (by omega) (by simp; omega)
      have wd : ∀ m, m < 42 → 1 ≤ m → WDc u m → WDc w m := fun m hm h1 h => by
        unfold WDc at h ⊢
        rw [fF _ (by omega) (by omega)]
        refine ⟨h.1, h.2.1, h.2.2.1, h.2.2.2.1, fun k hk => ?_⟩
        rw [aA _ _ (by omega), aA _ _ (by omega)]
        exact h.2.2.2.2 k hk
      refine ⟨⟨⟨by rw [fF 81 (by omega) (by omega)]; exact s1.1, fun j hj => by rw [fc.2.2.1 5 (by omega) (by simp)]; exact s1.2.1 j hj, wd 9 (by omega) (by omega) s1.2.2.1, by rw [fF 182 (by omega) (by omega)]; exact s1.2.2.2⟩, ⟨⟨fun j hj => by rw [aA _ _ (by omega), aA _ _ (by omega)]; exact s2.1.1 j hj, s2.1.2⟩, fun j hj => by rw [aA _ _ (by omega), aA _ _ (by omega)]; exact s2.2 j hj⟩, wd 36 (by omega) (by omega) s3, fun j hj => by rw [aA 40 j (by omega), aA 41 j (by omega)]; exact s4 j hj, h9, W2.2.2.2.2.2, k64⟩, Or.inr ⟨T, Fv, P, PR, W2⟩⟩
end
