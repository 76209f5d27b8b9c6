section
variable {Fv : Int64 → Int64 → Prop} {P : Int64 → Prop} {w w2 : MS} {PR N p n opM bnM bxM ND fr k b d CN PN SN UN FN : Nat} {ow kd ro rn rh cb pc ct pM pE : Nat → Nat} {T : TY} {C : CY}
theorem goTo_ok {q fr2 : Nat} (i : MEI Fv P PR w p n ow kd opM bnM bxM) (h1 : A w 95 p = ((fr2 : Nat) : Int)) (h2 : 1 ≤ fr2 ∧ fr2 ≤ 60) (hq : q < 100000) : fm_M_goTo N w (I q) = some (wa w 98 (60 * p + (fr2 - 1)) q, ()) := by
  have x4 := MEI_p i
  unfold fm_M_goTo fb_M_goTo_0 fm_M_frame0 fb_M_frame0_0
  rw [I_F' i.2.2.1, inb_at (k := 95) (n := 24) rfl (by omega) (by omega) (by decide), ck_t, I_tn (by omega) (by omega), Int.toNat_natCast, I_A' h1, show (60 : Int32) = I 60 from rfl, I_mul, I_add, lit1q, I_sub, bnd_so, show (p : Int) * 60 + (fr2 : Int) - 1 = ((60 * p + (fr2 - 1) : Nat) : Int) from by omega, inb_at (k := 98) (n := 1440) rfl (by omega) (by omega) (by decide), ck_t, lt_e, I_tn (by omega) (by omega), Int.toNat_natCast, wa_e]
theorem wants_h {t : Int64} {m : Nat} (i : MEI Fv P PR w p n ow kd opM bnM bxM) (g : GT n ow kd P t) (hm : m ≤ 1000) (hN : 60000 ≤ N) : OK (fun v r => ∃ n2 ow2 kd2, MEI Fv P PR (wl (wi v 140 (-1)) 139 (mk 6 0)) p n2 ow2 kd2 opM bnM bxM ∧ GT n2 ow2 kd2 P (v.2.1 139) ∧ FR [136, 138, 140] [139] [89, 90, 135] [88, 91, 93, 107, 134, 137] w (wl (wi v 140 (-1)) 139 (mk 6 0)) ∧ F v 133 = p ∧ ((r = I 1 ∧ n2 + m ≤ 500) ∨ r = I 0)) (fm_M_wants N (wl (wi w 140 p) 139 t) (I p) (I m)) := by
  have x4 := MEI_p i
  obtain ⟨m1, m2, m3, m4, m5, ⟨x1, x2, x3, -, x5, x6, x7, x8, x9, x10, x11⟩⟩ := id i
  have e140 : F (wl (wi w 140 p) 139 t) 140 = p := by rw [F_wl, F_wi (by omega) (by omega), if_pos rfl]
  have e139 : (wl (wi w 140 p) 139 t).2.1 139 = t := by rw [L_wl, if_pos rfl]
  have f1 : FR [140] [139] [] [] w (wl (wi w 140 p) 139 t) := FR.wl (FR.wi FR.rf (by decide)) (by decide)
  have cx : CX (wl (wi w 140 p) 139 t) p (hp (wl (wi w 140 p) 139 t) p) n ow kd Fv P opM bnM bxM := ⟨rfl, x2, x3, x4, x5, x6, x7, x8, x9, x10, fun _ => by rw [e139]; exact g⟩
  refine ok_mono (wants_ok (N := N) cx m5 (k := m) (by omega) hN) (fun v r h => ?_)
  obtain ⟨n2, ow2, kd2, fd, R, ⟨t1, t2, t3, t4, t5, t6, t7, t8, t9, t10, t11, t12⟩, h2⟩ := h
  have f2 : FR [136, 138, 140] [139] [89, 90, 135] [88, 91, 93, 107, 134, 137] w (wl (wi v 140 (-1)) 139 (mk 6 0)) := FR.wl (FR.wi (FR.tr (FR.mo f1 (by decide) (by decide) (by decide) (by decide)) (FR.mo t6 (by decide) (by decide) (by decide) (by decide))) (by decide)) (by decide)
  obtain ⟨y1, y2, y3, y4, y5, y6, y7, y8, y9, y10, y11⟩ := t3
  have z140 : F (wl (wi v 140 (-1)) 139 (mk 6 0)) 140 = -1 := by rw [F_wl, F_wi (by omega) (by omega), if_pos rfl]
  refine ⟨n2, ow2, kd2, MEI_upd i (FR.mo f2 (by decide) (by decide) (by decide) (by decide)) z140 (fun q hq => by show A v 89 q = _; rw [t5, if_neg hq]; rfl) (fun q _ => FR.A f2 (by decide)) (fun q _ => FR.A f2 (by decide)) (fun q _ => FR.A f2 (by decide)) (fun j hj => t7 j hj) (fun j hj => RTS_out t8 x5.2 hj) (fun j hj => RTS_out t9 x6.2 hj) (fun j hj => RTS_out t10 x7.2 hj) (by show A v 89 p = _; rw [t5, if_pos rfl]) ⟨rfl, y2, y3, y4, y5, y6, y7, y8, y9, y10, fun e => by omega⟩, ?_, f2, by rw [FR.F t6 (by decide)]; exact m3, ?_⟩
  · rw [(t11 e140).1, e139]
    exact HOM_gt t1 g (by have := (t11 e140).2; rw [e139] at this; exact this)
  · rcases h2 with h2 | h2
    · exact Or.inl h2
    · exact Or.inr h2.1
theorem hand_e {t : Int64} {q : Int} : fm_M_hand N w (I q) t = some (wl (wi w 140 q) 139 t, ()) := rfl
theorem handNone_e : fm_M_handNone N w = some (wl (wi w 140 (-1)) 139 (mk 6 0), ()) := rfl
theorem gU9 {S : SG_M_error} {v : MS} {t : Int64} {kn : Int} {c i0 cn a ho hn : Nat} (i : MEI Fv P PR v p n ow kd ho hn bxM) (hPB : PB P PR) (g : GT n ow kd P t) (hk : 0 ≤ kn ∧ kn ≤ 2) (hc : c < 1600) (h103 : A v 103 (1600 * p + c) = ((cn : Nat) : Int)) (hcn : cn < 16000) (h25 : A v 25 cn = ((a : Nat) : Int)) (ha : a < 16000) (h95 : A v 95 p = ((i0 + 1 : Nat) : Int)) (hi : i0 < 60) (hop : ho < 46000) (hN : 60000 ≤ N) :
    OK (fun w2 _ => (ENDD Fv P PR p w2 ∧ FR [136, 138, 140, 150, 151] [139] [89, 90, 109, 135, 145, 146, 147] [88, 91, 93, 107, 134, 137, 148] v w2 ∧ ∀ z, z ≠ p → A w2 109 z = A v 109 z) ∨ (∃ n2 ow2 kd2, MEI Fv P PR w2 p n2 ow2 kd2 (ho + 1) hn bxM ∧ FR [136, 138, 140] [139] [89, 90, 92, 98, 135] [88, 91, 93, 107, 134, 137] v w2 ∧ (∀ j, A w2 98 j = if j = 60 * p + i0 then ((a : Nat) : Int) else A v 98 j) ∧ ∀ z, z ≠ p → A w2 92 z = A v 92 z)) (br (decide ((I kn) = 2)) (bnd (fm_M_put N v t) (fun u15 _ => fb_M_goesUp_205 N S () u15 ((I ((1600 * p + c : Nat) : Int))))) (bnd (fm_M_hand N v (v.1 133) t) (fun u10 _ => bnd (fm_M_wants N u10 (u10.1 133) 3) (fun u11 r11 => br (decide (r11 = 0)) (bnd (fm_M_handNone N u11) (fun u13 _ => bnd (fm_M_noRoom N u13) (fun u14 _ => some (u14, ())))) (bnd (fm_M_handNone N u11) (fun u12 _ => br (decide ((I kn) = 0)) (fb_M_goesUp_197 N S () u12 ((I ((1600 * p + c : Nat) : Int))) ((u11.2.1 139)) (7)) (fb_M_goesUp_197 N S () u12 ((I ((1600 * p + c : Nat) : Int))) ((u11.2.1 139)) (8)))))))) := by
  have x4 := MEI_p i
  have fin : ∀ (u : MS) (n2 : Nat) (ow2 kd2 : Nat → Nat), MEI Fv P PR u p n2 ow2 kd2 (ho + 1) hn bxM → FR [136, 138, 140] [139] [89, 90, 92, 135] [88, 91, 93, 107, 134, 137] v u → (∀ z, z ≠ p → A u 92 z = A v 92 z) → OK (fun w2 _ => (ENDD Fv P PR p w2 ∧ FR [136, 138, 140, 150, 151] [139] [89, 90, 109, 135, 145, 146, 147] [88, 91, 93, 107, 134, 137, 148] v w2 ∧ ∀ z, z ≠ p → A w2 109 z = A v 109 z) ∨ (∃ n2 ow2 kd2, MEI Fv P PR w2 p n2 ow2 kd2 (ho + 1) hn bxM ∧ FR [136, 138, 140] [139] [89, 90, 92, 98, 135] [88, 91, 93, 107, 134, 137] v w2 ∧ (∀ j, A w2 98 j = if j = 60 * p + i0 then ((a : Nat) : Int) else A v 98 j) ∧ ∀ z, z ≠ p → A w2 92 z = A v 92 z)) (fb_M_goesUp_205 N S () u (I ((1600 * p + c : Nat) : Int))) := fun u n2 ow2 kd2 iu fu hu => by
    unfold fb_M_goesUp_205
    rw [inb_at (k := 103) (n := 38400) rfl (by omega) (by omega) (by decide), ck_t, I_tn (x := ((1600 * p + c : Nat) : Int)) (by omega) (by omega), Int.toNat_natCast, I_A' (show A u 103 (1600 * p + c) = cn by rw [FR.A fu (by decide)]; exact h103), inb_at (k := 25) (n := 16000) rfl (by omega) (by omega) (by decide), ck_t, I_tn (by omega) (by omega), Int.toNat_natCast, I_A' (show A u 25 cn = a by rw [FR.A fu (by decide)]; exact h25), goTo_ok iu (by rw [FR.A fu (by decide)]; exact h95) (by omega) (by omega), bnd_so]
    have f98 : FR [] [] [98] [] u (wa u 98 (60 * p + (i0 + 1 - 1)) a) := FR.wa FR.rf (by decide)
    refine ok_some.mpr (Or.inr ⟨n2, ow2, kd2, MEI_fr iu f98 (by decide) (by decide) (by decide) (by decide) (by decide) (by decide) (by decide) (by decide) (by decide) (by decide) (by decide) (by decide) (by decide) (by decide) (by decide) (by decide) (by decide) (by decide), FR.tr (FR.mo fu (by decide) (by decide) (by decide) (by decide)) (FR.mo f98 (by decide) (by decide) (by decide) (by decide)), fun j => ?_, fun z hz => by rw [FR.A f98 (by decide)]; exact hu z hz⟩)
    rw [A_eq (by omega) (by omega), show 60 * p + (i0 + 1 - 1) = 60 * p + i0 from by omega, FR.A fu (by decide)]
  refine ok_br.mpr ⟨fun _ => ?_, fun h2 => ?_⟩
  · refine ok_bnd.mpr (ok_mono (put_ok (N := N) i g hop) (fun u _ h => ?_))
    obtain ⟨h1, h2⟩ := h
    exact fin u n ow kd h2 (by rw [h1]; exact FR.wa (FR.wj FR.rf (by decide)) (by decide)) (fun z hz => by rw [h1, A_eq (by omega) (by omega), if_neg hz, A_wj])
  · rw [I_F' i.2.2.1, hand_e, bnd_so, show (wl (wi v 140 p) 139 t).1 133 = I p from I_F' (by rw [F_wl, F_wi (by omega) (by omega), if_neg (by decide)]; exact i.2.2.1)]
    have hw := wants_h (m := 3) i g (by omega) hN
    rw [show I ((3 : Nat) : Int) = (3 : Int32) from rfl] at hw
    refine ok_bnd.mpr (ok_mono hw (fun u r h => ?_))
    obtain ⟨n2, ow2, kd2, q1, q2, q3, -, q4⟩ := h
    rw [handNone_e, bnd_so]
    refine ok_br.mpr ⟨fun _ => ?_, fun hr => ?_⟩
    · refine ok_bnd.mpr (ok_mono (noRoom_ok (N := N) q1 hPB) (fun u2 _ h => ok_some.mpr (Or.inl ⟨h.1, FR.tr (FR.mo q3 (by decide) (by decide) (by decide) (by decide)) (FR.mo h.2.1 (by decide) (by decide) (by decide) (by decide)), fun z hz => by rw [h.2.2 z hz, FR.A q3 (by decide)]⟩)))
    · have room : n2 + 3 ≤ 500 := by
        rcases q4 with ⟨-, z⟩ | z
        · exact z
        · exact absurd (show r = 0 by rw [z]; rfl) (of_decide_eq_false hr)
      have tail : ∀ x : Int, 0 ≤ x → x < 22 → OK (fun w2 _ => (ENDD Fv P PR p w2 ∧ FR [136, 138, 140, 150, 151] [139] [89, 90, 109, 135, 145, 146, 147] [88, 91, 93, 107, 134, 137, 148] v w2 ∧ ∀ z, z ≠ p → A w2 109 z = A v 109 z) ∨ (∃ n2 ow2 kd2, MEI Fv P PR w2 p n2 ow2 kd2 (ho + 1) hn bxM ∧ FR [136, 138, 140] [139] [89, 90, 92, 98, 135] [88, 91, 93, 107, 134, 137] v w2 ∧ (∀ j, A w2 98 j = if j = 60 * p + i0 then ((a : Nat) : Int) else A v 98 j) ∧ ∀ z, z ≠ p → A w2 92 z = A v 92 z)) (fb_M_goesUp_197 N S () (wl (wi u 140 (-1)) 139 (mk 6 0)) (I ((1600 * p + c : Nat) : Int)) (u.2.1 139) (I x)) := fun x x0 x1 => by
        unfold fb_M_goesUp_197
        refine ok_bnd.mpr (ok_mono (two_ok (N := N) q1 hPB ⟨x0, x1⟩ q2 room) (fun u2 r2 h => ?_))
        obtain ⟨s1, ow3, kd3, s2, s3, -⟩ := h
        refine ok_bnd.mpr (ok_mono (put_ok (N := N) s2 s3 hop) (fun u3 _ h3 => ?_))
        obtain ⟨h31, h32⟩ := h3
        refine fin u3 _ ow3 kd3 h32 (FR.tr (FR.mo q3 (by decide) (by decide) (by decide) (by decide)) (FR.tr (FR.mo s1 (by decide) (by decide) (by decide) (by decide)) ?_)) (fun z hz => ?_)
        · rw [h31]; exact FR.wa (FR.wj FR.rf (by decide)) (by decide)
        · rw [h31, A_eq (by omega) (by omega), if_neg hz, A_wj, FR.A s1 (by decide), FR.A q3 (by decide)]
      exact ok_br.mpr ⟨fun _ => tail 7 (by omega) (by omega), fun _ => tail 8 (by omega) (by omega)⟩
end
