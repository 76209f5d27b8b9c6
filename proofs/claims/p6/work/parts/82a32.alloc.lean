section
variable {Fv : Int64 → Int64 → Prop} {P : Int64 → Prop} {w w2 : MS} {PR N p n opM bnM bxM : Nat} {ow kd : Nat → Nat}
theorem MEI_alloc {m : Nat} {x : Int64} (i : MEI Fv P PR w p n ow kd opM bnM bxM) (f : FR [] [] [89] [88] w w2) (h89 : ∀ q, A w2 89 q = if q = p then ((n + m : Nat) : Int) else A w 89 q) (h5 : n + m ≤ 500) (h88 : ∀ j, ¬ (500 * p + n ≤ j ∧ j < 500 * p + n + m) → w2.2.2.2 88 j = w.2.2.2 88 j)
    (hx : isH x) (h0 : 0 ≤ va x) (hv : vn x = n) (hb : blk (hp w2 p) x = m) (b2 : so x = 5 → HDC (hp w2 p n)) (b3 : so x = 3 → 0 ≤ va (hp w2 p (n + 1)) ∧ Fv (hp w2 p n) (hp w2 p (n + 1))) (hg : ∀ j, prt x ≤ j → j < m → GT n ow kd P (hp w2 p (n + j)))
    (hs : (so x = 5 ∧ m = 3 ∧ ¬ isH (hp w2 p (n + 1))) ∨ ∀ f c, (∀ j, prt x ≤ j → j < m → SZ (hp w p) n ow kd Fv P f (hp w2 p (n + j)) (c j)) → m + smm c (prt x) (m - prt x) ≤ 500) :
    ∃ ow2 kd2, MEI Fv P PR w2 p (n + m) ow2 kd2 opM bnM bxM ∧ GT (n + m) ow2 kd2 P x ∧ (∀ t, GT n ow kd P t → GT (n + m) ow2 kd2 P t) ∧ (∀ f t s, SZ (hp w p) n ow kd Fv P f t s → SZ (hp w2 p) (n + m) ow2 kd2 Fv P f t s) := by
  have i' := i
  obtain ⟨m1, m2, m3, m4, m5, ⟨x1, x2, x3, x4, x5, x6, x7, x8, x9, x10, x11⟩⟩ := i
  have cell : ∀ j, j < n → hp w2 p j = hp w p j := fun j hj => by unfold hp; exact h88 _ (by omega)
  obtain ⟨ow2, kd2, g1, g2, g3, g4, -⟩ := HP_new x2 cell hx h0 hv hb b2 b3 hg hs
  have f140 : F w2 140 = -1 := by rw [FR.F f (by decide)]; exact m1.2.2.2.1
  refine ⟨ow2, kd2, MEI_upd i' (FR.mo f (by decide) (by decide) (by decide) (by decide)) f140 (fun q hq => by rw [h89, if_neg hq]) (fun q _ => FR.A f (by decide)) (fun q _ => FR.A f (by decide)) (fun q _ => FR.A f (by decide)) (fun j hj => h88 j (by omega)) (fun _ _ => by rw [f.2.2.2 91 (by decide)]) (fun _ _ => by rw [f.2.2.2 93 (by decide)]) (fun _ _ => by rw [f.2.2.2 107 (by decide)]) (by rw [h89, if_pos rfl]) ⟨rfl, g1, h5, x4, by rw [FR.A f (by decide)]; exact x5, by rw [FR.A f (by decide)]; exact x6, by rw [FR.A f (by decide)]; exact x7, fun j hj => by rw [f.2.2.2 91 (by decide)]; exact g3 _ (x8 j hj), fun j hj => by rw [f.2.2.2 93 (by decide)]; exact g3 _ (x9 j hj), fun j hj => by rw [f.2.2.2 107 (by decide)]; exact g3 _ (x10 j hj), fun e => by omega⟩, g2, g3, g4⟩
theorem two_ok {a : Int} {t : Int64} (i : MEI Fv P PR w p n ow kd opM bnM bxM) (hPB : PB P PR) (ha : 0 ≤ a ∧ a < 22) (g : GT n ow kd P t) (h5 : n + 3 ≤ 500) :
    OK (fun w2 r => FR [] [] [89] [88] w w2 ∧ ∃ ow2 kd2, MEI Fv P PR w2 p (n + 3) ow2 kd2 opM bnM bxM ∧ GT (n + 3) ow2 kd2 P r ∧ (∀ t, GT n ow kd P t → GT (n + 3) ow2 kd2 P t)) (fm_M_two N w (I a) t) := by
  have x4 := MEI_p i
  have m3 := i.2.2.1
  have m5 := i.2.2.2.2.1
  unfold fm_M_two fb_M_two_0
  rw [I_F' m3, inb_at (k := 89) (n := 25) rfl (by omega) (by omega) (by decide), ck_t, lt_e, I_tn (x := (p : Int)) (by omega) (by omega), Int.toNat_natCast, I_A' m5, lit500, I_mul, I_add, inb_at (k := 88) (n := 12500) rfl (by omega) (by omega) (by decide), ck_t, lt_e, I_tn (by omega) (by omega), show ((p : Int) * 500 + (n : Int)).toNat = 500 * p + n from by omega, wj_e, lit1q, term_e, bnd_so, I_add, inb_at (k := 88) (n := 12500) rfl (by omega) (by omega) (by decide), ck_t, lt_e, I_tn (by omega) (by omega), show ((p : Int) * 500 + (n : Int) + 1).toNat = 500 * p + (n + 1) from by omega, wj_e, show (2 : Int32) = I 2 from rfl, I_add, inb_at (k := 88) (n := 12500) rfl (by omega) (by omega) (by decide), ck_t, lt_e, I_tn (by omega) (by omega), show ((p : Int) * 500 + (n : Int) + 2).toNat = 500 * p + (n + 2) from by omega, wj_e]
  generalize hv : wj (wj (wj w 88 (500 * p + n) 2) 88 (500 * p + (n + 1)) (mk 1 a)) 88 (500 * p + (n + 2)) t = v
  have fv : FR [] [] [89] [88] w v := by rw [← hv]; exact FR.wj (FR.wj (FR.wj FR.rf (by decide)) (by decide)) (by decide)
  have v133 : F v 133 = p := by rw [FR.F fv (by decide)]; exact m3
  have v89 : A v 89 p = n := by rw [← hv]; exact m5
  rw [I_F' v133, inb_at (k := 89) (n := 25) rfl (by omega) (by omega) (by decide), ck_t, ck_t, lt_e, I_tn (x := (p : Int)) (by omega) (by omega), Int.toNat_natCast, I_A' v89, show (3 : Int32) = I 3 from rfl, I_add, wa_e]
  rw [show (wa v 89 p ((n : Int) + 3)).1 133 = I p from I_F' v133, inb_at (k := 89) (n := 25) rfl (by omega) (by omega) (by decide), ck_t, I_tn (x := (p : Int)) (by omega) (by omega), Int.toNat_natCast, I_A' (show A (wa v 89 p ((n : Int) + 3)) 89 p = (n : Int) + 3 by rw [A_eq (by omega) (by omega), if_pos rfl]), I_sub, show (n : Int) + 3 - 3 = (n : Int) from by omega, show (5 : Int32) = I 5 from rfl, term_e, bnd_so]
  have c : ∀ j, hp (wa v 89 p ((n : Int) + 3)) p j = if j = n + 2 then t else if j = n + 1 then mk 1 a else if j = n then 2 else hp w p j := fun j => by
    show hp v p j = _
    rw [← hv, hp_wj, hp_wj, hp_wj]
  have e5 : so (mk 5 (n : Int)) = 5 := so_mk (by omega) (by omega)
  have v5 : va (mk 5 (n : Int)) = n := va_mk (by omega) (by omega)
  have n5 : vn (mk 5 (n : Int)) = n := by unfold vn; rw [v5]; omega
  have va2 : va (2 : Int64) = 2 := by decide
  have c0 : hp (wa v 89 p ((n : Int) + 3)) p n = 2 := by rw [c, if_neg (by omega), if_neg (by omega), if_pos rfl]
  have c1 : hp (wa v 89 p ((n : Int) + 3)) p (n + 1) = mk 1 a := by rw [c, if_neg (by omega), if_pos rfl]
  have c2 : hp (wa v 89 p ((n : Int) + 3)) p (n + 2) = t := by rw [c, if_pos rfl]
  have bb : blk (hp (wa v 89 p ((n : Int) + 3)) p) (mk 5 (n : Int)) = 3 := by unfold blk; rw [e5, n5, c0]; simp; unfold vn; rw [va2]; decide
  have pp : prt (mk 5 (n : Int)) = 1 := by unfold prt; rw [e5]; rfl
  have na : ¬ isH (mk 1 a) := nh_mk (by omega)
  have fz : FR [] [] [89] [88] w (wa v 89 p ((n : Int) + 3)) := FR.wa fv (by decide)
  obtain ⟨ow2, kd2, r1, r2, r3, -⟩ := MEI_alloc (m := 3) (x := mk 5 (n : Int)) i fz (fun q => by
    rw [A_eq (by omega) (by omega)]
    by_cases e : q = p
    · rw [if_pos e, if_pos e]; omega
    · rw [if_neg e, if_neg e, ← hv]; rfl) h5 (fun j hj => by
    show v.2.2.2 88 j = _
    rw [← hv, J_wj, if_pos rfl, if_neg (by omega), J_wj, if_pos rfl, if_neg (by omega), J_wj, if_pos rfl, if_neg (by omega)]) (Or.inr (Or.inl e5)) (by omega) n5 bb (fun _ => by rw [c0]; exact HDC2) (fun e => by omega) (fun j h1 h2 => by
    rw [pp] at h1
    by_cases e : j = 1
    · rw [e, c1]; exact Or.inl ⟨na, hPB.1 a ha.1 ha.2⟩
    · have : j = 2 := by omega
      rw [this, c2]; exact g) (Or.inl ⟨e5, rfl, by rw [c1]; exact na⟩)
  exact ok_some.mpr ⟨fz, ow2, kd2, r1, r2, r3⟩
theorem pair_ok {a b : Int64} {f sa sb : Nat} (i : MEI Fv P PR w p n ow kd opM bnM bxM) (za : SZ (hp w p) n ow kd Fv P f a sa) (zb : SZ (hp w p) n ow kd Fv P f b sb) (h5 : n + 2 ≤ 500) (hs : 2 + sa + sb ≤ 500) :
    OK (fun w2 r => FR [] [] [89] [88] w w2 ∧ r = I n ∧ ∃ ow2 kd2 f2, MEI Fv P PR w2 p (n + 2) ow2 kd2 opM bnM bxM ∧ SZ (hp w2 p) (n + 2) ow2 kd2 Fv P f2 (mk 7 n) (2 + sa + sb) ∧ (∀ t, GT n ow kd P t → GT (n + 2) ow2 kd2 P t) ∧ (∀ f t s, SZ (hp w p) n ow kd Fv P f t s → SZ (hp w2 p) (n + 2) ow2 kd2 Fv P f t s)) (fm_M_pair N w a b) := by
  have x4 := MEI_p i
  have m3 := i.2.2.1
  have m5 := i.2.2.2.2.1
  have x3 := i.2.2.2.2.2.2.2.1
  unfold fm_M_pair fb_M_pair_0
  rw [I_F' m3, inb_at (k := 89) (n := 25) rfl (by omega) (by omega) (by decide), ck_t, lt_e, I_tn (x := (p : Int)) (by omega) (by omega), Int.toNat_natCast, I_A' m5, lit500, I_mul, I_add, inb_at (k := 88) (n := 12500) rfl (by omega) (by omega) (by decide), ck_t, lt_e, I_tn (by omega) (by omega), show ((p : Int) * 500 + (n : Int)).toNat = 500 * p + n from by omega, wj_e, show (wj w 88 (500 * p + n) a).1 133 = I p from I_F' m3, I_mul, I_add, lit1q, I_add, inb_at (k := 88) (n := 12500) rfl (by omega) (by omega) (by decide), ck_t, lt_e, I_tn (by omega) (by omega), show ((p : Int) * 500 + (n : Int) + 1).toNat = 500 * p + (n + 1) from by omega, wj_e]
  generalize hv : wj (wj w 88 (500 * p + n) a) 88 (500 * p + (n + 1)) b = v
  have fv : FR [] [] [89] [88] w v := by rw [← hv]; exact FR.wj (FR.wj FR.rf (by decide)) (by decide)
  have v133 : F v 133 = p := by rw [FR.F fv (by decide)]; exact m3
  have v89 : A v 89 p = n := by rw [← hv]; exact m5
  rw [I_F' v133, inb_at (k := 89) (n := 25) rfl (by omega) (by omega) (by decide), ck_t, ck_t, lt_e, I_tn (x := (p : Int)) (by omega) (by omega), Int.toNat_natCast, I_A' v89, show (2 : Int32) = I 2 from rfl, I_add, wa_e]
  have c : ∀ j, hp (wa v 89 p ((n : Int) + 2)) p j = if j = n + 1 then b else if j = n then a else hp w p j := fun j => by
    show hp v p j = _
    rw [← hv, hp_wj, hp_wj]
  have e5 : so (mk 7 (n : Int)) = 7 := so_mk (by omega) (by omega)
  have v5 : va (mk 7 (n : Int)) = n := va_mk (by omega) (by omega)
  have n5 : vn (mk 7 (n : Int)) = n := by unfold vn; rw [v5]; omega
  have c0 : hp (wa v 89 p ((n : Int) + 2)) p n = a := by rw [c, if_neg (by omega), if_pos rfl]
  have c1 : hp (wa v 89 p ((n : Int) + 2)) p (n + 1) = b := by rw [c, if_pos rfl]
  have bb : blk (hp (wa v 89 p ((n : Int) + 2)) p) (mk 7 (n : Int)) = 2 := by unfold blk; rw [e5]; rfl
  have pp : prt (mk 7 (n : Int)) = 0 := by unfold prt; rw [e5]; rfl
  have fz : FR [] [] [89] [88] w (wa v 89 p ((n : Int) + 2)) := FR.wa fv (by decide)
  have hx : isH (mk 7 (n : Int)) := Or.inr (Or.inr e5)
  have parts : ∀ (Q : Nat → Prop), Q 0 → Q 1 → ∀ j, prt (mk 7 (n : Int)) ≤ j → j < 2 → Q j := fun Q q0 q1 j h1 h2 => by
    by_cases e : j = 0
    · rw [e]; exact q0
    · have : j = 1 := by omega
      rw [this]; exact q1
  obtain ⟨ow2, kd2, r1, r2, r3, r4⟩ := MEI_alloc (m := 2) (x := mk 7 (n : Int)) i fz (fun q => by
    rw [A_eq (by omega) (by omega)]
    by_cases e : q = p
    · rw [if_pos e, if_pos e]; omega
    · rw [if_neg e, if_neg e, ← hv]; rfl) h5 (fun j hj => by
    show v.2.2.2 88 j = _
    rw [← hv, J_wj, if_pos rfl, if_neg (by omega), J_wj, if_pos rfl, if_neg (by omega)]) hx (by omega) n5 bb (fun e => by omega) (fun e => by omega) (parts _ (by rw [Nat.add_zero, c0]; exact SZ_gt za) (by rw [c1]; exact SZ_gt zb)) (Or.inr (fun f2 cc hc => by
    have q0 := hc 0 (by rw [pp]; omega) (by omega)
    have q1 := hc 1 (by rw [pp]; omega) (by omega)
    rw [Nat.add_zero, c0] at q0
    rw [c1] at q1
    rw [pp]
    show 2 + (0 + cc (0 + 0) + cc (0 + 1)) ≤ 500
    rw [show cc (0 + 0) = sa from SZ_fun q0 za, show cc (0 + 1) = sb from SZ_fun q1 zb]; omega))
  refine ok_some.mpr ⟨fz, rfl, ow2, kd2, f + 1, r1, ?_, r3, r4⟩
  have bk := (HP_bk r1.2.2.2.2.2.2.1 hx r2).1
  refine Or.inr ⟨hx, bk, fun j => if j = 0 then sa else sb, ?_, ?_⟩
  · rw [bb, n5]
    exact parts (fun j => SZ (hp (wa v 89 p ((n : Int) + 2)) p) (n + 2) ow2 kd2 Fv P f (hp (wa v 89 p ((n : Int) + 2)) p (n + j)) (if j = 0 then sa else sb)) (by show SZ _ _ _ _ _ _ _ (hp (wa v 89 p ((n : Int) + 2)) p n) sa; rw [c0]; exact r4 _ _ _ za) (by show SZ _ _ _ _ _ _ _ (hp (wa v 89 p ((n : Int) + 2)) p (n + 1)) sb; rw [c1]; exact r4 _ _ _ zb)
  · rw [bb, pp]
    show 2 + sa + sb = 2 + (0 + (if 0 + 0 = 0 then sa else sb) + (if 0 + 1 = 0 then sa else sb))
    simp; omega
end
