/-! FUNCTIONS, both: a CLAUSE among others, here and there -/
set_option maxRecDepth 100000
/-- the reader behind a CLAUSE -/
def k36r (N : Nat) (G : (MS → Int32 → Int32 → Int32 → Option (MS × Unit)) × (MS → Int32 → Int32 → Int32 → Option (MS × Unit))) (t v1 v2 : Int32) (u12 : MS) (r12 : Int32) : Option (MS × Unit) := br (decide (v2 = (-1))) (ck (inb t (ln 7)) (ck (inb v1 (ln 47)) (lt (upA u12 47 (upd (u12.2.2.1 47) v1.toNatClampNeg (u12.2.2.1 7 t.toNatClampNeg))) (fun w14 => ck (inb r12 (ln 41)) (ck (inb v1 (ln 48)) (lt (upA w14 48 (upd (w14.2.2.1 48) v1.toNatClampNeg (w14.2.2.1 41 r12.toNatClampNeg))) (fun w15 => ck (inb v1 (ln 50)) (lt (upA w15 50 (upd (w15.2.2.1 50) v1.toNatClampNeg r12)) (fun w16 => kb_M_function0_205 N G w16 v1 r12))))))))) (ck (inb v2 (ln 45)) (lt (upA u12 45 (upd (u12.2.2.1 45) v2.toNatClampNeg r12)) (fun w13 => ck (inb t (ln 7)) (ck (inb v1 (ln 47)) (br (decide ((w13.2.2.1 7 t.toNatClampNeg) = (w13.2.2.1 47 v1.toNatClampNeg))) (ck (inb r12 (ln 41)) (ck (inb v1 (ln 48)) (br (decide ((w13.2.2.1 41 r12.toNatClampNeg) = (w13.2.2.1 48 v1.toNatClampNeg))) (kb_M_function0_205 N G w13 v1 r12) (kb_M_function0_198 N G w13 v1 t r12)))) (kb_M_function0_198 N G w13 v1 t r12))))))
/-- ahead of a CLAUSE: names anew -/
def RSTd (w v : MS) (p : Nat) : Prop := (∀ k, k ≠ 69 → k ≠ 65 → v.1 k = w.1 k) ∧ (∀ k, k ≠ 60 → k ≠ 63 → k ≠ 64 → v.2.2.1 k = w.2.2.1 k) ∧ (v.1 69 = I ((p + 1 : Nat) : Int) ∧ v.1 65 = 0 ∧ v.2.2.1 60 0 = 0 ∧ v.2.2.1 63 0 = 0 ∧ v.2.2.1 64 0 = 0) ∧ v.2.2.2 = w.2.2.2
/-- the reader, whatever its names are -/
def XRn (w0 : MS) (T : Nat) (w : MS) (p : Nat) (Q : Nat → Nat) : Prop := Ktc w0 w ∧ (w.1 69 = I (p : Nat) ∧ p ≤ T) ∧ w.1 67 = 0 ∧ (w.1 39 = I (Q 39 : Nat) ∧ Q 39 ≤ 5000) ∧ QMK w Q
section
variable {α β : Type} {m0 w0 m w m2 w2 v u : MS} {K nm Nk W : Nat → Nat} {N T f p lo q k n kl i : Nat} {Q : Nat → Nat} {sc : SCT} {x v1 v2 v4 v5 t r12 : Int32} {RU : MS → α → MS → Unit → Prop} {A' : Option (MS × α)} {G : (MS → Int32 → Int32 → Int32 → Option (MS × Unit)) × (MS → Int32 → Int32 → Int32 → Option (MS × Unit))}
theorem cl_lv {m0 : MS} {n lo hi a b q r : Nat} (h : CLScK m0 n lo hi a b q r) : ∃ k ph, (k ≤ 6 ∧ A m0 6 (lo + 1) = 20 ∧ A m0 6 ph = 21) ∧ PRTcK m0 (PAcK m0 103) (XPcK m0 103 2 3) (XPcK m0 103 1 3) k n (lo + 2) ph (ph + 1) hi a b q r := by
  obtain ⟨h1, h2, h3, h4, k, ph, h5, h6⟩ := h
  have kn : KNc m0 m0 a b n := ⟨⟨rfl, rfl⟩, fun _ _ _ => ⟨⟨rfl, rfl, rfl, rfl, rfl⟩, fun _ => rfl⟩⟩
  exact ⟨k, ph, h5, PRT_kK (PA_kK (by decide)) (XP_kK (by decide) (Nat.le_refl _)) (XP_kK (by decide) (Nat.le_refl _)) (PA_bdK _) (XP_bdK _ _ _) (XP_bdK _ _ _) h6 kn⟩
theorem XRn_of (h : XRS w0 T w p Q sc) : XRn w0 T w p Q := ⟨h.1.1, h.1.2.1, h.1.2.2.1, h.1.2.2.2.2.2, h.2⟩
theorem XRn_wp (c : CTZ m0 w0 K T nm Nk) (h : XRn w0 T w p Q) : WP w K T p := ⟨⟨c.2.1.1, by rw [h.1.2 6 (by decide)]; exact c.2.1.2.1, by rw [h.1.2 7 (by decide)]; exact c.2.1.2.2⟩, h.2.1⟩
theorem XRn_y (h : XRn w0 T w p Q) (hi : ∀ k, k ≠ 71 → k ≠ 72 → v.1 k = w.1 k) (hr : ∀ k, k < 23 → v.2.2.1 k = w.2.2.1 k) : XRn w0 T v p Q := by
  obtain ⟨h1, h2, h3, h4, h5⟩ := h
  refine ⟨⟨fun k hk => ?_, fun k hk => ?_⟩, ⟨by rw [hi 69 (by decide) (by decide)]; exact h2.1, h2.2⟩, by rw [hi 67 (by decide) (by decide)]; exact h3, ⟨by rw [hi 39 (by decide) (by decide)]; exact h4.1, h4.2⟩, fun k hk => ?_⟩
  · rw [hi k (by rintro rfl; revert hk; decide) (by rintro rfl; revert hk; decide)]; exact h1.1 k hk
  · have : k < 23 := by unfold TRW at hk; simp only [List.mem_cons, List.not_mem_nil, or_false] at hk; omega
    rw [hr k this]; exact h1.2 k hk
  · rw [hi k (by rintro rfl; revert hk; decide) (by rintro rfl; revert hk; decide)]; exact h5 k hk
theorem XRn_rul (h : RULd w v) (hR : XRn w0 T w p Q) : XRn w0 T v p Q := XRn_y hR h.1 (fun k _ => by rw [h.2])
theorem XRn_ad (h : XRn w0 T w p Q) (hp : p < T) : XRn w0 T (adv w p) (p + 1) Q := by
  obtain ⟨h1, h2, h3, h4, h5⟩ := h
  have e : ∀ k, k ≠ 69 → (adv w p).1 k = w.1 k := fun k hk => upI_ne hk
  exact ⟨⟨fun k hk => by rw [e k (by rintro rfl; revert hk; decide)]; exact h1.1 k hk, h1.2⟩, ⟨upI_at, hp⟩, by rw [e 67 (by decide)]; exact h3, ⟨by rw [e 39 (by decide)]; exact h4.1, h4.2⟩, fun k hk => by rw [e k (by rintro rfl; revert hk; decide)]; exact h5 k hk⟩
theorem RST_x (h : RSTd w v p) (hR : XRn w0 T w p Q) (hp : p + 1 ≤ T) : XRS w0 T v (p + 1) Q [([], [], 0)] := by
  obtain ⟨h1, h2, ⟨h3, h4, h5, h6, h7⟩, h8⟩ := h
  obtain ⟨g1, g2, g3, g6, g7⟩ := hR
  refine ⟨⟨⟨fun k hk => ?_, fun k hk => ?_⟩, ⟨h3, hp⟩, by rw [h1 67 (by decide) (by decide)]; exact g3, ⟨h4, ⟨by decide, by decide⟩, ⟨⟨h5, fun k x hk => (by cases hk), h6, fun k x hk => (by cases hk), h7⟩, trivial⟩, ⟨⟨List.nodup_nil, fun x hx => (by cases hx), by decide, by decide, by decide, fun x hx => (by cases hx), List.nodup_nil⟩, trivial⟩⟩, ⟨fun k x hk => (by cases hk), trivial⟩, by rw [h1 39 (by decide) (by decide)]; exact g6.1, g6.2⟩, fun k hk => ?_⟩
  · rw [h1 k (by rintro rfl; revert hk; decide) (by rintro rfl; revert hk; decide)]; exact g1.1 k hk
  · have : k < 33 := by unfold TRW at hk; simp only [List.mem_cons, List.not_mem_nil, or_false] at hk; omega
    rw [h2 k (by omega) (by omega) (by omega)]; exact g1.2 k hk
  · rw [h1 k (by rintro rfl; revert hk; decide) (by rintro rfl; revert hk; decide)]; exact g7 k hk
theorem RUL_tr (h : RULd w v) (k : RULd v u) : RULd w u := ⟨fun j h1 h2 => (k.1 j h1 h2).trans (h.1 j h1 h2), k.2.trans h.2⟩
/-- a CLAUSE begins, here -/
theorem r_36 (c : CTZ m0 w0 K T nm Nk) (hR : XRn w0 T w lo Q) (k2 : K lo = 2) (h : ∀ v, lo < T → RSTd w v lo → PP RU A' (bnd (kr_M_clause N v (I (lo : Nat))) (fun u12 r12 => k36r N G (I (lo : Nat)) v1 v2 u12 r12))) : PP RU A' (kb_M_function0_36 N G w v1 v2 1) := by
  have hw := XRn_wp c hR
  have hl : lo < T := c.2.1.1.lt hR.2.1.2 (by omega) (by omega)
  have s1 : decide (w.2.2.1 6 lo = 1) = decide (K lo = 2) := srt_dc hw srK_1
  have t4 := c.2.1.1.1
  unfold kb_M_function0_36
  rw [show decide ((1 : Int32) = 0) = false from rfl, br_f, decide_eq_true hR.2.2.1, br_t, hR.2.1.1, i_nt2 (p := lo) (by omega), s1, decide_eq_true k2, br_t, i_suc]
  refine r_ck (fun _ => r_lt (r_lt (r_ck (fun _ => r_lt (r_ck (fun _ => r_lt (r_ck (fun _ => r_lt ?_))))))))
  have := h (upA (upA (upA (upI (upI w 69 (I ((lo + 1 : Nat) : Int))) 65 0) 60 (upd ((upI (upI w 69 (I ((lo + 1 : Nat) : Int))) 65 0).2.2.1 60) (0 : Int32).toNatClampNeg 0)) 63 (upd ((upA (upI (upI w 69 (I ((lo + 1 : Nat) : Int))) 65 0) 60 (upd ((upI (upI w 69 (I ((lo + 1 : Nat) : Int))) 65 0).2.2.1 60) (0 : Int32).toNatClampNeg 0)).2.2.1 63) (0 : Int32).toNatClampNeg 0)) 64 (upd ((upA (upA (upI (upI w 69 (I ((lo + 1 : Nat) : Int))) 65 0) 60 (upd ((upI (upI w 69 (I ((lo + 1 : Nat) : Int))) 65 0).2.2.1 60) (0 : Int32).toNatClampNeg 0)) 63 (upd ((upA (upI (upI w 69 (I ((lo + 1 : Nat) : Int))) 65 0) 60 (upd ((upI (upI w 69 (I ((lo + 1 : Nat) : Int))) 65 0).2.2.1 60) (0 : Int32).toNatClampNeg 0)).2.2.1 63) (0 : Int32).toNatClampNeg 0)).2.2.1 64) (0 : Int32).toNatClampNeg 0)) hl ⟨fun k h1 h2 => ?_, fun k h1 h2 h3 => ?_, ⟨?_, ?_, ?_, ?_, ?_⟩, rfl⟩
  · unfold k36r at this
    rw [i_nt2 (p := lo) (by omega)] at this
    exact this
  · show (upI (upI w 69 _) 65 0).1 k = _
    rw [upI_ne h2, upI_ne h1]
  · rw [upA_no h3, upA_no h2, upA_no h1]; rfl
  · show (upI (upI w 69 (I ((lo + 1 : Nat) : Int))) 65 0).1 69 = _
    rw [upI_ne (by decide), upI_at]
  · show (upI (upI w 69 (I ((lo + 1 : Nat) : Int))) 65 0).1 65 = _
    exact upI_at
  · rw [upA_no (by decide), upA_no (by decide), upA_at]; exact upd_at
  · rw [upA_no (by decide), upA_at]; exact upd_at
  · rw [upA_at]; exact upd_at
/-- behind a CLAUSE: ; or not -/
theorem r_205 (hw : ∀ u, u.1 = w.1 → u.2.2.1 6 = w.2.2.1 6 → u.2.2.1 7 = w.2.2.1 7 → WP u K T p) (h67 : w.1 67 = 0) (h1 : ∀ u, u.1 = w.1 → (∀ k, k ≠ 51 → u.2.2.1 k = w.2.2.1 k) → u.2.2.2 = w.2.2.2 → PP RU A' (if K p = 27 then G.1 (adv u p) v1 v5 1 else G.1 u v1 v5 0)) : PP RU A' (kb_M_function0_205 N G w v1 v5) := by
  unfold kb_M_function0_205
  refine r_ck (fun _ => r_ck (fun _ => r_lt ?_))
  have h2 := h1 (upA w 51 (upd (w.2.2.1 51) v1.toNatClampNeg ((w.2.2.1 51 v1.toNatClampNeg) + 1))) rfl (fun k hk => upA_no hk) rfl
  have hV := hw (upA w 51 (upd (w.2.2.1 51) v1.toNatClampNeg ((w.2.2.1 51 v1.toNatClampNeg) + 1))) rfl (upA_no (by decide)) (upA_no (by decide))
  have h7 : (upA w 51 (upd (w.2.2.1 51) v1.toNatClampNeg ((w.2.2.1 51 v1.toNatClampNeg) + 1))).1 67 = 0 := h67
  generalize upA w 51 (upd (w.2.2.1 51) v1.toNatClampNeg ((w.2.2.1 51 v1.toNatClampNeg) + 1)) = V at h2 hV h7
  rw [tkS_e (k := 27) (s := 7) hV h7 (by decide) rfl]
  by_cases z : K p = 27
  · rw [if_pos z] at h2 ⊢
    exact h2
  · rw [if_neg z] at h2 ⊢
    exact h2
/-- what is PREDEFINED is looked up, here -/
theorem pdo_id : PK (fun v (_ : Int32) => v = u) (fm_M_predefinedOf N u v1 v2) := by
  have lp : ∀ M : Nat, (∀ a b c d : Int32, PK (fun v (_ : Int32) => v = u) ((gg_M_predefinedOf N M).1 u a b c d)) ∧ (∀ a b c d e f g : Int32, PK (fun v (_ : Int32) => v = u) ((gg_M_predefinedOf N M).2 u a b c d e f g)) := fun M => by
    induction M with
    | zero => exact ⟨fun _ _ _ _ => pk_none, fun _ _ _ _ _ _ _ => pk_none⟩
    | succ M ih =>
      refine ⟨fun a b c d => ?_, fun a b c d e f g => ?_⟩
      · show PK _ (fb_M_predefinedOf_5 N (gg_M_predefinedOf N M) u a b c d)
        unfold fb_M_predefinedOf_5 fb_M_predefinedOf_58 fb_M_predefinedOf_59
        exact pk_br (fun _ => pk_some rfl) (fun _ => pk_ck (fun _ => pk_lt (pk_ck (fun _ => pk_br (fun _ => pk_ck (fun _ => pk_ck (fun _ => pk_br (fun _ => ih.2 _ _ _ _ _ _ _) (fun _ => ih.2 _ _ _ _ _ _ _)))) (fun _ => ih.2 _ _ _ _ _ _ _)))))
      · show PK _ (fb_M_predefinedOf_64 N (gg_M_predefinedOf N M) u a b c d e f g)
        unfold fb_M_predefinedOf_64 fb_M_predefinedOf_117 fb_M_predefinedOf_109
        have e1 : ∀ z x y k l : Int32, PK (fun v (_ : Int32) => v = u) (br (decide (z = 0)) ((gg_M_predefinedOf N M).1 u x y k l) (some (u, d))) := fun z x y k l => pk_br (fun _ => ih.1 _ _ _ _) (fun _ => pk_some rfl)
        exact pk_br (fun _ => e1 _ _ _ _ _) (fun _ => pk_br (fun _ => e1 _ _ _ _ _) (fun _ => pk_ck (fun _ => pk_ck (fun _ => pk_ck (fun _ => pk_br (fun _ => ih.2 _ _ _ _ _ _ _) (fun _ => ih.2 _ _ _ _ _ _ _))))))
  exact (lp N).1 _ _ _ _
/-- the last look at a FUNCTION, here -/
theorem r_264 : ∀ (M : Nat) (u : MS) (v4 v5 : Int32), (∀ v, RULd u v → PP RU A' (some (v, ()))) → PP RU A' ((kg_M_function0 N M).2 u v1 v4 v5)
  | 0, _, _, _, _ => pp_nr
  | M + 1, u, v4, v5, h => by
    show PP RU A' (kb_M_function0_264 N (kg_M_function0 N M) u v1 v4 v5)
    unfold kb_M_function0_264 kb_M_function0_341 kb_M_function0_308 kb_M_function0_309
    have e0 := h u RUL_rf
    refine r_br (fun _ => r_br (fun _ => e0) (fun _ => r_br (fun _ => r_ck (fun _ => r_rul (fun v hv => h v hv))) (fun _ => e0))) (fun _ => r_ck (fun _ => r_ck (fun _ => r_br (fun _ => r_ck (fun _ => r_ck (fun _ => r_br (fun _ => r_264 M u _ _ h) (fun _ => r_264 M u _ _ h)))) (fun _ => r_264 M u _ _ h))))
/-- the end of a FUNCTION, here -/
theorem r_228 (c : CTZ m0 w0 K T nm Nk) (hR : XRn w0 T w p Q) (h : K p = 28 → ∀ v, RULd (adv w p) v → PP RU A' (some (v, ()))) {M : Nat} : PP RU A' ((kg_M_function0 N M).1 w v1 v2 0) := by
  cases M with
  | zero => exact pp_nr
  | succ M =>
  show PP RU A' (kb_M_function0_36 N (kg_M_function0 N M) w v1 v2 0)
  unfold kb_M_function0_36 kb_M_function0_228 kb_M_function0_259
  rw [show decide ((0 : Int32) = 0) = true from rfl, br_t]
  refine need_k (XRn_wp c hR) hR.2.2.1 (k := 28) (by decide) rfl (fun k28 => r_ck (fun _ => r_ck (fun _ => r_bnd (pk_mo pdo_id (fun v _ hv => ?_)))))
  subst hv
  exact r_br (fun _ => r_264 M _ _ _ (h k28)) (fun _ => r_264 M _ _ _ (h k28))
end
