/-! expressions: BLOCK, both -/
set_option maxRecDepth 100000
section
variable {α β : Type} {m0 w0 m w m2 w2 m3 w3 v u w1 mS wS : MS} {K nm Nk W W2 : Nat → Nat} {N T D d o a a0 b b0 c cm cm0 cm2 cm3 q q0 r s lo lo0 mid hi i j f f2 n k kk p p2 σ tk x xa xb M m1 lv y : Nat} {Q Q0 Q2 Q3 Q4 : Nat → Nat} {sc sc0 sc2 sc3 t t2 : SCT} {e e2 : List Nat × List Nat × Nat} {g lst l2 : Bool} {L L1 L2 S : List Nat} {idc fof cvr : Int → Int → Int} {z : Unit} {rt v1 v2 v3 v4 v5 : Int32} {fc : MS → Unit → Option (MS × α)} {RR : MS → α → MS → β → Prop} {F : MS → Unit → Option (MS × β)}
/-- where the next of a row stands is not looked at -/
theorem XTR_29 (h : XTR m0 w0 K T nm Nk fof cvr lst g L lo hi a b cm cm2 q r Q Q2 sc sc2 m w m2 w2) (hv1 : v.1 = w2.1) (hv2 : ∀ k n, (k ≠ 29 ∨ n < Q 32) → v.2.2.1 k n = w2.2.2.1 k n) (hv3 : v.2.2.2 = w2.2.2.2) : XTR m0 w0 K T nm Nk fof cvr lst g L lo hi a b cm cm2 q r Q Q2 sc sc2 m w m2 v := by
  obtain ⟨a1, a2, a3, a4, a5, a7, a8, a9, a10, a11⟩ := h
  refine ⟨a1, a2, ⟨⟨PRS_x a3.1.1 (fun k _ => by rw [hv1]) (fun k hk => funext (fun n => hv2 k n (by omega))) (by rw [hv1]; exact a3.1.1.2.1.1), fun k hk => by rw [hv1]; exact a3.1.2 k hk⟩, a3.2⟩, a4, a5, a7, ⟨⟨fun k z1 z2 z3 => ?_, fun k n z1 z2 => ?_, fun k n z => ?_⟩, a8.2⟩, a9, a10, fun C P R J H fi hx => ?_⟩
  · rw [funext (fun n => hv2 k n (Or.inl (fun y => by rw [y] at z1; exact absurd z1 (by decide))))]
    exact a8.1.1 k z1 z2 z3
  · rw [hv2 k n ?_]
    · exact a8.1.2.1 k n z1 z2
    · by_cases y : k = 29
      · rw [y] at z2; exact Or.inr z2
      · exact Or.inl y
  · rw [hv3]; exact a8.1.2.2 k n z
  · refine a11 C P R J H ?_ hx
    refine FIN_sub fi ⟨Nat.le_refl _, Nat.le_refl _⟩ ⟨Nat.le_refl _, Nat.le_refl _⟩ QLE_rf QLE_rf (fun _ _ _ => rfl) (fun _ _ _ _ _ _ => rfl) ⟨fun k n z1 z2 z3 z4 z5 => hv2 k n (Or.inl z2), fun n _ _ => by rw [hv3]⟩ (fun n z1 z2 => ?_)
    have e30 : A v 30 n = A w2 30 n := congrArg Int32.toInt (hv2 30 n (Or.inl (by decide)))
    rw [e30]
theorem nd_w {R : MS → α → MS → β → Prop} {X : Option (MS × α)} {s' : Int32} (c : CTZ m0 w0 K T nm Nk) (hX : XRS w0 T w p Q sc) (hk : 5 ≤ k ∧ k ≤ 19) (hs : s' = I (svK k : Nat)) (h : K p = k → PP R X (F (adv w p) ())) : PP R X (bnd (km_M_needWord N w s') F) := fun m9 z9 w9 r9 x1 x2 => (pk_bnd (Q := fun w9 r9 => R m9 z9 w9 r9) (pk_ndW (PP' := fun v _ => PK (fun w9 r9 => R m9 z9 w9 r9) (F v ())) c hX hk hs (fun hk w9 r9 x2 => h hk m9 z9 w9 r9 x1 x2))) w9 r9 x2
/-- the end of a block, here: a node, what stands last -/
theorem end_30 {G : MS → Int32 → Option (MS × Int32)} {R : MS → Unit → MS → Int32 → Prop} {X : Option (MS × Unit)} {rn f2 : Nat} (c : CTZ m0 w0 K T nm Nk) (ht : XTR m0 w0 K T nm Nk fof cvr lst g L lo hi a b cm cm2 q r Q Q2 sc sc2 m w m2 w2) (hab : a < b) (hlh : lo < hi) (hrn : Q 32 ≤ rn ∧ rn < Q2 32) (hrt : RTd w2 (Q 32) f2 false (Q2 32) ((rn : Nat) : Int) L) (hL : ∀ n, n ∈ L → A w2 30 n = 0) (hh : ∀ v, XZ m0 w0 K T nm Nk fof cvr lst g lo hi a cm q r Q sc m w m2 () v (I (Q2 32 : Nat)) → PP R X (G v (I (Q2 32 : Nat)))) : PP R X (bnd (fm_M_node N w2 30 (w2.1 69)) (fun u17 r17 => bnd (fm_M_addRoot N u17 r17 (I (rn : Nat))) (fun u18 _ => G u18 r17))) := by
  have hC := ht.2.1
  have hR := ht.2.2.1.1
  have t4 := c.2.1.1.1
  have pT : hi ≤ T := hR.1.2.1.2
  obtain ⟨n1, n2⟩ := XRS_q hR
  rw [hR.1.2.1.1]
  refine r_nod n1 n2 rfl (nsh (by omega)) (fun h16 => ?_)
  have hN : NOD w2 (nwD w2 (Q2 32) 30 (I (hi : Nat))) (Q2 32) := NOD_0 n1
  obtain ⟨d1, d2, d3, d4, d5, d6, d7, d8⟩ := nwD_at (w := w2) (i := Q2 32) (k := 30) (t := I (hi : Nat))
  have d9 : (nwD w2 (Q2 32) 30 (I (hi : Nat))).1 69 = I (hi : Nat) := by rw [nwD_i (by decide)]; exact hR.1.2.1.1
  generalize nwD w2 (Q2 32) 30 (I (hi : Nat)) = U at hN d1 d2 d3 d4 d5 d6 d7 d8 d9
  unfold fm_M_addRoot fb_M_addRoot_0 fb_M_addRoot_24
  rw [decide_eq_false (fun z => by
    have := (I_eq (x := ((rn : Nat) : Int)) (y := -1) (by omega) (by omega) (by decide) (by decide)).mp (z.trans rfl)
    omega), br_f, i_nt2 (p := Q2 32) (by omega), i_nt2 (p := rn) (by omega), bnd_ck]
  refine r_ck (fun _ => ?_)
  rw [bnd_ck]
  refine r_ck (fun _ => ?_)
  rw [bnd_lt]
  refine r_lt ?_
  rw [bnd_ck]
  refine r_ck (fun _ => ?_)
  rw [bnd_lt]
  refine r_lt ?_
  rw [bnd_s, d6]
  have dN2 : NOD w2 (upA U 28 (upd (U.2.2.1 28) (Q2 32) (I (rn : Nat)))) (Q2 32) := NOD_A hN (by decide)
  have v23 : A (upA U 28 (upd (U.2.2.1 28) (Q2 32) (I (rn : Nat)))) 23 (Q2 32) = 30 := by
    show ((upA U 28 _).2.2.1 23 (Q2 32)).toInt = _
    rw [upA_no (by decide), d1]; rfl
  have h69 : (upA U 28 (upd (U.2.2.1 28) (Q2 32) (I (rn : Nat)))).1 69 = I (hi : Nat) := d9
  have hx := XTR_tr ht (XT_nod (L := []) (lst := lst) (fof := fof) (cvr := cvr) (K := K) (Nk := Nk) hC hR ht.2.2.1.2 ⟨Nat.le_refl hi, pT⟩ (fun j j1 j2 => by omega) (Nat.le_refl b) hC XFC_rf rfl dN2 rfl h16 h69 (fun n hn => by cases hn) (fun C P R J H fi hx => ⟨fun u u1 u2 => by omega, fun y hy hr => by
    have ro : ∀ k, 23 ≤ k ∧ k ≤ 31 → k ≠ 27 ∧ k ≠ 29 ∧ k ≠ 30 → R k (Q2 32) = A (upA U 28 (upd (U.2.2.1 28) (Q2 32) (I (rn : Nat)))) k (Q2 32) := fun k k1 k2 => FIN_R fi k1 k2 ⟨Nat.le_refl _, by rw [qst_at]; omega⟩
    have R23 := (ro 23 (by decide) (by decide)).trans v23
    obtain ⟨b1, b2⟩ := XB c.2.2.1 hC hR hx h16
    obtain ⟨d, hd⟩ := hr
    rw [qst_at] at hd
    exact cr_1 b1 b2 ⟨d, Or.inr (Or.inr (Or.inr (Or.inr (Or.inr (Or.inr (Or.inr (Or.inr (Or.inr (Or.inr (Or.inr (Or.inr (Or.inr (Or.inr (Or.inr (Or.inr (Or.inr (Or.inr (Or.inr (Or.inr (Or.inr (Or.inr (Or.inr (Or.inr (Or.inr (Or.inr (Or.inr (Or.inr (Or.inr (Or.inr (⟨R23, hd⟩))))))))))))))))))))))))))))))⟩⟩))
  rw [List.append_nil] at hx
  have w1 : ∀ k n, (k ≠ 29 ∨ n < Q 32) → (upA (upA U 29 (upd (U.2.2.1 29) rn (-1))) 28 (upd ((upA U 29 (upd (U.2.2.1 29) rn (-1))).2.2.1 28) (Q2 32) (I (rn : Nat)))).2.2.1 k n = (upA U 28 (upd (U.2.2.1 28) (Q2 32) (I (rn : Nat)))).2.2.1 k n := fun k n hk => by
    by_cases z : k = 28
    · subst z
      rw [upA_at, upA_at, upA_no (by decide)]
    · rw [upA_no z, upA_no z]
      by_cases y : k = 29
      · subst y
        rw [upA_at, upd_no (by have := hk.resolve_left (fun z => z rfl); omega)]
      · rw [upA_no y]
  have w28 : A (upA (upA U 29 (upd (U.2.2.1 29) rn (-1))) 28 (upd ((upA U 29 (upd (U.2.2.1 29) rn (-1))).2.2.1 28) (Q2 32) (I (rn : Nat)))) 28 (Q2 32) = ((rn : Nat) : Int) := by
    show ((upA _ 28 _).2.2.1 28 (Q2 32)).toInt = _
    rw [upA_at, upd_at]
    exact I_ti (by omega) (by omega)
  have w29 : A (upA (upA U 29 (upd (U.2.2.1 29) rn (-1))) 28 (upd ((upA U 29 (upd (U.2.2.1 29) rn (-1))).2.2.1 28) (Q2 32) (I (rn : Nat)))) 29 rn = -1 := by
    show ((upA (upA U 29 _) 28 _).2.2.1 29 rn).toInt = _
    rw [upA_no (by decide), upA_at, upd_at]; rfl
  have w29b : ∀ n, n ≠ rn → n ≠ Q2 32 → (upA (upA U 29 (upd (U.2.2.1 29) rn (-1))) 28 (upd ((upA U 29 (upd (U.2.2.1 29) rn (-1))).2.2.1 28) (Q2 32) (I (rn : Nat)))).2.2.1 29 n = w2.2.2.1 29 n := fun n h1 h2 => by
    rw [upA_no (by decide), upA_at, upd_no h1, hN.2.2.1 29 n (Or.inr (Or.inr h2))]
  have hx2 := XTR_29 (v := upA (upA U 29 (upd (U.2.2.1 29) rn (-1))) 28 (upd ((upA U 29 (upd (U.2.2.1 29) rn (-1))).2.2.1 28) (Q2 32) (I (rn : Nat)))) hx rfl w1 rfl
  generalize upA (upA U 29 (upd (U.2.2.1 29) rn (-1))) 28 (upd ((upA U 29 (upd (U.2.2.1 29) rn (-1))).2.2.1 28) (Q2 32) (I (rn : Nat))) = V at w1 w28 w29 w29b hx2
  have wr : ∀ k n, k ≠ 29 → n < Q2 32 → A V k n = A w2 k n := fun k n h1 h2 => by
    show (V.2.2.1 k n).toInt = _
    rw [w1 k n (Or.inl h1), dN2.2.2.1 k n (Or.inr (Or.inr (by omega)))]; rfl
  have V23 : A V 23 (Q2 32) = 30 := by
    show (V.2.2.1 23 (Q2 32)).toInt = _
    rw [w1 23 _ (Or.inl (by decide))]; exact v23
  refine hh V ⟨b, cm2, qst Q2 32 (Q2 32 + 1), sc2, Q2 32, f2 + 2, L, rfl, ⟨by omega, by rw [qst_at]; omega⟩, hx2, ⟨hab, hlh⟩, ?_, fun n hn => ?_⟩
  · refine ⟨Q2 32, rfl, ⟨by omega, by rw [qst_at]; omega⟩, L, ?_, by rw [V23, if_neg (by decide)]⟩
    refine Or.inr ⟨rn, L, [], w28, by rw [w28]; exact (RT_fr (w := w2) (v := V) f2).2 _ rn L (fun n _ h2 => ⟨wr 23 n (by decide) (by omega), wr 28 n (by decide) (by omega)⟩) (fun n _ h2 => congrArg Int32.toInt (w29b n (by omega) (by omega))) hrt, ?_, by rw [List.append_nil]⟩
    rw [w29]
    cases f2 with
    | zero => exact hrt.elim
    | succ f2 => exact Or.inl ⟨rfl, rfl⟩
  · have := ht.2.2.2.2.2.2.2.2.1 n hn
    rw [wr 30 n (by decide) this.2]; exact hL n hn
/-- BLOCK -/
theorem x_blk (c : CTZ m0 w0 K T nm Nk) (IE : HXE N m0 w0 K T nm Nk fof cvr f) (hC : XCS m0 nm m a cm sc g) (hR : XRS w0 T w lo Q sc) (hq : Q 56 = q) (hn : n ≤ 8015) (h16 : A m0 16 n = 8) (h17 : A m0 17 n = ((lo : Nat) : Int)) (h18 : A m0 18 n = ((x : Nat) : Int)) (hE : RWcK m0 1 26 (XPcK m0 f o 3) k x (lo + 1) (hi - 1) xa xb q r) (hxb : xb ≤ 8015) (h6 : A m0 6 lo = 7) (h6b : A m0 6 (hi - 1) = 11) (hr4 : r ≤ 400) (hiT : hi ≤ T) (htot : tot sc + (hi - lo) ≤ 4000 ∧ sc.length ≤ o + 1) : PP (XZ m0 w0 K T nm Nk fof cvr lst g lo hi a cm q r Q sc m w) (jm_Cm_expression N (jrc_Cm_fun N D) m (I (n : Nat)) (lsI lst)) (km_M_alone N (krc_M_behind N d) w (I (lo : Nat))) := by
  have t4 := c.2.1.1.1
  have fr := XCS_fr hC
  have hb : BdE (XPcK m0 f o 3) := XP_bdK f o 3
  have hd := (RW_hdK hb hE).1
  unfold HDc at hd
  have k7 : K lo = 7 := kA c (by omega : lo ≤ T) h6
  have k11 : K (hi - 1) = 11 := kA c (by omega : hi - 1 ≤ T) h6b
  obtain ⟨e, t, rfl⟩ := PRS_ne hR.1
  refine exd_8 hn (tre fr (by decide) h16) (l_id ?_)
  cases D with
  | zero => exact pp_nl
  | succ D =>
  show PP _ (jm_Cm_compound N (jrc_Cm_fun N D) m (I (n : Nat)) (lsI lst)) _
  refine cmd_8 hn (tre fr (by decide) h16) hC.2 (tre fr (by decide) h17) (by omega) (fun hg => l_ck (fun _ => ?_))
  rw [tre fr (by decide) h18, hC.1.2.1.2.2.1]
  refine al_wrd c hR (Or.inl k7) (fun u xx hX hu => ?_)
  rw [decide_eq_false (by omega), br_f]
  cases d with
  | zero => exact pp_nr
  | succ d =>
  have hi0 : XTR m0 w0 K T nm Nk fof cvr lst g [] lo lo a a cm cm q q Q Q (e :: t) (e :: t) m w m u := XTR_mv (XTR_rf hC hR hq) hX hu (Nat.le_refl _) (fun j a b => by omega)
  have rn := hX.1.2.2.2.1
  have tl : t.length + 1 ≤ 27 := rn.2.1.2
  have h60 : u.2.2.1 60 t.length = I (e.1.length : Nat) := rn.2.2.1.1.1
  have h65 : u.1 65 = I (t.length : Nat) := rn.1
  have hw := XRS_wp c hX
  have h7 : u.2.2.1 7 lo = I ((2 : Nat) : Int) := by
    have := hw.1.2.2 lo (by omega) (by omega)
    rw [k7] at this
    exact this
  show PP _ _ (bnd (kb_M_block_0 N (krc_M_behind N d) () u (I (lo : Nat))) _)
  unfold kb_M_block_0
  rw [h65, hX.1.2.1.1, i_nt2 (p := t.length) (by omega), i_nt2 (p := lo) (by omega), h60, h7, bnd_ck]
  refine r_ck (fun _ => ?_)
  rw [bnd_lt]
  refine r_lt ?_
  rw [bnd_ck]
  refine r_ck (fun _ => ?_)
  rw [bnd_lt]
  refine r_lt ?_
  rw [show decide (I ((2 : Nat) : Int) = (2 : Int32)) = true from rfl, br_t]
  unfold kb_M_block_49
  have e69 : u.1 69 + 1 = I ((lo + 1 : Nat) : Int) := by rw [hX.1.2.1.1, i_suc]
  rw [e69, show upI u 69 (I ((lo + 1 : Nat) : Int)) = adv u lo from rfl, bnd_lt, lt_e, show decide (I ((2 : Nat) : Int) = (2 : Int32)) = true from rfl, br_t, bnd_as2]
  have ht := XTR_ad hi0 (by omega) (by omega)
  refine pp_bb (pp_mo (x_body (o := o) (k := k) (lst := lst) c IE hE hxb hr4 ⟨by rw [k11]; exact ⟨rfl, by decide, by decide, by decide⟩, by rw [k11]; decide, by omega⟩ hC ht.2.2.1.1 hq (by omega)) (fun m2 z w2 rt hz => ?_))
  obtain ⟨Q2', sc2', hX2⟩ := XZ_pr hz
  rw [bnd_as2]
  refine nd_w c hX2 (k := 11) (s' := 6) (by decide) rfl (fun _ => ?_)
  have hz2 := XZ_out (v := adv w2 (hi - 1)) (hi := hi) (XZ_in ht hz) (fun Q2 sc2 h => by
    have := XRS_ad h (show hi - 1 < T by omega)
    rw [show hi - 1 + 1 = hi by omega] at this
    exact this) rfl (by omega) (fun j j1 j2 => by rw [show j = hi - 1 by omega]; omega)
  obtain ⟨b, cm2, Q2, sc2, rn2, f2, L, rfl, z2, z3, z4, z5, z6⟩ := hz2
  rw [bnd_as2]
  refine fg_pp c z3 (fun m3 w3 b' Q3 sc3 ht3 hsc3 hQ3 hq3 hbb hrw => ?_)
  unfold jb_Cm_compound_455
  have qle : Q2 32 ≤ Q3 32 := by rcases hQ3 with rfl | rfl <;> (try rw [qst_at]) <;> omega
  have rw3 : ∀ k n, grp k = 32 → n < Q2 32 → A w3 k n = A (adv w2 (hi - 1)) k n := fun k n h1 h2 => congrArg Int32.toInt (hq3.2.1 k n (by rw [h1]; decide) (by rw [h1]; exact h2))
  rw [bnd_as2]
  have hrt3 : RTd w3 (Q 32) f2 false (Q3 32) ((rn2 : Nat) : Int) L := RT_w (Nat.le_refl _) f2 false _ _ _ _ qle ((RT_fr (w := adv w2 (hi - 1)) (v := w3) f2).2 _ rn2 L (fun n _ h2 => ⟨rw3 23 n rfl (by omega), rw3 28 n rfl (by omega)⟩) (fun n _ h2 => rw3 29 n rfl (by omega)) z5)
  have := end_30 (N := N) (R := XZ m0 w0 K T nm Nk fof cvr lst g lo hi a cm q r Q (e :: t) m w) (X := some (m3, ())) (G := fun u18 r17 => some (upI u18 73 xx, r17)) c ht3 (by omega) (by omega) ⟨z2.1, by omega⟩ hrt3 (fun n hn => by
    have := z3.2.2.2.2.2.2.2.2.1 n hn
    rw [rw3 30 n rfl this.2]; exact z6 n hn) (fun v hzv => pp_end (XZ_out hzv (fun Q2 sc2 h => XRS_I h (by decide) (by decide)) rfl (Nat.le_refl _) (fun j a b => by omega)))
  simp only [bnd_as2]
  exact this
end
