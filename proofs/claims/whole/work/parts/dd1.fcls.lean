/-! FUNCTIONS, both: one CLAUSE more -/
set_option maxRecDepth 100000
section
variable {α β : Type} {m0 w0 m w m2 w2 m3 w3 w6 v u mS wS : MS} {K nm Nk W : Nat → Nat} {N T f p lo hi q r k n k0 k1 kl i a a0 b cm cm2 q0 xa xb M M2 : Nat} {Q Q0 Q2 : Nat → Nat} {sc sc2 : SCT} {idc fof cvr : Int → Int → Int} {last : Option Nat} {RU : MS → Unit → MS → Unit → Prop}
set_option maxHeartbeats 1000000 in
theorem fn_cls (c : CTZ m0 w0 K T nm Nk) (cv : CTV m0 w0 K T) (cx : CVX N m0 w0 K T idc fof cvr) (hE : CLScK m0 n lo hi xa xb q r) (hxb : xb ≤ 8015) (hr4 : r ≤ 400) (hcl : (K hi = 27 ∨ K hi = 28) ∧ hi ≤ T) (hI : FNI m0 w0 T nm fof cvr f a0 q0 Q0 mS wS last m w lo a cm q Q sc) (hf : f ≤ 666)
    (h : ∀ m2 w2 b cm2 Q2 sc2, FNI m0 w0 T nm fof cvr f a0 q0 Q0 mS wS (some (Q 46)) m2 w2 hi b cm2 r Q2 sc2 → PP RU (jg_Cm_oneFunction N M m2 (I (f : Nat)) (m2.2.2.1 21 n)) (if K hi = 27 then (kg_M_function0 N M2).1 (adv w2 hi) (I (f : Nat)) (optI (some (Q 46))) 1 else (kg_M_function0 N M2).1 w2 (I (f : Nat)) (optI (some (Q 46))) 0)) : PP RU (jg_Cm_oneFunction N (M + 1) m (I (f : Nat)) (I (n : Nat))) ((kg_M_function0 N (M2 + 1)).1 w (I (f : Nat)) (optI last) 1) := by
  have t4 := c.2.1.1.1
  have hd := hE.1
  unfold HDc at hd
  have h17 := hE.2.2.1
  have k2 : K lo = 2 := kA c (by omega) hE.2.2.2.1
  have hlh := hE.2.1
  obtain ⟨kk, ph, ⟨hkk, h20, h21⟩, hP⟩ := cl_lv hE
  have hPa := hP
  obtain ⟨-, -, -, p0, xc, gx, mid, xd, s, kb, mb, xe, ⟨h18, hpa⟩, ⟨-, hg⟩, ⟨-, hB⟩, ⟨hxe, -⟩⟩ := hPa
  have hB1 := (RW_hdK (XP_bdK _ _ _) hB).1
  unfold HDc at hB1
  have hpb := OR_hdK (PA_bdK _) hpa
  have hn : n ≤ 8015 := by omega
  have hph : (mid ≤ hi ∧ ph + 1 ≤ mid) ∧ xc ≤ 8015 := by
    have h1 := hP.1
    rcases hg with ⟨-, y2, y3, -⟩ | ⟨-, kg, y3⟩
    · omega
    · have := (RW_hdK (XP_bdK _ _ _) y3).1
      unfold HDc at this
      omega
  clear hg
  obtain ⟨hC, ⟨hR, hq56⟩, ⟨ha0, hq0, hQ0⟩, hx, hold, htab, hlast⟩ := hI
  have fr := XCS_fr hC
  -- there, as far as the CLAUSE
  show PP RU (jb_Cm_oneFunction_129 N (jg_Cm_oneFunction N M) m (I (f : Nat)) (I (n : Nat))) (kb_M_function0_36 N (kg_M_function0 N M2) w (I (f : Nat)) (optI last) 1)
  unfold jb_Cm_oneFunction_129
  rw [decide_eq_false (fun z => by
    have := (I_eq (x := ((n : Nat) : Int)) (y := 0) (by omega) (by omega) (by decide) (by decide)).mp z
    omega), br_f, i_nt2 (p := n) (by omega), tre fr (by decide) h18, tre fr (by decide) h17]
  refine l_ck (fun _ => l_ck (fun _ => ?_))
  refine l_bnd (pk_mo (len_j (N := N) fr (b := xc) hph.2 hpa) (fun v x hv => ?_))
  obtain ⟨rfl, rfl⟩ := hv
  rw [i_nt2 (p := lo) (by omega), i_nt2 (p := f) (by omega)]
  have e198 : ∀ B, PP RU (jb_Cm_oneFunction_198 N (jg_Cm_oneFunction N M) v (I (f : Nat)) (I (n : Nat)) (I (lo : Nat)) (I (kk : Nat))) B := fun B => by
    unfold jb_Cm_oneFunction_198
    exact l_flt (tk := lo) (k := 4) rfl rfl (by omega) (by decide)
  refine l_ck (fun _ => l_ck (fun _ => l_br (fun _ => l_ck (fun _ => l_br (fun z25 => ?_) (fun _ => e198 _))) (fun _ => e198 _)))
  have z25 := of_decide_eq_true z25
  unfold jb_Cm_oneFunction_205
  refine l_ck (fun _ => ?_)
  rw [i_nt2 (p := lo) (by omega), i_nt2 (p := n) (by omega)]
  have el := pk_ln cv fr (show lo < T by omega)
  generalize v.2.2.1 8 lo = line at el
  -- here
  refine r_36 c hR k2 (fun u hlT hu => ?_)
  have hX := RST_x hu hR (by omega)
  have k20 : K (lo + 1) = 20 := kA c (by omega) h20
  have k21 : K ph = 21 := kA c (by omega) h21
  have hnc : NEC (K hi) ∧ K hi ≠ 26 := by
    rcases hcl.1 with z | z
    · rw [z]; exact ⟨NEC_k.2.1, by decide⟩
    · rw [z]; exact ⟨NEC_k.2.2.1, by decide⟩
  have IE := hx_fin c cv cx 103 (by decide)
  have main := cls_x (D := 300) (d := 300) (m := v) (w := u) (tk := lo) (line := line) (lo := lo + 1) (hi := hi) (kk := kk) (n := n) (ph := ph) (xa := xa) (xb := xb) (r := r) (o := 1) (o2 := 2) c cv IE (by decide) hC rfl hX hq56 k20 hP k21 (by have := hpb.2.1; omega) hxb hr4 ⟨hnc.1, hnc.2, hcl.2⟩ hkk ⟨by show 0 + 0 + (hi - (lo + 1)) ≤ 4000; omega, Nat.zero_le _, Nat.zero_le _⟩ el (by omega)
  have main2 : PP (fun m2 z w2 r9 => CLZs m0 w0 K T nm Nk fof cvr kk (lo + 1) hi a cm q r Q [([], [], 0)] v u m2 z w2 r9 ∧ Kdc u w2) (jr_Cm_clause N v (I (n : Nat)) (I (kk : Nat)) line) (kr_M_clause N u (I (lo : Nat))) := fun m9 z9 w9 r9 e1 e2 => ⟨main m9 z9 w9 r9 e1 e2, yd_fr_M_clause Kd_rf w9 r9 (yl_fr_M_clause w9 r9 e2)⟩
  refine pp_bb (pp_mo main2 (fun m2 z w2 r9 hz => ?_))
  obtain ⟨⟨b, cm2, Q2, e2, t2, rfl, h1, h2, h3, h4, ⟨W, hdo, h42⟩, h5, h6, ⟨h7, h7b⟩, h8, h9, h10⟩, hk⟩ := hz
  have t20 : t2 = [] := by
    cases t2 with
    | nil => rfl
    | cons _ _ => have h7 : _ + 1 + 1 = 1 := h7; omega
  subst t20
  have held : e2.2.1 = [] := by
    have : e2.2.1 = hdc Nk K W 0 (hi - (lo + 1)) (lo + 1) [] := hdo.1
    rw [this]
    exact hdc_no _ _ _ (fun _ _ _ _ => Nat.zero_le _)
  have cC : XCS m0 nm m2 b cm2 [([], [], 0)] false := XCS_eq h2 rfl BDs_rf
  have h5' : XFC v m2 a q r 0 := h5
  have le2 := h6.2.1
  have uw : ∀ k n, grp k ≠ 0 → u.2.2.1 k n = w.2.2.1 k n := fun k n g0 => by
    rw [hu.2.1 k (fun e => g0 (by rw [e]; rfl)) (fun e => g0 (by rw [e]; rfl)) (fun e => g0 (by rw [e]; rfl))]
  have w2w : ∀ k n, grp k ≠ 0 → n < Q (grp k) → w2.2.2.1 k n = w.2.2.1 k n := fun k n g0 g1 => (h6.1.2.1 k n g0 g1).trans (uw k n g0)
  have j2w : ∀ n, n < Q 39 → w2.2.2.2 34 n = w.2.2.2 34 n := fun n hn => by rw [h6.1.2.2 34 n (Or.inr hn), hu.2.2.2]
  have u52 : u.1 52 = w.1 52 := hu.1 52 (by decide) (by decide)
  have w52 : w2.1 52 = wS.1 52 := hk.1.trans (u52.trans htab.1)
  have wtb : ∀ k n, 47 ≤ k → k ≤ 50 → n ≠ f → w2.2.2.1 k n = wS.2.2.1 k n := fun k n k1 k2 hn => by
    rw [hk.2 k k1 (by omega), hu.2.1 k (by omega) (by omega) (by omega)]
    exact htab.2 k n k1 k2 hn
  -- behind what is written at the end of a CLAUSE
  have go : ∀ (w5 : MS) (kl : Option Nat), (∀ k, k ≠ 71 → k ≠ 72 → w5.1 k = w2.1 k) → (∀ k n, (k ≠ 45 ∨ kl ≠ some n) → (k < 47 ∨ 51 < k ∨ (k ≤ 50 ∧ n ≠ f)) → w5.2.2.1 k n = w2.2.2.1 k n) → w5.2.2.2 = w2.2.2.2 → (∃ k1 : Nat, k1 < 16000 ∧ w5.2.2.1 50 f = I (k1 : Nat) ∧ w5.2.2.1 48 f = m0.2.2.1 25 f ∧ (∀ i, kl = some i → Q0 46 ≤ i ∧ i < Q 46) ∧ ∀ w6 : MS, (∀ k n, k ≠ 51 → w6.2.2.1 k n = w5.2.2.1 k n) → w6.2.2.2 = w5.2.2.2 → FNA w0 fof cvr a0 b q0 r k1 (Q 46) cm2 Q0 Q2 m2 w6) → PP RU (ck (inb (I (n : Nat)) 8016) (jg_Cm_oneFunction N M m2 (I (f : Nat)) (m2.2.2.1 21 n))) (kb_M_function0_205 N (kg_M_function0 N M2) w5 (I (f : Nat)) (I (Q 46 : Nat))) := fun w5 kl g1 g2 g3 g4 => by
    obtain ⟨k1, g4, g5, g6, gi, g7⟩ := g4
    refine l_ck (fun _ => ?_)
    have X5 : XRn w0 T w5 hi Q2 := XRn_y (XRn_of h3.1) g1 (fun k hk' => funext (fun n => g2 k n (by omega) (by omega)))
    refine r_205 (K := K) (T := T) (p := hi) (fun u' v1 v2 v3 => ?_) X5.2.2.1 (fun w6 v1 v2 v3 => ?_)
    · have := XRn_wp c X5
      exact ⟨⟨this.1.1, by rw [v2]; exact this.1.2.1, by rw [v3]; exact this.1.2.2⟩, by rw [v1]; exact this.2.1, this.2.2⟩
    · have X6 : XRn w0 T w6 hi Q2 := XRn_y X5 (fun k _ _ => by rw [v1]) (fun k hk' => v2 k (by omega))
      refine h m2 w6 b cm2 Q2 [e2] ⟨cC, ⟨X6, h3.2⟩, ⟨by omega, by omega, QLE_tr hQ0 le2⟩, XFC_tr hx h5' ha0 hq0 h1.2.2.2, ⟨fun k n g0 hn => ?_, fun n hn => ?_⟩, ⟨?_, fun k n k1 k2 hn => ?_⟩, Or.inr ⟨k1, Q 46, rfl, ⟨hQ0 46 (by decide), h8.1, h8.2.1, g4⟩, ⟨by rw [v2 50 (by decide)]; exact g5, by rw [v2 48 (by decide)]; exact g6, ?_⟩, g7 w6 (fun k n hk' => by rw [v2 k hk']) v3⟩⟩
      · have gk : k < 47 ∨ 51 < k := by
          by_cases y : 47 ≤ k ∧ k ≤ 51
          · exfalso
            unfold grp at g0
            rw [if_neg (by omega), if_neg (by omega), if_neg (by omega), if_neg (by omega), if_neg (by omega), if_neg (by omega), if_neg (by omega), if_neg (by omega)] at g0
            exact g0 rfl
          · omega
        rw [v2 k (by omega), g2 k n (by
          by_cases y : k = 45
          · refine Or.inr (fun e => ?_)
            have := (gi n e).1
            subst y
            have hn : n < Q0 46 := hn
            omega
          · exact Or.inl y) (by omega), w2w k n g0 (Nat.lt_of_lt_of_le hn (hQ0 _ (grp_m g0)))]
        exact hold.1 k n g0 hn
      · rw [v3, g3, j2w n (Nat.lt_of_lt_of_le hn (hQ0 39 (by decide)))]
        exact hold.2 n hn
      · rw [v1, g1 52 (by decide) (by decide)]; exact w52
      · rw [v2 k (by omega), g2 k n (by omega) (by omega)]
        exact wtb k n k1 k2 hn
      · rw [v2 45 (by decide), g2 45 (Q 46) (Or.inr (fun e => by have := (gi _ e).2; omega)) (by omega)]
        exact h8.2.2.1
  unfold k36r
  have n45 : ∀ i : Nat, i < 16000 → I (i : Nat) ≠ (-1 : Int32) := fun i hi z => nat_ne2 (by omega) z
  have h25 : I (kk : Nat) = m0.2.2.1 25 f := by
    rw [z25]; exact congrFun (fr.2 25 (by omega)) f
  rcases hlast with ⟨rfl, rfl, rfl, rfl⟩ | ⟨k1, kl, rfl, hkl, hrow, hA⟩
  · rw [show decide (optI none = (-1 : Int32)) = true from rfl, br_t]
    rw [i_nt2 (p := f) (by omega), i_nt2 (p := Q 46) (by omega), i_nt2 (p := lo) (by omega)]
    refine r_ck (fun _ => r_ck (fun _ => r_lt (r_ck (fun _ => r_ck (fun _ => r_lt (r_ck (fun _ => r_lt ?_)))))))
    have r41 : (upA w2 47 (upd (w2.2.2.1 47) f (w2.2.2.1 7 lo))).2.2.1 41 (Q 46) = I (kk : Nat) := by rw [upA_no (by decide)]; exact h8.2.2.2
    rw [r41]
    have rr : ∀ k n, (k < 47 ∨ 51 < k ∨ (k ≤ 50 ∧ n ≠ f)) → (upA (upA (upA w2 47 (upd (w2.2.2.1 47) f (w2.2.2.1 7 lo))) 48 (upd ((upA w2 47 (upd (w2.2.2.1 47) f (w2.2.2.1 7 lo))).2.2.1 48) f (I (kk : Nat)))) 50 (upd ((upA (upA w2 47 (upd (w2.2.2.1 47) f (w2.2.2.1 7 lo))) 48 (upd ((upA w2 47 (upd (w2.2.2.1 47) f (w2.2.2.1 7 lo))).2.2.1 48) f (I (kk : Nat)))).2.2.1 50) f (I (Q 46 : Nat)))).2.2.1 k n = w2.2.2.1 k n := fun k n hkn => by
      by_cases y50 : k = 50
      · subst y50; rw [upA_at, upd_no (by omega), upA_no (by decide), upA_no (by decide)]
      rw [upA_no y50]
      by_cases y48 : k = 48
      · subst y48; rw [upA_at, upd_no (by omega), upA_no (by decide)]
      rw [upA_no y48]
      by_cases y47 : k = 47
      · subst y47; rw [upA_at, upd_no (by omega)]
      rw [upA_no y47]
    refine go _ none (fun _ _ _ => rfl) (fun k n _ hkn => rr k n hkn) rfl ⟨Q 46, h8.2.1, by rw [upA_at, upd_at], by rw [upA_no (by decide), upA_at, upd_at]; exact h25, fun i e => (by cases e), fun w6 v1 v2 => ?_⟩
    refine FNA_0 h10 held (fun k n g0 => ?_) (by rw [v2]; rfl)
    have gk : k < 47 ∨ 51 < k := by
      by_cases y : 47 ≤ k ∧ k ≤ 51
      · exfalso
        unfold grp at g0
        rw [if_neg (by omega), if_neg (by omega), if_neg (by omega), if_neg (by omega), if_neg (by omega), if_neg (by omega), if_neg (by omega), if_neg (by omega)] at g0
        exact g0 rfl
      · omega
    rw [v1 k n (by omega)]
    exact rr k n (by omega)
  · rw [show optI (some kl) = I (kl : Nat) from rfl, decide_eq_false (n45 kl hkl.2.2.1), br_f, i_nt2 (p := kl) (by omega)]
    refine r_ck (fun _ => r_lt ?_)
    have rr : ∀ k n, k ≠ 45 ∨ n ≠ kl → (upA w2 45 (upd (w2.2.2.1 45) kl (I (Q 46 : Nat)))).2.2.1 k n = w2.2.2.1 k n := fun k n hkn => by
      by_cases y : k = 45
      · subst y; rw [upA_at, upd_no (by omega)]
      · rw [upA_no y]
    have r45 : (upA w2 45 (upd (w2.2.2.1 45) kl (I (Q 46 : Nat)))).2.2.1 45 kl = I (Q 46 : Nat) := by rw [upA_at, upd_at]
    have ii : (upA w2 45 (upd (w2.2.2.1 45) kl (I (Q 46 : Nat)))).1 = w2.1 := rfl
    have jj : (upA w2 45 (upd (w2.2.2.1 45) kl (I (Q 46 : Nat)))).2.2.2 = w2.2.2.2 := rfl
    generalize upA w2 45 (upd (w2.2.2.1 45) kl (I (Q 46 : Nat))) = w5 at rr r45 ii jj
    have go2 : ∀ w5b, RULd w5 w5b → PP RU (ck (inb (I (n : Nat)) 8016) (jg_Cm_oneFunction N M m2 (I (f : Nat)) (m2.2.2.1 21 n))) (kb_M_function0_205 N (kg_M_function0 N M2) w5b (I (f : Nat)) (I (Q 46 : Nat))) := fun w5b hb => by
      have rb : w5b.2.2.1 = w5.2.2.1 := by rw [hb.2]
      have jb : w5b.2.2.2 = w5.2.2.2 := by rw [hb.2]
      have keep : ∀ k, k = 48 ∨ k = 50 → w5b.2.2.1 k f = w.2.2.1 k f := fun k hk' => by
        rw [rb, rr k f (by omega), hk.2 k (by omega) (by omega), hu.2.1 k (by omega) (by omega) (by omega)]
      refine go w5b (some kl) (fun k k1 k2 => by rw [hb.1 k k1 k2, ii]) (fun k n hkn _ => by
        rw [rb]
        refine rr k n ?_
        rcases hkn with z | z
        · exact Or.inl z
        · exact Or.inr (fun e => z (by rw [e]))) (by rw [jb, jj]) ⟨k1, hkl.2.2.2, by rw [keep 50 (by omega)]; exact hrow.1, by rw [keep 48 (by omega)]; exact hrow.2.1, fun i e => by
          injection e with e
          omega, fun w6 v1 v2 => ?_⟩
      refine FNA_1 hA h10 held h1.2.2.1 ⟨ha0, by omega⟩ ⟨hq0, h1.2.2.2⟩ hQ0 le2 h5' (fun k n g0 hkn => ?_) (by rw [v2, jb, jj]) w2w j2w ⟨hkl.1, hkl.2.1⟩ ⟨Nat.le_refl _, h8.1, h8.2.1⟩ (by rw [v1 45 kl (by decide), rb]; exact r45)
      have gk : k ≠ 51 := fun e => g0 (by rw [e]; rfl)
      rw [v1 k n gk, rb]
      refine rr k n ?_
      by_cases y : k = 45
      · exact Or.inr (hkn y)
      · exact Or.inl y
    refine r_ck (fun _ => r_ck (fun _ => r_br (fun _ => r_ck (fun _ => r_ck (fun _ => r_br (fun _ => go2 w5 RUL_rf) (fun _ => ?_)))) (fun _ => ?_)))
    · unfold kb_M_function0_198
      exact r_rul (fun v' hv' => go2 v' hv')
    · unfold kb_M_function0_198
      exact r_rul (fun v' hv' => go2 v' hv')
end
