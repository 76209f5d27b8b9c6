/-! CASE and IF, both: their parts and their end -/
set_option maxRecDepth 100000
section
variable {α β : Type} {m0 w0 m w m2 w2 m3 w3 v u w1 mS wS V Z : MS} {K nm Nk W W2 : Nat → Nat} {N T D d o a aP a0 b b' b0 c cm cm0 cm2 cm3 q q0 r s lo lo0 mid hi hiA i j f f2 n k kk kd p p2 σ tk x xa xb xc xd gx kg kb mb nd fr M m1 lv y kf : Nat} {ndr : Nat → Int32} {Q Q0 Q1 Q2 Q3 Q4 : Nat → Nat} {sc sc0 sc2 sc3 t t0 t2 : SCT} {e e0 e2 : List Nat × List Nat × Nat} {g g2 lst l2 : Bool} {L L1 L2 Lr S hs fs : List Nat} {fst last : Option Nat} {l : List Int32} {idc fof cvr : Int → Int → Int} {z : Unit} {rt v1 v2 v3 v4 v5 v8 x1 x2 x3 x4 t4 t5 xw y20 pw kn : Int32} {fc : MS → Int32 → Option (MS × α)} {G : MS → Int32 → Int32 → Int32 → Int32 → Int32 → Option (MS × Int32)}
theorem XTF_nod (h : XTF m0 w0 K T nm Nk g L lo p a b cm cm2 q r Q Q2 sc sc2 m w m2 w2) (hN : NOD w2 V (Q2 32)) (h69 : V.1 69 = I (p : Nat)) (h16 : Q2 32 < 16000) : XTF m0 w0 K T nm Nk g L lo p a b cm cm2 q r Q (qst Q2 32 (Q2 32 + 1)) sc sc2 m w m2 V := by
  obtain ⟨a1, a2, a3, a4, a5, a7, a8, a9, a10⟩ := h
  have hR := a3.1
  have pT : p ≤ T := hR.1.2.1.2
  have hX := XRS_n hR hN.1 (fun k hk => funext (fun j => hN.2.2.1 k j (by omega))) h69 pT hN.2.1 (by omega)
  have hQ : QRR Q2 w2 V := QRR_N hN (Nat.le_refl _)
  have q32 : Q 32 ≤ Q2 32 := a8.2.1 32 (by decide)
  exact ⟨a1, a2, ⟨hX, by rw [qst_no (by decide)]; exact a3.2⟩, a4, a5, a7, ⟨QRR_tr a8.1 hQ a8.2.1, QLE_st a8.2.1 (by omega), by rw [qst_no (by decide), qst_no (by decide), qst_no (by decide)]; exact a8.2.2⟩, a9, fun n hn => by rw [qst_at]; have := a10 n hn; omega⟩
theorem XTF_L (h : XTF m0 w0 K T nm Nk g L lo hi a b cm cm2 q r Q Q2 sc sc2 m w m2 w2) (hl : ∀ n, n ∈ L2 → n ∈ L) : XTF m0 w0 K T nm Nk g L2 lo hi a b cm cm2 q r Q Q2 sc sc2 m w m2 w2 := by
  obtain ⟨a1, a2, a3, a4, a5, a7, a8, a9, a10⟩ := h
  exact ⟨a1, a2, a3, a4, a5, a7, a8, a9, fun n hn => a10 n (hl n hn)⟩
set_option maxHeartbeats 1000000 in
theorem x_prt (c : CTZ m0 w0 K T nm Nk) (cv : CTV m0 w0 K T) (IE : HXE N m0 w0 K T nm Nk fof cvr f) (hf : f ≤ 230) (hkd : (kd = 1 ∧ v3 = 15 ∧ pw = 37 ∧ kn = 21 ∧ y20 = I ((3 : Nat) : Int)) ∨ (kd = 2 ∧ v3 = 0 ∧ pw = 38 ∧ kn = 31 ∧ y20 = I ((8 : Nat) : Int))) (hE : RWcK m0 1 27 (PEc m0 f o kd) k n lo hi xa xb q r) (hxb : xb ≤ 8015) (hr4 : r ≤ 400) (k11 : K hi = 11) (hiT : hi < T) (hC : XCS m0 nm m a cm sc false) (hR : XRS w0 T w lo Q sc) (hq : Q 56 = q) (htot : tot sc + (hi - lo) ≤ 4000 ∧ sc.length ≤ o + 1) (htk : tk ≤ 4002) : PP (XZ m0 w0 K T nm Nk fof cvr lst false lo (hi + 1) a cm q r Q sc m w) (bnd ((jrc_Cm_fun N D).2.2.1 m (I (n : Nat)) (-1) v3 (lsI lst)) (fun u55 r55 => bnd (jm_Co_put N u55 pw) (fun u57 _ => bnd (hm_Co_arrive N u57 r55) (fun u60 _ => some (u60, ()))))) (kb_M_block_160 N (krc_M_behind N d) () w (I (tk : Nat)) (I ((hdS sc).1.length : Nat)) y20 kn) := by
  have t4 := c.2.1.1.1
  have hd := RW_xb PE_bE hE
  unfold HDc at hd
  obtain ⟨e, t, rfl⟩ := PRS_ne hR.1
  obtain ⟨q1, q2⟩ := XRS_q hR
  have lT : lo ≤ T := hR.1.2.1.2
  have elen : e.1.length ≤ 4000 := by
    have := hC.1.2.1.2.2.2.1
    have et : tot (e :: t) = tot t + e.1.length := rfl
    omega
  unfold kb_M_block_160
  refine r_nod q1 q2 (by rcases hkd with ⟨-, -, -, rfl, -⟩ | ⟨-, -, -, rfl, -⟩ <;> rfl) (nsh htk) (fun h16 => ?_)
  have d0 : NOD w (nwD w (Q 32) kn (I (tk : Nat))) (Q 32) := NOD_0 q1
  obtain ⟨d1, d2, d3, d4, d5, d6, d7, d8⟩ := nwD_at (w := w) (i := Q 32) (k := kn) (t := I (tk : Nat))
  have d9 : (nwD w (Q 32) kn (I (tk : Nat))).1 69 = I (lo : Nat) := by rw [nwD_i (by decide)]; exact hR.1.2.1.1
  generalize nwD w (Q 32) kn (I (tk : Nat)) = U at d0 d1 d2 d3 d4 d5 d6 d7 d8 d9
  rw [i_nt2 (p := Q 32) (by omega)]
  refine r_ck (fun _ => r_lt ?_)
  have hN : NOD w (upA U 27 (upd (U.2.2.1 27) (Q 32) (I ((hdS (e :: t)).1.length : Nat)))) (Q 32) := NOD_A d0 (by decide)
  have u23 : (upA U 27 (upd (U.2.2.1 27) (Q 32) (I ((hdS (e :: t)).1.length : Nat)))).2.2.1 23 (Q 32) = kn := by rw [upA_no (by decide)]; exact d1
  have u27 : (upA U 27 (upd (U.2.2.1 27) (Q 32) (I ((hdS (e :: t)).1.length : Nat)))).2.2.1 27 (Q 32) = I (e.1.length : Nat) := by rw [upA_at, upd_at]; rfl
  have u28 : (upA U 27 (upd (U.2.2.1 27) (Q 32) (I ((hdS (e :: t)).1.length : Nat)))).2.2.1 28 (Q 32) = -1 := by rw [upA_no (by decide)]; exact d6
  have u30 : (upA U 27 (upd (U.2.2.1 27) (Q 32) (I ((hdS (e :: t)).1.length : Nat)))).2.2.1 30 (Q 32) = 0 := by rw [upA_no (by decide)]; exact d8
  have u69 : (upA U 27 (upd (U.2.2.1 27) (Q 32) (I ((hdS (e :: t)).1.length : Nat)))).1 69 = I (lo : Nat) := d9
  generalize upA U 27 (upd (U.2.2.1 27) (Q 32) (I ((hdS (e :: t)).1.length : Nat))) = U2 at hN u23 u27 u28 u30 u69
  have hX2 : XRS w0 T U2 lo (qst Q 32 (Q 32 + 1)) (e :: t) := XRS_n hR hN.1 (fun k hk => funext (fun j => hN.2.2.1 k j (by omega))) u69 lT hN.2.1 (by omega)
  have X0 : XTF m0 w0 K T nm Nk false [] lo lo a a cm cm q q Q (qst Q 32 (Q 32 + 1)) (e :: t) (e :: t) m w m U2 := XTF_nod (XTF_rf hC hR hq) hN u69 h16
  have e32 : (qst Q 32 (Q 32 + 1)) 32 = Q 32 + 1 := qst_at
  have kd12 : (kd = 1 ∨ kd = 2) ∧ kd ≠ 3 := by rcases hkd with ⟨h, -⟩ | ⟨h, -⟩ <;> omega
  -- the parts
  have main : ∀ x1 : Int32, ((kd = 1 ∧ x1 = 0) ∨ (kd = 2 ∧ x1 = 1)) → PP (XZ m0 w0 K T nm Nk fof cvr lst false lo (hi + 1) a cm q r Q (e :: t) m w) (bnd ((jrc_Cm_fun N D).2.2.1 m (I (n : Nat)) (-1) v3 (lsI lst)) (fun u55 r55 => bnd (jm_Co_put N u55 pw) (fun u57 _ => bnd (hm_Co_arrive N u57 r55) (fun u60 _ => some (u60, ()))))) (kb_M_block_186 N (krc_M_behind N d) () U2 (I (Q 32 : Nat)) x1) := fun x1 hx1 => by
    unfold kb_M_block_186
    cases D with
    | zero => exact pp_nl
    | succ D =>
    cases d with
    | zero => exact pp_nr
    | succ d =>
    refine pp_bb (pp_mo (R := PLZs m0 w0 K T nm Nk fof cvr lst kd 0 (Q 32) (fun k => U2.2.2.1 k (Q 32)) lo a a cm q Q (qst Q 32 (Q 32 + 1)) (e :: t) m w hi r) ?_ (fun m9 v9 w9 r9 hz => ?_))
    · show PP _ (jg_Cm_parts N (jrc_Cm_fun N D) N m (-1) v3 (lsI lst) 0 (I (n : Nat))) (br (decide (U2.1 67 = 0)) (kg_M_parts0 N (krc_M_behind N d) N U2 x1 (I (Q 32 : Nat)) (-1) (-1) 1) (kg_M_parts0 N (krc_M_behind N d) N U2 x1 (I (Q 32 : Nat)) (-1) (-1) 0))
      rw [decide_eq_true hX2.1.2.2.1, br_t]
      refine pt_ll c cv IE hf hxb hr4 ⟨by rw [k11]; exact ⟨rfl, by decide, by decide, by decide⟩, by rw [k11]; decide, by rw [k11]; decide, by omega⟩ htot (by
        rcases hkd with ⟨h1, h2, -⟩ | ⟨h1, h2, -⟩
        · rcases hx1 with ⟨-, h3⟩ | ⟨h3, -⟩
          · exact Or.inl ⟨h1, rfl, h2, h3⟩
          · omega
        · rcases hx1 with ⟨h3, -⟩ | ⟨-, h3⟩
          · omega
          · exact Or.inr (Or.inl ⟨h1, h2, h3⟩)) k n lo xa q N N m U2 a cm (qst Q 32 (Q 32 + 1)) (e :: t) [] [] none none 0 hE ⟨X0, rfl, PTq_0, Iff.rfl, fun l hl => (by cases hl), ⟨QLE_st QLE_rf (by omega), QLE_rf, Nat.le_refl _, by rw [e32]; omega, Nat.le_refl _, Nat.le_refl _⟩, ⟨fun h hm => (by cases hm), rfl⟩, ⟨⟨1, [], Or.inl ⟨?_, rfl⟩, fun _ => Iff.rfl⟩, fun n hn => (by cases hn)⟩, fun _ _ _ _ => rfl⟩ (fun l hl => (by cases hl))
      show (U2.2.2.1 28 (Q 32)).toInt = -1
      rw [u28]; rfl
    · obtain ⟨a2, cm9, Q9, sc9, L9, hs9, k1, kl, rfl, ⟨hk1, hk1b⟩, g1, g2, g3, g4, g5, ⟨g6, g6b, g6c, g6d, g6e, g6f⟩, ⟨g7, g7b⟩, ⟨⟨fr, Lr, g8, g9⟩, g10⟩, g11⟩ := hz
      have hC9 := g1.2.1
      have le9 := g6b 32 (by decide)
      rw [e32] at le9
      have L9r : ∀ n, n ∈ L9 → n < Q9 32 := fun n hn => (g1.2.2.2.2.2.2.2.2 n hn).2
      -- there
      refine l_put hC9.1.2.2.1.1 hC9.1.2.2.1.2.2 (fun ha => ?_)
      have c3 := XCS_put (x := pw) hC9 ha
      have em : ptc m9 a2 pw = ptcs m9 a2 [pw] := rfl
      rw [em] at c3 ⊢
      refine arr_n c3 (HKc_fr g7b (fun j hj => ptcs_o (Or.inl (g7 j hj).2))) (fun Z hZ hZC => ?_)
      obtain ⟨z1, z2, z3, z4, z5⟩ := hZ
      have zo : ∀ j, j < a2 → j ∉ hs9 → Z.2.2.1 23 j = m9.2.2.1 23 j := fun j hj hn => (z4 j hn).trans (ptcs_o (Or.inl hj))
      have za : Z.2.2.1 23 a2 = pw := (z4 a2 (fun y => by have := g7 a2 y; omega)).trans (ptcs_at (l := [pw]) (k := 0) rfl)
      have zr : ∀ k, k ≠ 23 → Z.2.2.1 k = m9.2.2.1 k := fun k hk => (z2 k hk).trans (ptcs_r hk)
      have XZ1 := XTF_cz g1 hZC (by omega) (fun k hk => by rw [z1]; exact ptcs_i hk) zr (fun j hj => zo j (by omega) (fun y => by have := g7 j y; omega))
      -- here
      refine nd_w c XZ1.2.2.1.1 (k := 11) (s' := 6) (by decide) rfl (fun _ => ?_)
      have XZ2 := XTF_ad XZ1 (by omega) (by rw [k11]; decide)
      rw [i_nt2 (p := Q 32) (by omega)]
      refine r_ck (fun _ => r_lt (r_ck (fun _ => r_lt ?_)))
      have r32 : (upA (adv w9 hi) 25 (upd ((adv w9 hi).2.2.1 25) (Q 32) (I (k1 : Nat)))).1 32 = I (Q9 32 : Nat) := (XRS_q XZ2.2.2.1.1).1
      rw [r32]
      have Y1 : ∀ k n, (k ≠ 25 ∧ k ≠ 26) ∨ n ≠ Q 32 → (upA (upA (adv w9 hi) 25 (upd ((adv w9 hi).2.2.1 25) (Q 32) (I (k1 : Nat)))) 26 (upd ((upA (adv w9 hi) 25 (upd ((adv w9 hi).2.2.1 25) (Q 32) (I (k1 : Nat)))).2.2.1 26) (Q 32) (I (Q9 32 : Nat)))).2.2.1 k n = w9.2.2.1 k n := fun k n hk => by
        by_cases y1 : k = 26
        · subst y1
          rw [upA_at, upd_no (by omega), upA_no (by decide)]; rfl
        · rw [upA_no y1]
          by_cases y2 : k = 25
          · subst y2
            rw [upA_at, upd_no (by omega)]; rfl
          · rw [upA_no y2]; rfl
      have Y25 : (upA (upA (adv w9 hi) 25 (upd ((adv w9 hi).2.2.1 25) (Q 32) (I (k1 : Nat)))) 26 (upd ((upA (adv w9 hi) 25 (upd ((adv w9 hi).2.2.1 25) (Q 32) (I (k1 : Nat)))).2.2.1 26) (Q 32) (I (Q9 32 : Nat)))).2.2.1 25 (Q 32) = I (k1 : Nat) := by rw [upA_no (by decide), upA_at, upd_at]
      have Y26 : (upA (upA (adv w9 hi) 25 (upd ((adv w9 hi).2.2.1 25) (Q 32) (I (k1 : Nat)))) 26 (upd ((upA (adv w9 hi) 25 (upd ((adv w9 hi).2.2.1 25) (Q 32) (I (k1 : Nat)))).2.2.1 26) (Q 32) (I (Q9 32 : Nat)))).2.2.1 26 (Q 32) = I (Q9 32 : Nat) := by rw [upA_at, upd_at]
      have Yi : (upA (upA (adv w9 hi) 25 (upd ((adv w9 hi).2.2.1 25) (Q 32) (I (k1 : Nat)))) 26 (upd ((upA (adv w9 hi) 25 (upd ((adv w9 hi).2.2.1 25) (Q 32) (I (k1 : Nat)))).2.2.1 26) (Q 32) (I (Q9 32 : Nat)))).1 = (adv w9 hi).1 := rfl
      have YJ : (upA (upA (adv w9 hi) 25 (upd ((adv w9 hi).2.2.1 25) (Q 32) (I (k1 : Nat)))) 26 (upd ((upA (adv w9 hi) 25 (upd ((adv w9 hi).2.2.1 25) (Q 32) (I (k1 : Nat)))).2.2.1 26) (Q 32) (I (Q9 32 : Nat)))).2.2.2 = w9.2.2.2 := rfl
      generalize upA (upA (adv w9 hi) 25 (upd ((adv w9 hi).2.2.1 25) (Q 32) (I (k1 : Nat)))) 26 (upd ((upA (adv w9 hi) 25 (upd ((adv w9 hi).2.2.1 25) (Q 32) (I (k1 : Nat)))).2.2.1 26) (Q 32) (I (Q9 32 : Nat))) = Y at Y1 Y25 Y26 Yi YJ
      have XZ3 := XTF_rw (v := Y) XZ2 Yi (fun k n hk => by
        rw [Y1 k n (by
          by_cases y : k = 25 ∨ k = 26
          · have gk : grp k = 32 := if_pos (by omega)
            rw [gk] at hk
            exact Or.inr (by omega)
          · exact Or.inl (by omega))]
        rfl) YJ
      obtain ⟨n1, n2⟩ := XRS_q XZ3.2.2.1.1
      have Y69 := XZ3.2.2.1.1.1.2.1.1
      rw [Y69]
      refine r_nod n1 n2 rfl (nsh (by omega)) (fun h16b => ?_)
      have x0 : NOD Y (nwD Y (Q9 32) 30 (I ((hi + 1 : Nat) : Int))) (Q9 32) := NOD_0 n1
      obtain ⟨x1', -, -, -, -, x6, -⟩ := nwD_at (w := Y) (i := Q9 32) (k := 30) (t := I ((hi + 1 : Nat) : Int))
      have x9 : (nwD Y (Q9 32) 30 (I ((hi + 1 : Nat) : Int))).1 69 = I ((hi + 1 : Nat) : Int) := by rw [nwD_i (by decide)]; exact Y69
      generalize nwD Y (Q9 32) 30 (I ((hi + 1 : Nat) : Int)) = X at x0 x1' x6 x9
      rw [i_nt2 (p := Q9 32) (by omega)]
      refine r_ck (fun _ => r_ck (fun _ => r_lt ?_))
      have hNX : NOD Y (upA X 28 (upd (X.2.2.1 28) (Q9 32) (X.2.2.1 28 (Q 32)))) (Q9 32) := NOD_A x0 (by decide)
      have X23 : (upA X 28 (upd (X.2.2.1 28) (Q9 32) (X.2.2.1 28 (Q 32)))).2.2.1 23 (Q9 32) = 30 := by rw [upA_no (by decide)]; exact x1'
      have X28 : (upA X 28 (upd (X.2.2.1 28) (Q9 32) (X.2.2.1 28 (Q 32)))).2.2.1 28 (Q9 32) = w9.2.2.1 28 (Q 32) := by
        rw [upA_at, upd_at, x0.2.2.1 28 (Q 32) (Or.inr (Or.inr (by omega))), Y1 28 (Q 32) (Or.inl ⟨by decide, by decide⟩)]
      have X69 : (upA X 28 (upd (X.2.2.1 28) (Q9 32) (X.2.2.1 28 (Q 32)))).1 69 = I ((hi + 1 : Nat) : Int) := x9
      generalize upA X 28 (upd (X.2.2.1 28) (Q9 32) (X.2.2.1 28 (Q 32))) = V at hNX X23 X28 X69
      have XF := XTF_nod (XTF_L (L2 := Lr) XZ3 (fun n hn => (g9 n).mp hn)) hNX X69 h16b
      have Vr : ∀ k n, n ≠ Q9 32 → ((k ≠ 25 ∧ k ≠ 26) ∨ n ≠ Q 32) → V.2.2.1 k n = w9.2.2.1 k n := fun k n h1 h2 => by
        rw [hNX.2.2.1 k n (Or.inr (Or.inr h1)), Y1 k n h2]
      have Vo : ∀ k n, (k < 23 ∨ 31 < k) → V.2.2.1 k n = w9.2.2.1 k n := fun k n h1 => by
        rw [hNX.2.2.1 k n (by omega), Y1 k n (Or.inl (by omega))]
      have VJ : V.2.2.2 = w9.2.2.2 := hNX.2.2.2.trans YJ
      have nQ : Q 32 ≠ Q9 32 := by omega
      have V25 : V.2.2.1 25 (Q 32) = I (k1 : Nat) := by rw [hNX.2.2.1 25 _ (Or.inr (Or.inr nQ))]; exact Y25
      have V26 : V.2.2.1 26 (Q 32) = I (Q9 32 : Nat) := by rw [hNX.2.2.1 26 _ (Or.inr (Or.inr nQ))]; exact Y26
      have V23 : V.2.2.1 23 (Q 32) = kn := by rw [Vr 23 _ nQ (Or.inl (by decide)), g11 23 (by decide) (by decide) (by decide)]; exact u23
      have V27 : V.2.2.1 27 (Q 32) = I (e.1.length : Nat) := by rw [Vr 27 _ nQ (Or.inl (by decide)), g11 27 (by decide) (by decide) (by decide)]; exact u27
      have oN : Onm nm sc9 = Onm nm (e :: t) := by unfold Onm; rw [g2]
      have a24 : a2 + 1 ≤ 23990 := hZC.1.2.2.1.2.2
      refine pp_end ⟨a2 + 1, cm9, qst Q9 32 (Q9 32 + 1), sc9, Q9 32, fr + 1, Lr, rfl, ⟨by omega, by rw [qst_at]; omega⟩, XTR_of XF (fun C P R J H fi hx => ?_), ⟨by omega, by omega⟩, ⟨Q9 32, rfl, ⟨by omega, by rw [qst_at]; omega⟩, Lr, ?_, ?_⟩, fun n hn => ?_⟩
      · have ro : ∀ k i, 23 ≤ k ∧ k ≤ 31 → k ≠ 27 ∧ k ≠ 29 ∧ k ≠ 30 → Q 32 ≤ i → i ≤ Q9 32 → R k i = A V k i := fun k i k1 k2 i1 i2 => FIN_R fi k1 k2 ⟨i1, by rw [qst_at]; omega⟩
        have fx : FNx w0 fof cvr C P R J m9 w9 a a2 q r (qst Q 32 (Q 32 + 1)) Q9 lst L9 hs9 [kl] := by
          refine FNx_mo (FNx_0 (hs := []) (ps := []) fi) ⟨Nat.le_refl _, by omega⟩ ⟨Nat.le_refl _, Nat.le_refl _⟩ (QLE_st QLE_rf (by omega)) (QLE_st QLE_rf (by omega)) (fun j _ j2 j3 => zo j j2 j3) (fun k u k1 k2 _ _ => by rw [zr k (by omega)]) (fun k n k1 k2 k3 k4 k5 k6 => ?_) (fun n _ _ => by rw [VJ]) (fun n n1' n2' => ?_) (fun j hj => by cases hj) (fun j hj => by cases hj)
          · by_cases y : grp k = 32
            · rw [y] at k5
              rw [y, e32] at k4
              exact Vr k n (by omega) (Or.inr (by omega))
            · refine Vo k n ?_
              by_cases y1 : k < 23
              · exact Or.inl y1
              · by_cases y2 : 31 < k
                · exact Or.inr y2
                · exact absurd (by unfold grp; rw [if_pos (by omega)]) y
          · have e30 : A V 30 n = A w9 30 n := congrArg Int32.toInt (Vr 30 n (by omega) (Or.inl ⟨by decide, by decide⟩))
            rw [e30]
            by_cases y : lst = true ∧ n ∈ Lr
            · rw [if_pos y, if_pos ⟨y.1, (g9 n).mp y.2⟩]
            · rw [if_neg y, if_neg (fun y2 => y ⟨y2.1, (g9 n).mpr y2.2⟩)]
        have hch : ∀ h, h ∈ hs9 → C h = ((a2 + 1 : Nat) : Int) := fun h hm => by
          have := g7 h hm
          rw [fi.1 h (by omega) (by omega)]
          show (Z.2.2.1 23 h).toInt = _
          rw [z5 h hm]
          exact I_ti (by omega) (by omega)
        have r26 : R 26 (Q 32) = ((Q9 32 : Nat) : Int) := by
          rw [ro 26 _ (by decide) (by decide) (Nat.le_refl _) (by omega)]
          show (V.2.2.1 26 (Q 32)).toInt = _
          rw [V26]
          exact I_ti (by omega) (by omega)
        have hl5 := g5 kl rfl
        have q1le := g6 46 (by decide)
        have r45 : R 45 kl = -1 := by
          rw [fi.2.2.2.1.1 45 kl (by decide) (by decide) (by decide) (by decide) (by decide) (by show Q 46 ≤ kl; omega) (by show kl < qst Q9 32 (Q9 32 + 1) 46; rw [qst_no (by decide)]; omega)]
          show (V.2.2.1 45 kl).toInt = _
          rw [Vo 45 kl (Or.inr (by decide)), hl5.2.2]; rfl
        obtain ⟨b1, b2⟩ := XB c.2.2.1 hC hR (XTF_hx g1 hx) h16
        obtain ⟨b3, b4⟩ := XB c.2.2.1 hZC XZ3.2.2.1.1 hx h16b
        have cont : ∀ y, (y = none ↔ false = false) → CRe C R J y (a2 + 1) (qst Q9 32 (Q9 32 + 1) 32) H (Onm nm sc9) → CRe C R J none (a2 + 1) (Q9 32) H (Onm nm (e :: t)) := fun y hy hr => by
          have yn : y = none := hy.mpr rfl
          subst yn
          obtain ⟨d', hd'⟩ := hr
          rw [qst_at] at hd'
          rw [← oN]
          have R23 : R 23 (Q9 32) = 30 := by
            rw [ro 23 _ (by decide) (by decide) (by omega) (Nat.le_refl _)]
            show (V.2.2.1 23 (Q9 32)).toInt = _
            rw [X23]; rfl
          exact cr_1 b3 b4 ⟨d', Or.inr (Or.inr (Or.inr (Or.inr (Or.inr (Or.inr (Or.inr (Or.inr (Or.inr (Or.inr (Or.inr (Or.inr (Or.inr (Or.inr (Or.inr (Or.inr (Or.inr (Or.inr (Or.inr (Or.inr (Or.inr (Or.inr (Or.inr (Or.inr (Or.inr (Or.inr (Or.inr (Or.inr (Or.inr (Or.inr (⟨R23, hd'⟩))))))))))))))))))))))))))))))⟩
        obtain ⟨u1, u2⟩ := g3 C P R J H fx hx
        refine ⟨u1, fun y hy hr => ?_⟩
        · have yn : y = none := hy.mpr rfl
          have ca : C a2 = pw.toInt := by
            rw [fi.1 a2 (by omega) (by omega)]
            show (Z.2.2.1 23 a2).toInt = _
            rw [za]
          have hz1 : ∃ f, ZRs C R J (CRs C R J f) kd 0 H (Onm nm (e :: t)) f a2 (-1) := by
            refine ⟨1, by omega, Or.inl ⟨rfl, ?_⟩⟩
            rcases hkd with ⟨h1, -, rfl, -⟩ | ⟨h1, -, rfl, -⟩
            · exact Or.inr (Or.inl ⟨h1, ca⟩)
            · exact Or.inr (Or.inr (Or.inl ⟨h1, ca⟩))
          obtain ⟨fz, hz2⟩ := u2 (a2 + 1) (Q9 32) (-1) hch r26 (cont y hy hr) (fun l hl => by injection hl with hl; rw [← hl]; exact r45) hz1
          have R23 : R 23 (Q 32) = kn.toInt := by
            rw [ro 23 _ (by decide) (by decide) (Nat.le_refl _) (by omega)]
            show (V.2.2.1 23 (Q 32)).toInt = _
            rw [V23]
          have R25 : R 25 (Q 32) = ((k1 : Nat) : Int) := by
            rw [ro 25 _ (by decide) (by decide) (Nat.le_refl _) (by omega)]
            show (V.2.2.1 25 (Q 32)).toInt = _
            rw [V25]
            exact I_ti (by omega) (by omega)
          have kn12 : R 23 (Q 32) ≠ 12 ∧ R 23 (Q 32) ≠ 15 ∧ (R 23 (Q 32) = 21 ∨ R 23 (Q 32) = 31) ∧ (if R 23 (Q 32) = 21 then 1 else 2) = kd := by
            rw [R23]
            rcases hkd with ⟨h1, -, -, rfl, -⟩ | ⟨h1, -, -, rfl, -⟩
            · exact ⟨by decide, by decide, Or.inl rfl, by rw [h1]; rfl⟩
            · exact ⟨by decide, by decide, Or.inr rfl, by rw [h1]; rfl⟩
          have R27 : R 27 (Q 32) = (((Onm nm (e :: t)).length : Nat) : Int) := by
            rw [fi.2.2.2.1.2.1 (Q 32) (Nat.le_refl _) (by rw [qst_at]; omega) kn12.1 kn12.2.1]
            show (V.2.2.1 27 (Q 32)).toInt = _
            have l1 : (Onm nm (e :: t)).length = e.1.length := by unfold Onm; rw [List.length_map]; rfl
            rw [V27, l1]
            exact I_ti (by omega) (by omega)
          subst yn
          refine cr_1 b1 b2 ⟨fz, Or.inr (Or.inr (Or.inr (Or.inr (Or.inr (Or.inr (Or.inr (Or.inr (Or.inr (Or.inr (Or.inr (Or.inr (Or.inr (Or.inr (Or.inr (Or.inr (Or.inr (Or.inr (Or.inr (Or.inr (Or.inr (Or.inr (Or.inl ⟨kn12.2.2.1, rfl, R27, ?_⟩))))))))))))))))))))))⟩
          rw [kn12.2.2.2, R25]
          exact hz2
      · have e28 : A V 28 (Q9 32) = A w9 28 (Q 32) := congrArg Int32.toInt X28
        rw [e28]
        refine RT_w (i := Q 32 + 1) (by omega) fr true (Q9 32) _ _ _ (Nat.le_refl _) ?_
        exact (RT_fr (w := w9) (v := V) fr).1 (Q9 32) (Q9 32) _ Lr (Nat.le_refl _) (fun n m1 m2 => ⟨congrArg Int32.toInt (Vr 23 n (by omega) (Or.inl ⟨by decide, by decide⟩)), congrArg Int32.toInt (Vr 28 n (by omega) (Or.inl ⟨by decide, by decide⟩)), congrArg Int32.toInt (Vr 29 n (by omega) (Or.inl ⟨by decide, by decide⟩))⟩) g8
      · have e23 : A V 23 (Q9 32) = 30 := congrArg Int32.toInt X23
        rw [e23, if_neg (by decide)]
      · have hn9 := (g9 n).mp hn
        have e30 : A V 30 n = A w9 30 n := congrArg Int32.toInt (Vr 30 n (by have := L9r n hn9; omega) (Or.inl ⟨by decide, by decide⟩))
        rw [e30]; exact (g10 n hn9).2
  rcases hkd with ⟨h1, -, -, -, h5⟩ | ⟨h1, -, -, -, h5⟩
  · rw [h5, show decide (I ((3 : Nat) : Int) = (8 : Int32)) = false from rfl, br_f]
    exact main 0 (Or.inl ⟨h1, rfl⟩)
  · rw [h5, show decide (I ((8 : Nat) : Int) = (8 : Int32)) = true from rfl, br_t]
    exact main 1 (Or.inr ⟨h1, rfl⟩)
end
