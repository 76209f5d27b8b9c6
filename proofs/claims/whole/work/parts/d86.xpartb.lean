/-! a part, both: behind its arrow -/
set_option maxRecDepth 100000
/-- a part or none, as a number -/
def optI : Option Nat → Int32
  | none => -1
  | some k => I (k : Nat)
section
variable {α β : Type} {m0 w0 m w m2 w2 m3 w3 v u w1 mS wS V Z : MS} {K nm Nk W W2 : Nat → Nat} {N T D d o a a0 b b' b0 c cm cm0 cm2 cm3 q q0 r s lo lo0 mid hi i j f f2 n k kk kd p p2 σ tk x xa xb xc xd gx kg kb mb nd fr M m1 lv y kf : Nat} {Q Q0 Q1 Q2 Q3 Q4 : Nat → Nat} {sc sc0 sc2 sc3 t t0 t2 : SCT} {e e0 e2 : List Nat × List Nat × Nat} {g g2 lst l2 : Bool} {L L1 L2 Lr S hs fs : List Nat} {fst last : Option Nat} {l : List Int32} {idc fof cvr : Int → Int → Int} {z : Unit} {rt v1 v2 v3 v4 v5 v8 x1 x2 x3 x4 t4 t5 xw : Int32} {fc : MS → Int32 → Option (MS × α)} {RR : MS → α → MS → Int32 → Prop} {G : MS → Int32 → Int32 → Int32 → Int32 → Int32 → Option (MS × Int32)}
/-- the compiler's state goes on, with words only -/
theorem XTF_cz (h : XTF m0 w0 K T nm Nk g L lo hi a b cm cm2 q r Q Q2 sc sc2 m w m2 w2) (hC : XCS m0 nm Z b' cm2 sc2 g) (hb : b ≤ b') (hi' : ∀ k, k ≠ 441 → Z.1 k = m2.1 k) (hr : ∀ k, k ≠ 23 → Z.2.2.1 k = m2.2.2.1 k) (hw : ∀ j, j < a → Z.2.2.1 23 j = m2.2.2.1 23 j) : XTF m0 w0 K T nm Nk g L lo hi a b' cm cm2 q r Q Q2 sc sc2 m w Z w2 := by
  obtain ⟨a1, a2, a3, a4, ⟨W, a5, a6⟩, a7, a8, a9, a10⟩ := h
  exact ⟨⟨a1.1, by omega, a1.2.2⟩, hC, a3, a4, ⟨W, a5, by rw [hr 42 (by decide)]; exact a6⟩, ⟨fun k k1 k2 => (hi' k k1).trans (a7.1 k k1 k2), fun k k1 k2 k3 => by rw [hr k k1]; exact a7.2.1 k k1 k2 k3, fun j hj => (hw j hj).trans (a7.2.2.1 j hj), fun k j k1 k2 k3 => by rw [hr k (by omega)]; exact a7.2.2.2.1 k j k1 k2 k3, fun j hj => by rw [hr 40 (by decide)]; exact a7.2.2.2.2.1 j hj, fun j hj => by rw [hr 41 (by decide)]; exact a7.2.2.2.2.2 j hj⟩, a8, a9, a10⟩
theorem XTF_hx (h : XTF m0 w0 K T nm Nk g L lo hi a b cm cm2 q r Q Q2 sc sc2 m w m2 w2) {H : List Nat} (k : HNX nm sc2 cm2 H) : HNX nm sc cm H := by
  obtain ⟨a1, a2, a3, a4, ⟨W, a5, a6⟩, a7⟩ := h
  exact HNX_mo a5.1 a1.2.2.1 k
theorem XTF_tot (h : XTF m0 w0 K T nm Nk g L lo hi a b cm cm2 q r Q Q2 sc sc2 m w m2 w2) (hs : (hdS sc2).1 = (hdS sc).1) : tot sc2 = tot sc ∧ Onm nm sc2 = Onm nm sc := by
  obtain ⟨a1, a2, a3, a4, ⟨W, a5, a6⟩, a7⟩ := h
  refine ⟨?_, by unfold Onm; rw [hs]⟩
  have nx := (a5.2 rfl).2
  cases sc with
  | nil =>
    cases sc2 with
    | nil => rfl
    | cons e t => exact nx.elim
  | cons e t =>
    cases sc2 with
    | nil => exact nx.elim
    | cons e2 t2 =>
      have h1 := (BDs_len nx.2.1).2
      have hs : e2.1 = e.1 := hs
      show tot t2 + e2.1.length = tot t + e.1.length
      rw [h1, hs]
/-- what a part leaves as it was -/
def PFR (nd : Nat) (last : Option Nat) (a q : Nat) (Q Q9 : Nat → Nat) (m w m9 w9 : MS) : Prop := (∀ j, j < a → m9.2.2.1 23 j = m.2.2.1 23 j) ∧ (∀ k u, 30 ≤ k → k ≤ 32 → u < q → m9.2.2.1 k u = m.2.2.1 k u) ∧ (∀ k n, grp k ≠ 0 → n < Q (grp k) → (k = 28 → n ≠ nd) → (k = 45 → n ∉ last.toList) → w9.2.2.1 k n = w.2.2.1 k n) ∧ (∀ n, n < Q 39 → w9.2.2.2 34 n = w.2.2.2 34 n) ∧ QLE Q Q9
set_option maxHeartbeats 1000000 in
theorem part_b {Gc : MS → Int32 → Int32 → Int32 → Int32 → Int32 → Option (MS × Int32)} {RR : MS → Int32 → MS → Int32 → Prop} (c : CTZ m0 w0 K T nm Nk) (IE : HXE N m0 w0 K T nm Nk fof cvr f) (h0 : XTF m0 w0 K T nm Nk false L lo0 lo a0 a cm0 cm q0 q Q0 Q (e0 :: t0) sc mS wS m w) (hsame : (hdS sc).1 = e0.1) (hnd : Q0 32 ≤ nd ∧ nd < Q 32) (hlast : ∀ l, last = some l → Q0 46 ≤ l ∧ l < Q 46) (hfl : fst = none ↔ last = none) (hk5 : HKc m hs v5) (hhs : ∀ h, h ∈ hs → h < a) (hH : XTF m0 w0 K T nm Nk false [] lo (mid + 1) a b cm cm2 q s Q Q2 sc sc2 m w m2 w2) (hfs : HKc m2 fs v8) (hfr : ∀ h, h ∈ fs → a ≤ h ∧ h < b) (hk46 : Q 46 < Q2 46 ∧ Q 46 < 16000 ∧ w2.2.2.1 45 (Q 46) = -1 ∧ w2.2.2.1 43 (Q 46) = I (Q2 32 : Nat)) (hG : HDG w0 nm fof cvr kd a b cm2 q s (Q 46) Q Q2 sc sc2 m2 w2 fs) (hn : n ≤ 8015) (h20 : A m0 20 n = ((mb : Nat) : Int)) (hB : RWcK m0 1 26 (XPcK m0 f o 3) kb mb (mid + 1) hi xc xd s r) (hxd : xd ≤ 8015) (hr4 : r ≤ 400) (hcl : NEC (K hi) ∧ K hi ≠ 26 ∧ hi ≤ T) (htot : tot sc2 + (hi - (mid + 1)) ≤ 4000 ∧ sc2.length ≤ o + 1) (hkd : (kd = 1 ∧ v3 = 15) ∨ (kd = 2 ∧ v3 = 0) ∨ (kd = 3 ∧ v3 = 33)) (hRT : RTd w (nd + 1) fr true (Q 32) (A w 28 nd) Lr)
    (hh : ∀ m9 w9 a2 cm9 Q9 sc9 L2 hn, XTF m0 w0 K T nm Nk false (L ++ L2) lo0 hi a0 a2 cm0 cm9 q0 r Q0 Q9 (e0 :: t0) sc9 mS wS m9 w9 → (hdS sc9).1 = e0.1 → HKc m9 (hn :: hs) (I (hn : Nat)) → (a ≤ hn ∧ hn < a2) → PFR nd last a q Q Q9 m w m9 w9 → (Q 46 < Q9 46 ∧ w9.2.2.1 45 (Q 46) = -1 ∧ ∀ l, last = some l → w9.2.2.1 45 l = I (Q 46 : Nat)) → (∃ fr, RTd w9 (nd + 1) fr true (Q9 32) (A w9 28 nd) (L2 ++ Lr)) → (∀ n, n ∈ L2 → Q 32 ≤ n ∧ A w9 30 n = 0) → (∀ H, HNX nm sc9 cm9 H → HNX nm sc cm H) → PTo w0 nm fof cvr lst L2 kd σ nd a a2 q r Q Q9 (e0 :: t0) cm9 sc9 m9 w9 hn (Q 46) → PP RR (ck (inb (I (n : Nat)) 8016) (Gc m9 v2 v3 (lsI lst) (I (hn : Nat)) (m9.2.2.1 21 n))) (kb_M_parts0_214 N (krc_M_behind N (d + 1)) G w9 x1 (I (nd : Nat)) (optI (some (fst.getD (Q 46)))) (I (Q 46 : Nat)))) : PP RR (br (decide (v3 = 0)) (jb_Cm_parts_38 N (jrc_Cm_fun N D) Gc m2 v2 v3 (lsI lst) v5 (I (n : Nat)) (m.1 706) v8) (bnd (jm_Co_put N m2 v3) (fun u25 _ => jb_Cm_parts_38 N (jrc_Cm_fun N D) Gc u25 v2 v3 (lsI lst) v5 (I (n : Nat)) (m.1 706) v8))) (kpC N (krc_M_behind N (d + 1)) G w2 x1 (I (nd : Nat)) (optI fst) (optI last) (I (Q 46 : Nat)) (I ((hdS sc).1.length : Nat))) := by
  have tt4 := c.2.1.1.1
  have hC2 := hH.2.1
  have b24 : b ≤ 23990 := hC2.1.2.2.1.2.2
  have X1 := XTF_tr h0 hH
  obtain ⟨ts, os⟩ := XTF_tot h0 hsame
  have m706 : m.1 706 = I (tot (e0 :: t0) : Nat) := by rw [h0.2.1.1.2.1.2.2.1, ts]
  have e1l : (hdS sc).1.length = e0.1.length := by rw [hsame]
  have oN : Onm nm sc = Onm nm (e0 :: t0) := os
  rw [m706, e1l]
  have leH := hH.2.2.2.2.2.2.1.2.1
  have le0 := h0.2.2.2.2.2.2.1.2.1
  have le0H := X1.2.2.2.2.2.2.1.2.1
  have H32 := leH 32 (by decide)
  have H46 := leH 46 (by decide)
  have Z32 := le0 32 (by decide)
  have a0a := h0.1
  have aH := hH.1
  have q16 : Q 32 ≤ 24000 := (XRS_q h0.2.2.1.1).2
  have go : ∀ l : List Int32, ((kd = 1 ∧ l = [15]) ∨ (kd = 2 ∧ l = []) ∨ (kd = 3 ∧ l = [33])) → XCS m0 nm (ptcs m2 b l) (b + l.length) cm2 sc2 false → PP RR (jb_Cm_parts_38 N (jrc_Cm_fun N D) Gc (ptcs m2 b l) v2 v3 (lsI lst) v5 (I (n : Nat)) (I (tot (e0 :: t0) : Nat)) v8) (kpC N (krc_M_behind N (d + 1)) G w2 x1 (I (nd : Nat)) (optI fst) (optI last) (I (Q 46 : Nat)) (I (e0.1.length : Nat))) := fun l hl hCl => by
    have ll : l.length ≤ 1 := by rcases hl with ⟨-, rfl⟩ | ⟨-, rfl⟩ | ⟨-, rfl⟩ <;> decide
    have X2 := XTF_tr X1 (XTF_ps (K := K) (Nk := Nk) (m := m2) (a := b) (l := l) hCl X1.2.2.1.1 X1.2.2.1.2)
    unfold jb_Cm_parts_38 kpC
    rw [i_nt2 (show n ≤ 100000 by omega), tre (XCS_fr hCl) (by decide) h20]
    refine l_ck (fun _ => ?_)
    refine pp_bb (pp_mo (x_body (o := o) (k := kb) (lst := lst) (d := d + 1) c IE hB hxd hr4 hcl hCl X1.2.2.1.1 X1.2.2.1.2 htot) (fun m6 z w6 rt hz => ?_))
    obtain ⟨b6, cm6, Q3, sc6, rn, f2, L2, rfl, z2, z3, z4, z5, z6⟩ := hz
    obtain ⟨zF, zC⟩ := XTF_of z3
    have X5 := XTF_tr X2 zF
    rw [List.append_nil, List.append_nil] at X5
    have leB := zF.2.2.2.2.2.2.1.2.1
    have B32 := leB 32 (by decide)
    have B46 := leB 46 (by decide)
    have rL := zF.2.2.2.2.2.2.2.2
    have q24 : Q3 32 ≤ 24000 := (XRS_q zF.2.2.1.1).2
    have rn16 : rn ≤ 24000 := by omega
    have b6a := zF.1
    have hbig : rn ≤ 24000 ∧ nd ≤ 24000 := ⟨by omega, by omega⟩
    · refine rt_add hbig.1 hbig.2 (fun V hV1 hVJ hVr hV28 hV29 => ?_)
      have X6 := XTF_rw X5 hV1 (fun k n hk => hVr k n (by
        by_cases y : k = 28
        · subst y
          have hk : 28 < 23 ∨ 58 < 28 ∨ grp 28 = 0 ∨ n < Q0 (grp 28) := hk
          have g28 : grp 28 = 32 := rfl
          rw [g28] at hk
          exact Or.inr (by omega)
        · exact Or.inl y) (by
        by_cases y : k = 29
        · subst y
          have g29 : grp 29 = 32 := rfl
          rw [g29] at hk
          exact Or.inr (by omega)
        · exact Or.inl y)) hVJ
      refine fg_pf c X6 (fun m7 w7 b7 Q4 sc7 X7 same7 hQ7 hb7 mo7 mr7 hq7 hx7 hfg => ?_)
      have p7 : b7 ≤ 23990 := X7.2.1.1.2.2.1.2.2
      refine nd_26 c X7 (fun V8 h16 X8 hQ8 v23 v25 v26 hr8 => ?_)
      have m7b : ∀ j, j < b → m7.2.2.1 23 j = m2.2.2.1 23 j := fun j hj => by
        rw [mo7 j (by omega), zF.2.2.2.2.2.1.2.2.1 j (by omega), ptcs_o (Or.inl hj)]
      have m2a : ∀ j, j < a → m2.2.2.1 23 j = m.2.2.1 23 j := hH.2.2.2.2.2.1.2.2.1
      refine pt_end (hs := hs) (fs := fs) X8.2.1 (HKc_fr hk5 (fun j hj => by rw [m7b j (by have := hhs j hj; omega), m2a j (hhs j hj)])) (HKc_fr hfs (fun j hj => m7b j (hfr j hj).2)) ⟨fun h hm => by have := hhs h hm; omega, fun h hm => by
        have h1 := hfr h hm
        exact ⟨by omega, fun y => by have := hhs h y; omega⟩⟩ (fun Z hZC hZi hZr hZJ hZo hZf hZ18 hZk => ?_)
      have X9 := XTF_cz X8 hZC (by omega) hZi hZr (fun j hj => hZo j (by omega) (fun y => by have := hfr j y; omega))
      have fin : ∀ V9, XTF m0 w0 K T nm Nk false (L ++ L2) lo0 hi a0 (b7 + 2) cm0 cm6 q0 r Q0 (qst Q4 32 (Q4 32 + 1)) (e0 :: t0) sc7 mS wS Z V9 → (∀ k n, (k ≠ 45 ∨ n ∉ last.toList) → V9.2.2.1 k n = V8.2.2.1 k n) → V9.2.2.2 = V8.2.2.2 → (∀ l, last = some l → V9.2.2.1 45 l = I (Q 46 : Nat)) → PP RR (ck (inb (I (n : Nat)) 8016) (Gc Z v2 v3 (lsI lst) (I ((b7 + 1 : Nat) : Int)) (Z.2.2.1 21 n))) (kb_M_parts0_214 N (krc_M_behind N (d + 1)) G V9 x1 (I (nd : Nat)) (optI (some (fst.getD (Q 46)))) (I (Q 46 : Nat))) := fun V9 X10 hV9r hV9J hV9l => by
        have lnot : ∀ n, Q 46 ≤ n → n ∉ last.toList := fun n hn y => by
          have e : last = some n := by simpa using y
          have := (hlast n e).2
          omega
        have bkA : ∀ k n, grp k ≠ 0 → n < Q3 (grp k) → (k ≠ 28 ∨ n ≠ nd) → (k ≠ 29 ∨ n ≠ rn) → (k ≠ 45 ∨ n ∉ last.toList) → V9.2.2.1 k n = w6.2.2.1 k n := fun k n hg hn' h28 h29 h45 => by
          have l4 : n < Q4 (grp k) := by
            by_cases y : grp k = 32
            · rw [y] at hn' ⊢; omega
            · rw [hq7.2 _ y]; exact hn'
          rw [hV9r k n h45, hr8 k n (by
            by_cases y : grp k = 32
            · rw [y] at l4; exact Or.inr (Or.inr (by omega))
            · by_cases y1 : k < 23
              · exact Or.inl y1
              · by_cases y2 : 31 < k
                · exact Or.inr (Or.inl y2)
                · exact absurd (by unfold grp; rw [if_pos (by omega)]) y), hQ7.2.1 k n hg hn', hVr k n h28 h29]
        have bkB : ∀ k n, grp k ≠ 0 → n < Q2 (grp k) → (k ≠ 28 ∨ n ≠ nd) → (k ≠ 45 ∨ n ∉ last.toList) → V9.2.2.1 k n = w2.2.2.1 k n := fun k n hg hn' h28 h45 => by
          rw [bkA k n hg (Nat.lt_of_lt_of_le hn' (leB _ (grp_m hg))) h28 (by
            by_cases y : k = 29
            · subst y
              have hn' : n < Q2 32 := hn'
              exact Or.inr (by omega)
            · exact Or.inl y) h45, zF.2.2.2.2.2.2.1.1.2.1 k n hg hn']
        have bkC : ∀ k n, grp k ≠ 0 → n < Q (grp k) → (k ≠ 28 ∨ n ≠ nd) → (k ≠ 45 ∨ n ∉ last.toList) → V9.2.2.1 k n = w.2.2.1 k n := fun k n hg hn' h28 h45 => by
          rw [bkB k n hg (Nat.lt_of_lt_of_le hn' (leH _ (grp_m hg))) h28 h45, hH.2.2.2.2.2.2.1.1.2.1 k n hg hn']
        have le7 : QLE Q3 (qst Q4 32 (Q4 32 + 1)) := fun k hk => by
          by_cases y : k = 32
          · rw [y, qst_at]; omega
          · rw [qst_no y, hq7.2 k y]; exact Nat.le_refl _
        have Z46 := le7 46 (by decide)
        have bkJ : ∀ n, n < Q3 39 → V9.2.2.2 34 n = w6.2.2.2 34 n := fun n hn' => by
          have l4 : n < Q4 39 := by rw [hq7.2 39 (by decide)]; exact hn'
          rw [hV9J, hQ8.2.2 34 n (Or.inr l4), hQ7.2.2 34 n (Or.inr hn'), hVJ]
        have J2 : ∀ n, n < Q2 39 → V9.2.2.2 34 n = w2.2.2.2 34 n := fun n hn' => by
          rw [bkJ n (Nat.lt_of_lt_of_le hn' (leB 39 (by decide))), zF.2.2.2.2.2.2.1.1.2.2 34 n (Or.inr hn')]
        have Jw : ∀ n, n < Q 39 → V9.2.2.2 34 n = w.2.2.2 34 n := fun n hn' => by
          rw [J2 n (Nat.lt_of_lt_of_le hn' (leH 39 (by decide))), hH.2.2.2.2.2.2.1.1.2.2 34 n (Or.inr hn')]
        have p30 : ∀ k u, 30 ≤ k → k ≤ 32 → Z.2.2.1 k u = m6.2.2.1 k u := fun k u k1 k2 => by rw [hZr k (by omega), mr7 k (by omega)]
        have p30s : ∀ k u, 30 ≤ k → k ≤ 32 → u < s → Z.2.2.1 k u = m2.2.2.1 k u := fun k u k1 k2 hu => by
          rw [p30 k u k1 k2, zF.2.2.2.2.2.1.2.2.2.1 k u k1 k2 (Or.inl hu), ptcs_r (by omega)]
        have wZ6 : ∀ j, b ≤ j → j < b6 → Z.2.2.1 23 j = m6.2.2.1 23 j := fun j j1 j2 => by
          rw [hZo j (by omega) (fun y => by have := hfr j y; omega), mo7 j j2]
        have V23 : ∀ n, n < Q3 32 → A V9 23 n = A w6 23 n := fun n hn' => congrArg Int32.toInt (bkA 23 n (by decide) hn' (Or.inl (by decide)) (Or.inl (by decide)) (Or.inl (by decide)))
        have V30 : ∀ n, n < Q3 32 → A V9 30 n = A w6 30 n := fun n hn' => congrArg Int32.toInt (bkA 30 n (by decide) hn' (Or.inl (by decide)) (Or.inl (by decide)) (Or.inl (by decide)))
        have q4lt : ∀ n, n ≠ Q4 32 → ∀ k, V8.2.2.1 k n = w7.2.2.1 k n := fun n hn' k => hr8 k n (Or.inr (Or.inr hn'))
        have n28 : A V9 28 nd = ((rn : Nat) : Int) := by
          show (V9.2.2.1 28 nd).toInt = _
          rw [hV9r 28 nd (Or.inl (by decide)), q4lt nd (by omega) 28, hQ7.2.1 28 nd (by decide) (by show nd < Q3 32; omega), hV28]
          exact I_ti (by omega) (by omega)
        have n29 : A V9 29 rn = A w 28 nd := by
          show (V9.2.2.1 29 rn).toInt = (w.2.2.1 28 nd).toInt
          rw [hV9r 29 rn (Or.inl (by decide)), q4lt rn (by omega) 29, hQ7.2.1 29 rn (by decide) (by show rn < Q3 32; omega), hV29, zF.2.2.2.2.2.2.1.1.2.1 28 nd (by decide) (by show nd < Q2 32; omega), hH.2.2.2.2.2.2.1.1.2.1 28 nd (by decide) (by show nd < Q 32; omega)]
        refine hh Z V9 (b7 + 2) cm6 (qst Q4 32 (Q4 32 + 1)) sc7 L2 (b7 + 1) X10 same7 hZk ⟨by omega, by omega⟩ ⟨fun j hj => ?_, fun k u k1 k2 hu => ?_, fun k n k1 k2 k3 k4 => ?_, fun n hn' => Jw n hn', fun k hk => Nat.le_trans (leH k hk) (Nat.le_trans (leB k hk) (le7 k hk))⟩ ⟨by omega, ?_, hV9l⟩ ⟨max f2 fr + 1, ?_⟩ (fun n hn' => ?_) (fun H hx => ?_) (fun C P R J H fi hxH => ?_)
        · rw [hZo j (by omega) (fun y => by have := hfr j y; omega), m7b j (by omega), m2a j hj]
        · rw [p30s k u k1 k2 (by omega), hH.2.2.2.2.2.1.2.2.2.1 k u k1 k2 (Or.inl hu)]
        · refine bkC k n k1 k2 ?_ ?_
          · by_cases y : k = 28
            · exact Or.inr (k3 y)
            · exact Or.inl y
          · by_cases y : k = 45
            · exact Or.inr (k4 y)
            · exact Or.inl y
        · rw [bkB 45 (Q 46) (by decide) (by show Q 46 < Q2 46; omega) (Or.inl (by decide)) (Or.inr (lnot _ (Nat.le_refl _)))]
          exact hk46.2.2.1
        · refine Or.inr ⟨rn, L2, Lr, n28, ?_, ?_, rfl⟩
          · rw [n28]
            refine RT_le (f := f2) ?_ (Nat.le_max_left _ _)
            refine RT_w (i := Q2 32) (by omega) f2 false (Q3 32) _ _ _ (le7 32 (by decide)) ?_
            exact (RT_fr (w := w6) (v := V9) f2).2 _ rn L2 (fun n n1 n2 => ⟨V23 n (by omega), congrArg Int32.toInt (bkA 28 n (by decide) (by show n < Q3 32; omega) (Or.inr (by omega)) (Or.inl (by decide)) (Or.inl (by decide)))⟩) (fun n n1 n2 => congrArg Int32.toInt (bkA 29 n (by decide) (by show n < Q3 32; omega) (Or.inl (by decide)) (Or.inr (by omega)) (Or.inl (by decide)))) z5
          · rw [n29]
            refine RT_le (f := fr) ?_ (Nat.le_max_right _ _)
            refine RT_w (i := nd + 1) (Nat.le_refl _) fr true (Q 32) _ _ _ (by have := le7 32 (by decide); omega) ?_
            exact (RT_fr (w := w) (v := V9) fr).1 (Q 32) (Q 32) _ Lr (Nat.le_refl _) (fun n n1 n2 => ⟨congrArg Int32.toInt (bkC 23 n (by decide) n2 (Or.inl (by decide)) (Or.inl (by decide))), congrArg Int32.toInt (bkC 28 n (by decide) n2 (Or.inr (by omega)) (Or.inl (by decide))), congrArg Int32.toInt (bkC 29 n (by decide) n2 (Or.inl (by decide)) (Or.inl (by decide)))⟩) hRT
        · have h1 := rL n hn'
          exact ⟨by omega, by rw [V30 n h1.2]; exact z6 n hn'⟩
        · exact XTF_hx hH (XTF_hx zF (hx7 _ _ hx))
        · have hx6 := hx7 _ _ hxH
          have hxs2 := XTF_hx zF hx6
          have fdB : FNd w0 fof cvr C P R J m6 w6 (b + l.length) b6 s r Q2 Q3 lst L2 := by
            refine FNx_sub fi ⟨by omega, by omega⟩ ⟨by omega, Nat.le_refl _⟩ leH le7 (fun j j1 j2 => wZ6 j (by omega) j2) (fun k u k1 k2 _ _ => p30 k u k1 k2) ⟨fun k n k1 k2 k3 k4 k5 => bkA k n k1 k5 ?_ (Or.inl k2) ?_, fun n _ hn' => bkJ n hn'⟩ (fun n n1 n2 => by rw [V30 n n2]) (fun j hj => Or.inr ?_) (fun j hj => Or.inl ?_)
            · by_cases y : k = 28
              · subst y
                have k4 : Q2 32 ≤ n := k4
                exact Or.inr (by omega)
              · exact Or.inl y
            · by_cases y : k = 45
              · subst y
                have k4 : Q2 46 ≤ n := k4
                exact Or.inr (lnot n (by omega))
              · exact Or.inl y
            · have : j = b7 + 1 := by simpa using hj
              omega
            · have : j = Q 46 := by simpa using hj
              omega
          have fdH : FNx w0 fof cvr C P R J m2 w2 a b q s Q Q2 lst [] fs [Q 46] := by
            refine FNx_mo fi ⟨Nat.le_refl _, by omega⟩ ⟨Nat.le_refl _, b6a.2.2.2⟩ QLE_rf (fun k hk => Nat.le_trans (leB k hk) (le7 k hk)) (fun j j1 j2 j3 => ?_) (fun k u k1 k2 _ hu => p30s k u k1 k2 hu) (fun k n k1 k2 k3 k4 k5 k6 => bkB k n k1 k5 ?_ ?_) (fun n _ hn' => J2 n hn') (fun n n1 n2 => ?_) (fun j hj j1 j2 => ?_) (fun j hj _ _ => hj)
            · rw [hZo j (by omega) j3, m7b j j2]
            · by_cases y : k = 28
              · subst y
                have k4 : Q 32 ≤ n := k4
                exact Or.inr (by omega)
              · exact Or.inl y
            · by_cases y : k = 45
              · subst y
                have k4 : Q 46 ≤ n := k4
                exact Or.inr (lnot n k4)
              · exact Or.inl y
            · have e30 : A V9 30 n = A w2 30 n := congrArg Int32.toInt (bkB 30 n (by decide) n2 (Or.inl (by decide)) (Or.inl (by decide)))
              rw [e30, if_neg (fun y => by have := rL n y.2; omega), if_neg (fun y => by cases y.2)]
            · have : j = b7 + 1 := by simpa using hj
              omega
          have hCf : ∀ h, h ∈ fs → C h = ((b7 + 2 : Nat) : Int) := fun h hm => by
            have h1 := hfr h hm
            rw [fi.1 h (by omega) (by omega) (fun y => by
              have : h = b7 + 1 := by simpa using y
              omega)]
            show (Z.2.2.1 23 h).toInt = _
            rw [hZf h hm]
            exact I_ti (by omega) (by omega)
          obtain ⟨g1, g2⟩ := hG C P R J H lst (b7 + 2) σ fdH hxs2 (by omega) hCf
          obtain ⟨c1, c2⟩ := zC C P R J H fdB hx6
          refine ⟨fun u u1 u2 => ?_, fun t b1 kn hCh hr26 hcr h45 hz => ?_⟩
          · by_cases y : u < s
            · exact g1 u u1 y
            · exact c1 u (by omega) u2
          · rw [← oN]
            refine g2 (by rw [oN, h45]; exact hz) ?_
            have R43 := FNx_R fi (j := 43) (k := Q 46) (by omega) ⟨Nat.le_refl _, by omega⟩
            have hC7 : ∀ j, b6 ≤ j → j < b7 → C j = A m7 23 j := fun j j1 j2 => by
              rw [fi.1 j (by omega) (by omega) (fun y => by
                have : j = b7 + 1 := by simpa using y
                omega)]
              show (Z.2.2.1 23 j).toInt = (m7.2.2.1 23 j).toInt
              rw [hZo j j2 (fun y => by have := hfr j y; omega)]
            have c18 : C b7 = 18 := by
              rw [fi.1 b7 (by omega) (by omega) (fun y => by
                have : b7 = b7 + 1 := by simpa using y
                omega)]
              show (Z.2.2.1 23 b7).toInt = _
              rw [hZ18]; rfl
            have ro : ∀ k i, 23 ≤ k ∧ k ≤ 31 → k ≠ 27 ∧ k ≠ 29 ∧ k ≠ 30 → Q 32 ≤ i → i < Q4 32 + 1 → R k i = A V9 k i := fun k i k1 k2 i1 i2 => by
              have gk : grp k = 32 := if_pos k1
              exact fi.2.2.2.1.1 k i k2.1 k2.2.1 k2.2.2 (by omega) (by rw [gk]; decide) (by rw [gk]; exact i1) (by rw [gk, qst_at]; exact i2) (fun y => by omega)
            have a23 : A V9 23 (Q4 32) = 26 := by
              show (V9.2.2.1 23 (Q4 32)).toInt = _
              rw [hV9r 23 _ (Or.inl (by decide)), v23]; rfl
            have a25 : A V9 25 (Q4 32) = -2 := by
              show (V9.2.2.1 25 (Q4 32)).toInt = _
              rw [hV9r 25 _ (Or.inl (by decide)), v25]; rfl
            have a26 : A V9 26 (Q4 32) = ((nd : Nat) : Int) := by
              show (V9.2.2.1 26 (Q4 32)).toInt = _
              rw [hV9r 26 _ (Or.inl (by decide)), v26]
              exact I_ti (by omega) (by omega)
            have hq4 := hq7.1
            obtain ⟨b1', b2'⟩ := XB c.2.2.1 X7.2.1 X7.2.2.1.1 hxH h16
            have on7 : Onm nm sc7 = Onm nm (e0 :: t0) := by unfold Onm; rw [same7]; rfl
            have r26 : CRe C R J none b7 (Q4 32) H (Onm nm sc7) := cr_26 b1' b2' ((ro 23 _ (by decide) (by decide) (by omega) (by omega)).trans a23) c18 hCh ((ro 25 _ (by decide) (by decide) (by omega) (by omega)).trans a25) ((ro 26 _ (by decide) (by decide) (by omega) (by omega)).trans a26) hr26 (by rw [on7]; exact hcr)
            have rFG := hfg C R J H none hC7 (fun y => by
              have e : ∀ k, A V9 k (Q3 32) = A w7 k (Q3 32) ∨ k = 45 := fun k => by
                by_cases z : k = 45
                · exact Or.inr z
                · refine Or.inl (congrArg Int32.toInt ?_)
                  rw [hV9r k _ (Or.inl z), q4lt (Q3 32) (by omega) k]
              exact ⟨(ro 23 _ (by decide) (by decide) (by omega) (by omega)).trans ((e 23).resolve_right (by decide)), (ro 25 _ (by decide) (by decide) (by omega) (by omega)).trans ((e 25).resolve_right (by decide))⟩) hx6 r26
            obtain ⟨dB, hB2⟩ := c2 none ⟨fun _ => rfl, fun _ => rfl⟩ rFG
            refine ⟨dB, Q2 32, ?_, ?_⟩
            · rw [R43]
              show (V9.2.2.1 43 (Q 46)).toInt = _
              rw [bkB 43 (Q 46) (by decide) (by show Q 46 < Q2 46; omega) (Or.inl (by decide)) (Or.inl (by decide)), hk46.2.2.2]
              exact I_ti (by omega) (by omega)
            · have cbl : ∀ x, l = [x] → C b = x.toInt := fun x hx => by
                subst hx
                have bl : b + 1 ≤ b6 := b6a.2.1
                rw [fi.1 b (by omega) (by omega) (fun y => by
                  have : b = b7 + 1 := by simpa using y
                  omega)]
                show (Z.2.2.1 23 b).toInt = _
                rw [wZ6 b (Nat.le_refl _) (by omega), zF.2.2.2.2.2.1.2.2.1 b (by show b < b + 1; omega)]
                exact congrArg Int32.toInt (ptcs_at (l := [x]) (k := 0) rfl)
              rcases hl with ⟨h1, rfl⟩ | ⟨h1, rfl⟩ | ⟨h1, rfl⟩
              · exact Or.inr (Or.inl ⟨h1, cbl 15 rfl, hB2⟩)
              · exact Or.inr (Or.inr (Or.inl ⟨h1, hB2⟩))
              · exact Or.inr (Or.inr (Or.inr ⟨h1, cbl 33 rfl, hB2⟩))
      -- the row of the last part
      cases hL : last with
      | none =>
        have ef : fst = none := hfl.mpr hL
        have e1 : optI (none : Option Nat) = -1 := rfl
        rw [e1, show decide ((-1 : Int32) = -1) = true from rfl, br_t]
        have := fin V8 X9 (fun _ _ _ => rfl) rfl (fun l hl => by rw [hL] at hl; cases hl)
        rw [ef] at this
        exact this
      | some l =>
        have hl2 := hlast l hL
        have k16 := hk46.2.1
        have ef : ∃ y, fst = some y := by
          cases hF : fst with
          | none => rw [hfl.mp hF] at hL; cases hL
          | some y => exact ⟨y, rfl⟩
        obtain ⟨y, ef⟩ := ef
        have e1 : optI (some l) = I (l : Nat) := rfl
        rw [e1, decide_eq_false (fun z => by
          have := (I_eq (x := ((l : Nat) : Int)) (y := -1) (by omega) (by omega) (by decide) (by decide)).mp (z.trans rfl)
          omega), br_f, i_nt2 (p := l) (by omega)]
        refine r_ck (fun _ => r_lt ?_)
        have hW : W46 V8 (upA V8 45 (upd (V8.2.2.1 45) l (I (Q 46 : Nat)))) 45 l (I (Q 46 : Nat)) := w46_of
        generalize upA V8 45 (upd (V8.2.2.1 45) l (I (Q 46 : Nat))) = V9 at hW
        have := fin V9 (W46_rw X9 hW (by omega) hl2.1) (fun k n hk => hW.2.2.1 k n (by
          rcases hk with hk | hk
          · exact Or.inl hk
          · refine Or.inr (fun z => hk ?_)
            rw [z, hL]; exact List.mem_cons_self)) hW.2.1 (fun l' hl' => by
          rw [hL] at hl'
          cases hl'
          exact hW.2.2.2)
        rw [ef] at this ⊢
        exact this
  rcases hkd with ⟨h1, rfl⟩ | ⟨h1, rfl⟩ | ⟨h1, rfl⟩
  · rw [show decide ((15 : Int32) = 0) = false from rfl, br_f]
    refine l_put hC2.1.2.2.1.1 hC2.1.2.2.1.2.2 (fun ha => ?_)
    exact go [15] (Or.inl ⟨h1, rfl⟩) (XCS_put hC2 ha)
  · rw [show decide ((0 : Int32) = 0) = true from rfl, br_t]
    exact go [] (Or.inr (Or.inl ⟨h1, rfl⟩)) hC2
  · rw [show decide ((33 : Int32) = 0) = false from rfl, br_f]
    refine l_put hC2.1.2.2.1.1 hC2.1.2.2.1.2.2 (fun ha => ?_)
    exact go [33] (Or.inr (Or.inr ⟨h1, rfl⟩)) (XCS_put hC2 ha)
end
