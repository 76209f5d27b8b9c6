/-! parts, both: one behind another -/
set_option maxRecDepth 100000
/-- what is known between two parts: aP: where they begin; nd: their node, ndr: its rows -/
def PTVs (m0 w0 : MS) (K : Nat → Nat) (T : Nat) (nm Nk : Nat → Nat) (fof cvr : Int → Int → Int) (lst : Bool) (kd σ nd : Nat) (ndr : Nat → Int32) (lo0 a0 aP cm0 q0 : Nat) (Q0 Q1 : Nat → Nat) (sc0 : SCT) (mS wS : MS) (L hs : List Nat) (fst last : Option Nat) (lo a cm q : Nat) (Q : Nat → Nat) (sc : SCT) (m w : MS) (v5 : Int32) : Prop :=
  XTF m0 w0 K T nm Nk false L lo0 lo a0 a cm0 cm q0 q Q0 Q sc0 sc mS wS m w ∧ (hdS sc).1 = (hdS sc0).1 ∧ PTq w0 nm fof cvr lst L kd σ nd aP a q0 q Q1 Q sc0 cm sc m w hs fst last ∧ (fst = none ↔ last = none) ∧ (∀ l, last = some l → Q1 46 ≤ l ∧ l < Q 46 ∧ w.2.2.1 45 l = -1) ∧ (QLE Q0 Q1 ∧ QLE Q1 Q ∧ Q0 32 ≤ nd ∧ nd < Q1 32 ∧ a0 ≤ aP ∧ aP ≤ a) ∧ ((∀ h, h ∈ hs → aP ≤ h ∧ h < a) ∧ HKc m hs v5) ∧ ((∃ fr Lr, RTd w (nd + 1) fr true (Q 32) (A w 28 nd) Lr ∧ ∀ n, n ∈ Lr ↔ n ∈ L) ∧ ∀ n, n ∈ L → Q1 32 ≤ n ∧ A w 30 n = 0) ∧ ∀ k, 23 ≤ k → k ≤ 31 → k ≠ 28 → w.2.2.1 k nd = ndr k
section
variable {α β : Type} {m0 w0 m w m2 w2 m3 w3 v u w1 mS wS V Z : MS} {K nm Nk W W2 : Nat → Nat} {N T D d o a aP a0 b b' b0 c cm cm0 cm2 cm3 q q0 r s lo lo0 mid hi hiA i j f f2 n k kk kd p p2 σ tk x xa xb xc xd gx kg kb mb nd fr M m1 lv y kf : Nat} {ndr : Nat → Int32} {Q Q0 Q1 Q2 Q3 Q4 : Nat → Nat} {sc sc0 sc2 sc3 t t0 t2 : SCT} {e e0 e2 : List Nat × List Nat × Nat} {g g2 lst l2 : Bool} {L L1 L2 Lr S hs fs : List Nat} {fst last : Option Nat} {l : List Int32} {idc fof cvr : Int → Int → Int} {z : Unit} {rt v1 v2 v3 v4 v5 v8 x1 x2 x3 x4 t4 t5 xw : Int32} {fc : MS → Int32 → Option (MS × α)} {G : MS → Int32 → Int32 → Int32 → Int32 → Int32 → Option (MS × Int32)}
/-- a part that is one of a CASE or a RECEIVE, a CHOICE -/
def PEc (m0 : MS) (f o kd : Nat) : Nat → Nat → Nat → Nat → Nat → Nat → Nat → Prop := if kd = 2 then CHPcK m0 (XPcK m0 f (o + 2) 3) (XPcK m0 f (o + 1) 3) else CSPcK m0 (PAcK m0 f) (XPcK m0 f (o + 2) 3) (XPcK m0 f (o + 1) 3)
theorem PE_bd (hE : PEc m0 f o kd n lo hi xa xb q r) : HDc n lo hi xa xb q r := by
  unfold PEc at hE
  by_cases z : kd = 2
  · rw [if_pos z] at hE; exact hE.1
  · rw [if_neg z] at hE; exact hE.1
theorem PTVs_ad (hl : lo < T) (hk : K lo ≠ 3) (h : PTVs m0 w0 K T nm Nk fof cvr lst kd σ nd ndr lo0 a0 aP cm0 q0 Q0 Q1 sc0 mS wS L hs fst last lo a cm q Q sc m w v5) : PTVs m0 w0 K T nm Nk fof cvr lst kd σ nd ndr lo0 a0 aP cm0 q0 Q0 Q1 sc0 mS wS L hs fst last (lo + 1) a cm q Q sc m (adv w lo) v5 := by
  obtain ⟨h1, h2, h3, h4, h5, h6, h7, ⟨⟨fr, Lr, h8, h9⟩, h10⟩, h11⟩ := h
  exact ⟨XTF_ad h1 hl hk, h2, h3, h4, h5, h6, h7, ⟨⟨fr, Lr, (RT_fr (w := w) (v := adv w lo) fr).1 (Q 32) (Q 32) _ Lr (Nat.le_refl _) (fun n n1 n2 => ⟨rfl, rfl, rfl⟩) h8, h9⟩, h10⟩, h11⟩
/-- one part -/
theorem part_one {Gc : MS → Int32 → Int32 → Int32 → Int32 → Int32 → Option (MS × Int32)} {RR : MS → Int32 → MS → Int32 → Prop} (c : CTZ m0 w0 K T nm Nk) (cv : CTV m0 w0 K T) (IE : HXE N m0 w0 K T nm Nk fof cvr f) (hf : f ≤ 230) (hP : PTVs m0 w0 K T nm Nk fof cvr lst kd σ nd ndr lo0 a0 aP cm0 q0 Q0 Q1 sc0 mS wS L hs fst last lo a cm q Q sc m w v5) (hE : PEc m0 f o kd n lo hi xa xb q r) (hxb : xb ≤ 8015) (hr4 : r ≤ 400) (hcl : NEC (K hi) ∧ K hi ≠ 26 ∧ hi ≤ T) (htot : tot sc0 + (hi - lo0) ≤ 4000 ∧ sc0.length ≤ o + 1) (hkd : (kd = 1 ∧ v2 = -1 ∧ v3 = 15 ∧ x1 = 0) ∨ (kd = 2 ∧ v3 = 0 ∧ x1 = 1) ∨ (kd = 3 ∧ v2 = -2 ∧ v3 = 33 ∧ x1 = 0))
    (hh : ∀ m9 w9 a2 cm9 Q9 sc9 L9 hn v9, PTVs m0 w0 K T nm Nk fof cvr lst kd σ nd ndr lo0 a0 aP cm0 q0 Q0 Q1 sc0 mS wS L9 (hn :: hs) (some (fst.getD (Q 46))) (some (Q 46)) hi a2 cm9 r Q9 sc9 m9 w9 v9 → PP RR (ck (inb (I (n : Nat)) 8016) (Gc m9 v2 v3 (lsI lst) v9 (m9.2.2.1 21 n))) (kb_M_parts0_214 N (krc_M_behind N (d + 1)) G w9 x1 (I (nd : Nat)) (optI (some (fst.getD (Q 46)))) (I (Q 46 : Nat)))) : PP RR (bnd (jm_Cm_tries N (jrc_Cm_fun N D) m v2 (I (n : Nat))) (fun u23 r23 => br (decide (v3 = 0)) (jb_Cm_parts_38 N (jrc_Cm_fun N (D + 1)) Gc u23 v2 v3 (lsI lst) v5 (I (n : Nat)) (m.1 706) r23) (bnd (jm_Co_put N u23 v3) (fun u25 _ => jb_Cm_parts_38 N (jrc_Cm_fun N (D + 1)) Gc u25 v2 v3 (lsI lst) v5 (I (n : Nat)) (m.1 706) r23)))) (kb_M_parts0_19 N (krc_M_behind N (d + 1)) G w x1 (I (nd : Nat)) (optI fst) (optI last) 1) := by
  have tt4 := c.2.1.1.1
  have hbd := PE_bd hE
  unfold HDc at hbd
  obtain ⟨h1, h2, h3, h4, h5, ⟨h6, h6b, h6c, h6d, h6e, h6f⟩, ⟨h7, h7b⟩, ⟨⟨fr, Lr, h8, h9⟩, h10⟩, h11⟩ := hP
  obtain ⟨e0, t0, rfl⟩ : ∃ e t, sc0 = e :: t := by
    obtain ⟨W, a5, -⟩ := h1.2.2.2.2.1
    have nx := (a5.2 rfl).2
    cases sc0 with
    | nil =>
      obtain ⟨e, t, rfl⟩ := PRS_ne h1.2.2.1.1.1
      exact nx.elim
    | cons e t => exact ⟨e, t, rfl⟩
  have hC := h1.2.1
  have hR := h1.2.2.1.1
  have hq := h1.2.2.1.2
  have tot1 := h1.2.2.2.1
  have tot1l := XTF_len h1
  have l0 := h1.1
  have Lr32 : ∀ n, n ∈ L → n < Q 32 := fun n hn => (h1.2.2.2.2.2.2.2.2 n hn).2
  have le1 := h6b 32 (by decide)
  -- behind the head
  have beh : ∀ (mid xc xd s kb mb m5 : Nat) (mh wh : MS) (b cm2 : Nat) (Q2 : Nat → Nat) (sc2 : SCT) (fs : List Nat) (v8 : Int32), A m0 20 n = ((mb : Nat) : Int) → RWcK m0 1 26 (XPcK m0 f (o + 2) 3) kb mb (mid + 1) hi xc xd s r → xd ≤ 8015 → XTF m0 w0 K T nm Nk false [] lo (mid + 1) a b cm cm2 q s Q Q2 sc sc2 m w mh wh → HKc mh fs v8 → (∀ h, h ∈ fs → a ≤ h ∧ h < b) → (Q 46 < Q2 46 ∧ Q 46 < 16000 ∧ wh.2.2.1 45 (Q 46) = -1 ∧ wh.2.2.1 43 (Q 46) = I (Q2 32 : Nat)) → HDG w0 nm fof cvr kd a b cm2 q s (Q 46) Q Q2 sc sc2 mh wh fs → PP RR (br (decide (v3 = 0)) (jb_Cm_parts_38 N (jrc_Cm_fun N (D + 1)) Gc mh v2 v3 (lsI lst) v5 (I (n : Nat)) (m.1 706) v8) (bnd (jm_Co_put N mh v3) (fun u25 _ => jb_Cm_parts_38 N (jrc_Cm_fun N (D + 1)) Gc u25 v2 v3 (lsI lst) v5 (I (n : Nat)) (m.1 706) v8))) (kpC N (krc_M_behind N (d + 1)) G wh x1 (I (nd : Nat)) (optI fst) (optI last) (I (Q 46 : Nat)) (I ((hdS sc).1.length : Nat))) := fun mid xc xd s kb mb m5 mh wh b cm2 Q2 sc2 fs v8 h20 hB hxd hX hk hkr hk46 hG => by
    have hB1 := (RW_hdK (XP_bdK f (o + 2) 3) hB).1
    unfold HDc at hB1
    have lX := hX.1
    have tX := hX.2.2.2.1
    have tXl := XTF_len hX
    refine part_b (hs := hs) (last := last) (Lr := Lr) (fs := fs) (kd := kd) (σ := σ) c IE h1 h2 ⟨h6c, by omega⟩ (fun l hl => ⟨by have := h6 46 (by decide); have := (h5 l hl).1; omega, (h5 l hl).2.1⟩) h4 h7b (fun h hm => (h7 h hm).2) hX hk hkr hk46 hG (by omega) h20 hB hxd hr4 hcl (by omega) (by
      rcases hkd with ⟨g1, -, g2, -⟩ | ⟨g1, g2, -⟩ | ⟨g1, -, g2, -⟩
      · exact Or.inl ⟨g1, g2⟩
      · exact Or.inr (Or.inl ⟨g1, g2⟩)
      · exact Or.inr (Or.inr ⟨g1, g2⟩)) h8 (fun m9 w9 a2 cm9 Q9 sc9 L2 hn hX9 hs9 hk9 hhn hF h45 hRT hL2 hx9 hpo => ?_)
    obtain ⟨f1, f2, f3, f4, f5⟩ := hF
    refine hh m9 w9 a2 cm9 Q9 sc9 (L ++ L2) hn _ ⟨hX9, hs9, ?_, ⟨fun z => (by cases z), fun z => (by cases z)⟩, fun l hl => ?_, ⟨h6, QLE_tr h6b f5, h6c, h6d, h6e, by omega⟩, ⟨fun h hm => ?_, hk9⟩, ⟨?_, fun y hy => ?_⟩, fun k k1 k2 k3 => ?_⟩
    · refine PTq_s (a := a) (q := q) (Q := Q) (cm := cm) (sc := sc) (m := m) (w := w) (hs := hs) (fst := fst) (last := last) h3 hpo ⟨h6f, by omega⟩ ⟨l0.2.2.2, by omega⟩ h6b f5 f1 f2 (fun k y k1 k2 k3 k4 k5 k6 => f3 k y k1 k5 (fun z => ?_) k6) f4 (fun y hy => congrArg Int32.toInt (f3 30 y (by decide) hy (fun z => (by cases z)) (fun z => (by cases z)))) Lr32 (fun y hy => (hL2 y hy).1) (fun h hm => (h7 h hm).2) hhn.1 (fun l hl => ⟨(h5 l hl).1, (h5 l hl).2.1, ?_⟩) (Nat.le_refl _) hx9
      · subst z
        have k4 : Q1 32 ≤ y := k4
        omega
      · show (w9.2.2.1 45 l).toInt = _
        rw [h45.2.2 l hl]
        exact I_ti (by omega) (by omega)
    · cases hl
      exact ⟨h6b 46 (by decide), h45.1, h45.2.1⟩
    · rcases List.mem_cons.mp hm with rfl | hm
      · omega
      · have := h7 h hm; omega
    · obtain ⟨fr9, hRT⟩ := hRT
      exact ⟨fr9, L2 ++ Lr, hRT, fun y => by
        rw [List.mem_append, List.mem_append, h9 y]
        exact Or.comm⟩
    · rcases List.mem_append.mp hy with hy | hy
      · refine ⟨(h10 y hy).1, ?_⟩
        have e : A w9 30 y = A w 30 y := congrArg Int32.toInt (f3 30 y (by decide) (Lr32 y hy) (fun z => (by cases z)) (fun z => (by cases z)))
        rw [e]; exact (h10 y hy).2
      · have := hL2 y hy
        exact ⟨by omega, this.2⟩
    · have gk : grp k = 32 := if_pos ⟨k1, k2⟩
      rw [f3 k nd (by rw [gk]; decide) (by rw [gk]; omega) (fun z => absurd z k3) (fun z => by omega)]
      exact h11 k k1 k2 k3
  unfold PEc at hE
  by_cases z : kd = 2
  · rw [if_pos z] at hE
    obtain ⟨hv3, hx1⟩ : v3 = 0 ∧ x1 = 1 := by
      rcases hkd with ⟨g1, -⟩ | ⟨-, g2, g3⟩ | ⟨g1, -⟩
      · omega
      · exact ⟨g2, g3⟩
      · omega
    subst hx1
    obtain ⟨-, -, -, h18, gx, kg, m2, c1, s, kb, mb, c2, ⟨h19, hg1, hw⟩, ⟨h20, hB⟩, hc2, h38⟩ := hE
    have hw1 := (RW_hdK (XP_bdK f (o + 1) 3) hw).1
    have hB1 := (RW_hdK (XP_bdK f (o + 2) 3) hB).1
    unfold HDc at hw1 hB1
    refine hdg_c c IE (by omega) h18 h19 hw (by omega) (by omega) (kA c (by omega) h38) (by omega) hC hR hq (by omega) (fun mh wh b cm2 Q2 sc2 fs v8 hX hk hkr hk46 hG => ?_)
    exact beh m2 c1 c2 s kb mb 0 mh wh b cm2 Q2 sc2 fs v8 h20 hB (by omega) hX hk hkr hk46 (by rw [z]; exact hG)
  · rw [if_neg z] at hE
    obtain ⟨hkv, hx1⟩ : ((kd = 1 ∧ v2 = -1) ∨ (kd = 3 ∧ v2 = -2)) ∧ x1 = 0 := by
      rcases hkd with ⟨g1, g2, -, g3⟩ | ⟨g1, -⟩ | ⟨g1, g2, -, g3⟩
      · exact ⟨Or.inl ⟨g1, g2⟩, g3⟩
      · omega
      · exact ⟨Or.inr ⟨g1, g2⟩, g3⟩
    subst hx1
    obtain ⟨-, i, ⟨-, -, -, p, xc, gx, m2, c1, s, kb, mb, c2, ⟨h18, hpa⟩, ⟨h19, hg⟩, ⟨h20, hB⟩, hc2, h38⟩⟩ := hE
    have hB1 := (RW_hdK (XP_bdK f (o + 2) 3) hB).1
    unfold HDc at hB1
    have hp2 : PAcK m0 f p lo i xa xc q q ∧ A m0 21 p = 0 := by
      rcases hpa with ⟨y, -⟩ | ⟨-, mm, cc, ss, hp1, hp3⟩
      · cases y
      · rcases hp3 with ⟨-, h21, rfl, rfl, rfl⟩ | ⟨⟨y, -⟩, -⟩
        · exact ⟨hp1, h21⟩
        · exact absurd y (by decide)
    obtain ⟨hp1, h21⟩ := hp2
    have hp4 := PA_bdK _ _ _ _ _ _ _ _ hp1
    unfold HDc at hp4
    clear hpa
    have hg2 : (A m0 19 n = 0 ∧ m2 = i ∧ q = s) ∨ ∃ gx kg : Nat, A m0 19 n = ((gx : Nat) : Int) ∧ A m0 6 i = 19 ∧ RWcK m0 1 26 (XPcK m0 f (o + 1) 3) kg gx (i + 1) m2 xc c1 q s := by
      rcases hg with ⟨y1, y2, y3, y4⟩ | ⟨⟨y1, y2⟩, kg, y3⟩
      · exact Or.inl ⟨by rw [h19, y1]; rfl, y2, y4.symm⟩
      · exact Or.inr ⟨gx, kg, h19, y2, y3⟩
    have hc1 : i ≤ m2 ∧ xc ≤ c1 ∧ q ≤ s := by
      rcases hg with ⟨y1, y2, y3, y4⟩ | ⟨⟨y1, y2⟩, kg, y3⟩
      · clear hg2; omega
      · have := (RW_hdK (XP_bdK f (o + 1) 3) y3).1
        unfold HDc at this
        clear hg2
        exact ⟨by omega, by omega, by omega⟩
    clear hg
    have k38 : K m2 = 38 := kA c (by clear hg2; omega) h38
    have s4 : s ≤ 400 := by clear hg2; omega
    have a1 : xc ≤ 8015 := by clear hg2; omega
    have a2 : c1 ≤ 8015 := by clear hg2; omega
    have a3 : n ≤ 8015 := by clear hg2; omega
    have a4 : m2 < T := by clear hg2; omega
    have a5 : tot sc + (m2 - lo) ≤ 4000 ∧ sc.length ≤ o + 1 + 1 := by clear hg2; omega
    have a6 : c2 ≤ 8015 := by clear hg2; omega
    refine hdg_p c cv IE hf a3 h18 h21 hp1 a1 hg2 a2 s4 k38 a4 hC hR hq a5 hkv (fun mh wh b cm2 Q2 sc2 fs v8 hX hk hkr hk46 hG => ?_)
    exact beh m2 c1 c2 s kb mb 0 mh wh b cm2 Q2 sc2 fs v8 h20 hB a6 hX hk hkr hk46 hG
end
