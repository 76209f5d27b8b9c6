/-! a receive with after begins -/
set_option maxRecDepth 100000
section
variable {Sf : MS → Int32 → Prop} {β : Type} {b : Int → Nat → Nat → Prop} {N p U B W Y j n sc M1 vk : Nat} {m w : MS} {nb : Nat → Nat} {Hs Os : Nat → List Nat} {Q : MS → Int32 → MS → β → Prop} {K2 : MS → Option (MS × β)}
/-- until when is waited is known: messages are looked at -/
theorem rcv_27 (hpp : p < 24) (pl : PLs b p m w U B W Y) (ru : RUb m w p j nb Hs Os none) (hpc : F m 1105 = ((sc : Nat) : Int)) (m8 : F m (pq p 8) = ((0 : Nat) : Int)) (dl : DLs (m.2.1 (pq p 10)) (w.2.2.2 111 p)) (hB2 : B < 100000) (hY : Y ≤ 30) (hvk : vk + 200 < 1000000000) (h956 : F m 955 ≤ F m 956) (hcl : m.1 944 = w.1 120) (hsc : A m 23 (sc - 1) = 1) (hn : n < 100000) (h31 : A w 31 n ≠ -1) (h23 : A w 23 n = 27) (h27 : A w 27 n = (((Os j).length : Nat) : Int)) (nd : (Os j).Nodup ∧ (Hs j).Nodup) (rc : ∃ g, RCs (A m 23) (ROs w) (w.2.2.2 34) (CRs (A m 23) (ROs w) (w.2.2.2 34) g) g sc n (Hs j) (Os j))
    (kW : ∀ M' vk' m3 w3, M' ≤ M1 → vk' ≤ vk + 61 → WTn m3 w3 p j nb Hs Os sc → PLs b p m3 w3 U B W Y → GGm p m m3 → GGw p w w3 → (SCs p m w → SCs p m3 w3) → PP Q (q195 Sf N (qgo Sf N M') m3 p (I ((vk' : Nat) : Int))) (K2 w3))
    (kR : ∀ M' vk' m3 w3 l q, M' ≤ M1 → vk' ≤ vk + 61 → RUs m3 w3 p j nb Hs Os none l q → PLs b p m3 w3 U B W Y → GGm p m m3 → GGw p w w3 → (SCs p m w → SCs p m3 w3) → PP Q (q195 Sf N (qgo Sf N M') m3 p (I ((vk' : Nat) : Int))) (K2 w3))
    (kT : ∀ M' vk' m3 w3 k, M' ≤ M1 → vk' ≤ vk + 1 → 0 < Y → TRs m3 w3 p j nb Hs Os 3 sc (sc + 2) k → PLs b p m3 (wa w3 94 p ((B : Nat) : Int)) U B W Y → F m3 (pq p 8) = ((0 : Nat) : Int) → GGm p m m3 → GGw p w w3 → (SCs p m w → SCs p m3 w3) → (w3.2.2.2 88 = w.2.2.2 88 ∧ w3.1 140 = w.1 140) → PP Q (q195 Sf N (qgo Sf N M') m3 p (I ((vk' : Nat) : Int))) (bnd (gg_M_choose N (rc_M_error N 19) N w3 1) (fun u _ => K2 u))) : PP Q (q195 Sf N (qgo Sf N M1) m p (I ((vk : Nat) : Int))) (bnd (fm_M_one N w (I ((n : Nat) : Int)) (I 27)) (fun u _ => K2 u)) := by
  obtain ⟨⟨fa, ct⟩, ⟨r5, r6⟩, r7, ⟨r8, r9, r10⟩, r11, r12, r13⟩ := id ru
  obtain ⟨h12, h152⟩ : F m 1112 = 0 ∧ F w 152 = 0 := by
    rcases r7 with ⟨_, c3, c4⟩ | ⟨_, _, _, c, _⟩
    · exact ⟨c3, c4⟩
    · cases c
  have hj : j < 60 := fa.1.2.2
  obtain ⟨-, -, ⟨-, g4⟩, -, g6, -⟩ := fa.2.1 j (Nat.le_refl _)
  have hB : B = nb j + (Hs j).length + (Os j).length := by
    have h1 := pl.2.1.1
    rw [fa.2.2.2, List.length_append] at h1
    omega
  refine go195 r9 h956 (fun hsf => ?_)
  cases M1 with
  | zero => exact pp_nl
  | succ M1 =>
  show PP Q (q67 Sf N (qgo Sf N M1) m p (I ((vk + 1 : Nat) : Int))) _
  rw [one_27]
  refine rb_ck (fun _ => ?_)
  rw [I_F' r11, tnI (n := p) rfl (by omega), lit0, wa_e, lt_e]
  refine rb_ck (fun _ => ?_)
  have r31 := A_r w 31 n
  have e31 : A (wa w 110 p 0) 31 n = A w 31 n := wa_rne (by omega)
  rw [tnI (n := n) rfl (by omega), I_A (w := wa w 110 p 0) (k := 31) (i := n), e31, show decide (I (A w 31 n) = -1) = false from by rw [m1I, decE r31.1 r31.2 (by omega) (by omega)]; exact decide_eq_false h31, br_f]
  refine r_bb ?_
  generalize hw1 : wa w 110 p 0 = w1
  have wR : ∀ K, K ≠ 110 → w1.2.2.1 K = w.2.2.1 K := fun K h => by rw [← hw1]; exact wa_21 h
  have wA : ∀ K i, K ≠ 110 → A w1 K i = A w K i := fun K i h => by show (w1.2.2.1 K i).toInt = _; rw [wR K h]; rfl
  have w1i : w1.1 = w.1 := by rw [← hw1]; rfl
  have w1F : ∀ l, F w1 l = F w l := fun l => by show (w1.1 l).toInt = _; rw [w1i]; rfl
  have wJ : w1.2.2.2 = w.2.2.2 := by rw [← hw1]; rfl
  have w110 : A w1 110 p = ((0 : Nat) : Int) := by
    rw [← hw1, wa_sm (by omega) (by omega)]; rfl
  have pr : ∀ K, PRr K → w1.2.2.1 K = w.2.2.1 K := fun K h => wR K (by unfold PRr at h; omega)
  have fc1 : FAs m w1 p j nb Hs Os ∧ CTs m w1 p j nb Hs Os := FC_w ⟨fa, ct⟩ (fun _ _ => rfl) (fun _ _ => rfl) rfl (fun K h => by rw [wR K (by omega)]) (fun K r h1 h2 h3 h4 => by rw [wR K (by omega)]) (fun K c h1 h2 _ => by rw [wR K (by omega)]) pr (by rw [wJ])
  have pl1 : PLs b p m w1 U B W Y := PLs_cg pl (fun _ _ => rfl) (fun _ _ => rfl) (fun _ _ => rfl) (fun _ _ => rfl) (fun _ _ => rfl) (fun K hK => by rw [wR K (by simp at hK; omega)]) (fun i _ => by rw [wJ]) (fun i _ => by rw [wJ]) (fun i _ => by rw [wJ]) (fun i _ => by rw [wJ])
  have gw1 : GGw p w w1 := by rw [← hw1]; exact GGw_own (Or.inl ⟨by omega, rfl⟩)
  have sc1 : SCs p m w → SCs p m w1 := fun s => SC_ow s (fun _ _ => rfl) rfl (fun K h1 h2 => wR K (by omega))
  obtain ⟨g, rc⟩ := rc
  have rc1 : ∃ g, RCs (A m 23) (ROs w1) (w1.2.2.2 34) (CRs (A m 23) (ROs w1) (w1.2.2.2 34) g) g sc n (Hs j) (Os j) := ⟨g, by rw [ROs_eq pr, wJ]; exact rc⟩
  refine goW_r (j := j) (t := 0) (nbj := nb j) (hl := (Hs j).length) (ol := (Os j).length) hpp (by rw [w1F]; exact r11) ((wA 95 p (by omega)).trans fa.1.2.1) hj (by omega) w110 ((wA 99 _ (by omega)).trans g4) ((wA 101 _ (by omega)).trans g6) ((wA 27 _ (by omega)).trans h27) ?_
  have nx := NX_of (t := 0) (sc := sc) fc1 r5 ((wA 109 p (by omega)).trans r6) h12 ((w1F 152).trans h152) r8 r9 ((w1F 151).trans r10) ((w1F 133).trans r11) (by rw [w1i]; exact r12) (by rw [w1i]; exact r13) hpc m8 (by omega) hn (by omega) (by rw [wJ]; exact dl) ((wA 23 _ (by omega)).trans h23) ((wA 27 _ (by omega)).trans h27) nd rc1
  have g5 : GGw p w1 (wi (wi (wi (wi (wi w1 159 ((n : Nat) : Int)) 158 ((0 : Nat) : Int)) 153 3) 155 (A w1 25 n)) 156 ((nb j + (Hs j).length + (Os j).length : Nat) : Int)) := GGw.tr (GGw.tr (GGw.tr (GGw.tr (GGw_reg (by omega) (by omega)) (GGw_reg (by omega) (by omega))) (GGw_reg (by omega) (by omega))) (GGw_reg (by omega) (by omega))) (GGw_reg (by omega) (by omega))
  have pl9 : PLs b p m (wa (wi (wi (wi (wi (wi w1 159 ((n : Nat) : Int)) 158 ((0 : Nat) : Int)) 153 3) 155 (A w1 25 n)) 156 ((nb j + (Hs j).length + (Os j).length : Nat) : Int)) 94 p ((B : Nat) : Int)) U B W Y := PLs_94 (PLs_ri (PLs_ri (PLs_ri (PLs_ri (PLs_ri pl1))))) hB2
  refine recv_pp (t := 0) hpp nx pl9 hB hB2 hY m8 (by omega) (by omega) h956 (by rw [wi_1 (by omega), wi_1 (by omega), wi_1 (by omega), wi_1 (by omega), wi_1 (by omega), w1i]; exact hcl) (fun e => absurd e (by rw [hsc]; omega)) (fun q hq => ?_) (fun M' vk' m3 w3 q1 q2 a1 a2 a3 a4 a5 => kW M' vk' m3 w3 (by omega) (by omega) a1 a2 a3 (GGw.tr gw1 (GGw.tr g5 a4)) (fun s => a5 (sc1 s))) (fun M' vk' m3 w3 l q q1 q2 a1 a2 a3 a4 a5 => kR M' vk' m3 w3 l q (by omega) (by omega) a1 a2 a3 (GGw.tr gw1 (GGw.tr g5 a4)) (fun s => a5 (sc1 s))) (fun m3 w3 k q1 a1 a2 a3 a4 a5 a6 a7 => kT M1 (vk + 1) m3 w3 k (by omega) (by omega) q1 a1 a2 a3 a4 (GGw.tr gw1 (GGw.tr g5 a5)) (fun s => a6 (sc1 s)) ⟨a7.1.trans (by show w1.2.2.2 88 = _; rw [wJ]), a7.2.trans (by rw [wi_1 (by omega), wi_1 (by omega), wi_1 (by omega), wi_1 (by omega), wi_1 (by omega), w1i])⟩)
  rw [wi_ne (by omega), wi_ne (by omega), wi_ne (by omega), wi_ne (by omega), wi_sm (by omega) (by omega)] at hq
  omega
end
