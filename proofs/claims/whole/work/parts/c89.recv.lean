/-! a receive: messages are looked at -/
set_option maxRecDepth 100000
/-- the next message is to be looked at -/
def NXs (m w : MS) (p j : Nat) (nb : Nat → Nat) (Hs Os : Nat → List Nat) (sc : Nat) : Prop :=
  RUb m w p j nb Hs Os none ∧ F m 1105 = ((sc : Nat) : Int) ∧ (F w 153 = 3 ∧ F w 156 = ((nb j + (Hs j).length + (Os j).length : Nat) : Int)) ∧ TRr 3 sc m w p (Hs j) (Os j) ∧ (Os j).Nodup ∧ (Hs j).Nodup
/-- which receive, until when -/
def TRq (sc : Nat) (m w : MS) (p : Nat) (H O : List Nat) : Prop := DLs (m.2.1 (pq p 10)) (w.2.2.2 111 p) ∧ ∃ n : Nat, F w 159 = ((n : Nat) : Int) ∧ A w 23 n = 27 ∧ A w 27 n = ((O.length : Nat) : Int) ∧ ∃ g, RCs (A m 23) (ROs w) (w.2.2.2 34) (CRs (A m 23) (ROs w) (w.2.2.2 34) g) g sc n H O
/-- it waits -/
def WTn (m w : MS) (p j : Nat) (nb : Nat → Nat) (Hs Os : Nat → List Nat) (sc : Nat) : Prop :=
  (FAs m w p j nb Hs Os ∧ CTs m w p j nb Hs Os) ∧ (F m (pq p 9) = 1 ∧ A w 109 p = 1) ∧ F m (pq p 8) = A w 110 p ∧ DLs (m.2.1 (pq p 10)) (w.2.2.2 111 p) ∧ F m 1105 = ((sc : Nat) : Int) ∧ (F m 1108 = 0 ∧ F m 1109 = 0 ∧ F w 151 = 0) ∧ m.1 1106 = w.1 165 ∧ F w 133 = ((p : Nat) : Int) ∧ ∃ n : Nat, A w 98 (60 * p + j) = ((n : Nat) : Int) ∧ A w 23 n = 27 ∧ A w 27 n = (((Os j).length : Nat) : Int) ∧ ((Hs j).Nodup ∧ (Os j).Nodup) ∧ ∃ g, RCs (A m 23) (ROs w) (w.2.2.2 34) (CRs (A m 23) (ROs w) (w.2.2.2 34) g) g sc n (Hs j) (Os j)
/-- behind the numbers of a receive, here -/
def gwB (N : Nat) (w9 : MS) : Option (MS × Unit) := ck (inb (w9.1 133) (ln 108)) (br (decide ((w9.2.2.1 108 (w9.1 133).toNatClampNeg) ≤ (w9.1 158))) (fb_M_goOnWith_101 N () w9) (br (decide ((w9.1 155) = (-1))) (fb_M_goOnWith_101 N () w9) (lt (upI w9 154 (w9.1 155)) (fun w10 => bnd (fr_M_choose N w10) (fun u11 _ => fb_M_goOnWith_136 N () u11)))))
section
variable {Sf : MS → Int32 → Prop} {b : Int → Nat → Nat → Prop} {N p j t Y a sc U B W : Nat} {m w m2 w2 : MS} {nb : Nat → Nat} {Hs Os : Nat → List Nat}
theorem next_m (hpc : F m 1105 = ((sc : Nat) : Int)) (hsc : sc + 1 < 24000) (h7 : F m (pq p 7) = ((Y : Nat) : Int)) (h8 : F m (pq p 8) = ((t : Nat) : Int)) (ht : t < Y) (hY : Y ≤ 30) : hm_Ma_flow N m p (I 32) = some (wi m 1105 ((sc + 2 : Nat) : Int), ()) := by
  rw [flo32, I_F' hpc, show I ((sc : Nat) : Int) + 1 = I ((sc + 1 : Nat) : Int) from addN, Co_e (k := sc + 1) rfl hsc, bnd_so]
  unfold hm_Ma_nextMessage hb_Ma_nextMessage_0 hb_Ma_nextMessage_78
  rw [I_F' h7, I_F' h8, decI (by omega) (by omega) (by omega) (by omega), decide_eq_false (by omega), br_f, I_F' hpc, show I ((sc : Nat) : Int) + 2 = I ((sc + 2 : Nat) : Int) from addN, wi_e, lt_e, bnd_so, bnd_so]
theorem skip_m (hpc : F m 1105 = ((a : Nat) : Int)) (ha : a + 1 < 24000) (h1 : A m 23 (a + 1) = ((sc : Nat) : Int)) (h8 : F m (pq p 8) = ((t : Nat) : Int)) : hm_Ma_flow N m p (I 34) = some (wi (wi m (pq p 8) ((t + 1 : Nat) : Int)) 1105 ((sc : Nat) : Int), ()) := by
  rw [flo34, I_F' hpc, show I ((a : Nat) : Int) + 1 = I ((a + 1 : Nat) : Int) from addN, Co_e (k := a + 1) rfl ha, bnd_so, h1, I_F' h8, show I ((t : Nat) : Int) + 1 = I ((t + 1 : Nat) : Int) from addN, wi_e, lt_e, wi_e, lt_e, bnd_so]
/-- only the message that is looked at, its CLAUSE and the mark of names have changed -/
theorem RUb_gw (ru : RUb m w p j nb Hs Os none) (mq : ∀ l, l ≠ 8 → m2.1 (pq p l) = m.1 (pq p l)) (mg : ∀ l, 1106 ≤ l → l < 1113 → m2.1 l = m.1 l) (mr : m2.2.2 = m.2.2) (wR : ∀ K, K ≠ 94 → K ≠ 110 → w2.2.2.1 K = w.2.2.1 K) (w1 : ∀ l, l = 133 ∨ l = 151 ∨ l = 152 ∨ l = 164 ∨ l = 165 → w2.1 l = w.1 l) (wJ : w2.2.2.2 = w.2.2.2) : RUb m2 w2 p j nb Hs Os none := by
  obtain ⟨⟨fa, ct⟩, ⟨r5, r6⟩, r7, ⟨r8, r9, r10⟩, r11, r12, r13⟩ := ru
  obtain ⟨h12, h152⟩ : F m 1112 = 0 ∧ F w 152 = 0 := by
    rcases r7 with ⟨_, c3, c4⟩ | ⟨_, _, _, c, _⟩
    · exact ⟨c3, c4⟩
    · cases c
  have pr : ∀ K, PRr K → w2.2.2.1 K = w.2.2.1 K := fun K h => wR K (by unfold PRr at h; omega) (by unfold PRr at h; omega)
  have mF : ∀ l, 1106 ≤ l → l < 1113 → F m2 l = F m l := fun l h1 h2 => congrArg Int32.toInt (mg l h1 h2)
  have wF : ∀ l, l = 133 ∨ l = 151 ∨ l = 152 ∨ l = 164 ∨ l = 165 → F w2 l = F w l := fun l h => congrArg Int32.toInt (w1 l h)
  refine ⟨FC_w ⟨fa, ct⟩ (fun l h => mq l (by omega)) (fun l _ => by rw [mr]) (by rw [mr]) (fun K h => by rw [wR K (by omega) (by omega)]) (fun K r h1 h2 h3 h4 => by rw [wR K (by omega) (by omega)]) (fun K c h1 h2 _ => by rw [wR K (by omega) (by omega)]) pr (by rw [wJ]), ⟨(congrArg Int32.toInt (mq 9 (by omega))).trans r5, ?_⟩, Or.inl ⟨rfl, (mF 1112 (by omega) (by omega)).trans h12, (wF 152 (by omega)).trans h152⟩, ⟨(mF 1108 (by omega) (by omega)).trans r8, (mF 1109 (by omega) (by omega)).trans r9, (wF 151 (by omega)).trans r10⟩, (wF 133 (by omega)).trans r11, by rw [mg 1106 (by omega) (by omega), w1 165 (by omega)]; exact r12, by rw [mg 1107 (by omega) (by omega), w1 164 (by omega)]; exact r13⟩
  show (w2.2.2.1 109 p).toInt = _
  rw [wR 109 (by omega) (by omega)]; exact r6
theorem PLs_gw (pl : PLs b p m w U B W Y) (mq : ∀ l, l ≠ 8 → m2.1 (pq p l) = m.1 (pq p l)) (mr : m2.2.2 = m.2.2) (wR : ∀ K, K ≠ 94 → K ≠ 110 → w2.2.2.1 K = w.2.2.1 K) (h94 : A w2 94 p = ((B : Nat) : Int)) (wJ : w2.2.2.2 = w.2.2.2) : PLs b p m2 w2 U B W Y := PLs_cg pl (fun l hl => mq l (by simp at hl; omega)) (fun i _ => by rw [mr]) (fun i _ => by rw [mr]) (fun i _ => by rw [mr]) (fun i _ => by rw [mr]) (fun K hK => by
  by_cases c : K = 94
  · subst c
    apply Int32.toInt_inj.mp
    exact h94.trans pl.2.1.2.1.symm
  · rw [wR K c (by simp at hK; omega)]) (fun i _ => by rw [wJ]) (fun i _ => by rw [wJ]) (fun i _ => by rw [wJ]) (fun i _ => by rw [wJ])
end
section
variable {Sf : MS → Int32 → Prop} {β : Type} {b : Int → Nat → Nat → Prop} {N p j t Y a sc U B W M1 vk : Nat} {m w m2 w2 : MS} {nb : Nat → Nat} {Hs Os : Nat → List Nat} {Q : MS → Int32 → MS → β → Prop} {K2 : MS → Option (MS × β)}
/-- no message is left: it waits, or its hour is there -/
theorem next_fin (hpp : p < 24) (ru : RUb m w p j nb Hs Os none) (hpc : F m 1105 = ((sc : Nat) : Int)) (tq : TRq sc m w p (Hs j) (Os j)) (nd : (Os j).Nodup ∧ (Hs j).Nodup) (pl : PLs b p m w U B W Y) (h110 : A w 110 p = ((Y : Nat) : Int)) (h8 : F m (pq p 8) = ((Y : Nat) : Int)) (hsc : sc + 1 < 24000) (hvk : vk < 1000000000) (hcl : m.1 944 = w.1 120) (hun : A m 23 (sc - 1) = 0 → m.2.1 (pq p 10) = -1) (hn : ∀ n : Nat, F w 159 = ((n : Nat) : Int) → n < 2147483648)
    (kW : ∀ m3 w3, WTn m3 w3 p j nb Hs Os sc → PLs b p m3 w3 U B W Y → GGm p m m3 → GGw p w w3 → (SCs p m w → SCs p m3 w3) → PP Q (q195 Sf N (qgo Sf N M1) m3 p (I ((vk : Nat) : Int))) (K2 w3))
    (kR : ∀ m3 w3 l q, RUs m3 w3 p j nb Hs Os none l q → PLs b p m3 w3 U B W Y → GGm p m m3 → GGw p w w3 → (SCs p m w → SCs p m3 w3) → PP Q (q195 Sf N (qgo Sf N M1) m3 p (I ((vk : Nat) : Int))) (K2 w3)) : PP Q (q67 Sf N (qgo Sf N M1) m p (I ((vk : Nat) : Int))) (bnd (fm_M_afterMessages N w) (fun u _ => K2 u)) := by
  obtain ⟨fc1, ⟨r5, r6⟩, -, ⟨r8, r9, r10⟩, r11, r12, r13⟩ := id ru
  obtain ⟨dL, n, d2, d4, d5, g, d6⟩ := tq
  have hj : j < 60 := fc1.1.1.2.2
  have n1 : n < 2147483648 := hn n d2
  obtain ⟨x32, -⟩ := id d6
  rw [go_fl r5 r8 hvk hpc (by omega) x32 ⟨by omega, by omega⟩]
  refine next_end (K1 := fun u => q195 Sf N (qgo Sf N M1) u p (I ((vk : Nat) : Int))) (n := n) hpp pl ru hpc hsc h8 dL hcl d2 n1 hun ⟨g, d6⟩ ?_ (fun l q m3 w3 _ _ a1 a2 a3 a4 a5 => kR m3 w3 l q a2 a1 a3 a4 a5)
  generalize hm3 : wi m (pq p 9) 1 = m3
  generalize hw3 : wa (wa w 109 p 1) 98 (60 * p + j) ((n : Nat) : Int) = w3
  have mq : ∀ l, l ≠ 9 → m3.1 (pq p l) = m.1 (pq p l) := fun l h => by rw [← hm3, wi_1 (pq_inj h)]
  have mg : ∀ l, l < 2000 → m3.1 l = m.1 l := fun l h => by rw [← hm3, wi_1 (pq_n h)]
  have mr : m3.2 = m.2 := by rw [← hm3]; rfl
  have vR : ∀ K, K ≠ 98 → K ≠ 109 → w3.2.2.1 K = w.2.2.1 K := fun K h1 h2 => by rw [← hw3, wa_21 h1, wa_21 h2]
  have vA : ∀ K i, K ≠ 109 → ¬ (K = 98 ∧ i = 60 * p + j) → w3.2.2.1 K i = w.2.2.1 K i := fun K i h1 h2 => by rw [← hw3, wa_at h2, wa_21 h1]
  have v1 : w3.1 = w.1 := by rw [← hw3]; rfl
  have vJ : w3.2.2.2 = w.2.2.2 := by rw [← hw3]; rfl
  have pr3 : ∀ K, PRr K → w3.2.2.1 K = w.2.2.1 K := fun K h => vR K (by unfold PRr at h; omega) (by unfold PRr at h; omega)
  have h23 : A m3 23 = A m 23 := by funext i; show (m3.2.2.1 23 i).toInt = _; rw [mr]; rfl
  have hP3 : ∀ K i, PRr K → A w3 K i = A w K i := fun K i a => by
    show (w3.2.2.1 K i).toInt = _
    rw [pr3 K a]; rfl
  have fc3 : FAs m3 w3 p j nb Hs Os ∧ CTs m3 w3 p j nb Hs Os := FC_w fc1 (fun l h => mq l (by omega)) (fun l _ => by rw [mr]) (by rw [mr]) (fun K h => by rw [vR K (by omega) (by omega)]) (fun K r h1 h2 h3 h4 => vA K _ (by omega) (by omega)) (fun K c h1 h2 _ => by rw [vR K (by omega) (by omega)]) pr3 (by rw [vJ])
  have mF : ∀ l, l < 2000 → F m3 l = F m l := fun l h => congrArg Int32.toInt (mg l h)
  refine kW m3 w3 ⟨fc3, ⟨?_, ?_⟩, ?_, ?_, (mF 1105 (by omega)).trans hpc, ⟨(mF 1108 (by omega)).trans r8, (mF 1109 (by omega)).trans r9, ?_⟩, ?_, ?_, n, ?_, ?_, ?_, ⟨nd.2, nd.1⟩, g, ?_⟩ ?_ ?_ ?_ (fun s => ?_)
  · rw [← hm3, wi_sm (by omega) (by omega)]
  · rw [← hw3, wa_rne (by omega), wa_sm (by omega) (by omega)]
  · rw [show F m3 (pq p 8) = F m (pq p 8) from congrArg Int32.toInt (mq 8 (by omega)), h8]
    show _ = (w3.2.2.1 110 p).toInt
    rw [vR 110 (by omega) (by omega)]
    exact h110.symm
  · rw [mr, vJ]; exact dL
  · show (w3.1 151).toInt = _
    rw [v1]; exact r10
  · rw [mg 1106 (by omega), v1]; exact r12
  · show (w3.1 133).toInt = _
    rw [v1]; exact r11
  · rw [← hw3, wa_sm (by omega) (by omega)]
  · rw [hP3 23 n (by unfold PRr; omega)]; exact d4
  · rw [hP3 27 n (by unfold PRr; omega)]; exact d5
  · rw [h23, ROs_eq pr3, vJ]; exact d6
  · exact PLs_cg pl (fun l hl => mq l (by simp at hl; omega)) (fun i _ => by rw [mr]) (fun i _ => by rw [mr]) (fun i _ => by rw [mr]) (fun i _ => by rw [mr]) (fun K hK => by rw [vR K (by simp at hK; omega) (by simp at hK; omega)]) (fun i _ => by rw [vJ]) (fun i _ => by rw [vJ]) (fun i _ => by rw [vJ]) (fun i _ => by rw [vJ])
  · rw [← hm3]
    exact GGm_own (by omega)
  · rw [← hw3]
    exact GGw.tr (GGw_own (Or.inl ⟨by omega, rfl⟩)) (GGw_own (Or.inr (Or.inl ⟨⟨by omega, by omega⟩, by omega, by omega⟩)))
  · exact SC_ow s (fun l hl => mq l (by omega)) (by rw [mr]) (fun K h1 h2 => vR K (by omega) (by omega))
/-- no message is left: both sides, the mark of names is put back here -/
theorem recv_end (hpp : p < 24) (ru : RUb m w p j nb Hs Os none) (hpc : F m 1105 = ((sc : Nat) : Int)) (h156 : F w 156 = ((nb j + (Hs j).length + (Os j).length : Nat) : Int)) (tq : TRq sc m w p (Hs j) (Os j)) (nd : (Os j).Nodup ∧ (Hs j).Nodup) (pl : PLs b p m (wa w 94 p ((B : Nat) : Int)) U B W Y) (hB : B = nb j + (Hs j).length + (Os j).length) (hB2 : B < 100000) (hY : Y ≤ 30) (h8 : F m (pq p 8) = ((Y : Nat) : Int)) (hsc : sc + 1 < 24000) (hvk : vk < 1000000000) (hcl : m.1 944 = w.1 120) (hun : A m 23 (sc - 1) = 0 → m.2.1 (pq p 10) = -1) (hn : ∀ n : Nat, F w 159 = ((n : Nat) : Int) → n < 2147483648)
    (kW : ∀ m3 w3, WTn m3 w3 p j nb Hs Os sc → PLs b p m3 w3 U B W Y → GGm p m m3 → GGw p w w3 → (SCs p m w → SCs p m3 w3) → PP Q (q195 Sf N (qgo Sf N M1) m3 p (I ((vk : Nat) : Int))) (K2 w3))
    (kR : ∀ m3 w3 l q, RUs m3 w3 p j nb Hs Os none l q → PLs b p m3 w3 U B W Y → GGm p m m3 → GGw p w w3 → (SCs p m w → SCs p m3 w3) → PP Q (q195 Sf N (qgo Sf N M1) m3 p (I ((vk : Nat) : Int))) (K2 w3)) : PP Q (q67 Sf N (qgo Sf N M1) m p (I ((vk : Nat) : Int))) (bnd (fb_M_goOnWith_101 N () w) (fun u _ => K2 u)) := by
  obtain ⟨-, ⟨r5, r6⟩, -, ⟨r8, r9, r10⟩, r11, r12, r13⟩ := id ru
  obtain ⟨dL, n, d2, d4, d5, g, d6⟩ := tq
  rw [← hB] at h156
  unfold fb_M_goOnWith_101 fb_M_goOnWith_136
  refine rb_ck (fun _ => rb_ck (fun _ => ?_))
  have h108 : A w 108 p = ((Y : Nat) : Int) := by
    have := pl.2.2.2.2.1
    rw [wa_rne (by omega)] at this
    exact this
  rw [I_F' r11, tnI (n := p) rfl (by omega), I_A' h108, wa_e, lt_e]
  have x33 : F (wa w 110 p ((Y : Nat) : Int)) 133 = ((p : Nat) : Int) := r11
  have x156 : F (wa w 110 p ((Y : Nat) : Int)) 156 = ((B : Nat) : Int) := h156
  refine rb_ck (fun _ => ?_)
  rw [I_F' x33, tnI (n := p) rfl (by omega), I_F' x156, wa_e, lt_e]
  refine r_bb ?_
  generalize hw1 : wa (wa w 110 p ((Y : Nat) : Int)) 94 p ((B : Nat) : Int) = w1
  have wR : ∀ K, K ≠ 94 → K ≠ 110 → w1.2.2.1 K = w.2.2.1 K := fun K h1 h2 => by rw [← hw1, wa_21 h1, wa_21 h2]
  have w1i : w1.1 = w.1 := by rw [← hw1]; rfl
  have wJ : w1.2.2.2 = w.2.2.2 := by rw [← hw1]; rfl
  have w1F : ∀ l, F w1 l = F w l := fun l => by show (w1.1 l).toInt = _; rw [w1i]; rfl
  have h94 : A w1 94 p = ((B : Nat) : Int) := by rw [← hw1, wa_sm (by omega) (by omega)]
  have h110 : A w1 110 p = ((Y : Nat) : Int) := by rw [← hw1, wa_rne (by omega), wa_sm (by omega) (by omega)]
  have pr : ∀ K, PRr K → w1.2.2.1 K = w.2.2.1 K := fun K h => wR K (by unfold PRr at h; omega) (by unfold PRr at h; omega)
  have ru1 : RUb m w1 p j nb Hs Os none := RUb_gw ru (fun _ _ => rfl) (fun _ _ _ => rfl) rfl wR (fun l _ => by rw [w1i]) wJ
  have pl1 : PLs b p m w1 U B W Y := PLs_gw pl (fun _ _ => rfl) rfl (fun K h1 h2 => by rw [wR K h1 h2, wa_21 h1]) h94 (by rw [wJ]; rfl)
  have gw1 : GGw p w w1 := by
    rw [← hw1]
    exact GGw.tr (GGw_own (Or.inl ⟨by omega, rfl⟩)) (GGw_own (Or.inl ⟨by omega, rfl⟩))
  have sc1 : SCs p m w → SCs p m w1 := fun s => SC_ow s (fun _ _ => rfl) rfl (fun K h1 h2 => wR K (by omega) (by omega))
  exact next_fin hpp ru1 hpc ⟨by rw [wJ]; exact dL, n, by rw [w1F]; exact d2, by rw [show A w1 23 n = A w 23 n from by show (w1.2.2.1 23 n).toInt = _; rw [wR 23 (by omega) (by omega)]; rfl]; exact d4, by rw [show A w1 27 n = A w 27 n from by show (w1.2.2.1 27 n).toInt = _; rw [wR 27 (by omega) (by omega)]; rfl]; exact d5, g, by rw [ROs_eq pr, wJ]; exact d6⟩ nd pl1 h110 h8 hsc hvk (by rw [w1i]; exact hcl) hun (fun n h => hn n (by rw [← w1F]; exact h)) (fun m3 w3 a1 a2 a3 a4 a5 => kW m3 w3 a1 a2 a3 (GGw.tr gw1 a4) (fun s => a5 (sc1 s))) (fun m3 w3 l q a1 a2 a3 a4 a5 => kR m3 w3 l q a1 a2 a3 (GGw.tr gw1 a4) (fun s => a5 (sc1 s)))
end
