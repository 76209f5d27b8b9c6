section
set_option maxRecDepth 100000
def NXs (m w : MS) (p j : Nat) (nb : Nat → Nat) (Hs Os : Nat → List Nat) (sc : Nat) : Prop :=
  RUb m w p j nb Hs Os none ∧ F m 1105 = ((sc : Nat) : Int) ∧ (F w 153 = 3 ∧ F w 156 = ((nb j + (Hs j).length + (Os j).length : Nat) : Int)) ∧ TRr 3 sc m w p (Hs j) (Os j) ∧ (Os j).Nodup ∧ (Hs j).Nodup
def TRq (sc : Nat) (m w : MS) (p : Nat) (H O : List Nat) : Prop := DLs (m.2.1 (pq p 10)) (w.2.2.2 111 p) ∧ ∃ n : Nat, F w 159 = ((n : Nat) : Int) ∧ A w 23 n = 27 ∧ A w 27 n = ((O.length : Nat) : Int) ∧ ∃ g, RCs (A m 23) (ROs w) (w.2.2.2 34) (CRs (A m 23) (ROs w) (w.2.2.2 34) g) g sc n H O
def WTn (m w : MS) (p j : Nat) (nb : Nat → Nat) (Hs Os : Nat → List Nat) (sc : Nat) : Prop :=
  (FAs m w p j nb Hs Os ∧ CTs m w p j nb Hs Os) ∧ (F m (pq p 9) = 1 ∧ A w 109 p = 1) ∧ F m (pq p 8) = A w 110 p ∧ DLs (m.2.1 (pq p 10)) (w.2.2.2 111 p) ∧ F m 1105 = ((sc : Nat) : Int) ∧ (F m 1108 = 0 ∧ F m 1109 = 0 ∧ F w 151 = 0) ∧ m.1 1106 = w.1 165 ∧ F w 133 = ((p : Nat) : Int) ∧ ∃ n : Nat, A w 98 (60 * p + j) = ((n : Nat) : Int) ∧ A w 23 n = 27 ∧ A w 27 n = (((Os j).length : Nat) : Int) ∧ ((Hs j).Nodup ∧ (Os j).Nodup) ∧ ∃ g, RCs (A m 23) (ROs w) (w.2.2.2 34) (CRs (A m 23) (ROs w) (w.2.2.2 34) g) g sc n (Hs j) (Os j)
def gwB (N : Nat) (w9 : MS) : Option (MS × Unit) := ck (inb (w9.1 133) (ln 108)) (br (decide ((w9.2.2.1 108 (w9.1 133).toNatClampNeg) ≤ (w9.1 158))) (fb_M_goOnWith_101 N () w9) (br (decide ((w9.1 155) = (-1))) (fb_M_goOnWith_101 N () w9) (lt (upI w9 154 (w9.1 155)) (fun w10 => bnd (fr_M_choose N w10) (fun u11 _ => fb_M_goOnWith_136 N () u11)))))
section
variable {Sf : MS → Int32 → Prop} {b : Int → Nat → Nat → Prop} {N p j t Y a sc U B W : Nat} {m w m2 w2 : MS} {nb : Nat → Nat} {Hs Os : Nat → List Nat}
theorem next_m (hpc : F m 1105 = ((sc : Nat) : Int)) (hsc : sc + 1 < 24000) (h7 : F m (pq p 7) = ((Y : Nat) : Int)) (h8 : F m (pq p 8) = ((t : Nat) : Int)) (ht : t < Y) (hY : Y ≤ 30) : hm_Ma_flow N m p (I 32) = some (wi m 1105 ((sc + 2 : Nat) : Int), ()) := by
  rw [flo32, I_F' hpc, show I ((sc : Nat) : Int) + 1 = I ((sc + 1 : Nat) : Int) from addN, Co_e (k := sc + 1) rfl hsc, bnd_so]
  unfold hm_Ma_nextMessage hb_Ma_nextMessage_0 hb_Ma_nextMessage_78
  rw [I_F' h7, I_F' h8, decI (by omega) (by omega) (by omega) (by omega), decide_eq_false (by omega), br_fq, I_F' hpc, show I ((sc : Nat) : Int) + 2 = I ((sc + 2 : Nat) : Int) from addN, wi_e, lt_e, bnd_so, bnd_so]
theorem skip_m (hpc : F m 1105 = ((a : Nat) : Int)) (ha : a + 1 < 24000) (h1 : A m 23 (a + 1) = ((sc : Nat) : Int)) (h8 : F m (pq p 8) = ((t : Nat) : Int)) : hm_Ma_flow N m p (I 34) = some (wi (wi m (pq p 8) ((t + 1 : Nat) : Int)) 1105 ((sc : Nat) : Int), ()) := by
  rw [flo34, I_F' hpc, show I ((a : Nat) : Int) + 1 = I ((a + 1 : Nat) : Int) from addN, Co_e (k := a + 1) rfl ha, bnd_so, h1, I_F' h8, show I ((t : Nat) : Int) + 1 = I ((t + 1 : Nat) : Int) from addN, wi_e, lt_e, wi_e, lt_e, bnd_so]
theorem RUb_gw (ru : RUb m w p j nb Hs Os none) (mq : ∀ l, l ≠ 8 → m2.1 (pq p l) = m.1 (pq p l)) (mg : ∀ l, 1106 ≤ l → l < 1113 → m2.1 l = m.1 l) (mr : m2.2.2 = m.2.2) (wR : ∀ K, K ≠ 94 → K ≠ 110 → w2.2.2.1 K = w.2.2.1 K) (w1 : ∀ l, l = 133 ∨ l = 151 ∨ l = 152 ∨ l = 164 ∨ l = 165 → w2.1 l = w.1 l) (wJ : w2.2.2.2 = w.2.2.2) : RUb m2 w2 p j nb Hs Os none := by
  obtain ⟨⟨fa, ct⟩, ⟨r5, r6⟩, r7, ⟨r8, r9, r10⟩, r11, r12, r13⟩ := ru
  obtain ⟨h12, h152⟩ : F m 1112 = 0 ∧ F w 152 = 0 := by
    rcases r7 with ⟨_, c3, c4⟩ | ⟨_, _, _, c, _⟩
    · exact ⟨c3, c4⟩
    · cases c
  have pr : ∀ K, PRr K → w2.2.2.1 K = w.2.2.1 K := fun K h => wR K (by unfold PRr at h; omega) (by unfold PRr at h; omega)
  have mF : ∀ l, 1106 ≤ l → l < 1113 → F m2 l = F m l := fun l h1 h2 => congrArg Int32.toInt (mg l h1 h2)
  have wF : ∀ l, l = 133 ∨ l = 151 ∨ l = 152 ∨ l = 164 ∨ l = 165 → F w2 l = F w l := fun l h => congrArg Int32.toInt (w1 l h)
  refine ⟨FC_w ⟨fa, ct⟩ (fun l h => mq l (by omega)) (fun l _ => by rw [mr]) (by rw [mr]) (fun K h => by rw [wR K (by omega) (by omega)]) (fun K r h1 h2 h3 h4 => by rw [wR K (by omega) (by omega)]) (fun K c h1 h2 _ => by rw [wR K (by omega) (by omega)]) pr (by rw [wJ]), ⟨(congrArg Int32.toInt (mq 9 (by omega))).trans r5, ?_⟩, Or.inl ⟨rfl, (mF 1112 (by omega) (by omega)).trans h12, (wF 152 (by omega)).trans h152⟩, ⟨(mF 1108 (by omega) (by omega)).trans r8, (mF 1109 (by omega) (by omega)).trans r9, (wF 151 (by omega)).trans r10⟩, (wF 133 (by omega)).trans r11, by rw [mg 1106 (by omega) (by omega), w1 165 (by omega)]; exact r12, by rw [mg 1107 (by omega) (by omega), w1 164 (by omega)]; exact r13⟩
  show (w2.2.2.1 109 p).toInt = _
  rw [wR 109 (by omega) (by omega)]; exact r6
theorem PLs_gw (pl : PLs b p m w U B W Y) (mq : ∀ l, l ≠ 8 → m2.1 (pq p l) = m.1 (pq p l)) (mr : m2.2.2 = m.2.2) (wR : ∀ K, K ≠ 94 → K ≠ 110 → w2.2.2.1 K = w.2.2.1 K) (h94 : A w2 94 p = ((B : Nat) : Int)) (wJ : w2.2.2.2 = w.2.2.2) : PLs b p m2 w2 U B W Y := PLs_cg pl (fun l hl => mq l (by simp at hl; omega)) (fun i _ => by rw [mr]) (fun i _ => by rw [mr]) (fun i _ => by rw [mr]) (fun i _ => by rw [mr]) (fun K hK => by
  by_cases c : K = 94
  · subst c
    apply Int32.toInt_inj.mp
    exact h94.trans pl.2.1.2.1.symm
  · rw [wR K c (by simp at hK; omega)]) (fun i _ => by rw [wJ]) (fun i _ => by rw [wJ]) (fun i _ => by rw [wJ]) (fun i _ => by rw [wJ])
end
section
variable {Sf : MS → Int32 → Prop} {β : Type} {b : Int → Nat → Nat → Prop} {N p j t Y a sc U B W M1 vk : Nat} {m w m2 w2 : MS} {nb : Nat → Nat} {Hs Os : Nat → List Nat} {Q : MS → Int32 → MS → β → Prop} {K2 : MS → Option (MS × β)}
theorem next_fin (hpp : p < 24) (ru : RUb m w p j nb Hs Os none) (hpc : F m 1105 = ((sc : Nat) : Int)) (tq : TRq sc m w p (Hs j) (Os j)) (nd : (Os j).Nodup ∧ (Hs j).Nodup) (pl : PLs b p m w U B W Y) (h110 : A w 110 p = ((Y : Nat) : Int)) (h8 : F m (pq p 8) = ((Y : Nat) : Int)) (hsc : sc + 1 < 24000) (hvk : vk < 1000000000) (hcl : m.1 944 = w.1 120) (hun : A m 23 (sc - 1) = 0 → m.2.1 (pq p 10) = -1) (hn : ∀ n : Nat, F w 159 = ((n : Nat) : Int) → n < 2147483648)
    (kW : ∀ m3 w3, WTn m3 w3 p j nb Hs Os sc → PLs b p m3 w3 U B W Y → GGm p m m3 → GGw p w w3 → (SCs p m w → SCs p m3 w3) → PP Q (q195 Sf N (qgo Sf N M1) m3 p (I ((vk : Nat) : Int))) (K2 w3))
    (kR : ∀ m3 w3 l q, RUs m3 w3 p j nb Hs Os none l q → PLs b p m3 w3 U B W Y → GGm p m m3 → GGw p w w3 → (SCs p m w → SCs p m3 w3) → PP Q (q195 Sf N (qgo Sf N M1) m3 p (I ((vk : Nat) : Int))) (K2 w3)) : PP Q (q67 Sf N (qgo Sf N M1) m p (I ((vk : Nat) : Int))) (bnd (fm_M_afterMessages N w) (fun u _ => K2 u)) := by
  obtain ⟨fc1, ⟨r5, r6⟩, -, ⟨r8, r9, r10⟩, r11, r12, r13⟩ := id ru
  obtain ⟨dL, n, d2, d4, d5, g, d6⟩ := tq
  have hj : j < 60 := fc1.1.1.2.2
  have n1 : n < 2147483648 := hn n d2
  obtain ⟨x32, -⟩ := id d6
  rw [go_fl r5 r8 hvk hpc (by omega) x32 ⟨by omega, by omega⟩]
  refine next_end (K1 := fun u => q195 Sf N (qgo Sf N M1) u p (I ((vk : Nat) : Int))) (n := n) hpp pl ru hpc hsc h8 dL hcl d2 n1 hun ⟨g, d6⟩ ?_ (fun l q m3 w3 _ _ a1 a2 a3 a4 a5 => kR m3 w3 l q a2 a1 a3 a4 a5)
  generalize hm3 : wi m (pq p 9) 1 = m3
  generalize hw3 : wa (wa w 109 p 1) 98 (60 * p + j) ((n : Nat) : Int) = w3
  have mq : ∀ l, l ≠ 9 → m3.1 (pq p l) = m.1 (pq p l) := fun l h => by rw [← hm3, wi_1 (pq_inj h)]
  have mg : ∀ l, l < 2000 → m3.1 l = m.1 l := fun l h => by rw [← hm3, wi_1 (pq_n h)]
  have mr : m3.2 = m.2 := by rw [← hm3]; rfl
  have vR : ∀ K, K ≠ 98 → K ≠ 109 → w3.2.2.1 K = w.2.2.1 K := fun K h1 h2 => by rw [← hw3, wa_21 h1, wa_21 h2]
  have vA : ∀ K i, K ≠ 109 → ¬ (K = 98 ∧ i = 60 * p + j) → w3.2.2.1 K i = w.2.2.1 K i := fun K i h1 h2 => by rw [← hw3, wa_at h2, wa_21 h1]
  have v1 : w3.1 = w.1 := by rw [← hw3]; rfl
  have vJ : w3.2.2.2 = w.2.2.2 := by rw [← hw3]; rfl
  have pr3 : ∀ K, PRr K → w3.2.2.1 K = w.2.2.1 K := fun K h => vR K (by unfold PRr at h; omega) (by unfold PRr at h; omega)
  have h23 : A m3 23 = A m 23 := by funext i; show (m3.2.2.1 23 i).toInt = _; rw [mr]; rfl
  have hP3 : ∀ K i, PRr K → A w3 K i = A w K i := fun K i a => by
    show (w3.2.2.1 K i).toInt = _
    rw [pr3 K a]; rfl
  have fc3 : FAs m3 w3 p j nb Hs Os ∧ CTs m3 w3 p j nb Hs Os := FC_w fc1 (fun l h => mq l (by omega)) (fun l _ => by rw [mr]) (by rw [mr]) (fun K h => by rw [vR K (by omega) (by omega)]) (fun K r h1 h2 h3 h4 => vA K _ (by omega) (by omega)) (fun K c h1 h2 _ => by rw [vR K (by omega) (by omega)]) pr3 (by rw [vJ])
  have mF : ∀ l, l < 2000 → F m3 l = F m l := fun l h => congrArg Int32.toInt (mg l h)
  refine kW m3 w3 ⟨fc3, ⟨?_, ?_⟩, ?_, ?_, (mF 1105 (by omega)).trans hpc, ⟨(mF 1108 (by omega)).trans r8, (mF 1109 (by omega)).trans r9, ?_⟩, ?_, ?_, n, ?_, ?_, ?_, ⟨nd.2, nd.1⟩, g, ?_⟩ ?_ ?_ ?_ (fun s => ?_)
  · rw [← hm3, wi_sm (by omega) (by omega)]
  · rw [← hw3, wa_rne (by omega), wa_sm (by omega) (by omega)]
  · rw [show F m3 (pq p 8) = F m (pq p 8) from congrArg Int32.toInt (mq 8 (by omega)), h8]
    show _ = (w3.2.2.1 110 p).toInt
    rw [vR 110 (by omega) (by omega)]
    exact h110.symm
  · rw [mr, vJ]; exact dL
  · show (w3.1 151).toInt = _
    rw [v1]; exact r10
  · rw [mg 1106 (by omega), v1]; exact r12
  · show (w3.1 133).toInt = _
    rw [v1]; exact r11
  · rw [← hw3, wa_sm (by omega) (by omega)]
  · rw [hP3 23 n (by unfold PRr; omega)]; exact d4
  · rw [hP3 27 n (by unfold PRr; omega)]; exact d5
  · rw [h23, ROs_eq pr3, vJ]; exact d6
  · exact PLs_cg pl (fun l hl => mq l (by simp at hl; omega)) (fun i _ => by rw [mr]) (fun i _ => by rw [mr]) (fun i _ => by rw [mr]) (fun i _ => by rw [mr]) (fun K hK => by rw [vR K (by simp at hK; omega) (by simp at hK; omega)]) (fun i _ => by rw [vJ]) (fun i _ => by rw [vJ]) (fun i _ => by rw [vJ]) (fun i _ => by rw [vJ])
  · rw [← hm3]
    exact GGm_own (by omega)
  · rw [← hw3]
    exact GGw.tr (GGw_own (Or.inl ⟨by omega, rfl⟩)) (GGw_own (Or.inr (Or.inl ⟨⟨by omega, by omega⟩, by omega, by omega⟩)))
  · exact SC_ow s (fun l hl => mq l (by omega)) (by rw [mr]) (fun K h1 h2 => vR K (by omega) (by omega))
theorem recv_end (hpp : p < 24) (ru : RUb m w p j nb Hs Os none) (hpc : F m 1105 = ((sc : Nat) : Int)) (h156 : F w 156 = ((nb j + (Hs j).length + (Os j).length : Nat) : Int)) (tq : TRq sc m w p (Hs j) (Os j)) (nd : (Os j).Nodup ∧ (Hs j).Nodup) (pl : PLs b p m (wa w 94 p ((B : Nat) : Int)) U B W Y) (hB : B = nb j + (Hs j).length + (Os j).length) (hB2 : B < 100000) (hY : Y ≤ 30) (h8 : F m (pq p 8) = ((Y : Nat) : Int)) (hsc : sc + 1 < 24000) (hvk : vk < 1000000000) (hcl : m.1 944 = w.1 120) (hun : A m 23 (sc - 1) = 0 → m.2.1 (pq p 10) = -1) (hn : ∀ n : Nat, F w 159 = ((n : Nat) : Int) → n < 2147483648)
    (kW : ∀ m3 w3, WTn m3 w3 p j nb Hs Os sc → PLs b p m3 w3 U B W Y → GGm p m m3 → GGw p w w3 → (SCs p m w → SCs p m3 w3) → PP Q (q195 Sf N (qgo Sf N M1) m3 p (I ((vk : Nat) : Int))) (K2 w3))
    (kR : ∀ m3 w3 l q, RUs m3 w3 p j nb Hs Os none l q → PLs b p m3 w3 U B W Y → GGm p m m3 → GGw p w w3 → (SCs p m w → SCs p m3 w3) → PP Q (q195 Sf N (qgo Sf N M1) m3 p (I ((vk : Nat) : Int))) (K2 w3)) : PP Q (q67 Sf N (qgo Sf N M1) m p (I ((vk : Nat) : Int))) (bnd (fb_M_goOnWith_101 N () w) (fun u _ => K2 u)) := by
  obtain ⟨-, ⟨r5, r6⟩, -, ⟨r8, r9, r10⟩, r11, r12, r13⟩ := id ru
  obtain ⟨dL, n, d2, d4, d5, g, d6⟩ := tq
  rw [← hB] at h156
  unfold fb_M_goOnWith_101 fb_M_goOnWith_136
  refine rb_ck (fun _ => rb_ck (fun _ => ?_))
  have h108 : A w 108 p = ((Y : Nat) : Int) := by
    have := pl.2.2.2.2.1
    rw [wa_rne (by omega)] at this
    exact this
  rw [I_F' r11, tnI (n := p) rfl (by omega), I_A' h108, wa_e, lt_e]
  have x33 : F (wa w 110 p ((Y : Nat) : Int)) 133 = ((p : Nat) : Int) := r11
  have x156 : F (wa w 110 p ((Y : Nat) : Int)) 156 = ((B : Nat) : Int) := h156
  refine rb_ck (fun _ => ?_)
  rw [I_F' x33, tnI (n := p) rfl (by omega), I_F' x156, wa_e, lt_e]
  refine r_bb ?_
  generalize hw1 : wa (wa w 110 p ((Y : Nat) : Int)) 94 p ((B : Nat) : Int) = w1
  have wR : ∀ K, K ≠ 94 → K ≠ 110 → w1.2.2.1 K = w.2.2.1 K := fun K h1 h2 => by rw [← hw1, wa_21 h1, wa_21 h2]
  have w1i : w1.1 = w.1 := by rw [← hw1]; rfl
  have wJ : w1.2.2.2 = w.2.2.2 := by rw [← hw1]; rfl
  have w1F : ∀ l, F w1 l = F w l := fun l => by show (w1.1 l).toInt = _; rw [w1i]; rfl
  have h94 : A w1 94 p = ((B : Nat) : Int) := by rw [← hw1, wa_sm (by omega) (by omega)]
  have h110 : A w1 110 p = ((Y : Nat) : Int) := by rw [← hw1, wa_rne (by omega), wa_sm (by omega) (by omega)]
  have pr : ∀ K, PRr K → w1.2.2.1 K = w.2.2.1 K := fun K h => wR K (by unfold PRr at h; omega) (by unfold PRr at h; omega)
  have ru1 : RUb m w1 p j nb Hs Os none := RUb_gw ru (fun _ _ => rfl) (fun _ _ _ => rfl) rfl wR (fun l _ => by rw [w1i]) wJ
  have pl1 : PLs b p m w1 U B W Y := PLs_gw pl (fun _ _ => rfl) rfl (fun K h1 h2 => by rw [wR K h1 h2, wa_21 h1]) h94 (by rw [wJ]; rfl)
  have gw1 : GGw p w w1 := by
    rw [← hw1]
    exact GGw.tr (GGw_own (Or.inl ⟨by omega, rfl⟩)) (GGw_own (Or.inl ⟨by omega, rfl⟩))
  have sc1 : SCs p m w → SCs p m w1 := fun s => SC_ow s (fun _ _ => rfl) rfl (fun K h1 h2 => wR K (by omega) (by omega))
  exact next_fin hpp ru1 hpc ⟨by rw [wJ]; exact dL, n, by rw [w1F]; exact d2, by rw [show A w1 23 n = A w 23 n from by show (w1.2.2.1 23 n).toInt = _; rw [wR 23 (by omega) (by omega)]; rfl]; exact d4, by rw [show A w1 27 n = A w 27 n from by show (w1.2.2.1 27 n).toInt = _; rw [wR 27 (by omega) (by omega)]; rfl]; exact d5, g, by rw [ROs_eq pr, wJ]; exact d6⟩ nd pl1 h110 h8 hsc hvk (by rw [w1i]; exact hcl) hun (fun n h => hn n (by rw [← w1F]; exact h)) (fun m3 w3 a1 a2 a3 a4 a5 => kW m3 w3 a1 a2 a3 (GGw.tr gw1 a4) (fun s => a5 (sc1 s))) (fun m3 w3 l q a1 a2 a3 a4 a5 => kR m3 w3 l q a1 a2 a3 (GGw.tr gw1 a4) (fun s => a5 (sc1 s)))
end
end
section
set_option maxRecDepth 100000
section
variable {Sf : MS → Int32 → Prop} {β : Type} {b : Int → Nat → Nat → Prop} {N p j Y sc U B W : Nat} {m w m2 w2 : MS} {nb : Nat → Nat} {Hs Os : Nat → List Nat} {Q : MS → Int32 → MS → β → Prop} {Z : Option (MS × β)} {K2 : MS → Option (MS × β)}
theorem TRq_of {H O : List Nat} (h : TRr 3 sc m w p H O) : TRq sc m w p H O := by
  obtain ⟨⟨-, dL⟩, n, d2, -, d4, d5, d6⟩ := h rfl
  exact ⟨dL, n, d2, d4, d5, d6⟩
theorem skip_lp (hY : Y ≤ 30) (c32 : A m 23 sc = 32) (c34 : A m 23 (sc + 2) = 34) (c35 : A m 23 (sc + 2 + 1) = ((sc : Nat) : Int)) (hsc : sc + 3 < 24000) (h9 : F m (pq p 9) = 0) (h18 : F m 1108 = 0) (h19 : F m 1109 = 0) (h956 : F m 955 ≤ F m 956) (h7 : F m (pq p 7) = ((Y : Nat) : Int)) {V M0 : Nat} (hV : V < 1000000000)
    (kk : ∀ m' M' vk', M' ≤ M0 → vk' ≤ V → (∀ l, l ≠ 1105 → l ≠ pq p 8 → m'.1 l = m.1 l) → m'.2 = m.2 → F m' 1105 = ((sc : Nat) : Int) → F m' (pq p 8) = ((Y : Nat) : Int) → PP Q (q67 Sf N (qgo Sf N M') m' p (I ((vk' : Nat) : Int))) Z) : ∀ (d t M vk : Nat) (m1 : MS), t + d = Y → M ≤ M0 → vk + 2 * d ≤ V → (∀ l, l ≠ 1105 → l ≠ pq p 8 → m1.1 l = m.1 l) → m1.2 = m.2 → F m1 1105 = ((sc : Nat) : Int) → F m1 (pq p 8) = ((t : Nat) : Int) → PP Q (q67 Sf N (qgo Sf N M) m1 p (I ((vk : Nat) : Int))) Z := by
  intro d
  induction d with
  | zero =>
    intro t M vk m1 ht hM hv e1 e2 e3 e4
    exact kk m1 M vk hM (by omega) e1 e2 e3 (e4.trans (by rw [show t = Y by omega]))
  | succ d ih =>
    intro t M vk m1 ht hM hv e1 e2 e3 e4
    have g : ∀ u : MS, (∀ l, l ≠ 1105 → l ≠ pq p 8 → u.1 l = m.1 l) → u.2 = m.2 → (F u (pq p 9) = 0 ∧ F u 1108 = 0 ∧ F u 1109 = 0 ∧ F u 955 ≤ F u 956 ∧ F u (pq p 7) = ((Y : Nat) : Int)) ∧ ∀ i, A u 23 i = A m 23 i := fun u u1 u2 => by
      have f : ∀ l, l ≠ 1105 → l ≠ pq p 8 → F u l = F m l := fun l a c => congrArg Int32.toInt (u1 l a c)
      refine ⟨⟨?_, ?_, ?_, ?_, ?_⟩, fun i => ?_⟩
      · rw [f _ (fun c => pq_n (by omega) c.symm) (pq_inj (by omega))]; exact h9
      · rw [f _ (by omega) (pq_n (by omega))]; exact h18
      · rw [f _ (by omega) (pq_n (by omega))]; exact h19
      · rw [f _ (by omega) (pq_n (by omega)), f _ (by omega) (pq_n (by omega))]; exact h956
      · rw [f _ (fun c => pq_n (by omega) c.symm) (pq_inj (by omega))]; exact h7
      · show (u.2.2.1 23 i).toInt = _
        rw [u2]; rfl
    obtain ⟨⟨a1, a2, a3, a4, a5⟩, a6⟩ := g m1 e1 e2
    rw [go_fl a1 a2 (by omega) e3 (by omega) ((a6 sc).trans c32) ⟨by omega, by omega⟩, next_m e3 (by omega) a5 e4 (by omega) hY, bnd_so]
    have e1' : ∀ l, l ≠ 1105 → l ≠ pq p 8 → (wi m1 1105 ((sc + 2 : Nat) : Int)).1 l = m.1 l := fun l c1 c2 => (wi_1 c1).trans (e1 l c1 c2)
    obtain ⟨⟨b1, b2, b3, b4, b5⟩, b6⟩ := g (wi m1 1105 ((sc + 2 : Nat) : Int)) e1' e2
    refine go195 b3 b4 (fun hsf => ?_)
    cases M with
    | zero => exact pp_nl
    | succ M =>
    show PP Q (q67 Sf N (qgo Sf N M) (wi m1 1105 ((sc + 2 : Nat) : Int)) p (I ((vk + 1 : Nat) : Int))) Z
    have e8 : F (wi m1 1105 ((sc + 2 : Nat) : Int)) (pq p 8) = ((t : Nat) : Int) := by rw [wi_ne (fun c => pq_n (by omega) c.symm)]; exact e4
    rw [go_fl b1 b2 (by omega) (a := sc + 2) (wi_sm (by omega) (by omega)) (by omega) ((b6 (sc + 2)).trans c34) ⟨by omega, by omega⟩, skip_m (a := sc + 2) (sc := sc) (wi_sm (by omega) (by omega)) (by omega) ((b6 (sc + 2 + 1)).trans c35) e8, bnd_so]
    have e1'' : ∀ l, l ≠ 1105 → l ≠ pq p 8 → (wi (wi (wi m1 1105 ((sc + 2 : Nat) : Int)) (pq p 8) ((t + 1 : Nat) : Int)) 1105 ((sc : Nat) : Int)).1 l = m.1 l := fun l c1 c2 => (wi_1 c1).trans ((wi_1 c2).trans (e1' l c1 c2))
    obtain ⟨⟨-, -, d3, d4, -⟩, -⟩ := g (wi (wi (wi m1 1105 ((sc + 2 : Nat) : Int)) (pq p 8) ((t + 1 : Nat) : Int)) 1105 ((sc : Nat) : Int)) e1'' e2
    refine go195 d3 d4 (fun hsf => ?_)
    cases M with
    | zero => exact pp_nl
    | succ M =>
    show PP Q (q67 Sf N (qgo Sf N M) (wi (wi (wi m1 1105 ((sc + 2 : Nat) : Int)) (pq p 8) ((t + 1 : Nat) : Int)) 1105 ((sc : Nat) : Int)) p (I ((vk + 1 + 1 : Nat) : Int))) Z
    exact ih (t + 1) M (vk + 1 + 1) _ (by omega) (by omega) (by omega) e1'' e2 (wi_sm (by omega) (by omega)) (by rw [wi_ne (fun c => pq_n (by omega) c.symm), wi_sm (by omega) (by omega)])
theorem recv_pp {t M1 vk : Nat} (hpp : p < 24) (nx : NXs m w p j nb Hs Os sc) (pl : PLs b p m (wa w 94 p ((B : Nat) : Int)) U B W Y) (hB : B = nb j + (Hs j).length + (Os j).length) (hB2 : B < 100000) (hY : Y ≤ 30) (h8 : F m (pq p 8) = ((t : Nat) : Int)) (ht : t ≤ Y) (hvk : vk + 100 < 1000000000) (h956 : F m 955 ≤ F m 956) (hcl : m.1 944 = w.1 120) (hun : A m 23 (sc - 1) = 0 → m.2.1 (pq p 10) = -1) (hn : ∀ n : Nat, F w 159 = ((n : Nat) : Int) → n < 2147483648)
    (kW : ∀ M' vk' m3 w3, M' ≤ M1 → vk' ≤ vk + 60 → WTn m3 w3 p j nb Hs Os sc → PLs b p m3 w3 U B W Y → GGm p m m3 → GGw p w w3 → (SCs p m w → SCs p m3 w3) → PP Q (q195 Sf N (qgo Sf N M') m3 p (I ((vk' : Nat) : Int))) (K2 w3))
    (kR : ∀ M' vk' m3 w3 l q, M' ≤ M1 → vk' ≤ vk + 60 → RUs m3 w3 p j nb Hs Os none l q → PLs b p m3 w3 U B W Y → GGm p m m3 → GGw p w w3 → (SCs p m w → SCs p m3 w3) → PP Q (q195 Sf N (qgo Sf N M') m3 p (I ((vk' : Nat) : Int))) (K2 w3))
    (kT : ∀ m3 w3 k, t < Y → TRs m3 w3 p j nb Hs Os 3 sc (sc + 2) k → PLs b p m3 (wa w3 94 p ((B : Nat) : Int)) U B W Y → F m3 (pq p 8) = ((t : Nat) : Int) → GGm p m m3 → GGw p w w3 → (SCs p m w → SCs p m3 w3) → (w3.2.2.2 88 = w.2.2.2 88 ∧ w3.1 140 = w.1 140) → PP Q (q195 Sf N (qgo Sf N M1) m3 p (I ((vk : Nat) : Int))) (bnd (gg_M_choose N (rc_M_error N 19) N w3 1) (fun u _ => K2 u))) : PP Q (q67 Sf N (qgo Sf N M1) m p (I ((vk : Nat) : Int))) (bnd (gwB N w) (fun u _ => K2 u)) := by
  obtain ⟨ru, hpc, ⟨h153, h156⟩, tr, nd⟩ := nx
  obtain ⟨-, ⟨r5, r6⟩, -, ⟨r8, r9, r10⟩, r11, r12, r13⟩ := id ru
  obtain ⟨⟨d1, dL⟩, n, d2, d3, d4, d5, g, d6⟩ := tr rfl
  have h108 : A w 108 p = ((Y : Nat) : Int) := by
    have := pl.2.2.2.2.1
    rw [wa_rne (by omega)] at this
    exact this
  have h7 : F m (pq p 7) = ((Y : Nat) : Int) := pl.2.2.2.1
  have h158 : F w 158 = ((t : Nat) : Int) := d1.trans h8
  obtain ⟨x32, zr, -, -⟩ := id d6
  have zb : sc + 3 < 24000 := by
    cases g with
    | zero => exact zr.elim
    | succ g =>
      have := zr.1
      omega
  have c25 := A_r w 25 n
  unfold gwB
  refine rb_ck (fun _ => ?_)
  rw [I_F' r11, tnI (n := p) rfl (by omega), I_A' h108, I_F' h158, decI (by omega) (by omega) (by omega) (by omega)]
  by_cases ct : t = Y
  · rw [decide_eq_true (by omega), br_tq]
    exact recv_end hpp ru hpc h156 (TRq_of tr) nd pl hB hB2 hY (by rw [h8, ct]) (by omega) (by omega) hcl hun hn (fun m3 w3 => kW M1 vk m3 w3 (Nat.le_refl _) (by omega)) (fun m3 w3 l q => kR M1 vk m3 w3 l q (Nat.le_refl _) (by omega))
  · rw [decide_eq_false (by omega), br_fq, I_F' d3, show (-1 : Int32) = I (-1) from rfl, decE c25.1 c25.2 (by omega) (by omega)]
    by_cases ck : A w 25 n = -1
    · 
      rw [decide_eq_true ck, br_tq]
      have z2 : A m 23 (sc + 2) = 34 ∧ A m 23 (sc + 2 + 1) = ((sc : Nat) : Int) := by
        rw [ro_e (k := 25) (by unfold PRr; omega), ck] at zr
        cases g with
        | zero => exact zr.elim
        | succ g =>
          rcases zr.2 with ⟨-, z | z | z | ⟨-, z1, z2⟩⟩ | ⟨k0, ⟨z, -⟩, -⟩
          · omega
          · omega
          · omega
          · exact ⟨z1, z2⟩
          · omega
      refine skip_lp (m := m) (Y := Y) (V := vk + 60) (M0 := M1) hY x32 z2.1 z2.2 zb r5 r8 r9 h956 h7 (by omega) (fun m' M' vk' q1 q2 q3 q4 q5 q6 => ?_) (Y - t) t M1 vk m (by omega) (Nat.le_refl _) (by omega) (fun _ _ _ => rfl) rfl hpc h8
      have mq : ∀ l, l ≠ 8 → m'.1 (pq p l) = m.1 (pq p l) := fun l h => q3 _ (fun c => pq_n (by omega) c.symm) (pq_inj h)
      have mg : ∀ l, l < 2000 → l ≠ 1105 → m'.1 l = m.1 l := fun l h0 h => q3 l h (pq_n h0)
      have h23 : A m' 23 = A m 23 := by funext i; show (m'.2.2.1 23 i).toInt = _; rw [q4]; rfl
      have ru' : RUb m' w p j nb Hs Os none := RUb_gw ru mq (fun l h1 h2 => mg l (by omega) (by omega)) (by rw [q4]) (fun _ _ _ => rfl) (fun _ _ => rfl) rfl
      have pl' : PLs b p m' (wa w 94 p ((B : Nat) : Int)) U B W Y := PLs_gw pl mq (by rw [q4]) (fun _ _ _ => rfl) (by rw [wa_sm (by omega) (by omega)]) rfl
      have gm : GGm p m m' := ⟨fun d hd l hl => ⟨q3 _ (fun c => pq_n (by omega) c.symm) (fun c => hd (pq_e hl (by omega) c).1), by rw [q4], by rw [q4], by rw [q4]⟩, ⟨by rw [q4], mg 22 (by omega) (by omega), by rw [q4], by rw [q4]⟩, mg 955 (by omega) (by omega), by rw [q4], mg 956 (by omega) (by omega), fun K _ => by rw [q4], fun k hk => mg k (by omega) (by omega)⟩
      have sc' : SCs p m w → SCs p m' w := fun s => SC_ow s (fun l hl => mq l (by omega)) (by rw [q4]) (fun _ _ _ => rfl)
      exact recv_end hpp ru' q5 h156 ⟨by rw [q4]; exact dL, n, d2, d4, d5, g, by rw [h23]; exact d6⟩ nd pl' hB hB2 hY q6 (by omega) (by omega) (by rw [mg 944 (by omega) (by omega)]; exact hcl) (fun z => by rw [q4]; exact hun (by rw [← h23]; exact z)) hn (fun m3 w3 a1 a2 a3 a4 a5 => kW M' vk' m3 w3 q1 q2 a1 a2 (GGm.tr gm a3) a4 (fun s => a5 (sc' s))) (fun m3 w3 l q a1 a2 a3 a4 a5 => kR M' vk' m3 w3 l q q1 q2 a1 a2 (GGm.tr gm a3) a4 (fun s => a5 (sc' s)))
    · rw [decide_eq_false ck, br_fq, wi_e, lt_e]
      refine r_bb ?_
      show PP Q _ (bnd (gg_M_choose N (rc_M_error N 19) N (wi w 154 (A w 25 n)) 1) (fun u _ => K2 u))
      rw [go_fl r5 r8 (by omega) hpc (by omega) x32 ⟨by omega, by omega⟩, next_m hpc (by omega) h7 h8 (by omega) hY, bnd_so]
      have e8 : F (wi m 1105 ((sc + 2 : Nat) : Int)) (pq p 8) = ((t : Nat) : Int) := by rw [wi_ne (fun c => pq_n (by omega) c.symm)]; exact h8
      refine kT _ _ (A w 25 n) (by omega) ⟨RUb_pc ru (by omega), wi_sm (by omega) (by omega), ⟨?_, wi_sm c25.1 c25.2, ?_⟩, ?_, nd, g, g, ?_⟩ ?_ e8 (GGm_reg (by omega)) (GGw_reg (by omega) (by omega)) (fun s => SC_ow s (fun l _ => wi_1 (fun c => pq_n (by omega) c.symm)) rfl (fun _ _ _ => rfl)) ⟨rfl, wi_1 (by omega)⟩
      · rw [wi_ne (by omega)]; exact h153
      · rw [wi_ne (by omega)]; exact h156
      · exact TRr_w tr (wi_1 (fun c => pq_n (by omega) c.symm)) rfl rfl (fun l hl => wi_1 (by omega)) rfl (fun _ _ => rfl) rfl
      · rw [ro_e (k := 25) (by unfold PRr; omega)] at zr
        exact zr
      · exact PLs_cg pl (fun l _ => wi_1 (fun c => pq_n (by omega) c.symm)) (fun _ _ => rfl) (fun _ _ => rfl) (fun _ _ => rfl) (fun _ _ => rfl) (fun _ _ => rfl) (fun _ _ => rfl) (fun _ _ => rfl) (fun _ _ => rfl) (fun _ _ => rfl)
end
end
section
set_option maxRecDepth 100000
section
variable {Sf : MS → Int32 → Prop} {β : Type} {b : Int → Nat → Nat → Prop} {N p j Y sc a t U B W M M1 vk d : Nat} {m w : MS} {nb : Nat → Nat} {Hs Os : Nat → List Nat} {Q : MS → Int32 → MS → β → Prop} {K : MS → Unit → Option (MS × β)}
theorem none3_pp (hpp : p < 24) (tt : TRs m w p j nb Hs Os 3 sc a (-1)) (pl : PLs b p m (wa w 94 p ((B : Nat) : Int)) U B W Y) (hB : B = nb j + (Hs j).length + (Os j).length) (hB2 : B < 100000) (hY : Y ≤ 30) (h8 : F m (pq p 8) = ((t : Nat) : Int)) (ht : t < Y) (hvk : vk + 2 < 1000000000) (h956 : F m 955 ≤ F m 956) (hcl : m.1 944 = w.1 120) (hun : A m 23 (sc - 1) = 0 → m.2.1 (pq p 10) = -1) (hn : ∀ n : Nat, F w 159 = ((n : Nat) : Int) → n < 2147483648)
    (kW : ∀ M' vk' m3 w3, M' ≤ M1 → vk' ≤ vk + 1 → WTn m3 w3 p j nb Hs Os sc → PLs b p m3 w3 U B W Y → GGm p m m3 → GGw p w w3 → (SCs p m w → SCs p m3 w3) → PP Q (q195 Sf N (qgo Sf N M') m3 p (I ((vk' : Nat) : Int))) (K w3 ()))
    (kR : ∀ M' vk' m3 w3 l q, M' ≤ M1 → vk' ≤ vk + 1 → RUs m3 w3 p j nb Hs Os none l q → PLs b p m3 w3 U B W Y → GGm p m m3 → GGw p w w3 → (SCs p m w → SCs p m3 w3) → PP Q (q195 Sf N (qgo Sf N M') m3 p (I ((vk' : Nat) : Int))) (K w3 ()))
    (kT : ∀ M' vk' m3 w3 k, M' ≤ M1 → vk' ≤ vk + 1 → t + 1 < Y → TRs m3 w3 p j nb Hs Os 3 sc (sc + 2) k → PLs b p m3 (wa w3 94 p ((B : Nat) : Int)) U B W Y → F m3 (pq p 8) = ((t + 1 : Nat) : Int) → GGm p m m3 → GGw p w w3 → (SCs p m w → SCs p m3 w3) → (w3.2.2.2 88 = w.2.2.2 88 ∧ w3.1 140 = w.1 140) → PP Q (q195 Sf N (qgo Sf N M') m3 p (I ((vk' : Nat) : Int))) (bnd (gg_M_choose N (rc_M_error N d) M w3 1) K)) : PP Q (q67 Sf N (qgo Sf N M1) m p (I ((vk : Nat) : Int))) (bnd (gg_M_choose N (rc_M_error N d) (M + 1) w 1) K) := by
  obtain ⟨ru, hpc, ⟨h153, h154, h156⟩, tr, nd, f, g, zr⟩ := tt
  obtain ⟨-, ⟨r5, r6⟩, -, ⟨r8, r9, r10⟩, r11, r12, r13⟩ := id ru
  obtain ⟨⟨d1, dL⟩, n, d2, d3, d4, d5, g2, d6⟩ := id (tr rfl)
  rw [← hB] at h156
  have zc : a + 1 < 24000 ∧ A m 23 a = 34 ∧ A m 23 (a + 1) = ((sc : Nat) : Int) := by
    cases g with
    | zero => exact zr.elim
    | succ g =>
      rcases zr with ⟨z0, ⟨-, z | z | z | ⟨-, z1, z2⟩⟩ | ⟨k0, ⟨z, -⟩, -⟩⟩
      · omega
      · omega
      · omega
      · exact ⟨z0, z1, z2⟩
      · omega
  obtain ⟨x32, zr2, -, -⟩ := id d6
  have zb : sc + 3 < 24000 := by
    cases g2 with
    | zero => exact zr2.elim
    | succ g2 =>
      have := zr2.1
      omega
  have c25 := A_r w 25 n
  refine cho_n hpp r11 h156 h154 ?_
  cases d with
  | zero => exact pp_nr
  | succ d =>
  show PP Q _ (bnd (fm_M_nonePart N (rc_M_error N d) (wa w 94 p ((B : Nat) : Int))) (fun u8 r8 => bnd (gg_M_choose N (rc_M_error N (d + 1)) M u8 r8) K))
  rw [go_fl r5 r8 (by omega) hpc (by omega) zc.2.1 ⟨by omega, by omega⟩, skip_m (sc := sc) hpc zc.1 zc.2.2 h8, bnd_so]
  generalize hm1 : wi (wi m (pq p 8) ((t + 1 : Nat) : Int)) 1105 ((sc : Nat) : Int) = m1
  have mq : ∀ l, l ≠ 8 → m1.1 (pq p l) = m.1 (pq p l) := fun l h => by rw [← hm1, wi_1 (fun c => pq_n (by omega) c.symm), wi_1 (pq_inj h)]
  have mg : ∀ l, l < 2000 → l ≠ 1105 → m1.1 l = m.1 l := fun l h0 h => by rw [← hm1, wi_1 h, wi_1 (pq_n h0)]
  have mr : m1.2 = m.2 := by rw [← hm1]; rfl
  have m8 : F m1 (pq p 8) = ((t + 1 : Nat) : Int) := by rw [← hm1, wi_ne (fun c => pq_n (by omega) c.symm), wi_sm (by omega) (by omega)]
  have mpc : F m1 1105 = ((sc : Nat) : Int) := by rw [← hm1, wi_sm (by omega) (by omega)]
  have mF : ∀ l, l < 2000 → l ≠ 1105 → F m1 l = F m l := fun l h0 h => congrArg Int32.toInt (mg l h0 h)
  have h23 : A m1 23 = A m 23 := by funext i; show (m1.2.2.1 23 i).toInt = _; rw [mr]; rfl
  have gm : GGm p m m1 := by
    rw [← hm1]
    exact GGm.tr (GGm_own (by omega)) (GGm_reg (by omega))
  refine go195 ((mF 1109 (by omega) (by omega)).trans r9) (by rw [mF 955 (by omega) (by omega), mF 956 (by omega) (by omega)]; exact h956) (fun hsf => ?_)
  cases M1 with
  | zero => exact pp_nl
  | succ M1 =>
  show PP Q (q67 Sf N (qgo Sf N M1) m1 p (I ((vk + 1 : Nat) : Int))) _
  unfold fm_M_nonePart fb_M_nonePart_0
  have y153 : F (wa w 94 p ((B : Nat) : Int)) 153 = 3 := h153
  have y158 : F (wa w 94 p ((B : Nat) : Int)) 158 = ((t : Nat) : Int) := d1.trans h8
  rw [I_F' y153, show decide (I 3 = 3) = true from rfl, br_tq, I_F' y158, show I ((t : Nat) : Int) + 1 = I ((t + 1 : Nat) : Int) from addN, wi_e, lt_e]
  have z33 : F (wi (wa w 94 p ((B : Nat) : Int)) 158 ((t + 1 : Nat) : Int)) 133 = ((p : Nat) : Int) := by rw [wi_ne (by omega)]; exact r11
  have z58 : F (wi (wa w 94 p ((B : Nat) : Int)) 158 ((t + 1 : Nat) : Int)) 158 = ((t + 1 : Nat) : Int) := wi_sm (by omega) (by omega)
  refine rb_ck (fun _ => ?_)
  rw [I_F' z33, tnI (n := p) rfl (by omega), I_F' z58, wa_e, lt_e]
  generalize hw5 : wa (wi (wa w 94 p ((B : Nat) : Int)) 158 ((t + 1 : Nat) : Int)) 110 p ((t + 1 : Nat) : Int) = w5
  have vF : ∀ l, l ≠ 158 → w5.1 l = w.1 l := fun l h => by
    rw [← hw5]
    show (wi (wa w 94 p ((B : Nat) : Int)) 158 ((t + 1 : Nat) : Int)).1 l = _
    rw [wi_1 h]; rfl
  have vf : ∀ l, l ≠ 158 → F w5 l = F w l := fun l h => congrArg Int32.toInt (vF l h)
  have v58 : F w5 158 = ((t + 1 : Nat) : Int) := by rw [← hw5]; exact z58
  have vR : ∀ K, K ≠ 94 → K ≠ 110 → w5.2.2.1 K = w.2.2.1 K := fun K h1 h2 => by
    rw [← hw5, wa_21 h2]
    show (wa w 94 p ((B : Nat) : Int)).2.2.1 K = _
    rw [wa_21 h1]
  have vJ : w5.2.2.2 = w.2.2.2 := by rw [← hw5]; rfl
  have v94 : A w5 94 p = ((B : Nat) : Int) := by
    rw [← hw5, wa_rne (by omega)]
    show A (wa w 94 p ((B : Nat) : Int)) 94 p = _
    rw [wa_sm (by omega) (by omega)]
  have v110 : A w5 110 p = ((t + 1 : Nat) : Int) := by rw [← hw5, wa_sm (by omega) (by omega)]
  have vA : ∀ K i, K ≠ 94 → K ≠ 110 → A w5 K i = A w K i := fun K i h1 h2 => by show (w5.2.2.1 K i).toInt = _; rw [vR K h1 h2]; rfl
  have pr : ∀ K, PRr K → w5.2.2.1 K = w.2.2.1 K := fun K h => vR K (by unfold PRr at h; omega) (by unfold PRr at h; omega)
  have ru5 : RUb m1 w5 p j nb Hs Os none := RUb_gw ru mq (fun l h1 h2 => mg l (by omega) (by omega)) (by rw [mr]) vR (fun l h => vF l (by omega)) vJ
  have pl5 : PLs b p m1 w5 U B W Y := PLs_gw pl mq (by rw [mr]) (fun K h1 h2 => by rw [vR K h1 h2, wa_21 h1]) v94 (by rw [vJ]; rfl)
  have gw5 : GGw p w w5 := by
    rw [← hw5]
    exact GGw.tr (GGw.tr (GGw_own (Or.inl ⟨by omega, rfl⟩)) (GGw_reg (by omega) (by omega))) (GGw_own (Or.inl ⟨by omega, rfl⟩))
  have sc5 : SCs p m w → SCs p m1 w5 := fun s => SC_ow s (fun l hl => mq l (by omega)) (by rw [mr]) (fun K h1 h2 => vR K (by omega) (by omega))
  have h108 : A w5 108 p = ((Y : Nat) : Int) := pl5.2.2.2.2.1
  have h7 : F m1 (pq p 7) = ((Y : Nat) : Int) := pl5.2.2.2.1
  have tq5 : TRq sc m1 w5 p (Hs j) (Os j) := ⟨by rw [mr, vJ]; exact dL, n, by rw [vf 159 (by omega)]; exact d2, by rw [vA 23 _ (by omega) (by omega)]; exact d4, by rw [vA 27 _ (by omega) (by omega)]; exact d5, g2, by rw [h23, ROs_eq pr, vJ]; exact d6⟩
  refine rb_ck (fun _ => ?_)
  rw [I_F' ((vf 133 (by omega)).trans r11), tnI (n := p) rfl (by omega), I_A' h108, I_F' v58, decI (by omega) (by omega) (by omega) (by omega)]
  by_cases ct : t + 1 = Y
  · rw [decide_eq_true (by omega), br_tq]
    refine rb_ck (fun _ => rb_ck (fun _ => ?_))
    rw [wa_e, lt_e]
    refine r_bb ?_
    generalize hw6 : wa w5 110 p ((Y : Nat) : Int) = w6
    have e56 : w6 = w5 := by
      rw [← hw6]
      have : w5.2.2.1 110 p = I ((Y : Nat) : Int) := by rw [I_A' v110, ct]
      show (w5.1, w5.2.1, (fun k => if k = 110 then upd (w5.2.2.1 110) p (I ((Y : Nat) : Int)) else w5.2.2.1 k), w5.2.2.2) = w5
      have e : (fun k => if k = 110 then upd (w5.2.2.1 110) p (I ((Y : Nat) : Int)) else w5.2.2.1 k) = w5.2.2.1 := by
        funext k
        by_cases c : k = 110
        · subst c
          rw [if_pos rfl]
          funext i
          show (if i = p then I ((Y : Nat) : Int) else w5.2.2.1 110 i) = _
          by_cases c2 : i = p
          · rw [if_pos c2, c2, this]
          · rw [if_neg c2]
        · rw [if_neg c]
      rw [e]
    rw [e56]
    refine next_fin (K2 := fun u => bnd (gg_M_choose N (rc_M_error N (d + 1)) M u 0) K) hpp ru5 mpc tq5 nd pl5 (by rw [v110, ct]) (by rw [m8, ct]) (by omega) (by omega) (by rw [mg 944 (by omega) (by omega), vF 120 (by omega)]; exact hcl) (fun z => by rw [mr]; exact hun (by rw [← h23]; exact z)) (fun n h => hn n (by rw [← vf 159 (by omega)]; exact h)) (fun m3 w3 a1 a2 a3 a4 a5 => cho_0 (kW M1 (vk + 1) m3 w3 (by omega) (by omega) a1 a2 (GGm.tr gm a3) (GGw.tr gw5 a4) (fun s => a5 (sc5 s)))) (fun m3 w3 l q a1 a2 a3 a4 a5 => cho_0 (kR M1 (vk + 1) m3 w3 l q (by omega) (by omega) a1 a2 (GGm.tr gm a3) (GGw.tr gw5 a4) (fun s => a5 (sc5 s))))
  · rw [decide_eq_false (by omega), br_fq, I_F' ((vf 155 (by omega)).trans d3), wi_e, lt_e]
    refine rb_ck (fun _ => ?_)
    show PP Q _ (bnd (gg_M_choose N (rc_M_error N (d + 1)) M (wi w5 154 (A w 25 n)) 1) K)
    rw [go_fl ((congrArg Int32.toInt (mq 9 (by omega))).trans r5) ((mF 1108 (by omega) (by omega)).trans r8) (by omega) mpc (by omega) (show A m1 23 sc = 32 by rw [h23]; exact x32) ⟨by omega, by omega⟩, next_m mpc (by omega) h7 m8 (by omega) hY, bnd_so]
    have e8 : F (wi m1 1105 ((sc + 2 : Nat) : Int)) (pq p 8) = ((t + 1 : Nat) : Int) := by rw [wi_ne (fun c => pq_n (by omega) c.symm)]; exact m8
    refine kT M1 (vk + 1) _ _ (A w 25 n) (by omega) (by omega) (by omega) ⟨RUb_pc ru5 (by omega), wi_sm (by omega) (by omega), ⟨?_, wi_sm c25.1 c25.2, ?_⟩, fun _ => ?_, nd, g2, g2, ?_⟩ ?_ e8 (GGm.tr gm (GGm_reg (by omega))) (GGw.tr gw5 (GGw_reg (by omega) (by omega))) (fun s => SC_ow (sc5 s) (fun l _ => wi_1 (fun c => pq_n (by omega) c.symm)) rfl (fun _ _ _ => rfl)) ⟨by show w5.2.2.2 88 = _; rw [vJ], (wi_1 (by omega)).trans (vF 140 (by omega))⟩
    · rw [wi_ne (by omega), vf 153 (by omega)]; exact h153
    · rw [wi_ne (by omega), vf 156 (by omega), h156, hB]
    · refine ⟨⟨?_, ?_⟩, n, ?_, ?_, ?_, ?_, g2, ?_⟩
      · rw [wi_ne (by omega), v58, e8]
      · show DLs (m1.2.1 (pq p 10)) (w5.2.2.2 111 p)
        rw [mr, vJ]; exact dL
      · rw [wi_ne (by omega), vf 159 (by omega)]; exact d2
      · rw [wi_ne (by omega), vf 155 (by omega)]
        show _ = A w5 25 n
        rw [vA 25 _ (by omega) (by omega)]; exact d3
      · show A w5 23 n = 27
        rw [vA 23 _ (by omega) (by omega)]; exact d4
      · show A w5 27 n = _
        rw [vA 27 _ (by omega) (by omega)]; exact d5
      · show RCs (A m1 23) (ROs w5) (w5.2.2.2 34) (CRs (A m1 23) (ROs w5) (w5.2.2.2 34) g2) g2 sc n (Hs j) (Os j)
        rw [h23, ROs_eq pr, vJ]; exact d6
    · show ZRs (A m1 23) (ROs w5) (w5.2.2.2 34) (CRs (A m1 23) (ROs w5) (w5.2.2.2 34) g2) 3 sc (Hs j) (Os j) g2 (sc + 2) (A w 25 n)
      rw [h23, ROs_eq pr, vJ]
      rw [ro_e (k := 25) (by unfold PRr; omega)] at zr2
      exact zr2
    · exact PLs_cg (PLs_94 pl5 hB2) (fun l _ => wi_1 (fun c => pq_n (by omega) c.symm)) (fun _ _ => rfl) (fun _ _ => rfl) (fun _ _ => rfl) (fun _ _ => rfl) (fun _ _ => rfl) (fun _ _ => rfl) (fun _ _ => rfl) (fun _ _ => rfl) (fun _ _ => rfl)
end
end
section
set_option maxRecDepth 100000
section
variable {α β : Type} {b : Int → Nat → Nat → Prop} {N p PR U B W W0 Y j a n l ee ee' : Nat} {m w : MS} {nb : Nat → Nat} {Hs Os : Nat → List Nat} {Q : MS → α → MS → β → Prop} {K1 : MS → Option (MS × α)} {K2 : MS → Option (MS × β)} {v : Int} {Fv Fv' : Int64 → Int64 → Prop} {P P' : Int64 → Prop}
theorem one_29 : fm_M_one N w (I v) (I 29) = bnd (fm_M_returns N w) (fun u29 _ => some (u29, ())) := rfl
theorem leave_e (h21 : F m (pq p 21) = ((j + 1 + 1 : Nat) : Int)) (hj : j + 1 < 60) (h3 : A m (pq p 30) (5 * (j + 1) + 3) = ((W0 : Nat) : Int)) (h2 : A m (pq p 30) (5 * (j + 1) + 2) = ((B : Nat) : Int)) : hm_Fr_leave N m p = some (wi (wi (wi m (pq p 26) ((W0 : Nat) : Int)) (pq p 24) ((B : Nat) : Int)) (pq p 21) ((j + 1 : Nat) : Int), ()) := by
  unfold hm_Fr_leave hb_Fr_leave_0
  have s : I ((j + 1 + 1 : Nat) : Int) - 1 = I ((j + 1 : Nat) : Int) := by rw [lit1q, I_sub]; congr 1; omega
  rw [I_F' h21, s, show (3 : Int32) = I 3 from rfl, of_e (y := ((j + 1 : Nat) : Int)) (a := j + 1) (z := 3) (k := 3) (j := j + 1) h21 (by omega) rfl (Nat.le_refl _) rfl (by omega), bnd_so, h3, wi_e, lt_e]
  have e21 : F (wi m (pq p 26) ((W0 : Nat) : Int)) (pq p 21) = ((j + 1 + 1 : Nat) : Int) := by rw [wi_ne (pq_inj (by omega))]; exact h21
  have e30 : A (wi m (pq p 26) ((W0 : Nat) : Int)) (pq p 30) (5 * (j + 1) + 2) = ((B : Nat) : Int) := h2
  rw [I_F' e21, s, show (2 : Int32) = I 2 from rfl, of_e (y := ((j + 1 : Nat) : Int)) (a := j + 1) (z := 2) (k := 2) (j := j + 1) e21 (by omega) rfl (Nat.le_refl _) rfl (by omega), bnd_so, e30, wi_e, lt_e]
  have e21' : F (wi (wi m (pq p 26) ((W0 : Nat) : Int)) (pq p 24) ((B : Nat) : Int)) (pq p 21) = ((j + 1 + 1 : Nat) : Int) := by rw [wi_ne (pq_inj (by omega))]; exact e21
  rw [I_F' e21', s, wi_e, lt_e]
theorem ret_r {D : Option (MS × α)} (hpp : p < 24) (h133 : F w 133 = ((p : Nat) : Int)) (h92 : A w 92 p = ((W + 1 : Nat) : Int)) (hW : W ≤ 46000) (h95 : A w 95 p = ((j + 1 : Nat) : Int)) (hj : j < 60) (h100 : A w 100 (60 * p + j) = ((W0 : Nat) : Int)) (h99 : A w 99 (60 * p + j) = ((B : Nat) : Int)) {K : MS → Unit → Option (MS × β)}
    (h : PP Q D (bnd (br (decide (I ((j : Nat) : Int) = 0)) (bnd (fm_M_term N (wa (wa (wa (wa w 92 p ((W : Nat) : Int)) 92 p ((W0 : Nat) : Int)) 94 p ((B : Nat) : Int)) 95 p ((j : Nat) : Int)) 1 4) (fun u7 r7 => bnd (fm_M_ends N u7 0 r7) (fun u8 _ => fb_M_returns_83 N () u8))) (bnd (fm_M_put N (wa (wa (wa (wa w 92 p ((W : Nat) : Int)) 92 p ((W0 : Nat) : Int)) 94 p ((B : Nat) : Int)) 95 p ((j : Nat) : Int)) (w.2.2.2 91 (46000 * p + W))) (fun u6 _ => fb_M_returns_83 N () u6))) K)) : PP Q D (bnd (fm_M_returns N w) K) := by
  unfold fm_M_returns fb_M_returns_0
  refine rb_bnd (pk_mo (take_r (N := N) hpp h133 h92 hW) (fun w1 r1 e => ?_))
  obtain ⟨rfl, rfl⟩ := e
  have aw : ∀ K i, K ≠ 92 → A (wa w 92 p ((W : Nat) : Int)) K i = A w K i := fun K i h => by rw [wa_rne h]
  have ix : (I ((p : Nat) : Int) * 60 + I ((j + 1 : Nat) : Int) - 1).toNatClampNeg = 60 * p + j := by
    rw [show (60 : Int32) = I 60 from rfl, lit1q, I_mul, I_add, I_sub]
    exact tnI (n := 60 * p + j) (by omega) (by omega)
  have x33 : F (wa w 92 p ((W : Nat) : Int)) 133 = ((p : Nat) : Int) := h133
  unfold fm_M_frame0 fb_M_frame0_0
  rw [I_F' x33, tnI (n := p) rfl (by omega), I_A' ((aw 95 p (by omega)).trans h95)]
  refine rb_bnd (pk_ck (fun _ => pk_some ?_))
  refine rb_ck (fun _ => rb_ck (fun _ => ?_))
  rw [ix, I_F' x33, tnI (n := p) rfl (by omega), I_A' ((aw 100 _ (by omega)).trans h100), wa_e, lt_e]
  generalize hw3 : wa (wa w 92 p ((W : Nat) : Int)) 92 p ((W0 : Nat) : Int) = w3
  have a3 : ∀ K i, K ≠ 92 → A w3 K i = A w K i := fun K i h => by rw [← hw3, wa_rne h, aw K i h]
  have f3 : F w3 133 = ((p : Nat) : Int) := by rw [← hw3]; exact h133
  refine rb_ck (fun _ => rb_ck (fun _ => ?_))
  rw [I_F' f3, tnI (n := p) rfl (by omega), I_A' ((a3 99 _ (by omega)).trans h99), wa_e, lt_e]
  have f4 : F (wa w3 94 p ((B : Nat) : Int)) 133 = ((p : Nat) : Int) := f3
  have a4 : A (wa w3 94 p ((B : Nat) : Int)) 95 p = ((j + 1 : Nat) : Int) := by rw [wa_rne (by omega), a3 95 p (by omega)]; exact h95
  refine rb_ck (fun _ => rb_ck (fun _ => ?_))
  rw [I_F' f4, tnI (n := p) rfl (by omega), I_A' a4, show I ((j + 1 : Nat) : Int) - 1 = I ((j : Nat) : Int) by rw [lit1q, I_sub]; congr 1; omega, wa_e, lt_e]
  have f5 : F (wa (wa w3 94 p ((B : Nat) : Int)) 95 p ((j : Nat) : Int)) 133 = ((p : Nat) : Int) := f3
  have a5 : A (wa (wa w3 94 p ((B : Nat) : Int)) 95 p ((j : Nat) : Int)) 95 p = ((j : Nat) : Int) := wa_sm (by omega) (by omega)
  refine rb_ck (fun _ => ?_)
  rw [I_F' f5, tnI (n := p) rfl (by omega), I_A' a5, ← hw3]
  exact h
theorem op_ret (hpp : p < 24) (pl : PLs b p m w U B (W + 1) Y) (ru : RUs m w p (j + 1) nb Hs Os none a n) (hW : W + 1 ≤ 46000) (hB2 : B ≤ 2500) (hl : F m (pq p 45) = ((l : Nat) : Int)) (hl2 : W + 1 ≤ l ∧ l ≤ 1000000) (h100 : A w 100 (60 * p + (j + 1)) = ((W0 : Nat) : Int)) (hW0 : W0 ≤ W) (hct : ∀ nC c : Nat, F m (pq p 28) = ((nC : Nat) : Int) → c < nC → A w 102 (1600 * p + c) < ((j + 1 : Nat) : Int))
    (c : ∀ m3 w3 a2 n2, PLs b p m3 w3 U (nb (j + 1)) (W0 + 1) Y → RUs m3 w3 p j nb Hs Os none a2 n2 → GGm p m m3 → GGw p w w3 → (SCs p m w → SCs p m3 w3) → PP Q (K1 m3) (K2 w3)) : PP Q (bnd (hm_Ma_flow N m p (I 35)) (fun u _ => K1 u)) (bnd (fm_M_one N w (I ((n : Nat) : Int)) (I 29)) (fun u _ => K2 u)) := by
  obtain ⟨⟨fa, ct⟩, ⟨r2, r3⟩, ⟨f0, cr⟩, ⟨r5, r6⟩, r7, ⟨r8, r9, r10⟩, r11, r12, r13⟩ := id ru
  obtain ⟨h12, h152⟩ : F m 1112 = 0 ∧ F w 152 = 0 := by
    rcases r7 with ⟨_, c3, c4⟩ | ⟨_, _, _, c, _⟩
    · exact ⟨c3, c4⟩
    · cases c
  have cb := CR_b cr
  obtain ⟨⟨f1, f2, f3⟩, f4, f5, f6⟩ := id fa
  obtain ⟨g1, -, ⟨g3, g4⟩, g5, -, -⟩ := f4 (j + 1) (Nat.le_refl _)
  obtain ⟨n1, a2, n2, n3, n4, n5⟩ := f5 j (by omega)
  have a2r := A_r m (pq p 30) (5 * j + 4)
  rw [n3] at a2r
  have hB : B = nb (j + 1) + (Hs (j + 1) ++ Os (j + 1)).length := by
    have h1 := pl.2.1.1
    rw [f6] at h1
    omega
  rw [h100] at g5
  rw [flo35, one_29, I_F' r2, show I ((a : Nat) : Int) + 1 = I ((a + 1 : Nat) : Int) from addN, Co_e (k := a + 1) rfl (by omega), bnd_so]
  refine l_bb (l_bb (r_bb ?_))
  unfold hm_Ma_returns hb_Ma_returns_0
  rw [I_F' f1, show decide ((1 : Int32) < I ((j + 1 + 1 : Nat) : Int)) = true from decide_eq_true (by rw [lit1q, I_lt (by omega) (by omega) (by omega) (by omega)]; omega), br_tq]
  have be : hm_Fr_below N m p 0 = some (m, m.2.2.2 (pq p 35) W) := by
    have := below_e (N := N) (x := 0) (k := 0) (W := W + 1) (l := l) pl.2.2.1.1 hl hl2.1 hl2.2 rfl (by omega)
    rw [show W + 1 - 1 - 0 = W by omega] at this
    exact this
  rw [be, bnd_so, leave_e f1 f3 g5 g3, bnd_so]
  generalize hm1 : wi (wi (wi m (pq p 26) ((W0 : Nat) : Int)) (pq p 24) ((nb (j + 1) : Nat) : Int)) (pq p 21) ((j + 1 : Nat) : Int) = m1
  have q1 : ∀ l, l ≠ 21 → l ≠ 24 → l ≠ 26 → m1.1 (pq p l) = m.1 (pq p l) := fun l h1 h2 h3 => by rw [← hm1, wi_1 (pq_inj h1), wi_1 (pq_inj h2), wi_1 (pq_inj h3)]
  have s1 : ∀ l, l < 2000 → m1.1 l = m.1 l := fun l h => by rw [← hm1, wi_1 (pq_n h), wi_1 (pq_n h), wi_1 (pq_n h)]
  have m12 : m1.2 = m.2 := by rw [← hm1]; rfl
  have e26 : F m1 (pq p 26) = ((W0 : Nat) : Int) := by rw [← hm1, wi_ne (pq_inj (by omega)), wi_ne (pq_inj (by omega)), wi_sm (by omega) (by omega)]
  have e24 : F m1 (pq p 24) = ((nb (j + 1) : Nat) : Int) := by rw [← hm1, wi_ne (pq_inj (by omega)), wi_sm (by omega) (by omega)]
  have e21 : F m1 (pq p 21) = ((j + 1 : Nat) : Int) := by rw [← hm1, wi_sm (by omega) (by omega)]
  have e45 : F m1 (pq p 45) = ((l : Nat) : Int) := (congrArg Int32.toInt (q1 45 (by omega) (by omega) (by omega))).trans hl
  refine lb_bnd (pk_mo (push_m (N := N) (t := m.2.2.2 (pq p 35) W) e26 e45 (by omega) hl2.2) (fun m2 _ hh => ?_))
  obtain ⟨z1, z2, z3⟩ := hh
  have q2 : ∀ l, l ≠ 26 → l ≠ 45 → m2.1 (pq p l) = m1.1 (pq p l) := fun l h1 h2 => z1.1 _ (by
    simp only [List.mem_cons, List.not_mem_nil, or_false]
    intro c
    rcases c with c | c
    · exact pq_inj h1 c
    · exact pq_inj h2 c)
  have s2 : ∀ l, l < 2000 → m2.1 l = m.1 l := fun l h => (z1.1 l (by simp; unfold pq; omega)).trans (s1 l h)
  have a30 : m2.2.2.1 = m.2.2.1 := by funext K; rw [z1.2.2.1 K (by simp), m12]
  have e21' : F m2 (pq p 21) = ((j + 1 : Nat) : Int) := (congrArg Int32.toInt (q2 21 (by omega) (by omega))).trans e21
  have n3' : A m2 (pq p 30) (5 * j + 4) = ((a2 : Nat) : Int) := by show (m2.2.2.1 (pq p 30) (5 * j + 4)).toInt = _; rw [a30]; exact n3
  have pe : hm_Fr_place N m2 p = some (m2, I ((a2 : Nat) : Int)) := by
    unfold hm_Fr_place hb_Fr_place_0
    rw [I_F' e21', show I ((j + 1 : Nat) : Int) - 1 = I ((j : Nat) : Int) by rw [lit1q, I_sub]; congr 1; omega, show (4 : Int32) = I 4 from rfl, of_e (y := ((j : Nat) : Int)) (a := j) (z := 4) (k := 4) (j := j) e21' (by omega) rfl (Nat.le_refl _) rfl (by omega), bnd_so, n3']
  rw [pe, bnd_so, wi_e, lt_e, bnd_so, bnd_so, bnd_so]
  refine ret_r (W := W) (W0 := W0) (B := nb (j + 1)) (j := j + 1) hpp r11 pl.2.2.1.2.1 (by omega) f2 f3 h100 g4 ?_
  rw [lit0q, decE (by omega) (by omega) (by omega) (by omega), decide_eq_false (by omega), br_fq]
  generalize hw4 : wa (wa (wa (wa w 92 p ((W : Nat) : Int)) 92 p ((W0 : Nat) : Int)) 94 p ((nb (j + 1) : Nat) : Int)) 95 p ((j + 1 : Nat) : Int) = w4
  have x33 : F w4 133 = ((p : Nat) : Int) := by rw [← hw4]; exact r11
  have x92 : A w4 92 p = ((W0 : Nat) : Int) := by rw [← hw4, wa_rne (by omega), wa_rne (by omega), wa_sm (by omega) (by omega)]
  have x94 : A w4 94 p = ((nb (j + 1) : Nat) : Int) := by rw [← hw4, wa_rne (by omega), wa_sm (by omega) (by omega)]
  have x95 : A w4 95 p = ((j + 1 : Nat) : Int) := by rw [← hw4, wa_sm (by omega) (by omega)]
  have wR : ∀ K, K ≠ 92 → K ≠ 94 → K ≠ 95 → w4.2.2.1 K = w.2.2.1 K := fun K h1 h2 h3 => by rw [← hw4, wa_21 h3, wa_21 h2, wa_21 h1, wa_21 h1]
  have wJ : w4.2.2.2 = w.2.2.2 := by rw [← hw4]; rfl
  have w1 : w4.1 = w.1 := by rw [← hw4]; rfl
  refine rb_bnd (pk_mo (put_r (N := N) (x := w.2.2.2 91 (46000 * p + W)) hpp x33 x92 (by omega)) (fun w5 _ e => ?_))
  subst e
  show PP Q _ (K2 (wa (wj w4 91 (46000 * p + W0) (w.2.2.2 91 (46000 * p + W))) 92 p ((W0 + 1 : Nat) : Int)))
  have pl1 : PLs b p m1 w4 U (nb (j + 1)) W0 Y := by
    obtain ⟨k1, hk1⟩ : ∃ k1, W + 1 = W0 + k1 := ⟨W + 1 - W0, by omega⟩
    rw [hk1, hB] at pl
    have q := PLs_forget (PLs_drop pl (by omega)) (by omega)
    refine PLs_cg q (fun k hk => ?_) (fun i _ => by rw [m12]; rfl) (fun i _ => by rw [m12]; rfl) (fun i _ => by rw [m12]; rfl) (fun i _ => by rw [m12]; rfl) (fun K hK => ?_) (fun i _ => by rw [wJ]; rfl) (fun i _ => by rw [wJ]; rfl) (fun i _ => by rw [wJ]; rfl) (fun i _ => by rw [wJ]; rfl)
    · simp only [List.mem_cons, List.not_mem_nil, or_false] at hk
      rw [← hm1, wi_1 (pq_inj (by omega))]
    · simp only [List.mem_cons, List.not_mem_nil, or_false] at hK
      apply Int32.toInt_inj.mp
      show A w4 K p = A (wa (wa w 92 p ((W0 : Nat) : Int)) 94 p ((nb (j + 1) : Nat) : Int)) K p
      rcases hK with rfl | rfl | rfl | rfl | rfl
      · rw [wa_rne (by omega), wa_rne (by omega)]; exact congrArg Int32.toInt (congrFun (wR 89 (by omega) (by omega) (by omega)) p)
      · rw [wa_rne (by omega), wa_rne (by omega)]; exact congrArg Int32.toInt (congrFun (wR 90 (by omega) (by omega) (by omega)) p)
      · rw [x92, wa_rne (by omega), wa_sm (by omega) (by omega)]
      · rw [x94, wa_sm (by omega) (by omega)]
      · rw [wa_rne (by omega), wa_rne (by omega)]; exact congrArg Int32.toInt (congrFun (wR 108 (by omega) (by omega) (by omega)) p)
  have rt : RTb b (m.2.2.2 (pq p 35) W) (w.2.2.2 91 (46000 * p + W)) := pl.2.2.1.2.2 W (by omega)
  have pl2 := PLs_push pl1 rt z1 z2 z3
  generalize hw5 : wa (wj w4 91 (46000 * p + W0) (w.2.2.2 91 (46000 * p + W))) 92 p ((W0 + 1 : Nat) : Int) = w5 at *
  generalize hm3 : wi m2 1105 ((a2 : Nat) : Int) = m3
  have vR : ∀ K, K ≠ 92 → K ≠ 94 → K ≠ 95 → w5.2.2.1 K = w.2.2.1 K := fun K h1 h2 h3 => by
    rw [← hw5, wa_21 h1]
    show w4.2.2.1 K = _
    exact wR K h1 h2 h3
  have v1 : w5.1 = w.1 := by rw [← hw5]; exact w1
  have vJ : ∀ K, K ≠ 91 → w5.2.2.2 K = w.2.2.2 K := fun K h => by
    rw [← hw5]
    show (wj w4 91 (46000 * p + W0) (w.2.2.2 91 (46000 * p + W))).2.2.2 K = _
    rw [wj_22 h, wJ]
  have v95 : A w5 95 p = ((j + 1 : Nat) : Int) := by
    rw [← hw5, wa_rne (by omega)]
    exact x95
  have vA : ∀ K i, K ≠ 92 → K ≠ 94 → K ≠ 95 → A w5 K i = A w K i := fun K i h1 h2 h3 => by show (w5.2.2.1 K i).toInt = _; rw [vR K h1 h2 h3]; rfl
  have pr : ∀ K, PRr K → w5.2.2.1 K = w.2.2.1 K := fun K h => vR K (by unfold PRr at h; omega) (by unfold PRr at h; omega) (by unfold PRr at h; omega)
  have hP : ∀ K, PRr K → A w5 K = A w K := fun K a => by funext i; show (w5.2.2.1 K i).toInt = _; rw [pr K a]; rfl
  have m3q : ∀ l, m3.1 (pq p l) = m2.1 (pq p l) := fun l => by rw [← hm3, wi_1 (fun c => pq_n (by omega) c.symm)]
  have m3s : ∀ l, l < 2000 → l ≠ 1105 → m3.1 l = m.1 l := fun l h0 h => by rw [← hm3, wi_1 h]; exact s2 l h0
  have m3f : ∀ l, l < 2000 → l ≠ 1105 → F m3 l = F m l := fun l h0 h => congrArg Int32.toInt (m3s l h0 h)
  have m3o : ∀ l, l ≠ 21 → l ≠ 24 → l ≠ 26 → l ≠ 45 → m3.1 (pq p l) = m.1 (pq p l) := fun l h1 h2 h3 h4 => ((m3q l).trans (q2 l h3 h4)).trans (q1 l h1 h2 h3)
  have m3A : m3.2.2.1 = m.2.2.1 := by rw [← hm3]; exact a30
  have mA : ∀ K i, A m3 K i = A m K i := fun K i => by show (m3.2.2.1 K i).toInt = _; rw [m3A]; rfl
  have h23 : A m3 23 = A m 23 := by funext i; exact mA 23 i
  have h30 : A m3 (pq p 30) = A m (pq p 30) := by funext i; exact mA _ i
  have h37 : A m3 (pq p 37) = A m (pq p 37) := by funext i; exact mA _ i
  have j34 : w5.2.2.2 34 = w.2.2.2 34 := vJ 34 (by omega)
  have fa3 : FAs m3 w5 p j nb Hs Os := by
    refine ⟨⟨by rw [show F m3 (pq p 21) = F m2 (pq p 21) from congrArg Int32.toInt (m3q 21)]; exact e21', v95, by omega⟩, fun r hr => ?_, fun r hr => ?_, ?_⟩
    · obtain ⟨y1, y2, ⟨y3, y4⟩, y5, y6, y7⟩ := f4 r (by omega)
      refine ⟨by rw [h30, vA 96 _ (by omega) (by omega) (by omega)]; exact y1, ?_, ⟨by rw [h30]; exact y3, by rw [vA 99 _ (by omega) (by omega) (by omega)]; exact y4⟩, by rw [h30, vA 100 _ (by omega) (by omega) (by omega)]; exact y5, by rw [vA 101 _ (by omega) (by omega) (by omega)]; exact y6, fun i x hx => ?_⟩
      · rw [vA 97 _ (by omega) (by omega) (by omega), h30]
        rcases y2 with y2 | ⟨k2, t2, k1, k3, k4⟩
        · exact Or.inl y2
        · exact Or.inr ⟨k2, t2, k1, by rw [hP 44 (by unfold PRr; omega)]; exact k3, by rw [hP 8 (by unfold PRr; omega)]; exact k4⟩
      · rw [mA]; exact y7 i x hx
    · obtain ⟨y1, a3, n3, y2, y3, f9, y4⟩ := f5 r (by omega)
      exact ⟨y1, a3, n3, by rw [h30]; exact y2, by rw [vA 98 _ (by omega) (by omega) (by omega)]; exact y3, f9, by rw [h23, ROs_eq pr, j34]; exact y4⟩
    · rw [show F m3 (pq p 24) = F m1 (pq p 24) from congrArg Int32.toInt ((m3q 24).trans (q2 24 (by omega) (by omega))), e24, n1]
  have ct3 : CTs m3 w5 p j nb Hs Os := by
    obtain ⟨nC, c1, c2, c3, c5, c4⟩ := id ct
    refine ⟨nC, (congrArg Int32.toInt (m3o 28 (by omega) (by omega) (by omega) (by omega))).trans c1, by rw [vA 106 _ (by omega) (by omega) (by omega)]; exact c2, c3, fun c hc => by rw [vA 102 _ (by omega) (by omega) (by omega), vA 102 _ (by omega) (by omega) (by omega), vA 105 _ (by omega) (by omega) (by omega), vA 105 _ (by omega) (by omega) (by omega)]; exact c5 c hc, fun c hc => ?_⟩
    obtain ⟨r, k, a3, nd, nn, k1, k2, k3, k4, k5, k6, k7, k8, k9, k10, f9, k11⟩ := c4 c hc
    have rl := hct nC c c1 hc
    rw [k3] at rl
    exact ⟨r, k, a3, nd, nn, by omega, by rw [h37]; exact k2, by rw [vA 102 _ (by omega) (by omega) (by omega)]; exact k3, by rw [h37]; exact k4, by rw [vA 105 _ (by omega) (by omega) (by omega)]; exact k5, k6, by rw [h37, vA 104 _ (by omega) (by omega) (by omega)]; exact k7, by rw [h37]; exact k8, by rw [vA 103 _ (by omega) (by omega) (by omega)]; exact k9, by rw [hP 25 (by unfold PRr; omega)]; exact k10, f9, by rw [h23, ROs_eq pr, j34]; exact k11⟩
  have pl3 : PLs b p m3 w5 U (nb (j + 1)) (W0 + 1) Y := by rw [← hm3]; exact PLs_pc pl2
  have gm : GGm p m m3 := by
    rw [← hm3]
    refine GGm.tr (GGm.tr ?_ (GGm_pu z1)) (GGm_reg (by omega))
    rw [← hm1]
    exact GGm.tr (GGm.tr (GGm_own (by omega)) (GGm_own (by omega))) (GGm_own (by omega))
  have gw : GGw p w w5 := by
    have g4 : GGw p w w4 := by
      rw [← hw4]
      exact GGw.tr (GGw.tr (GGw.tr (GGw_own (Or.inl ⟨by omega, rfl⟩)) (GGw_own (Or.inl ⟨by omega, rfl⟩))) (GGw_own (Or.inl ⟨by omega, rfl⟩))) (GGw_own (Or.inl ⟨by omega, rfl⟩))
    rw [← hw5]
    exact GGw.tr g4 (GGw_fg (FGw.put (j := j) (by omega)) (by omega))
  refine c m3 w5 a2 n2 pl3 ⟨⟨fa3, ct3⟩, ⟨?_, ?_⟩, ?_, ⟨(congrArg Int32.toInt (m3o 9 (by omega) (by omega) (by omega) (by omega))).trans r5, ?_⟩, Or.inl ⟨rfl, (m3f 1112 (by omega) (by omega)).trans h12, ?_⟩, ⟨(m3f 1108 (by omega) (by omega)).trans r8, (m3f 1109 (by omega) (by omega)).trans r9, ?_⟩, ?_, ?_, ?_⟩ gm gw (fun s => SC_ow s (fun l hl => m3o l (by omega) (by omega) (by omega) (by omega)) (by rw [m3A]) (fun K h1 h2 => vR K (by omega) (by omega) (by omega)))
  · rw [← hm3, wi_sm a2r.1 a2r.2]
  · rw [vA 98 _ (by omega) (by omega) (by omega)]; exact n4
  · rw [h23, ROs_eq pr, j34]; exact n5
  · rw [vA 109 _ (by omega) (by omega) (by omega)]; exact r6
  · show (w5.1 152).toInt = _
    rw [v1]; exact h152
  · show (w5.1 151).toInt = _
    rw [v1]; exact r10
  · show (w5.1 133).toInt = _
    rw [v1]; exact r11
  · rw [m3s 1106 (by omega) (by omega), v1]; exact r12
  · rw [m3s 1107 (by omega) (by omega), v1]; exact r13
theorem op_retE (hpp : p < 24) (hpr : p < PR) (pl : PLs b p m w U B (W + 1) Y) (ru : RUs m w p 0 nb Hs Os none a n) (hW : W + 1 ≤ 46000) (h100 : A w 100 (60 * p) = ((W0 : Nat) : Int)) (hee : F m 955 = ((ee : Nat) : Int) ∧ ee < 24) (hee' : F w 150 = ((ee' : Nat) : Int) ∧ ee' < 4000) (p4 : P (mk 1 4)) (p4' : P' (mk 1 4))
    (ke : ∀ w3, GGw p w w3 → (SCs p m w → SCs p m w3) → m.1 (pq p 5) = w3.2.2.1 90 p → RQs Fv P Fv' P' PR (enS m p (mk 1 4) p ee) (enR w3 p 0 ((p : Nat) : Int) (mk 1 4) ee') p 0 p (mk 1 4) → PP Q (K1 (enS m p (mk 1 4) p ee)) (K2 (wi (enR w3 p 0 ((p : Nat) : Int) (mk 1 4) ee') 151 1))) : PP Q (bnd (hm_Ma_flow N m p (I 35)) (fun u _ => K1 u)) (bnd (fm_M_one N w (I ((n : Nat) : Int)) (I 29)) (fun u _ => K2 u)) := by
  obtain ⟨⟨fa, ct⟩, ⟨r2, r3⟩, ⟨f0, cr⟩, ⟨r5, r6⟩, -, -, r11, -, -⟩ := id ru
  have cb := CR_b cr
  obtain ⟨⟨f1, f2, f3⟩, f4, -, -⟩ := id fa
  obtain ⟨-, -, ⟨-, g4⟩, -, -, -⟩ := f4 0 (Nat.le_refl _)
  rw [flo35, one_29, I_F' r2, show I ((a : Nat) : Int) + 1 = I ((a + 1 : Nat) : Int) from addN, Co_e (k := a + 1) rfl (by omega), bnd_so]
  refine l_bb (l_bb (r_bb ?_))
  unfold hm_Ma_returns hb_Ma_returns_0
  rw [I_F' f1, show decide ((1 : Int32) < I ((0 + 1 : Nat) : Int)) = false from rfl, br_fq, show (4 : Int32) = I 4 from rfl, endsBy_e (by rw [r5]; omega) hee, bnd_so, bnd_so, bnd_so]
  refine ret_r (W := W) (W0 := W0) (B := nb 0) (j := 0) hpp r11 pl.2.2.1.2.1 (by omega) f2 f3 h100 g4 ?_
  rw [show decide (I ((0 : Nat) : Int) = 0) = true from rfl, br_tq]
  generalize hw4 : wa (wa (wa (wa w 92 p ((W : Nat) : Int)) 92 p ((W0 : Nat) : Int)) 94 p ((nb 0 : Nat) : Int)) 95 p ((0 : Nat) : Int) = w4
  have x33 : F w4 133 = ((p : Nat) : Int) := by rw [← hw4]; exact r11
  have wR : ∀ K, K ≠ 92 → K ≠ 94 → K ≠ 95 → w4.2.2.1 K = w.2.2.1 K := fun K h1 h2 h3 => by rw [← hw4, wa_21 h3, wa_21 h2, wa_21 h1, wa_21 h1]
  have x109 : A w4 109 p ≠ 3 := by
    show (w4.2.2.1 109 p).toInt ≠ 3
    rw [wR 109 (by omega) (by omega) (by omega)]
    have : (w.2.2.1 109 p).toInt = 0 := r6
    omega
  have x150 : F w4 150 = ((ee' : Nat) : Int) := by rw [← hw4]; exact hee'.1
  rw [show (1 : Int32) = I 1 from rfl, show (4 : Int32) = I 4 from rfl, term_e, rb_bnd_so, lit0q, ends_e hpp x33 x109 x150 hee'.2, rb_bnd_so]
  unfold fb_M_returns_83
  rw [bnd_so, bnd_so]
  have gw : GGw p w w4 := by
    rw [← hw4]
    exact GGw.tr (GGw.tr (GGw.tr (GGw_own (Or.inl ⟨by omega, rfl⟩)) (GGw_own (Or.inl ⟨by omega, rfl⟩))) (GGw_own (Or.inl ⟨by omega, rfl⟩))) (GGw_own (Or.inl ⟨by omega, rfl⟩))
  exact ke w4 gw (fun s => SC_ow s (fun _ _ => rfl) rfl (fun K h1 h2 => wR K (by omega) (by omega) (by omega))) (by rw [wR 90 (by omega) (by omega) (by omega)]; exact pl.1.2.2) (RQ_lit hpr hpp (nh_mk (by omega)) (fun c => by rw [so_mk (by omega) (by omega)] at c; omega) p4 p4')
end
end
section
set_option maxRecDepth 100000
def opS (m : MS) (p j B P0 : Nat) (fn en : Int32) : MS := s30 (s30 (s30 (s30 (s30 (wi m (pq p 21) ((j + 1 : Nat) : Int)) p (5 * j + 2) (I ((B : Nat) : Int))) p (5 * j + 3) (I ((P0 : Nat) : Int))) p (5 * j) fn) p (5 * j + 1) 0) p (5 * j + 4) en
def rpS (m : MS) (p j B P0 src ar : Nat) (fn en : Int32) : MS := s30 (s30 (s30 (wi (wi (upJ m (pq p 35) (va_cpy (m.2.2.2 (pq p 35)) (m.2.2.2 (pq p 35)) src P0 ar)) (pq p 26) ((P0 + ar : Nat) : Int)) (pq p 24) ((B : Nat) : Int)) p (5 * j) fn) p (5 * j + 1) 0) p (5 * j + 4) en
def frmW (u : MS) (p jj : Nat) (f : Int) (P0 nbn Wn : Nat) : MS := wa (wa (wa (wa (wa (wa (wa u 92 p ((Wn : Nat) : Int)) 96 (60 * p + jj) f) 97 (60 * p + jj) (-1)) 100 (60 * p + jj) ((P0 : Nat) : Int)) 99 (60 * p + jj) ((nbn : Nat) : Int)) 94 p ((nbn : Nat) : Int)) 101 (60 * p + jj) 0
section
variable {N p j B W P0 ar src : Nat} {m : MS} {fn en : Int32}
theorem open_e (h21 : F m (pq p 21) = ((j : Nat) : Int)) (hj : j < 60) (hB : F m (pq p 24) = ((B : Nat) : Int)) (hW : F m (pq p 26) = ((P0 + ar : Nat) : Int)) : hm_Fr_open N m p fn en (I ((ar : Nat) : Int)) = some (opS m p j B P0 fn en, ()) := by
  unfold hm_Fr_open hb_Fr_open_0
  have rW := F_r m (pq p 26)
  rw [hW] at rW
  have c : decide (I ((j : Nat) : Int) < 60) = true := decide_eq_true (by
    rw [show (60 : Int32) = I 60 from rfl, I_lt (by omega) (by omega) (by omega) (by omega)]
    omega)
  rw [I_F' h21, c, br_tq, show I ((j : Nat) : Int) + 1 = I ((j + 1 : Nat) : Int) from addN, wi_e, lt_e]
  generalize hm1 : wi m (pq p 21) ((j + 1 : Nat) : Int) = m1
  have e21 : F m1 (pq p 21) = ((j + 1 : Nat) : Int) := by rw [← hm1, wi_sm (by omega) (by omega)]
  have e24 : F m1 (pq p 24) = ((B : Nat) : Int) := by rw [← hm1, wi_ne (pq_inj (by omega))]; exact hB
  have e26 : F m1 (pq p 26) = ((P0 + ar : Nat) : Int) := by rw [← hm1, wi_ne (pq_inj (by omega))]; exact hW
  rw [I_F' e24, show (2 : Int32) = I 2 from rfl, set_s (y := 2) (k := 2) (j := j) e21 hj rfl (by omega), bnd_so]
  have e26' : F (s30 m1 p (5 * j + 2) (I ((B : Nat) : Int))) (pq p 26) = ((P0 + ar : Nat) : Int) := e26
  rw [I_F' e26', show I ((P0 + ar : Nat) : Int) - I ((ar : Nat) : Int) = I ((P0 : Nat) : Int) by rw [I_sub]; congr 1; omega, show (3 : Int32) = I 3 from rfl, set_s (u := s30 m1 p (5 * j + 2) (I ((B : Nat) : Int))) (y := 3) (k := 3) (j := j) e21 hj rfl (by omega), bnd_so]
  rw [show hm_Fr_set N (s30 (s30 m1 p (5 * j + 2) (I ((B : Nat) : Int))) p (5 * j + 3) (I ((P0 : Nat) : Int))) p 0 fn = some (s30 (s30 (s30 m1 p (5 * j + 2) (I ((B : Nat) : Int))) p (5 * j + 3) (I ((P0 : Nat) : Int))) p (5 * j) fn, ()) from set_s (y := 0) (k := 0) (j := j) e21 hj rfl (by omega), bnd_so]
  rw [show hm_Fr_set N (s30 (s30 (s30 m1 p (5 * j + 2) (I ((B : Nat) : Int))) p (5 * j + 3) (I ((P0 : Nat) : Int))) p (5 * j) fn) p 1 0 = some (s30 (s30 (s30 (s30 m1 p (5 * j + 2) (I ((B : Nat) : Int))) p (5 * j + 3) (I ((P0 : Nat) : Int))) p (5 * j) fn) p (5 * j + 1) 0, ()) from set_s (y := 1) (k := 1) (j := j) e21 hj rfl (by omega), bnd_so]
  rw [show (4 : Int32) = I 4 from rfl, set_s (u := s30 (s30 (s30 (s30 m1 p (5 * j + 2) (I ((B : Nat) : Int))) p (5 * j + 3) (I ((P0 : Nat) : Int))) p (5 * j) fn) p (5 * j + 1) 0) (y := 4) (k := 4) (j := j) e21 hj rfl (by omega), bnd_so, ← hm1]
  rfl
theorem repl_e {l : Nat} (h21 : F m (pq p 21) = ((j + 1 : Nat) : Int)) (hj : j < 60) (h3 : A m (pq p 30) (5 * j + 3) = ((P0 : Nat) : Int)) (h2 : A m (pq p 30) (5 * j + 2) = ((B : Nat) : Int)) (hW : F m (pq p 26) = ((src + ar : Nat) : Int)) (hP : P0 ≤ src) (hl : F m (pq p 45) = ((l : Nat) : Int)) (hl2 : src + ar ≤ l ∧ l ≤ 1000000) : hm_Fr_replace N m p fn en (I ((ar : Nat) : Int)) = some (rpS m p j B P0 src ar fn en, ()) := by
  unfold hm_Fr_replace hb_Fr_replace_0
  have s : I ((j + 1 : Nat) : Int) - 1 = I ((j : Nat) : Int) := by rw [lit1q, I_sub]; congr 1; omega
  rw [I_F' h21, s, show (3 : Int32) = I 3 from rfl, of_e (y := ((j : Nat) : Int)) (a := j) (z := 3) (k := 3) (j := j) h21 hj rfl (Nat.le_refl _) rfl (by omega), bnd_so, h3, I_F' hW, show I ((src + ar : Nat) : Int) - I ((ar : Nat) : Int) = I ((src : Nat) : Int) by rw [I_sub]; congr 1; omega]
  have lq : lnQ m p 45 = l := by
    unfold lnQ
    rw [I_F' hl]
    exact tnI (n := l) rfl (by omega)
  have ok : cpOk (I ((src : Nat) : Int)) (I ((P0 : Nat) : Int)) (I ((ar : Nat) : Int)) (lnQ m p 45) (lnQ m p 45) = true := by
    unfold cpOk
    rw [tnI (n := src) rfl (by omega), tnI (n := P0) rfl (by omega), tnI (n := ar) rfl (by omega), lq]
    refine decide_eq_true ⟨?_, ?_, ?_, by omega, by omega⟩
    · rw [lit0q, I_lt (by omega) (by omega) (by omega) (by omega)]; omega
    · rw [lit0q, I_lt (by omega) (by omega) (by omega) (by omega)]; omega
    · rw [lit0q, I_lt (by omega) (by omega) (by omega) (by omega)]; omega
  rw [ok, ck_t, tnI (n := src) rfl (by omega), tnI (n := P0) rfl (by omega), tnI (n := ar) rfl (by omega), lt_e, addN, wi_e, lt_e]
  generalize hm1 : wi (upJ m (pq p 35) (va_cpy (m.2.2.2 (pq p 35)) (m.2.2.2 (pq p 35)) src P0 ar)) (pq p 26) ((P0 + ar : Nat) : Int) = m1
  have e21 : F m1 (pq p 21) = ((j + 1 : Nat) : Int) := by rw [← hm1, wi_ne (pq_inj (by omega))]; exact h21
  have e2 : A m1 (pq p 30) (5 * j + 2) = ((B : Nat) : Int) := by rw [← hm1]; exact h2
  rw [I_F' e21, s, show (2 : Int32) = I 2 from rfl, of_e (y := ((j : Nat) : Int)) (a := j) (z := 2) (k := 2) (j := j) e21 hj rfl (Nat.le_refl _) rfl (by omega), bnd_so, e2, wi_e, lt_e]
  have e21' : F (wi m1 (pq p 24) ((B : Nat) : Int)) (pq p 21) = ((j + 1 : Nat) : Int) := by rw [wi_ne (pq_inj (by omega))]; exact e21
  rw [show hm_Fr_set N (wi m1 (pq p 24) ((B : Nat) : Int)) p 0 fn = some (s30 (wi m1 (pq p 24) ((B : Nat) : Int)) p (5 * j) fn, ()) from set_s (y := 0) (k := 0) (j := j) e21' hj rfl (by omega), bnd_so]
  rw [show hm_Fr_set N (s30 (wi m1 (pq p 24) ((B : Nat) : Int)) p (5 * j) fn) p 1 0 = some (s30 (s30 (wi m1 (pq p 24) ((B : Nat) : Int)) p (5 * j) fn) p (5 * j + 1) 0, ()) from set_s (y := 1) (k := 1) (j := j) e21' hj rfl (by omega), bnd_so]
  rw [show (4 : Int32) = I 4 from rfl, set_s (u := s30 (s30 (wi m1 (pq p 24) ((B : Nat) : Int)) p (5 * j) fn) p (5 * j + 1) 0) (y := 4) (k := 4) (j := j) e21' hj rfl (by omega), bnd_so, ← hm1]
  rfl
theorem opS_30 {i : Nat} (hB : B < 2147483648) (hP : P0 < 2147483648) : A (opS m p j B P0 fn en) (pq p 30) i = if i = 5 * j + 4 then en.toInt else if i = 5 * j + 1 then 0 else if i = 5 * j then fn.toInt else if i = 5 * j + 3 then ((P0 : Nat) : Int) else if i = 5 * j + 2 then ((B : Nat) : Int) else A m (pq p 30) i := by
  unfold opS
  rw [s30_a, s30_a, s30_a, s30_a, s30_a, I_ti (by omega) (by omega), I_ti (by omega) (by omega)]
  rfl
theorem rpS_30 {i : Nat} : A (rpS m p j B P0 src ar fn en) (pq p 30) i = if i = 5 * j + 4 then en.toInt else if i = 5 * j + 1 then 0 else if i = 5 * j then fn.toInt else A m (pq p 30) i := by
  unfold rpS
  rw [s30_a, s30_a, s30_a]
  rfl
theorem GGm_opS : GGm p m (opS m p j B P0 fn en) := GGm.tr (GGm.tr (GGm.tr (GGm.tr (GGm.tr (GGm_own (by omega)) GGm_s30) GGm_s30) GGm_s30) GGm_s30) GGm_s30
theorem GGm_rpS : GGm p m (rpS m p j B P0 src ar fn en) := GGm.tr (GGm.tr (GGm.tr (GGm.tr (GGm.tr (GGm_j (by omega)) (GGm_own (by omega))) (GGm_own (by omega))) GGm_s30) GGm_s30) GGm_s30
end
section
variable {α β : Type} {N p jj ar P0 src nbn : Nat} {w0 : MS} {f : Int} {t7 : Int64} {Q : MS → α → MS → β → Prop} {D : Option (MS × α)} {K : MS → Unit → Option (MS × β)}
theorem fr_lp (hpp : p < 24) (h133 : F w0 133 = ((p : Nat) : Int)) (h95 : A w0 95 p = ((jj + 1 : Nat) : Int)) (hj : jj < 60) (hd : P0 ≤ src) (hb : src + ar ≤ 46000) (hn : nbn ≤ 100000) (kk : ∀ u, FR [] [] [] [91] w0 u → (∀ i, u.2.2.2 91 i = if 46000 * p + P0 ≤ i ∧ i < 46000 * p + P0 + ar then w0.2.2.2 91 (i + (src - P0)) else w0.2.2.2 91 i) → PP Q D (K (frmW u p jj f P0 nbn (P0 + ar)) ())) : ∀ (d M : Nat) (u : MS) (i : Nat), i + d = ar → FR [] [] [] [91] w0 u → (∀ q, u.2.2.2 91 q = if 46000 * p + P0 ≤ q ∧ q < 46000 * p + P0 + i then w0.2.2.2 91 (q + (src - P0)) else w0.2.2.2 91 q) → PP Q D (bnd ((gg_M_frameOf N M).1 u (I f) (I ((ar : Nat) : Int)) 0 t7 (I ((46000 * p : Nat) : Int)) (I ((P0 : Nat) : Int)) (I ((nbn : Nat) : Int)) (I ((src : Nat) : Int)) (I ((i : Nat) : Int))) K) := by
  intro d
  induction d with
  | zero =>
    intro M u i hi fr r
    have : i = ar := by omega
    subst this
    cases M with
    | zero => exact pp_nr
    | succ M =>
    show PP Q D (bnd (fb_M_frameOf_144 N (gg_M_frameOf N M) u (I f) (I ((i : Nat) : Int)) 0 t7 (I ((46000 * p : Nat) : Int)) (I ((P0 : Nat) : Int)) (I ((nbn : Nat) : Int)) (I ((src : Nat) : Int)) (I ((i : Nat) : Int))) K)
    unfold fb_M_frameOf_144 fb_M_frameOf_359
    have x3 : F u 133 = ((p : Nat) : Int) := by rw [FR.F fr (by simp)]; exact h133
    have x95 : A u 95 p = ((jj + 1 : Nat) : Int) := by rw [FR.A fr (by simp)]; exact h95
    have ix : (I ((p : Nat) : Int) * 60 + I ((jj + 1 : Nat) : Int) - 1).toNatClampNeg = 60 * p + jj := by
      rw [show (60 : Int32) = I 60 from rfl, lit1q, I_mul, I_add, I_sub]
      exact tnI (n := 60 * p + jj) (by omega) (by omega)
    rw [decI (by omega) (by omega) (by omega) (by omega), decide_eq_true (by omega), br_tq]
    refine rb_ck (fun _ => ?_)
    rw [I_F' x3, tnI (n := p) rfl (by omega), addN, wa_e, lt_e]
    unfold fm_M_frame0 fb_M_frame0_0
    have y3 : F (wa u 92 p ((P0 + i : Nat) : Int)) 133 = ((p : Nat) : Int) := x3
    have y95 : A (wa u 92 p ((P0 + i : Nat) : Int)) 95 p = ((jj + 1 : Nat) : Int) := by rw [wa_rne (by omega)]; exact x95
    rw [I_F' y3, tnI (n := p) rfl (by omega), I_A' y95]
    refine rb_bnd (pk_ck (fun _ => pk_some ?_))
    refine rb_ck (fun _ => ?_)
    rw [ix, wa_e, lt_e]
    refine rb_ck (fun _ => ?_)
    rw [show (-1 : Int32) = I (-1) from rfl, wa_e, lt_e]
    refine rb_ck (fun _ => ?_)
    rw [wa_e, lt_e]
    refine rb_ck (fun _ => ?_)
    rw [wa_e, lt_e]
    refine rb_ck (fun _ => ?_)
    have z3 : F (wa (wa (wa (wa (wa u 92 p ((P0 + i : Nat) : Int)) 96 (60 * p + jj) f) 97 (60 * p + jj) (-1)) 100 (60 * p + jj) ((P0 : Nat) : Int)) 99 (60 * p + jj) ((nbn : Nat) : Int)) 133 = ((p : Nat) : Int) := x3
    rw [I_F' z3, tnI (n := p) rfl (by omega), wa_e, lt_e]
    refine rb_ck (fun _ => ?_)
    rw [show decide ((0 : Int32) = 0) = true from rfl, lit0q, wa_e, lt_e, br_tq]
    exact kk u fr r
  | succ d ih =>
    intro M u i hi fr r
    cases M with
    | zero => exact pp_nr
    | succ M =>
    show PP Q D (bnd (fb_M_frameOf_144 N (gg_M_frameOf N M) u (I f) (I ((ar : Nat) : Int)) 0 t7 (I ((46000 * p : Nat) : Int)) (I ((P0 : Nat) : Int)) (I ((nbn : Nat) : Int)) (I ((src : Nat) : Int)) (I ((i : Nat) : Int))) K)
    unfold fb_M_frameOf_144
    rw [decI (by omega) (by omega) (by omega) (by omega), decide_eq_false (by omega), br_fq]
    refine rb_ck (fun _ => rb_ck (fun _ => ?_))
    rw [addN, addN, addN, addN, tnI (n := 46000 * p + P0 + i) rfl (by omega), tnI (n := 46000 * p + src + i) rfl (by omega), wj_e, lt_e, show I ((i : Nat) : Int) + 1 = I ((i + 1 : Nat) : Int) from addN]
    refine ih M _ (i + 1) (by omega) (FR.wj fr (by simp)) (fun q => ?_)
    rw [wj_row]
    by_cases c : q = 46000 * p + P0 + i
    · subst c
      rw [if_pos rfl, r _, if_neg (by omega), if_pos (by omega), show 46000 * p + P0 + i + (src - P0) = 46000 * p + src + i by omega]
    · rw [if_neg c, r q]
      by_cases c2 : 46000 * p + P0 ≤ q ∧ q < 46000 * p + P0 + i
      · rw [if_pos c2, if_pos (by omega)]
      · rw [if_neg c2, if_neg (by omega)]
end
end
section
set_option maxRecDepth 100000
def FTs (m w : MS) : Prop := ∀ f : Nat, ((f : Nat) : Int) < F m 442 → f < 666 ∧ ∃ e c : Nat, A m 29 f = ((e : Nat) : Int) ∧ A w 50 f = ((c : Nat) : Int) ∧ ∃ g g2, ZRs (A m 23) (ROs w) (w.2.2.2 34) (CRs (A m 23) (ROs w) (w.2.2.2 34) g) 0 0 [] [] g2 e ((c : Nat) : Int)
def cnM (m : MS) (p : Nat) : MS := wi (wi (wi m 1106 (F m 1106 + 1)) (pq p 13) (F m (pq p 13) + 1)) 946 (F m 946 + 1)
def cnR (w : MS) (p : Nat) : MS := wa (wi (wi (wi w 166 0) 165 (F w 165 + 1)) 119 (F w 119 + 1)) 114 p (A w 114 p + 1)
section
variable {α β : Type} {N p n ar f j a W B c P0 ee : Nat} {m w : MS} {tl v : Int} {Q : MS → α → MS → β → Prop} {D : Option (MS × α)} {K : MS → Unit → Option (MS × β)}
theorem one_12 : fm_M_one N w (I v) (I 12) = bnd (fm_M_callRun N w (I v) (I 12)) (fun u6 _ => some (u6, ())) := rfl
theorem call_12 (hn : n < 100000) (h26 : A w 26 n = ((ar : Nat) : Int)) (h27 : A w 27 n = ((f : Nat) : Int)) (hf : f < 2000) (h : PP Q D (bnd (fb_M_callRun_213 N () (wi w 166 0) (I ((n : Nat) : Int)) (I ((ar : Nat) : Int)) (I ((f : Nat) : Int)) (-1)) K)) : PP Q D (bnd (fm_M_callRun N w (I ((n : Nat) : Int)) (I 12)) K) := by
  unfold fm_M_callRun fb_M_callRun_0
  refine rb_ck (fun _ => ?_)
  rw [show decide (I 12 = 12) = true from rfl, br_tq]
  refine rb_ck (fun _ => ?_)
  rw [tnI (n := n) rfl (by omega), I_A' h27, show decide (I ((f : Nat) : Int) < 2000) = true from decide_eq_true (by rw [show (2000 : Int32) = I 2000 from rfl, I_lt (by omega) (by omega) (by omega) (by omega)]; omega), br_tq, I_A' h26]
  unfold fb_M_callRun_47 fb_M_callRun_63 fb_M_callRun_80
  rw [show decide (I 12 = 12) = true from rfl, br_tq]
  refine rb_ck (fun _ => ?_)
  rw [tnI (n := n) rfl (by omega), I_A' h27, show decide (I 12 = 13) = false from rfl, br_fq]
  refine rb_ck (fun _ => ?_)
  rw [show upI w 166 0 = wi w 166 0 from rfl, lt_e, br_fq]
  exact h
theorem call_go {j1 : Nat} {fv v5 : Int32} (hpp : p < 24) (hn : n < 100000) (h133 : F w 133 = ((p : Nat) : Int)) (h95 : A w 95 p = ((j1 + 1 : Nat) : Int)) (hj : j1 < 60) (hne : w.1 165 ≠ w.1 164) (h30 : A w 30 n = tl) (ht : tl = 1 ∨ (tl = 0 ∧ j1 + 1 < 60)) (h : PP Q D (bnd (fm_M_frameOf N (wa (wa (wi (wi w 165 (F w 165 + 1)) 119 (F w 119 + 1)) 114 p (A w 114 p + 1)) 98 (60 * p + j1) ((n + 1 : Nat) : Int)) fv v5 (I ((ar : Nat) : Int)) (I tl)) (fun u6 _ => bnd (br (decide (fv = (-1))) (ck (inb v5 (ln 53)) (fb_M_callRun_364 N () u6 (u6.2.2.1 53 v5.toNatClampNeg))) (ck (inb fv (ln 50)) (fb_M_callRun_364 N () u6 (u6.2.2.1 50 fv.toNatClampNeg)))) K))) : PP Q D (bnd (fb_M_callRun_213 N () w (I ((n : Nat) : Int)) (I ((ar : Nat) : Int)) fv v5) K) := by
  unfold fb_M_callRun_213
  rw [decide_eq_false hne, br_fq]
  have go : PP Q D (bnd (fb_M_callRun_285 N () w (I ((n : Nat) : Int)) (I ((ar : Nat) : Int)) fv v5) K) := by
    unfold fb_M_callRun_285
    have i1 : ∀ u : MS, ∀ k, u.1 k + 1 = I (F u k + 1) := fun u k => by rw [I_F (k := k), lit1q, I_add]
    rw [i1 w 165, wi_e, lt_e]
    have e119 : F (wi w 165 (F w 165 + 1)) 119 = F w 119 := wi_ne (by omega)
    rw [i1 (wi w 165 (F w 165 + 1)) 119, e119, wi_e, lt_e]
    have e133 : F (wi (wi w 165 (F w 165 + 1)) 119 (F w 119 + 1)) 133 = ((p : Nat) : Int) := by rw [wi_ne (by omega), wi_ne (by omega)]; exact h133
    refine rb_ck (fun _ => rb_ck (fun _ => ?_))
    rw [I_F' e133, tnI (n := p) rfl (by omega), I_A (k := 114), show A (wi (wi w 165 (F w 165 + 1)) 119 (F w 119 + 1)) 114 p = A w 114 p from rfl, lit1q, I_add, wa_e, lt_e]
    have e133' : F (wa (wi (wi w 165 (F w 165 + 1)) 119 (F w 119 + 1)) 114 p (A w 114 p + 1)) 133 = ((p : Nat) : Int) := e133
    rw [show I ((n : Nat) : Int) + I 1 = I ((n + 1 : Nat) : Int) from addN]
    refine rb_bnd (pk_mo (goto_r (N := N) (n := ((n + 1 : Nat) : Int)) hpp e133' (by rw [wa_rne (by omega)]; exact h95) hj) (fun w2 _ e => ?_))
    subst e
    refine rb_ck (fun _ => ?_)
    have e30 : A (wa (wa (wi (wi w 165 (F w 165 + 1)) 119 (F w 119 + 1)) 114 p (A w 114 p + 1)) 98 (60 * p + j1) ((n + 1 : Nat) : Int)) 30 n = tl := by rw [wa_rne (by omega), wa_rne (by omega)]; exact h30
    rw [tnI (n := n) rfl (by omega), I_A' e30]
    exact r_bb h
  refine rb_ck (fun _ => ?_)
  rw [tnI (n := n) rfl (by omega), I_A' h30]
  rcases ht with rfl | ⟨rfl, ht⟩
  · rw [show decide (I 1 = 0) = false from rfl, br_fq]
    exact go
  · rw [show decide (I 0 = 0) = true from rfl, br_tq]
    refine rb_ck (fun _ => ?_)
    rw [I_F' h133, tnI (n := p) rfl (by omega), I_A' h95, show (60 : Int32) = I 60 from rfl, decE (by omega) (by omega) (by omega) (by omega), decide_eq_false (by omega), br_fq]
    exact go
theorem frN_r {fv : Int32} {f : Int} (hpp : p < 24) (hfv : fv = I f) (h133 : F w 133 = ((p : Nat) : Int)) (h166 : F w 166 = 0) (h92 : A w 92 p = ((P0 + ar : Nat) : Int)) (hW : P0 + ar ≤ 46000) (h94 : A w 94 p = ((B : Nat) : Int)) (hB : B ≤ 100000) (h95 : A w 95 p = ((j + 1 : Nat) : Int)) (hj : j + 1 < 60)
    (kk : ∀ u, FR [] [] [] [91] (wa w 95 p ((j + 1 + 1 : Nat) : Int)) u → (∀ i, u.2.2.2 91 i = w.2.2.2 91 i) → PP Q D (K (frmW u p (j + 1) f P0 B (P0 + ar)) ())) : PP Q D (bnd (fm_M_frameOf N w fv (-1) (I ((ar : Nat) : Int)) (I 0)) K) := by
  unfold fm_M_frameOf fb_M_frameOf_0 fb_M_frameOf_10 fb_M_frameOf_24 fb_M_frameOf_46 fb_M_frameOf_128
  rw [show decide ((-1 : Int32) = -1) = true from rfl, br_tq, I_F' h166, show decide (I 0 = 0) = true from rfl, br_tq, show decide ((0 : Int32) = 1) = false from rfl, br_fq, show fm_M_term N w 6 0 = some (w, mk 6 0) from rfl, rb_bnd_so]
  have s1 : I ((P0 + ar : Nat) : Int) - I ((ar : Nat) : Int) = I ((P0 : Nat) : Int) := by rw [I_sub]; congr 1; omega
  have s0 : I ((P0 : Nat) : Int) - 0 = I ((P0 : Nat) : Int) := by rw [lit0q, I_sub]; congr 1
  have sp : I ((p : Nat) : Int) * 46000 = I ((46000 * p : Nat) : Int) := by
    rw [show (46000 : Int32) = I 46000 from rfl, I_mul]
    congr 1
    omega
  refine rb_ck (fun _ => ?_)
  rw [lt_e]
  refine rb_ck (fun _ => ?_)
  rw [lt_e, br_tq]
  refine rb_ck (fun _ => rb_ck (fun _ => ?_))
  rw [I_F' h133, tnI (n := p) rfl (by omega), I_A' h95, I_A' h92, I_A' h94, s1, s0, sp, show I ((j + 1 : Nat) : Int) + 1 = I ((j + 1 + 1 : Nat) : Int) from addN, wa_e, lt_e]
  have x33 : F (wa w 95 p ((j + 1 + 1 : Nat) : Int)) 133 = ((p : Nat) : Int) := h133
  have x92 : A (wa w 95 p ((j + 1 + 1 : Nat) : Int)) 92 p = ((P0 + ar : Nat) : Int) := by rw [wa_rne (by omega)]; exact h92
  refine rb_ck (fun _ => ?_)
  rw [I_F' x33, tnI (n := p) rfl (by omega), I_A' x92, s1, lt_e, hfv]
  refine fr_lp (w0 := wa w 95 p ((j + 1 + 1 : Nat) : Int)) (jj := j + 1) (src := P0) hpp x33 (wa_sm (by omega) (by omega)) hj (Nat.le_refl _) hW hB (fun u fr r => kk u fr (fun i => ?_)) ar N _ 0 (by omega) FR.rf (fun q => by rw [if_neg (by omega)])
  rw [r i, show P0 - P0 = 0 by omega]
  by_cases c : 46000 * p + P0 ≤ i ∧ i < 46000 * p + P0 + ar
  · rw [if_pos c]; rfl
  · rw [if_neg c]; rfl
theorem frT_r {fv : Int32} {f : Int} {src nbj : Nat} (hpp : p < 24) (hfv : fv = I f) (h133 : F w 133 = ((p : Nat) : Int)) (h166 : F w 166 = 0) (h92 : A w 92 p = ((src + ar : Nat) : Int)) (hW : src + ar ≤ 46000) (hP : P0 ≤ src) (h95 : A w 95 p = ((j + 1 : Nat) : Int)) (hj : j < 60) (h100 : A w 100 (60 * p + j) = ((P0 : Nat) : Int)) (h99 : A w 99 (60 * p + j) = ((nbj : Nat) : Int)) (hB : nbj ≤ 100000)
    (kk : ∀ u, FR [] [] [] [91] w u → (∀ i, u.2.2.2 91 i = if 46000 * p + P0 ≤ i ∧ i < 46000 * p + P0 + ar then w.2.2.2 91 (i + (src - P0)) else w.2.2.2 91 i) → PP Q D (K (frmW u p j f P0 nbj (P0 + ar)) ())) : PP Q D (bnd (fm_M_frameOf N w fv (-1) (I ((ar : Nat) : Int)) (I 1)) K) := by
  unfold fm_M_frameOf fb_M_frameOf_0 fb_M_frameOf_10 fb_M_frameOf_24 fb_M_frameOf_46 fb_M_frameOf_128
  rw [show decide ((-1 : Int32) = -1) = true from rfl, br_tq, I_F' h166, show decide (I 0 = 0) = true from rfl, br_tq, show decide ((0 : Int32) = 1) = false from rfl, br_fq, show fm_M_term N w 6 0 = some (w, mk 6 0) from rfl, rb_bnd_so]
  have s1 : I ((src + ar : Nat) : Int) - I ((ar : Nat) : Int) = I ((src : Nat) : Int) := by rw [I_sub]; congr 1; omega
  have sp : I ((p : Nat) : Int) * 46000 = I ((46000 * p : Nat) : Int) := by
    rw [show (46000 : Int32) = I 46000 from rfl, I_mul]
    congr 1
    omega
  have ix : (I ((p : Nat) : Int) * 60 + I ((j + 1 : Nat) : Int) - 1).toNatClampNeg = 60 * p + j := by
    rw [show (60 : Int32) = I 60 from rfl, lit1q, I_mul, I_add, I_sub]
    exact tnI (n := 60 * p + j) (by omega) (by omega)
  refine rb_ck (fun _ => ?_)
  rw [lt_e]
  refine rb_ck (fun _ => ?_)
  rw [lt_e, show decide (I 1 = 0) = false from rfl, br_fq]
  unfold fm_M_frame0 fb_M_frame0_0
  rw [I_F' h133, tnI (n := p) rfl (by omega), I_A' h95]
  refine rb_bnd (pk_ck (fun _ => pk_some ?_))
  refine rb_ck (fun _ => ?_)
  rw [lt_e]
  refine rb_bnd (pk_ck (fun _ => pk_some ?_))
  refine rb_ck (fun _ => ?_)
  rw [lt_e]
  refine rb_ck (fun _ => ?_)
  rw [I_F' h133, tnI (n := p) rfl (by omega), I_A' h95, ix, I_A' h92, I_A' h100, I_A' h99, s1, sp, lt_e, hfv]
  exact fr_lp (w0 := w) (jj := j) (src := src) hpp h133 h95 hj hP hW hB kk ar N _ 0 (by omega) FR.rf (fun q => by rw [if_neg (by omega)])
theorem clof_r {nbn : Nat} (hpp : p < 24) (h133 : F w 133 = ((p : Nat) : Int)) (h95 : A w 95 p = ((j + 1 : Nat) : Int)) (hj : j < 60) (h99 : A w 99 (60 * p + j) = ((nbn : Nat) : Int)) (h101 : A w 101 (60 * p + j) = ((a : Nat) : Int)) (h : PP Q D (bnd (gg_M_choose N (rc_M_error N 19) N (wi (wi (wi (wi w 153 0) 155 ((c : Nat) : Int)) 154 ((c : Nat) : Int)) 156 ((nbn + a : Nat) : Int)) 1) K)) : PP Q D (bnd (fb_M_callRun_364 N () w (I ((c : Nat) : Int))) K) := by
  unfold fb_M_callRun_364 fm_M_clausesOf fb_M_clausesOf_0
  have ix : (I ((p : Nat) : Int) * 60 + I ((j + 1 : Nat) : Int) - 1).toNatClampNeg = 60 * p + j := by
    rw [show (60 : Int32) = I 60 from rfl, lit1q, I_mul, I_add, I_sub]
    exact tnI (n := 60 * p + j) (by omega) (by omega)
  refine r_bb ?_
  unfold fm_M_frame0 fb_M_frame0_0
  rw [I_F' h133, tnI (n := p) rfl (by omega), I_A' h95]
  refine rb_bnd (pk_ck (fun _ => pk_some ?_))
  refine rb_ck (fun _ => rb_ck (fun _ => ?_))
  rw [ix, I_A' h99, I_A' h101, addN]
  refine r_bb ?_
  unfold fm_M_tryFrom fb_M_tryFrom_0
  rw [lit0q, wi_e, lt_e, wi_e, lt_e, wi_e, lt_e, wi_e, lt_e]
  refine r_bb ?_
  exact h
end
end
section
set_option maxRecDepth 100000
def upf {γ : Type} (g : Nat → γ) (k : Nat) (v : γ) : Nat → γ := fun i => if i = k then v else g i
theorem upf_s {γ : Type} {g : Nat → γ} {k : Nat} {v : γ} : upf g k v k = v := if_pos rfl
theorem upf_n {γ : Type} {g : Nat → γ} {k i : Nat} {v : γ} (h : i ≠ k) : upf g k v i = g i := if_neg h
section
variable {N p j a ar f e B P0 : Nat} {m w w2 u : MS} {z v x : Int}
theorem cnM_q {l : Nat} (h : l ≠ 13) : (cnM m p).1 (pq p l) = m.1 (pq p l) := by
  unfold cnM
  rw [wi_1 (fun c => pq_n (by omega) c.symm), wi_1 (pq_inj h), wi_1 (fun c => pq_n (by omega) c.symm)]
theorem cnM_1 {l : Nat} (h0 : l < 2000) (h1 : l ≠ 1106) (h2 : l ≠ 946) : (cnM m p).1 l = m.1 l := by
  unfold cnM
  rw [wi_1 h2, wi_1 (pq_n h0), wi_1 h1]
theorem cnM_13 : (cnM m p).1 (pq p 13) = I (F m (pq p 13) + 1) := by
  unfold cnM
  rw [wi_1 (fun c => pq_n (by omega) c.symm)]
  exact wi_s1
theorem cnM_06 : (cnM m p).1 1106 = I (F m 1106 + 1) := by
  unfold cnM
  rw [wi_1 (by omega), wi_1 (pq_n (by omega))]
  exact wi_s1
def cbM (m : MS) : MS := wi (wi m 946 (F m 946 + 1)) 1106 (F m 1106 + 1)
def cbW (w : MS) : MS := wi (wi w 119 (F w 119 + 1)) 165 (F w 165 + 1)
theorem GGm_cn : GGm p (cbM m) (cnM m p) := by
  have q : ∀ l, l ≠ pq p 13 → (cnM m p).1 l = (cbM m).1 l := fun l h2 => by
    unfold cnM cbM
    by_cases c : l = 946
    · subst c
      rw [wi_s1, wi_1 (by omega), wi_s1]
    · by_cases c6 : l = 1106
      · subst c6
        rw [wi_1 c, wi_1 h2, wi_s1, wi_s1]
      · rw [wi_1 c, wi_1 h2, wi_1 c6, wi_1 c6, wi_1 c]
  exact ⟨fun d hd l hl => ⟨q _ (fun c => hd (pq_e hl (by omega) c).1), rfl, rfl, rfl⟩, ⟨rfl, q 22 (pq_n (by omega)), rfl, rfl⟩, q 955 (pq_n (by omega)), rfl, q 956 (pq_n (by omega)), fun _ _ => rfl, fun k hk => q k (pq_n (by omega))⟩
theorem begins_e {t1 : Int32} {ln0 : Int32} (hlt : F m 1106 < F m 1107) (h21 : F m (pq p 21) = ((j + 1 : Nat) : Int)) (ht : t1 = 1 ∨ (t1 = 0 ∧ j + 1 < 60)) : hm_Ma_begins N m p t1 ln0 = some (cnM m p, 1) := by
  unfold hm_Ma_begins hb_Ma_begins_0
  have r6 := F_r m 1106
  have r7 := F_r m 1107
  have c0 : decide (m.1 1106 < m.1 1107) = true := decide_eq_true (by
    rw [I_F (k := 1106), I_F (k := 1107), I_lt r6.1 r6.2 r7.1 r7.2]
    exact hlt)
  have i1 : ∀ u : MS, ∀ k, u.1 k + 1 = I (F u k + 1) := fun u k => by rw [I_F (k := k), lit1q, I_add]
  have e57 : hb_Ma_begins_57 N () m p = some (cnM m p, 1) := by
    unfold hb_Ma_begins_57
    rw [i1 m 1106, wi_e, lt_e]
    have e13 : F (wi m 1106 (F m 1106 + 1)) (pq p 13) = F m (pq p 13) := wi_ne (fun c => pq_n (by omega) c.symm)
    rw [i1 _ (pq p 13), e13, wi_e, lt_e]
    have e46 : F (wi (wi m 1106 (F m 1106 + 1)) (pq p 13) (F m (pq p 13) + 1)) 946 = F m 946 := by rw [wi_ne (pq_n (by omega)), wi_ne (by omega)]
    rw [i1 _ 946, e46, wi_e, lt_e]
    rfl
  rw [c0, br_tq]
  rcases ht with rfl | ⟨rfl, ht⟩
  · rw [show decide ((1 : Int32) = 0) = false from rfl, br_fq]
    exact e57
  · rw [show decide ((0 : Int32) = 0) = true from rfl, br_tq, I_F' h21, show decide (I ((j + 1 : Nat) : Int) < 60) = true from decide_eq_true (by rw [show (60 : Int32) = I 60 from rfl, I_lt (by omega) (by omega) (by omega) (by omega)]; omega), br_tq]
    exact e57
theorem callN_m (hlt : F m 1106 < F m 1107) (hpc : F m 1105 = ((a : Nat) : Int)) (ha : a + 3 < 24000) (h21 : F m (pq p 21) = ((j + 1 : Nat) : Int)) (hj : j + 1 < 60) (h24 : F m (pq p 24) = ((B : Nat) : Int)) (h26 : F m (pq p 26) = ((P0 + ar : Nat) : Int)) (c2 : A m 23 (a + 2) = ((ar : Nat) : Int)) (hf : f < 666) (h442 : ((f : Nat) : Int) < F m 442) (h29 : A m 29 f = ((e : Nat) : Int)) : hm_Ma_call N m p (I ((f : Nat) : Int)) 0 = some (wi (opS (s30 (cnM m p) p (5 * j + 4) (I ((a + 4 : Nat) : Int))) p (j + 1) B P0 (I ((f : Nat) : Int)) (I ((e : Nat) : Int))) 1105 ((e : Nat) : Int), ()) := by
  unfold hm_Ma_call hb_Ma_call_0 hb_Ma_call_70
  have r42 := F_r m 442
  have g5 : F (cnM m p) 1105 = ((a : Nat) : Int) := (congrArg Int32.toInt (cnM_1 (by omega) (by omega) (by omega))).trans hpc
  have g21 : F (cnM m p) (pq p 21) = ((j + 1 : Nat) : Int) := (congrArg Int32.toInt (cnM_q (by omega))).trans h21
  have g24 : F (cnM m p) (pq p 24) = ((B : Nat) : Int) := (congrArg Int32.toInt (cnM_q (by omega))).trans h24
  have g26 : F (cnM m p) (pq p 26) = ((P0 + ar : Nat) : Int) := (congrArg Int32.toInt (cnM_q (by omega))).trans h26
  have g42 : F (cnM m p) 442 = F m 442 := congrArg Int32.toInt (cnM_1 (by omega) (by omega) (by omega))
  have g23 : A (cnM m p) 23 (a + 2) = ((ar : Nat) : Int) := c2
  have g29 : A (cnM m p) 29 f = ((e : Nat) : Int) := h29
  rw [I_F' hpc, show I ((a : Nat) : Int) + 3 = I ((a + 3 : Nat) : Int) from addN, Co_e (k := a + 3) rfl ha, bnd_so, begins_e hlt h21 (Or.inr ⟨rfl, hj⟩), bnd_so, show decide ((1 : Int32) = 0) = false from rfl, br_fq, d_lt0 (by omega), br_fq, I_F (k := 442), g42, decI r42.1 r42.2 (by omega) (by omega), decide_eq_false (by omega), br_fq, (I_inb (by omega) (by omega)).mpr ⟨by omega, by omega⟩, ck_t, I_F' g5, show I ((a : Nat) : Int) + 2 = I ((a + 2 : Nat) : Int) from addN, Co_e (k := a + 2) rfl (by omega), bnd_so, g23, tnI (n := f) rfl (by omega), I_A' g29, I_F' g5, show I ((a : Nat) : Int) + 4 = I ((a + 4 : Nat) : Int) from addN]
  unfold hm_Ma_enter hb_Ma_enter_0 hb_Ma_enter_37
  rw [show decide ((0 : Int32) = 0) = true from rfl, br_tq, setPlace_e (j := j) g21 (by omega), bnd_so, open_e (m := s30 (cnM m p) p (5 * j + 4) (I ((a + 4 : Nat) : Int))) (j := j + 1) (B := B) (P0 := P0) (ar := ar) g21 hj g24 g26, bnd_so, wi_e, lt_e, bnd_so]
end
end
section
set_option maxRecDepth 100000
section
variable {β α : Type} {b : Int → Nat → Nat → Prop} {N p U B Y j a n ar f P0 : Nat} {m w : MS} {nb : Nat → Nat} {Hs Os : Nat → List Nat} {Q : MS → α → MS → β → Prop} {K1 : MS → Option (MS × α)} {K2 : MS → Option (MS × β)}
theorem op_callN (hpp : p < 24) (pl : PLs b p m w U B (P0 + ar) Y) (ru : RUs m w p j nb Hs Os none a n) (hW : P0 + ar ≤ 46000) (hB2 : B ≤ 2500) (hj1 : j + 1 < 60) (ft : FTs m w) (h442 : ((f : Nat) : Int) < F m 442) (hlt : F m 1106 < F m 1107) (ha : a + 3 < 24000) (c1 : A m 23 (a + 1) = ((f : Nat) : Int)) (c2 : A m 23 (a + 2) = ((ar : Nat) : Int)) (h26 : A w 26 n = ((ar : Nat) : Int)) (h27 : A w 27 n = ((f : Nat) : Int)) (h30 : A w 30 n = 0) (cr : ∃ g, CRs (A m 23) (ROs w) (w.2.2.2 34) g none (a + 4) (n + 1) (Hs j) (Os j))
    (k : ∀ m4 w4 e c, TRs m4 w4 p (j + 1) (upf nb (j + 1) B) (upf Hs (j + 1) []) (upf Os (j + 1) []) 0 0 e c → PLs b p m4 (wa w4 94 p ((B : Nat) : Int)) U B (P0 + ar) Y → GGm p (cbM m) m4 → GGw p (cbW w) w4 → (SCs p m w → SCs p m4 w4) → (w4.2.2.2 88 = w.2.2.2 88 ∧ w4.1 140 = w.1 140) → PP Q (K1 m4) (bnd (gg_M_choose N (rc_M_error N 19) N w4 1) (fun u _ => K2 u))) : PP Q (bnd (hm_Ma_flow N m p (I 25)) (fun u _ => K1 u)) (bnd (fm_M_one N w (I ((n : Nat) : Int)) (I 12)) (fun u _ => K2 u)) := by
  obtain ⟨⟨fa, ct⟩, ⟨r2, r3⟩, ⟨f0, cr0⟩, ⟨r5, r6⟩, r7, ⟨r8, r9, r10⟩, r11, r12, r13⟩ := id ru
  obtain ⟨h12, h152⟩ : F m 1112 = 0 ∧ F w 152 = 0 := by
    rcases r7 with ⟨_, c3, c4⟩ | ⟨_, _, _, c, _⟩
    · exact ⟨c3, c4⟩
    · cases c
  have cb := CR_b cr0
  obtain ⟨⟨f1, f2, f3⟩, f4, f5, f6⟩ := id fa
  obtain ⟨hf6, e, c, ft1, ft2, g1, g2, ft3⟩ := ft f h442
  have e24 := A_r m 29 f
  rw [ft1] at e24
  have ebd : e + 1 < 24000 := by
    cases g2 with
    | zero => exact ft3.elim
    | succ g2 => exact ft3.1
  have c24 := A_r w 50 f
  rw [ft2] at c24
  have hne : (wi w 166 0).1 165 ≠ (wi w 166 0).1 164 := by
    rw [wi_1 (by omega), wi_1 (by omega), ← r12, ← r13]
    intro c
    have := congrArg Int32.toInt c
    have h1 : F m 1106 = (m.1 1106).toInt := rfl
    have h2 : F m 1107 = (m.1 1107).toInt := rfl
    omega
  have hB : B = nb j + (Hs j ++ Os j).length := by
    have h1 := pl.2.1.1
    rw [f6] at h1
    omega
  rw [flo25, I_F' r2, show I ((a : Nat) : Int) + 1 = I ((a + 1 : Nat) : Int) from addN, Co_e (k := a + 1) rfl (by omega), bnd_so, c1, callN_m hlt r2 ha f1 hj1 pl.2.1.1 pl.2.2.1.1 c2 hf6 h442 ft1, bnd_so, bnd_so]
  rw [one_12]
  refine r_bb ?_
  refine call_12 (by omega) h26 h27 (by omega) ?_
  have x33 : F (wi w 166 0) 133 = ((p : Nat) : Int) := by rw [wi_ne (by omega)]; exact r11
  refine call_go (j1 := j) (tl := 0) hpp (by omega) x33 f2 f3 hne h30 (Or.inr ⟨rfl, hj1⟩) ?_
  have e165 : F (wi w 166 0) 165 = F w 165 := wi_ne (by omega)
  have e119 : F (wi w 166 0) 119 = F w 119 := wi_ne (by omega)
  rw [e165, e119, show A (wi w 166 0) 114 p = A w 114 p from rfl]
  generalize hw1 : wa (wa (wi (wi (wi w 166 0) 165 (F w 165 + 1)) 119 (F w 119 + 1)) 114 p (A w 114 p + 1)) 98 (60 * p + j) ((n + 1 : Nat) : Int) = w1
  have a1 : ∀ K i, K ≠ 114 → K ≠ 98 → A w1 K i = A w K i := fun K i h1 h2 => by rw [← hw1, wa_rne h2, wa_rne h1]; rfl
  have i1 : ∀ l, l ≠ 166 → l ≠ 165 → l ≠ 119 → w1.1 l = w.1 l := fun l h1 h2 h3 => by
    rw [← hw1]
    show (wi (wi (wi w 166 0) 165 (F w 165 + 1)) 119 (F w 119 + 1)).1 l = _
    rw [wi_1 h3, wi_1 h2, wi_1 h1]
  have i165 : w1.1 165 = I (F w 165 + 1) := by
    rw [← hw1]
    show (wi (wi (wi w 166 0) 165 (F w 165 + 1)) 119 (F w 119 + 1)).1 165 = _
    rw [wi_1 (by omega)]
    exact wi_s1
  have i166 : F w1 166 = 0 := by
    rw [← hw1]
    show F (wi (wi (wi w 166 0) 165 (F w 165 + 1)) 119 (F w 119 + 1)) 166 = 0
    rw [wi_ne (by omega), wi_ne (by omega), wi_sm (by omega) (by omega)]
  have j1J : w1.2.2.2 = w.2.2.2 := by rw [← hw1]; rfl
  have y33 : F w1 133 = ((p : Nat) : Int) := (congrArg Int32.toInt (i1 133 (by omega) (by omega) (by omega))).trans r11
  refine frN_r (f := ((f : Nat) : Int)) (P0 := P0) (B := B) (j := j) hpp rfl y33 i166 ((a1 92 p (by omega) (by omega)).trans pl.2.2.1.2.1) hW ((a1 94 p (by omega) (by omega)).trans pl.2.1.2.1) (by omega) ((a1 95 p (by omega) (by omega)).trans f2) hj1 (fun u fr r => ?_)
  generalize hw3 : frmW u p (j + 1) ((f : Nat) : Int) P0 B (P0 + ar) = w3
  have u95 : ∀ K i, A u K i = A (wa w1 95 p ((j + 1 + 1 : Nat) : Int)) K i := fun K i => FR.A fr (by simp)
  have uR : ∀ K, u.2.2.1 K = (wa w1 95 p ((j + 1 + 1 : Nat) : Int)).2.2.1 K := fun K => fr.2.2.1 K (by simp)
  have u1 : ∀ l, u.1 l = w1.1 l := fun l => fr.1 l (by simp)
  have uJ : u.2.2.2 = w.2.2.2 := by
    funext K
    by_cases c : K = 91
    · subst c
      funext i
      rw [r i, j1J]
    · rw [fr.2.2.2 K (by simpa using c)]
      show w1.2.2.2 K = _
      rw [j1J]
  have w3i : w3.1 = w1.1 := by
    rw [← hw3]
    funext l
    exact u1 l
  have w3J : w3.2.2.2 = w.2.2.2 := by rw [← hw3]; exact uJ
  have w3R : ∀ K, K ≠ 92 → K ≠ 94 → K ≠ 95 → K ≠ 96 → K ≠ 97 → K ≠ 98 → K ≠ 99 → K ≠ 100 → K ≠ 101 → K ≠ 114 → w3.2.2.1 K = w.2.2.1 K := fun K h1 h2 h3 h4 h5 h6 h7 h8 h9 h10 => by
    rw [← hw3]
    unfold frmW
    rw [wa_21 h9, wa_21 h2, wa_21 h7, wa_21 h8, wa_21 h5, wa_21 h4, wa_21 h1, uR, wa_21 h3, ← hw1, wa_21 h6, wa_21 h10]
    rfl
  have w3A : ∀ K i, 96 ≤ K → K ≤ 101 → i ≠ 60 * p + (j + 1) → ¬ (K = 98 ∧ i = 60 * p + j) → w3.2.2.1 K i = w.2.2.1 K i := fun K i h1 h2 h3 h4 => by
    rw [← hw3]
    unfold frmW
    rw [wa_at (fun c => h3 c.2), wa_at (by omega), wa_at (fun c => h3 c.2), wa_at (fun c => h3 c.2), wa_at (fun c => h3 c.2), wa_at (fun c => h3 c.2), wa_at (by omega), uR, wa_at (by omega), ← hw1, wa_at h4, wa_at (by omega)]
    rfl
  have w3a : ∀ K i, 96 ≤ K → K ≤ 101 → i ≠ 60 * p + (j + 1) → ¬ (K = 98 ∧ i = 60 * p + j) → A w3 K i = A w K i := fun K i h1 h2 h3 h4 => congrArg Int32.toInt (w3A K i h1 h2 h3 h4)
  have v101 : A w3 101 (60 * p + (j + 1)) = 0 := by rw [← hw3]; exact wa_sm (by omega) (by omega)
  have v94 : A w3 94 p = ((B : Nat) : Int) := by
    rw [← hw3]
    unfold frmW
    rw [wa_rne (by omega), wa_sm (by omega) (by omega)]
  have v99 : A w3 99 (60 * p + (j + 1)) = ((B : Nat) : Int) := by
    rw [← hw3]
    unfold frmW
    rw [wa_rne (by omega), wa_rne (by omega), wa_sm (by omega) (by omega)]
  have v100 : A w3 100 (60 * p + (j + 1)) = ((P0 : Nat) : Int) := by
    rw [← hw3]
    unfold frmW
    rw [wa_rne (by omega), wa_rne (by omega), wa_rne (by omega), wa_sm (by omega) (by omega)]
  have v97 : A w3 97 (60 * p + (j + 1)) = -1 := by
    rw [← hw3]
    unfold frmW
    rw [wa_rne (by omega), wa_rne (by omega), wa_rne (by omega), wa_rne (by omega), wa_sm (by omega) (by omega)]
  have v96 : A w3 96 (60 * p + (j + 1)) = ((f : Nat) : Int) := by
    rw [← hw3]
    unfold frmW
    rw [wa_rne (by omega), wa_rne (by omega), wa_rne (by omega), wa_rne (by omega), wa_rne (by omega), wa_sm (by omega) (by omega)]
  have v92 : A w3 92 p = ((P0 + ar : Nat) : Int) := by
    rw [← hw3]
    unfold frmW
    rw [wa_rne (by omega), wa_rne (by omega), wa_rne (by omega), wa_rne (by omega), wa_rne (by omega), wa_rne (by omega), wa_sm (by omega) (by omega)]
  have v95 : A w3 95 p = ((j + 1 + 1 : Nat) : Int) := by
    rw [← hw3]
    unfold frmW
    rw [wa_rne (by omega), wa_rne (by omega), wa_rne (by omega), wa_rne (by omega), wa_rne (by omega), wa_rne (by omega), wa_rne (by omega), u95, wa_sm (by omega) (by omega)]
  have v98 : A w3 98 (60 * p + j) = ((n + 1 : Nat) : Int) := by
    rw [← hw3]
    unfold frmW
    rw [wa_rne (by omega), wa_rne (by omega), wa_rne (by omega), wa_rne (by omega), wa_rne (by omega), wa_rne (by omega), wa_rne (by omega), u95, wa_rne (by omega), ← hw1, wa_sm (by omega) (by omega)]
  have v114 : w3.2.2.1 114 p = I (A w 114 p + 1) := by
    rw [← hw3]
    unfold frmW
    rw [wa_21 (by omega), wa_21 (by omega), wa_21 (by omega), wa_21 (by omega), wa_21 (by omega), wa_21 (by omega), wa_21 (by omega), uR, wa_21 (by omega), ← hw1, wa_21 (by omega)]
    show (if 114 = 114 then upd (w.2.2.1 114) p (I (A w 114 p + 1)) else w.2.2.1 114) p = _
    rw [if_pos rfl]
    exact if_pos rfl
  have z33 : F w3 133 = ((p : Nat) : Int) := by show (w3.1 133).toInt = _; rw [w3i]; exact y33
  have pr : ∀ K, PRr K → w3.2.2.1 K = w.2.2.1 K := fun K h => by
    unfold PRr at h
    exact w3R K (by omega) (by omega) (by omega) (by omega) (by omega) (by omega) (by omega) (by omega) (by omega) (by omega)
  have fne : decide (I ((f : Nat) : Int) = (-1 : Int32)) = false := by rw [m1I, decE (by omega) (by omega) (by omega) (by omega)]; exact decide_eq_false (by omega)
  rw [fne, br_fq]
  refine rb_ck (fun _ => ?_)
  have v50 : A w3 50 f = ((c : Nat) : Int) := by show (w3.2.2.1 50 f).toInt = _; rw [pr 50 (by unfold PRr; omega)]; exact ft2
  rw [tnI (n := f) rfl (by omega), I_A' v50]
  refine clof_r (j := j + 1) (a := 0) (nbn := B) hpp z33 v95 hj1 v99 v101 ?_
  generalize hw4 : wi (wi (wi (wi w3 153 0) 155 ((c : Nat) : Int)) 154 ((c : Nat) : Int)) 156 ((B + 0 : Nat) : Int) = w4
  have w42 : w4.2 = w3.2 := by rw [← hw4]; rfl
  have w41 : ∀ l, l ≠ 153 → l ≠ 154 → l ≠ 155 → l ≠ 156 → w4.1 l = w3.1 l := fun l h1 h2 h3 h4 => by rw [← hw4, wi_1 h4, wi_1 h2, wi_1 h3, wi_1 h1]
  have w4a : ∀ K i, A w4 K i = A w3 K i := fun K i => by show (w4.2.2.1 K i).toInt = _; rw [w42]; rfl
  have w4i : ∀ l, l ≠ 153 → l ≠ 154 → l ≠ 155 → l ≠ 156 → l ≠ 166 → l ≠ 165 → l ≠ 119 → w4.1 l = w.1 l := fun l h1 h2 h3 h4 h5 h6 h7 => by rw [w41 l h1 h2 h3 h4, w3i]; exact i1 l h5 h6 h7
  have w4f : ∀ l, l ≠ 153 → l ≠ 154 → l ≠ 155 → l ≠ 156 → l ≠ 166 → l ≠ 165 → l ≠ 119 → F w4 l = F w l := fun l h1 h2 h3 h4 h5 h6 h7 => congrArg Int32.toInt (w4i l h1 h2 h3 h4 h5 h6 h7)
  have w4J : w4.2.2.2 = w.2.2.2 := by rw [w42]; exact w3J
  have pr4 : ∀ K, PRr K → w4.2.2.1 K = w.2.2.1 K := fun K h => by rw [w42]; exact pr K h
  have hP : ∀ K, PRr K → A w4 K = A w K := fun K a => by funext i; show (w4.2.2.1 K i).toInt = _; rw [pr4 K a]; rfl
  generalize hm4 : wi (opS (s30 (cnM m p) p (5 * j + 4) (I ((a + 4 : Nat) : Int))) p (j + 1) B P0 (I ((f : Nat) : Int)) (I ((e : Nat) : Int))) 1105 ((e : Nat) : Int) = m4
  have m4q : ∀ l, l ≠ 13 → l ≠ 21 → m4.1 (pq p l) = m.1 (pq p l) := fun l h1 h2 => by
    rw [← hm4, wi_1 (fun c => pq_n (by omega) c.symm)]
    show (wi (s30 (cnM m p) p (5 * j + 4) (I ((a + 4 : Nat) : Int))) (pq p 21) ((j + 1 + 1 : Nat) : Int)).1 (pq p l) = _
    rw [wi_1 (pq_inj h2)]
    exact cnM_q h1
  have m4g : ∀ l, l < 2000 → l ≠ 1105 → l ≠ 1106 → l ≠ 946 → m4.1 l = m.1 l := fun l h0 h1 h2 h3 => by
    rw [← hm4, wi_1 h1]
    show (wi (s30 (cnM m p) p (5 * j + 4) (I ((a + 4 : Nat) : Int))) (pq p 21) ((j + 1 + 1 : Nat) : Int)).1 l = _
    rw [wi_1 (pq_n h0)]
    exact cnM_1 h0 h2 h3
  have m4f : ∀ l, l < 2000 → l ≠ 1105 → l ≠ 1106 → l ≠ 946 → F m4 l = F m l := fun l h0 h1 h2 h3 => congrArg Int32.toInt (m4g l h0 h1 h2 h3)
  have m406 : m4.1 1106 = I (F m 1106 + 1) := by
    rw [← hm4, wi_1 (by omega)]
    show (wi (s30 (cnM m p) p (5 * j + 4) (I ((a + 4 : Nat) : Int))) (pq p 21) ((j + 1 + 1 : Nat) : Int)).1 1106 = _
    rw [wi_1 (pq_n (by omega))]
    exact cnM_06
  have m413 : m4.1 (pq p 13) = I (F m (pq p 13) + 1) := by
    rw [← hm4, wi_1 (fun c => pq_n (by omega) c.symm)]
    show (wi (s30 (cnM m p) p (5 * j + 4) (I ((a + 4 : Nat) : Int))) (pq p 21) ((j + 1 + 1 : Nat) : Int)).1 (pq p 13) = _
    rw [wi_1 (pq_inj (by omega))]
    exact cnM_13
  have m421 : F m4 (pq p 21) = ((j + 1 + 1 : Nat) : Int) := by
    rw [← hm4, wi_ne (fun c => pq_n (by omega) c.symm)]
    show F (wi (s30 (cnM m p) p (5 * j + 4) (I ((a + 4 : Nat) : Int))) (pq p 21) ((j + 1 + 1 : Nat) : Int)) (pq p 21) = _
    rw [wi_sm (by omega) (by omega)]
  have m4A : ∀ K, K ≠ pq p 30 → m4.2.2.1 K = m.2.2.1 K := fun K h => by
    rw [← hm4]
    show (opS (s30 (cnM m p) p (5 * j + 4) (I ((a + 4 : Nat) : Int))) p (j + 1) B P0 (I ((f : Nat) : Int)) (I ((e : Nat) : Int))).2.2.1 K = _
    unfold opS
    exact (if_neg h).trans ((if_neg h).trans ((if_neg h).trans ((if_neg h).trans ((if_neg h).trans (if_neg h)))))
  have m4J : m4.2.2.2 = m.2.2.2 := by rw [← hm4]; rfl
  have m4L : m4.2.1 = m.2.1 := by rw [← hm4]; rfl
  have m430 : ∀ i, A m4 (pq p 30) i = if i = 5 * (j + 1) + 4 then ((e : Nat) : Int) else if i = 5 * (j + 1) + 1 then 0 else if i = 5 * (j + 1) then ((f : Nat) : Int) else if i = 5 * (j + 1) + 3 then ((P0 : Nat) : Int) else if i = 5 * (j + 1) + 2 then ((B : Nat) : Int) else if i = 5 * j + 4 then ((a + 4 : Nat) : Int) else A m (pq p 30) i := fun i => by
    rw [← hm4]
    show A (opS (s30 (cnM m p) p (5 * j + 4) (I ((a + 4 : Nat) : Int))) p (j + 1) B P0 (I ((f : Nat) : Int)) (I ((e : Nat) : Int))) (pq p 30) i = _
    rw [opS_30 (by omega) (by omega), I_ti (by omega) (by omega), I_ti (by omega) (by omega), s30_a, I_ti (by omega) (by omega)]
    rfl
  have h23 : A m4 23 = A m 23 := by funext i; show (m4.2.2.1 23 i).toInt = _; rw [m4A 23 (pq_n (by omega))]; rfl
  have n32 : ∀ i, A m4 (pq p 32) i = A m (pq p 32) i := fun i => by show (m4.2.2.1 (pq p 32) i).toInt = _; rw [m4A _ (pq_inj (by omega))]; rfl
  have fa4 : FAs m4 w4 p (j + 1) (upf nb (j + 1) B) (upf Hs (j + 1) []) (upf Os (j + 1) []) := by
    refine ⟨⟨m421, by rw [w4a]; exact v95, hj1⟩, fun r hr => ?_, fun r hr => ?_, ?_⟩
    · by_cases cr' : r = j + 1
      · subst cr'
        rw [upf_s, upf_s, upf_s]
        refine ⟨?_, Or.inl ⟨by rw [w4a]; exact v97, ?_⟩, ⟨?_, by rw [w4a]; exact v99⟩, ?_, by rw [w4a]; exact v101, fun i x hx => by simp at hx⟩
        · rw [m430, if_neg (by omega), if_neg (by omega), if_pos rfl, w4a, v96]
        · rw [m430, if_neg (by omega), if_pos rfl]
        · rw [m430, if_neg (by omega), if_neg (by omega), if_neg (by omega), if_neg (by omega), if_pos rfl]
        · rw [m430, if_neg (by omega), if_neg (by omega), if_neg (by omega), if_pos rfl, w4a, v100]
      · rw [upf_n cr', upf_n cr', upf_n cr']
        obtain ⟨y1, y2, ⟨y3, y4⟩, y5, y6, y7⟩ := f4 r (by omega)
        have m30 : ∀ d, d < 4 → A m4 (pq p 30) (5 * r + d) = A m (pq p 30) (5 * r + d) := fun d hd => by rw [m430, if_neg (by omega), if_neg (by omega), if_neg (by omega), if_neg (by omega), if_neg (by omega), if_neg (by omega)]
        have wr : ∀ K, 96 ≤ K → K ≤ 101 → K ≠ 98 → A w4 K (60 * p + r) = A w K (60 * p + r) := fun K h1 h2 h3 => by rw [w4a]; exact w3a K _ h1 h2 (by omega) (by omega)
        refine ⟨by rw [show 5 * r = 5 * r + 0 from rfl, m30 0 (by omega), wr 96 (by omega) (by omega) (by omega)]; exact y1, ?_, ⟨by rw [m30 2 (by omega)]; exact y3, by rw [wr 99 (by omega) (by omega) (by omega)]; exact y4⟩, by rw [m30 3 (by omega), wr 100 (by omega) (by omega) (by omega)]; exact y5, by rw [wr 101 (by omega) (by omega) (by omega)]; exact y6, fun i x hx => by rw [n32]; exact y7 i x hx⟩
        rw [wr 97 (by omega) (by omega) (by omega), m30 1 (by omega)]
        rcases y2 with y2 | ⟨k2, t2, q1, q3, q4⟩
        · exact Or.inl y2
        · exact Or.inr ⟨k2, t2, q1, by rw [hP 44 (by unfold PRr; omega)]; exact q3, by rw [hP 8 (by unfold PRr; omega)]; exact q4⟩
    · by_cases cr' : r = j
      · subst cr'
        rw [upf_n (show r ≠ r + 1 by omega), upf_s, upf_n (show r ≠ r + 1 by omega), upf_n (show r ≠ r + 1 by omega)]
        obtain ⟨g, cr⟩ := cr
        refine ⟨hB, a + 4, n + 1, ?_, by rw [w4a]; exact v98, g, by rw [h23, ROs_eq pr4, w4J]; exact cr⟩
        rw [m430, if_neg (by omega), if_neg (by omega), if_neg (by omega), if_neg (by omega), if_neg (by omega), if_pos rfl]
      · rw [upf_n (show r ≠ j + 1 by omega), upf_n (show r + 1 ≠ j + 1 by omega), upf_n (show r ≠ j + 1 by omega), upf_n (show r ≠ j + 1 by omega)]
        obtain ⟨y1, a3, n3, y2, y3, f9, y4⟩ := f5 r (by omega)
        refine ⟨y1, a3, n3, ?_, by rw [w4a, w3a 98 _ (by omega) (by omega) (by omega) (by omega)]; exact y3, f9, by rw [h23, ROs_eq pr4, w4J]; exact y4⟩
        rw [m430, if_neg (by omega), if_neg (by omega), if_neg (by omega), if_neg (by omega), if_neg (by omega), if_neg (by omega)]
        exact y2
    · rw [upf_s, upf_s, upf_s, show F m4 (pq p 24) = F m (pq p 24) from congrArg Int32.toInt (m4q 24 (by omega) (by omega)), pl.2.1.1]
      simp
  have ct4 : CTs m4 w4 p (j + 1) (upf nb (j + 1) B) (upf Hs (j + 1) []) (upf Os (j + 1) []) := by
    obtain ⟨nC, c1, c2, c3, c5, c4⟩ := id ct
    have wc : ∀ K i, 102 ≤ K → K ≤ 106 → A w4 K i = A w K i := fun K i h1 h2 => by
      rw [w4a]
      show (w3.2.2.1 K i).toInt = _
      rw [w3R K (by omega) (by omega) (by omega) (by omega) (by omega) (by omega) (by omega) (by omega) (by omega) (by omega)]
      rfl
    have h37 : A m4 (pq p 37) = A m (pq p 37) := by funext i; show (m4.2.2.1 (pq p 37) i).toInt = _; rw [m4A _ (pq_inj (by omega))]; rfl
    refine ⟨nC, (congrArg Int32.toInt (m4q 28 (by omega) (by omega))).trans c1, by rw [wc 106 _ (by omega) (by omega)]; exact c2, c3, fun c hc => by rw [wc 102 _ (by omega) (by omega), wc 102 _ (by omega) (by omega), wc 105 _ (by omega) (by omega), wc 105 _ (by omega) (by omega)]; exact c5 c hc, fun c hc => ?_⟩
    obtain ⟨r, k, a3, nd, nn, k1, k2, k3, k4, k5, k6, k7, k8, k9, k10, f9, k11⟩ := c4 c hc
    have rn : r ≠ j + 1 := by omega
    exact ⟨r, k, a3, nd, nn, by omega, by rw [h37]; exact k2, by rw [wc 102 _ (by omega) (by omega)]; exact k3, by rw [h37, upf_n rn, upf_n rn]; exact k4, by rw [wc 105 _ (by omega) (by omega), upf_n rn, upf_n rn]; exact k5, by rw [upf_n rn]; exact k6, by rw [h37, wc 104 _ (by omega) (by omega)]; exact k7, by rw [h37]; exact k8, by rw [wc 103 _ (by omega) (by omega)]; exact k9, by rw [hP 25 (by unfold PRr; omega)]; exact k10, f9, by rw [h23, ROs_eq pr4, w4J, upf_n rn, upf_n rn]; exact k11⟩
  have pl4 : PLs b p m4 w4 U B (P0 + ar) Y := by
    refine PLs_cg pl (fun l hl => m4q l (by simp at hl; omega) (by simp at hl; omega)) (fun i _ => by rw [m4J]) (fun i _ => by rw [m4J]) (fun i _ => by rw [m4J]) (fun i _ => by rw [m4J]) (fun K hK => ?_) (fun i _ => by rw [w4J]) (fun i _ => by rw [w4J]) (fun i _ => by rw [w4J]) (fun i _ => by rw [w4J])
    simp only [List.mem_cons, List.not_mem_nil, or_false] at hK
    apply Int32.toInt_inj.mp
    show A w4 K p = A w K p
    rw [w4a]
    rcases hK with rfl | rfl | rfl | rfl | rfl
    · exact congrArg Int32.toInt (congrFun (w3R 89 (by omega) (by omega) (by omega) (by omega) (by omega) (by omega) (by omega) (by omega) (by omega) (by omega)) p)
    · exact congrArg Int32.toInt (congrFun (w3R 90 (by omega) (by omega) (by omega) (by omega) (by omega) (by omega) (by omega) (by omega) (by omega) (by omega)) p)
    · rw [v92]; exact pl.2.2.1.2.1.symm
    · rw [v94]; exact pl.2.1.2.1.symm
    · exact congrArg Int32.toInt (congrFun (w3R 108 (by omega) (by omega) (by omega) (by omega) (by omega) (by omega) (by omega) (by omega) (by omega) (by omega)) p)
  have gm : GGm p (cbM m) m4 := by
    rw [← hm4]
    exact GGm.tr (GGm.tr GGm_cn (GGm.tr GGm_s30 GGm_opS)) (GGm_reg (by omega))
  have gw : GGw p (cbW w) w4 := by
    have ow : ∀ r K i, K ≠ 92 → K ≠ 94 → K ≠ 95 → K ≠ 114 → (96 ≤ K → K ≤ 101 → r ≠ p → 60 * r ≤ i ∧ i < 60 * r + 60) → r ≠ p → w4.2.2.1 K i = w.2.2.1 K i := fun r K i h1 h2 h3 h4 h5 h6 => by
      rw [w42]
      by_cases c : 96 ≤ K ∧ K ≤ 101
      · have := h5 c.1 c.2 h6
        exact w3A K i c.1 c.2 (by omega) (by omega)
      · rw [w3R K h1 h2 h3 (by omega) (by omega) (by omega) (by omega) (by omega) (by omega) h4]
    have o1 : ∀ K i, (K = 92 ∨ K = 94 ∨ K = 95 ∨ K = 114) → i ≠ p → w4.2.2.1 K i = w.2.2.1 K i := fun K i h1 h2 => by
      rw [w42, ← hw3]
      unfold frmW
      rw [wa_at (by omega), wa_at (by omega), wa_at (by omega), wa_at (by omega), wa_at (by omega), wa_at (by omega), wa_at (by omega), uR, wa_at (by omega), ← hw1, wa_at (by omega), wa_at (by omega)]
      rfl
    have wi1 : ∀ l, l ≤ 132 ∨ l = 150 ∨ l = 164 ∨ l = 165 → w4.1 l = (cbW w).1 l := fun l hl => by
      rw [w41 l (by omega) (by omega) (by omega) (by omega), w3i, ← hw1]
      show (wi (wi (wi w 166 0) 165 (F w 165 + 1)) 119 (F w 119 + 1)).1 l = _
      unfold cbW
      by_cases c : l = 119
      · subst c
        rw [wi_s1, wi_1 (by omega), wi_s1]
      · by_cases c5 : l = 165
        · subst c5
          rw [wi_1 c, wi_s1, wi_s1]
        · rw [wi_1 c, wi_1 c5, wi_1 (by omega), wi_1 c5, wi_1 c]
    refine ⟨fun d hd => ⟨fun K i h => ?_, fun K h => ?_, fun i _ _ => ?_, by rw [w4J]; rfl, fun i _ _ => by rw [w4J]; rfl, fun i _ _ => by rw [w4J]; rfl, fun i _ _ => by rw [w4J]; rfl, fun i _ _ => by rw [w4J]; rfl⟩, ⟨fun K h => pr4 K h, by rw [w4J]; rfl, ?_, ?_, wi1 14 (by omega)⟩, wi1 150 (by omega), fun K h => ?_, by rw [w4J]; rfl, fun K h => ?_, fun l h => wi1 l (by omega)⟩
    · show w4.2.2.1 K i = w.2.2.1 K i
      by_cases c : K = 92 ∨ K = 94 ∨ K = 95 ∨ K = 114
      · refine o1 K i c ?_
        unfold OWi at h
        omega
      · refine ow d K i (by omega) (by omega) (by omega) (by omega) (fun h1 h2 _ => ?_) hd
        unfold OWi at h
        omega
    · exact ow d K d (by omega) (by omega) (by omega) (by omega) (fun h1 h2 _ => by omega) hd
    · exact ow d 131 i (by omega) (by omega) (by omega) (by omega) (fun h1 h2 _ => by omega) hd
    · show w4.2.2.1 12 = w.2.2.1 12
      rw [w42]
      exact w3R 12 (by omega) (by omega) (by omega) (by omega) (by omega) (by omega) (by omega) (by omega) (by omega) (by omega)
    · show w4.2.2.1 13 = w.2.2.1 13
      rw [w42]
      exact w3R 13 (by omega) (by omega) (by omega) (by omega) (by omega) (by omega) (by omega) (by omega) (by omega) (by omega)
    · show w4.2.2.1 K = w.2.2.1 K
      rw [w42]
      exact w3R K (by omega) (by omega) (by omega) (by omega) (by omega) (by omega) (by omega) (by omega) (by omega) (by omega)
    · show w4.2.2.1 K = w.2.2.1 K
      rw [w42]
      exact w3R K (by omega) (by omega) (by omega) (by omega) (by omega) (by omega) (by omega) (by omega) (by omega) (by omega)
  have sc4 : SCs p m w → SCs p m4 w4 := fun s => by
    obtain ⟨s1, s2, s3, s4, s5, s6⟩ := s
    have rr : ∀ K, 112 ≤ K → K ≤ 117 → K ≠ 114 → w4.2.2.1 K = w.2.2.1 K := fun K h1 h2 h3 => by
      rw [w42]
      exact w3R K (by omega) (by omega) (by omega) (by omega) (by omega) (by omega) (by omega) (by omega) (by omega) h3
    refine ⟨by rw [m4q 12 (by omega) (by omega), rr 113 (by omega) (by omega) (by omega)]; exact s1, ?_, by rw [m4q 11 (by omega) (by omega), rr 112 (by omega) (by omega) (by omega)]; exact s3, by rw [m4q 15 (by omega) (by omega), rr 117 (by omega) (by omega) (by omega)]; exact s4, by rw [m4q 29 (by omega) (by omega), rr 115 (by omega) (by omega) (by omega)]; exact s5, fun i hi => ?_⟩
    · rw [m413, w42, v114]
      congr 1
      show (m.1 (pq p 13)).toInt + 1 = (w.2.2.1 114 p).toInt + 1
      rw [s2]
    · rw [m4A _ (pq_inj (by omega)), rr 116 (by omega) (by omega) (by omega)]
      refine s6 i ?_
      rw [show F m (pq p 15) = F m4 (pq p 15) from (congrArg Int32.toInt (m4q 15 (by omega) (by omega))).symm]
      exact hi
  refine k m4 w4 e ((c : Nat) : Int) ⟨⟨⟨fa4, ct4⟩, ⟨(congrArg Int32.toInt (m4q 9 (by omega) (by omega))).trans r5, ?_⟩, Or.inl ⟨rfl, (m4f 1112 (by omega) (by omega) (by omega) (by omega)).trans h12, (w4f 152 (by omega) (by omega) (by omega) (by omega) (by omega) (by omega) (by omega)).trans h152⟩, ⟨(m4f 1108 (by omega) (by omega) (by omega) (by omega)).trans r8, (m4f 1109 (by omega) (by omega) (by omega) (by omega)).trans r9, (w4f 151 (by omega) (by omega) (by omega) (by omega) (by omega) (by omega) (by omega)).trans r10⟩, (w4f 133 (by omega) (by omega) (by omega) (by omega) (by omega) (by omega) (by omega)).trans r11, ?_, ?_⟩, ?_, ⟨?_, ?_, ?_⟩, fun c => ?_, ⟨?_, ?_⟩, g1, g2, ?_⟩ (PLs_94 pl4 (by omega)) gm gw sc4 ⟨by rw [w4J], by rw [w41 140 (by omega) (by omega) (by omega) (by omega), w3i]; exact i1 140 (by omega) (by omega) (by omega)⟩
  · show (w4.2.2.1 109 p).toInt = 0
    rw [w42, w3R 109 (by omega) (by omega) (by omega) (by omega) (by omega) (by omega) (by omega) (by omega) (by omega) (by omega)]
    exact r6
  · rw [m406, w41 165 (by omega) (by omega) (by omega) (by omega), w3i, i165]
    congr 1
    show (m.1 1106).toInt + 1 = (w.1 165).toInt + 1
    rw [r12]
  · rw [m4g 1107 (by omega) (by omega) (by omega) (by omega), w4i 164 (by omega) (by omega) (by omega) (by omega) (by omega) (by omega) (by omega)]
    exact r13
  · rw [← hm4, wi_sm (by omega) (by omega)]
  · rw [← hw4, wi_ne (by omega), wi_ne (by omega), wi_ne (by omega), wi_sm (by omega) (by omega)]
    rfl
  · rw [← hw4, wi_ne (by omega), wi_sm (by omega) (by omega)]
  · rw [upf_s, upf_s, upf_s, ← hw4, wi_sm (by omega) (by omega)]
    simp
  · omega
  · rw [upf_s]; exact List.nodup_nil
  · rw [upf_s]; exact List.nodup_nil
  · rw [upf_s, upf_s, h23, ROs_eq pr4, w4J]
    exact ft3
end
end
section
set_option maxRecDepth 100000
section
variable {N p j a ar f e l B P0 src : Nat} {m : MS}
theorem callT_m (hlt : F m 1106 < F m 1107) (hpc : F m 1105 = ((a : Nat) : Int)) (ha : a + 3 < 24000) (h21 : F m (pq p 21) = ((j + 1 : Nat) : Int)) (hj : j < 60) (h3 : A m (pq p 30) (5 * j + 3) = ((P0 : Nat) : Int)) (h2 : A m (pq p 30) (5 * j + 2) = ((B : Nat) : Int)) (h26 : F m (pq p 26) = ((src + ar : Nat) : Int)) (hP : P0 ≤ src) (hl : F m (pq p 45) = ((l : Nat) : Int)) (hl2 : src + ar ≤ l ∧ l ≤ 1000000) (c2 : A m 23 (a + 2) = ((ar : Nat) : Int)) (hf : f < 666) (h442 : ((f : Nat) : Int) < F m 442) (h29 : A m 29 f = ((e : Nat) : Int)) : hm_Ma_call N m p (I ((f : Nat) : Int)) 1 = some (wi (rpS (cnM m p) p j B P0 src ar (I ((f : Nat) : Int)) (I ((e : Nat) : Int))) 1105 ((e : Nat) : Int), ()) := by
  unfold hm_Ma_call hb_Ma_call_0 hb_Ma_call_70
  have r42 := F_r m 442
  have g5 : F (cnM m p) 1105 = ((a : Nat) : Int) := (congrArg Int32.toInt (cnM_1 (by omega) (by omega) (by omega))).trans hpc
  have g21 : F (cnM m p) (pq p 21) = ((j + 1 : Nat) : Int) := (congrArg Int32.toInt (cnM_q (by omega))).trans h21
  have g26 : F (cnM m p) (pq p 26) = ((src + ar : Nat) : Int) := (congrArg Int32.toInt (cnM_q (by omega))).trans h26
  have g45 : F (cnM m p) (pq p 45) = ((l : Nat) : Int) := (congrArg Int32.toInt (cnM_q (by omega))).trans hl
  have g42 : F (cnM m p) 442 = F m 442 := congrArg Int32.toInt (cnM_1 (by omega) (by omega) (by omega))
  have g23 : A (cnM m p) 23 (a + 2) = ((ar : Nat) : Int) := c2
  have g29 : A (cnM m p) 29 f = ((e : Nat) : Int) := h29
  rw [I_F' hpc, show I ((a : Nat) : Int) + 3 = I ((a + 3 : Nat) : Int) from addN, Co_e (k := a + 3) rfl ha, bnd_so, begins_e hlt h21 (Or.inl rfl), bnd_so, show decide ((1 : Int32) = 0) = false from rfl, br_fq, d_lt0 (by omega), br_fq, I_F (k := 442), g42, decI r42.1 r42.2 (by omega) (by omega), decide_eq_false (by omega), br_fq, (I_inb (by omega) (by omega)).mpr ⟨by omega, by omega⟩, ck_t, I_F' g5, show I ((a : Nat) : Int) + 2 = I ((a + 2 : Nat) : Int) from addN, Co_e (k := a + 2) rfl (by omega), bnd_so, g23, tnI (n := f) rfl (by omega), I_A' g29]
  unfold hm_Ma_enter hb_Ma_enter_0 hb_Ma_enter_37
  rw [show decide ((1 : Int32) = 0) = false from rfl, br_fq, repl_e (j := j) (B := B) (P0 := P0) (src := src) (ar := ar) (l := l) g21 hj h3 h2 g26 hP g45 hl2, bnd_so, wi_e, lt_e, bnd_so]
end
section
variable {β α : Type} {b : Int → Nat → Nat → Prop} {N p U B Y j a n ar f l P0 src : Nat} {m w : MS} {nb : Nat → Nat} {Hs Os : Nat → List Nat} {Q : MS → α → MS → β → Prop} {K1 : MS → Option (MS × α)} {K2 : MS → Option (MS × β)}
theorem op_callT (hpp : p < 24) (pl : PLs b p m w U B (src + ar) Y) (ru : RUs m w p j nb Hs Os none a n) (hW : src + ar ≤ 46000) (hB2 : B ≤ 2500) (hP : P0 ≤ src) (h100 : A w 100 (60 * p + j) = ((P0 : Nat) : Int)) (hl : F m (pq p 45) = ((l : Nat) : Int)) (hl2 : src + ar ≤ l ∧ l ≤ 1000000) (hct : ∀ nC c : Nat, F m (pq p 28) = ((nC : Nat) : Int) → c < nC → A w 102 (1600 * p + c) < ((j : Nat) : Int)) (ft : FTs m w) (h442 : ((f : Nat) : Int) < F m 442) (hlt : F m 1106 < F m 1107) (ha : a + 3 < 24000) (c1 : A m 23 (a + 1) = ((f : Nat) : Int)) (c2 : A m 23 (a + 2) = ((ar : Nat) : Int)) (h26 : A w 26 n = ((ar : Nat) : Int)) (h27 : A w 27 n = ((f : Nat) : Int)) (h30 : A w 30 n = 1)
    (k : ∀ m4 w4 e c, TRs m4 w4 p j nb (upf Hs j []) (upf Os j []) 0 0 e c → PLs b p m4 (wa w4 94 p ((nb j : Nat) : Int)) U (nb j) (P0 + ar) Y → GGm p (cbM m) m4 → GGw p (cbW w) w4 → (SCs p m w → SCs p m4 w4) → (w4.2.2.2 88 = w.2.2.2 88 ∧ w4.1 140 = w.1 140) → PP Q (K1 m4) (bnd (gg_M_choose N (rc_M_error N 19) N w4 1) (fun u _ => K2 u))) : PP Q (bnd (hm_Ma_flow N m p (I 26)) (fun u _ => K1 u)) (bnd (fm_M_one N w (I ((n : Nat) : Int)) (I 12)) (fun u _ => K2 u)) := by
  obtain ⟨⟨fa, ct⟩, ⟨r2, r3⟩, ⟨f0, cr0⟩, ⟨r5, r6⟩, r7, ⟨r8, r9, r10⟩, r11, r12, r13⟩ := id ru
  obtain ⟨h12, h152⟩ : F m 1112 = 0 ∧ F w 152 = 0 := by
    rcases r7 with ⟨_, c3, c4⟩ | ⟨_, _, _, c, _⟩
    · exact ⟨c3, c4⟩
    · cases c
  have cb := CR_b cr0
  obtain ⟨⟨f1, f2, f3⟩, f4, f5, f6⟩ := id fa
  obtain ⟨hf6, e, c, ft1, ft2, g1, g2, ft3⟩ := ft f h442
  have e24 := A_r m 29 f
  rw [ft1] at e24
  have ebd : e + 1 < 24000 := by
    cases g2 with
    | zero => exact ft3.elim
    | succ g2 => exact ft3.1
  have c24 := A_r w 50 f
  rw [ft2] at c24
  have hne : (wi w 166 0).1 165 ≠ (wi w 166 0).1 164 := by
    rw [wi_1 (by omega), wi_1 (by omega), ← r12, ← r13]
    intro c
    have := congrArg Int32.toInt c
    have h1 : F m 1106 = (m.1 1106).toInt := rfl
    have h2 : F m 1107 = (m.1 1107).toInt := rfl
    omega
  have hB : B = nb j + (Hs j ++ Os j).length := by
    have h1 := pl.2.1.1
    rw [f6] at h1
    omega
  obtain ⟨-, -, ⟨g3, g4⟩, g5, -, -⟩ := f4 j (Nat.le_refl _)
  rw [h100] at g5
  rw [flo26, I_F' r2, show I ((a : Nat) : Int) + 1 = I ((a + 1 : Nat) : Int) from addN, Co_e (k := a + 1) rfl (by omega), bnd_so, c1, callT_m (B := nb j) (P0 := P0) (src := src) hlt r2 ha f1 f3 g5 g3 pl.2.2.1.1 hP hl hl2 c2 hf6 h442 ft1, bnd_so, bnd_so]
  rw [one_12]
  refine r_bb ?_
  refine call_12 (by omega) h26 h27 (by omega) ?_
  have x33 : F (wi w 166 0) 133 = ((p : Nat) : Int) := by rw [wi_ne (by omega)]; exact r11
  refine call_go (j1 := j) (tl := 1) hpp (by omega) x33 f2 f3 hne h30 (Or.inl rfl) ?_
  have e165 : F (wi w 166 0) 165 = F w 165 := wi_ne (by omega)
  have e119 : F (wi w 166 0) 119 = F w 119 := wi_ne (by omega)
  rw [e165, e119, show A (wi w 166 0) 114 p = A w 114 p from rfl]
  generalize hw1 : wa (wa (wi (wi (wi w 166 0) 165 (F w 165 + 1)) 119 (F w 119 + 1)) 114 p (A w 114 p + 1)) 98 (60 * p + j) ((n + 1 : Nat) : Int) = w1
  have a1 : ∀ K i, K ≠ 114 → K ≠ 98 → A w1 K i = A w K i := fun K i h1 h2 => by rw [← hw1, wa_rne h2, wa_rne h1]; rfl
  have i1 : ∀ l, l ≠ 166 → l ≠ 165 → l ≠ 119 → w1.1 l = w.1 l := fun l h1 h2 h3 => by
    rw [← hw1]
    show (wi (wi (wi w 166 0) 165 (F w 165 + 1)) 119 (F w 119 + 1)).1 l = _
    rw [wi_1 h3, wi_1 h2, wi_1 h1]
  have i165 : w1.1 165 = I (F w 165 + 1) := by
    rw [← hw1]
    show (wi (wi (wi w 166 0) 165 (F w 165 + 1)) 119 (F w 119 + 1)).1 165 = _
    rw [wi_1 (by omega)]
    exact wi_s1
  have i166 : F w1 166 = 0 := by
    rw [← hw1]
    show F (wi (wi (wi w 166 0) 165 (F w 165 + 1)) 119 (F w 119 + 1)) 166 = 0
    rw [wi_ne (by omega), wi_ne (by omega), wi_sm (by omega) (by omega)]
  have j1J : w1.2.2.2 = w.2.2.2 := by rw [← hw1]; rfl
  have y33 : F w1 133 = ((p : Nat) : Int) := (congrArg Int32.toInt (i1 133 (by omega) (by omega) (by omega))).trans r11
  refine frT_r (f := ((f : Nat) : Int)) (P0 := P0) (src := src) (nbj := nb j) (j := j) hpp rfl y33 i166 ((a1 92 p (by omega) (by omega)).trans pl.2.2.1.2.1) hW hP ((a1 95 p (by omega) (by omega)).trans f2) f3 ((a1 100 _ (by omega) (by omega)).trans h100) ((a1 99 _ (by omega) (by omega)).trans g4) (by omega) (fun u fr r => ?_)
  generalize hw3 : frmW u p j ((f : Nat) : Int) P0 (nb j) (P0 + ar) = w3
  have uR : ∀ K, u.2.2.1 K = w1.2.2.1 K := fun K => fr.2.2.1 K (by simp)
  have uA : ∀ K i, A u K i = A w1 K i := fun K i => FR.A fr (by simp)
  have u1 : ∀ l, u.1 l = w1.1 l := fun l => fr.1 l (by simp)
  have uJ : ∀ K, K ≠ 91 → u.2.2.2 K = w.2.2.2 K := fun K h => by rw [fr.2.2.2 K (by simpa using h), j1J]
  have w3i : w3.1 = w1.1 := by
    rw [← hw3]
    funext l
    exact u1 l
  have w3J : ∀ K, K ≠ 91 → w3.2.2.2 K = w.2.2.2 K := fun K h => by rw [← hw3]; exact uJ K h
  have w391 : ∀ i, w3.2.2.2 91 i = if 46000 * p + P0 ≤ i ∧ i < 46000 * p + P0 + ar then w.2.2.2 91 (i + (src - P0)) else w.2.2.2 91 i := fun i => by
    rw [← hw3]
    show u.2.2.2 91 i = _
    rw [r i, j1J]
  have w3R : ∀ K, K ≠ 92 → K ≠ 94 → K ≠ 96 → K ≠ 97 → K ≠ 98 → K ≠ 99 → K ≠ 100 → K ≠ 101 → K ≠ 114 → w3.2.2.1 K = w.2.2.1 K := fun K h1 h2 h4 h5 h6 h7 h8 h9 h10 => by
    rw [← hw3]
    unfold frmW
    rw [wa_21 h9, wa_21 h2, wa_21 h7, wa_21 h8, wa_21 h5, wa_21 h4, wa_21 h1, uR, ← hw1, wa_21 h6, wa_21 h10]
    rfl
  have w3A : ∀ K i, 96 ≤ K → K ≤ 101 → i ≠ 60 * p + j → w3.2.2.1 K i = w.2.2.1 K i := fun K i h1 h2 h3 => by
    rw [← hw3]
    unfold frmW
    rw [wa_at (fun c => h3 c.2), wa_at (by omega), wa_at (fun c => h3 c.2), wa_at (fun c => h3 c.2), wa_at (fun c => h3 c.2), wa_at (fun c => h3 c.2), wa_at (by omega), uR, ← hw1, wa_at (fun c => h3 c.2), wa_at (by omega)]
    rfl
  have w3a : ∀ K i, 96 ≤ K → K ≤ 101 → i ≠ 60 * p + j → A w3 K i = A w K i := fun K i h1 h2 h3 => congrArg Int32.toInt (w3A K i h1 h2 h3)
  have v101 : A w3 101 (60 * p + j) = 0 := by rw [← hw3]; exact wa_sm (by omega) (by omega)
  have v94 : A w3 94 p = ((nb j : Nat) : Int) := by
    rw [← hw3]
    unfold frmW
    rw [wa_rne (by omega), wa_sm (by omega) (by omega)]
  have v99 : A w3 99 (60 * p + j) = ((nb j : Nat) : Int) := by
    rw [← hw3]
    unfold frmW
    rw [wa_rne (by omega), wa_rne (by omega), wa_sm (by omega) (by omega)]
  have v100 : A w3 100 (60 * p + j) = ((P0 : Nat) : Int) := by
    rw [← hw3]
    unfold frmW
    rw [wa_rne (by omega), wa_rne (by omega), wa_rne (by omega), wa_sm (by omega) (by omega)]
  have v97 : A w3 97 (60 * p + j) = -1 := by
    rw [← hw3]
    unfold frmW
    rw [wa_rne (by omega), wa_rne (by omega), wa_rne (by omega), wa_rne (by omega), wa_sm (by omega) (by omega)]
  have v96 : A w3 96 (60 * p + j) = ((f : Nat) : Int) := by
    rw [← hw3]
    unfold frmW
    rw [wa_rne (by omega), wa_rne (by omega), wa_rne (by omega), wa_rne (by omega), wa_rne (by omega), wa_sm (by omega) (by omega)]
  have v92 : A w3 92 p = ((P0 + ar : Nat) : Int) := by
    rw [← hw3]
    unfold frmW
    rw [wa_rne (by omega), wa_rne (by omega), wa_rne (by omega), wa_rne (by omega), wa_rne (by omega), wa_rne (by omega), wa_sm (by omega) (by omega)]
  have v95 : A w3 95 p = ((j + 1 : Nat) : Int) := by
    show (w3.2.2.1 95 p).toInt = _
    rw [w3R 95 (by omega) (by omega) (by omega) (by omega) (by omega) (by omega) (by omega) (by omega) (by omega)]
    exact f2
  have v114 : w3.2.2.1 114 p = I (A w 114 p + 1) := by
    rw [← hw3]
    unfold frmW
    rw [wa_21 (by omega), wa_21 (by omega), wa_21 (by omega), wa_21 (by omega), wa_21 (by omega), wa_21 (by omega), wa_21 (by omega), uR, ← hw1, wa_21 (by omega)]
    show (if 114 = 114 then upd (w.2.2.1 114) p (I (A w 114 p + 1)) else w.2.2.1 114) p = _
    rw [if_pos rfl]
    exact if_pos rfl
  have z33 : F w3 133 = ((p : Nat) : Int) := by show (w3.1 133).toInt = _; rw [w3i]; exact y33
  have pr : ∀ K, PRr K → w3.2.2.1 K = w.2.2.1 K := fun K h => by
    unfold PRr at h
    exact w3R K (by omega) (by omega) (by omega) (by omega) (by omega) (by omega) (by omega) (by omega) (by omega)
  have fne : decide (I ((f : Nat) : Int) = (-1 : Int32)) = false := by rw [m1I, decE (by omega) (by omega) (by omega) (by omega)]; exact decide_eq_false (by omega)
  rw [fne, br_fq]
  refine rb_ck (fun _ => ?_)
  have v50 : A w3 50 f = ((c : Nat) : Int) := by show (w3.2.2.1 50 f).toInt = _; rw [pr 50 (by unfold PRr; omega)]; exact ft2
  rw [tnI (n := f) rfl (by omega), I_A' v50]
  refine clof_r (j := j) (a := 0) (nbn := nb j) hpp z33 v95 f3 v99 v101 ?_
  generalize hw4 : wi (wi (wi (wi w3 153 0) 155 ((c : Nat) : Int)) 154 ((c : Nat) : Int)) 156 ((nb j + 0 : Nat) : Int) = w4
  have w42 : w4.2 = w3.2 := by rw [← hw4]; rfl
  have w41 : ∀ l, l ≠ 153 → l ≠ 154 → l ≠ 155 → l ≠ 156 → w4.1 l = w3.1 l := fun l h1 h2 h3 h4 => by rw [← hw4, wi_1 h4, wi_1 h2, wi_1 h3, wi_1 h1]
  have w4a : ∀ K i, A w4 K i = A w3 K i := fun K i => by show (w4.2.2.1 K i).toInt = _; rw [w42]; rfl
  have w4i : ∀ l, l ≠ 153 → l ≠ 154 → l ≠ 155 → l ≠ 156 → l ≠ 166 → l ≠ 165 → l ≠ 119 → w4.1 l = w.1 l := fun l h1 h2 h3 h4 h5 h6 h7 => by rw [w41 l h1 h2 h3 h4, w3i]; exact i1 l h5 h6 h7
  have w4f : ∀ l, l ≠ 153 → l ≠ 154 → l ≠ 155 → l ≠ 156 → l ≠ 166 → l ≠ 165 → l ≠ 119 → F w4 l = F w l := fun l h1 h2 h3 h4 h5 h6 h7 => congrArg Int32.toInt (w4i l h1 h2 h3 h4 h5 h6 h7)
  have w4J : ∀ K, K ≠ 91 → w4.2.2.2 K = w.2.2.2 K := fun K h => by rw [w42]; exact w3J K h
  have pr4 : ∀ K, PRr K → w4.2.2.1 K = w.2.2.1 K := fun K h => by rw [w42]; exact pr K h
  have hPr : ∀ K, PRr K → A w4 K = A w K := fun K a => by funext i; show (w4.2.2.1 K i).toInt = _; rw [pr4 K a]; rfl
  generalize hm4 : wi (rpS (cnM m p) p j (nb j) P0 src ar (I ((f : Nat) : Int)) (I ((e : Nat) : Int))) 1105 ((e : Nat) : Int) = m4
  have m4q : ∀ l, l ≠ 13 → l ≠ 24 → l ≠ 26 → m4.1 (pq p l) = m.1 (pq p l) := fun l h1 h2 h3 => by
    rw [← hm4, wi_1 (fun c => pq_n (by omega) c.symm)]
    show (wi (wi (cnM m p) (pq p 26) ((P0 + ar : Nat) : Int)) (pq p 24) ((nb j : Nat) : Int)).1 (pq p l) = _
    rw [wi_1 (pq_inj h2), wi_1 (pq_inj h3)]
    exact cnM_q h1
  have m4g : ∀ l, l < 2000 → l ≠ 1105 → l ≠ 1106 → l ≠ 946 → m4.1 l = m.1 l := fun l h0 h1 h2 h3 => by
    rw [← hm4, wi_1 h1]
    show (wi (wi (cnM m p) (pq p 26) ((P0 + ar : Nat) : Int)) (pq p 24) ((nb j : Nat) : Int)).1 l = _
    rw [wi_1 (pq_n h0), wi_1 (pq_n h0)]
    exact cnM_1 h0 h2 h3
  have m4f : ∀ l, l < 2000 → l ≠ 1105 → l ≠ 1106 → l ≠ 946 → F m4 l = F m l := fun l h0 h1 h2 h3 => congrArg Int32.toInt (m4g l h0 h1 h2 h3)
  have m406 : m4.1 1106 = I (F m 1106 + 1) := by
    rw [← hm4, wi_1 (by omega)]
    show (wi (wi (cnM m p) (pq p 26) ((P0 + ar : Nat) : Int)) (pq p 24) ((nb j : Nat) : Int)).1 1106 = _
    rw [wi_1 (pq_n (by omega)), wi_1 (pq_n (by omega))]
    exact cnM_06
  have m413 : m4.1 (pq p 13) = I (F m (pq p 13) + 1) := by
    rw [← hm4, wi_1 (fun c => pq_n (by omega) c.symm)]
    show (wi (wi (cnM m p) (pq p 26) ((P0 + ar : Nat) : Int)) (pq p 24) ((nb j : Nat) : Int)).1 (pq p 13) = _
    rw [wi_1 (pq_inj (by omega)), wi_1 (pq_inj (by omega))]
    exact cnM_13
  have m424 : F m4 (pq p 24) = ((nb j : Nat) : Int) := by
    rw [← hm4, wi_ne (fun c => pq_n (by omega) c.symm)]
    show F (wi (wi (cnM m p) (pq p 26) ((P0 + ar : Nat) : Int)) (pq p 24) ((nb j : Nat) : Int)) (pq p 24) = _
    rw [wi_sm (by omega) (by omega)]
  have m426 : F m4 (pq p 26) = ((P0 + ar : Nat) : Int) := by
    rw [← hm4, wi_ne (fun c => pq_n (by omega) c.symm)]
    show F (wi (wi (cnM m p) (pq p 26) ((P0 + ar : Nat) : Int)) (pq p 24) ((nb j : Nat) : Int)) (pq p 26) = _
    rw [wi_ne (pq_inj (by omega)), wi_sm (by omega) (by omega)]
  have m4A : ∀ K, K ≠ pq p 30 → m4.2.2.1 K = m.2.2.1 K := fun K h => by
    rw [← hm4]
    show (rpS (cnM m p) p j (nb j) P0 src ar (I ((f : Nat) : Int)) (I ((e : Nat) : Int))).2.2.1 K = _
    unfold rpS
    exact (if_neg h).trans ((if_neg h).trans (if_neg h))
  have m4J : ∀ K, K ≠ pq p 35 → m4.2.2.2 K = m.2.2.2 K := fun K h => by rw [← hm4]; exact if_neg h
  have m435 : ∀ i, m4.2.2.2 (pq p 35) i = if P0 ≤ i ∧ i < P0 + ar then m.2.2.2 (pq p 35) (src + (i - P0)) else m.2.2.2 (pq p 35) i := fun i => by
    rw [← hm4]
    show (if pq p 35 = pq p 35 then va_cpy (m.2.2.2 (pq p 35)) (m.2.2.2 (pq p 35)) src P0 ar else m.2.2.2 (pq p 35)) i = _
    rw [if_pos rfl]
    rfl
  have m430 : ∀ i, A m4 (pq p 30) i = if i = 5 * j + 4 then ((e : Nat) : Int) else if i = 5 * j + 1 then 0 else if i = 5 * j then ((f : Nat) : Int) else A m (pq p 30) i := fun i => by
    rw [← hm4]
    show A (rpS (cnM m p) p j (nb j) P0 src ar (I ((f : Nat) : Int)) (I ((e : Nat) : Int))) (pq p 30) i = _
    rw [rpS_30, I_ti (by omega) (by omega), I_ti (by omega) (by omega)]
    rfl
  have h23 : A m4 23 = A m 23 := by funext i; show (m4.2.2.1 23 i).toInt = _; rw [m4A 23 (pq_n (by omega))]; rfl
  have n32 : ∀ i, A m4 (pq p 32) i = A m (pq p 32) i := fun i => by show (m4.2.2.1 (pq p 32) i).toInt = _; rw [m4A _ (pq_inj (by omega))]; rfl
  have fa4 : FAs m4 w4 p j nb (upf Hs j []) (upf Os j []) := by
    refine ⟨⟨(congrArg Int32.toInt (m4q 21 (by omega) (by omega) (by omega))).trans f1, by rw [w4a]; exact v95, f3⟩, fun r hr => ?_, fun r hr => ?_, ?_⟩
    · by_cases cr' : r = j
      · subst cr'
        rw [upf_s, upf_s]
        refine ⟨?_, Or.inl ⟨by rw [w4a]; exact v97, ?_⟩, ⟨?_, by rw [w4a]; exact v99⟩, ?_, by rw [w4a]; exact v101, fun i x hx => by simp at hx⟩
        · rw [m430, if_neg (by omega), if_neg (by omega), if_pos rfl, w4a, v96]
        · rw [m430, if_neg (by omega), if_pos rfl]
        · rw [m430, if_neg (by omega), if_neg (by omega), if_neg (by omega)]; exact g3
        · rw [m430, if_neg (by omega), if_neg (by omega), if_neg (by omega), w4a, v100]; exact g5
      · rw [upf_n cr', upf_n cr']
        obtain ⟨y1, y2, ⟨y3, y4⟩, y5, y6, y7⟩ := f4 r hr
        have m30 : ∀ d, d < 4 → A m4 (pq p 30) (5 * r + d) = A m (pq p 30) (5 * r + d) := fun d hd => by rw [m430, if_neg (by omega), if_neg (by omega), if_neg (by omega)]
        have wr : ∀ K, 96 ≤ K → K ≤ 101 → A w4 K (60 * p + r) = A w K (60 * p + r) := fun K h1 h2 => by rw [w4a]; exact w3a K _ h1 h2 (by omega)
        refine ⟨by rw [show 5 * r = 5 * r + 0 from rfl, m30 0 (by omega), wr 96 (by omega) (by omega)]; exact y1, ?_, ⟨by rw [m30 2 (by omega)]; exact y3, by rw [wr 99 (by omega) (by omega)]; exact y4⟩, by rw [m30 3 (by omega), wr 100 (by omega) (by omega)]; exact y5, by rw [wr 101 (by omega) (by omega)]; exact y6, fun i x hx => by rw [n32]; exact y7 i x hx⟩
        rw [wr 97 (by omega) (by omega), m30 1 (by omega)]
        rcases y2 with y2 | ⟨k2, t2, q1, q3, q4⟩
        · exact Or.inl y2
        · exact Or.inr ⟨k2, t2, q1, by rw [hPr 44 (by unfold PRr; omega)]; exact q3, by rw [hPr 8 (by unfold PRr; omega)]; exact q4⟩
    · rw [upf_n (show r ≠ j by omega), upf_n (show r ≠ j by omega)]
      obtain ⟨y1, a3, n3, y2, y3, f9, y4⟩ := f5 r hr
      refine ⟨y1, a3, n3, ?_, by rw [w4a, w3a 98 _ (by omega) (by omega) (by omega)]; exact y3, f9, by rw [h23, ROs_eq pr4, w4J 34 (by omega)]; exact y4⟩
      rw [m430, if_neg (by omega), if_neg (by omega), if_neg (by omega)]
      exact y2
    · rw [upf_s, upf_s, m424]
      simp
  have ct4 : CTs m4 w4 p j nb (upf Hs j []) (upf Os j []) := by
    obtain ⟨nC, c1, c2, c3, c5, c4⟩ := id ct
    have wc : ∀ K i, 102 ≤ K → K ≤ 106 → A w4 K i = A w K i := fun K i h1 h2 => by
      rw [w4a]
      show (w3.2.2.1 K i).toInt = _
      rw [w3R K (by omega) (by omega) (by omega) (by omega) (by omega) (by omega) (by omega) (by omega) (by omega)]
      rfl
    have h37 : A m4 (pq p 37) = A m (pq p 37) := by funext i; show (m4.2.2.1 (pq p 37) i).toInt = _; rw [m4A _ (pq_inj (by omega))]; rfl
    refine ⟨nC, (congrArg Int32.toInt (m4q 28 (by omega) (by omega) (by omega))).trans c1, by rw [wc 106 _ (by omega) (by omega)]; exact c2, c3, fun c hc => by rw [wc 102 _ (by omega) (by omega), wc 102 _ (by omega) (by omega), wc 105 _ (by omega) (by omega), wc 105 _ (by omega) (by omega)]; exact c5 c hc, fun c hc => ?_⟩
    obtain ⟨r, k, a3, nd, nn, k1, k2, k3, k4, k5, k6, k7, k8, k9, k10, f9, k11⟩ := c4 c hc
    have rl := hct nC c c1 hc
    rw [k3] at rl
    have rn : r ≠ j := by omega
    exact ⟨r, k, a3, nd, nn, by omega, by rw [h37]; exact k2, by rw [wc 102 _ (by omega) (by omega)]; exact k3, by rw [h37, upf_n rn]; exact k4, by rw [wc 105 _ (by omega) (by omega), upf_n rn]; exact k5, by rw [upf_n rn]; exact k6, by rw [h37, wc 104 _ (by omega) (by omega)]; exact k7, by rw [h37]; exact k8, by rw [wc 103 _ (by omega) (by omega)]; exact k9, by rw [hPr 25 (by unfold PRr; omega)]; exact k10, f9, by rw [h23, ROs_eq pr4, w4J 34 (by omega), upf_n rn, upf_n rn]; exact k11⟩
  have pl4 : PLs b p m4 w4 U (nb j) (P0 + ar) Y := by
    obtain ⟨⟨⟨q1, q2, q3⟩, q4, q5⟩, ⟨q6, q7, q8⟩, ⟨q9, q10, q11⟩, q12, q13, q14⟩ := pl
    have hh : hp w4 p = hp w p := by funext i; show w4.2.2.2 88 _ = _; rw [w4J 88 (by omega)]; rfl
    have nA : ∀ K i, K = 89 ∨ K = 108 → A w4 K i = A w K i := fun K i h => by
      rw [w4a]
      show (w3.2.2.1 K i).toInt = _
      rw [w3R K (by omega) (by omega) (by omega) (by omega) (by omega) (by omega) (by omega) (by omega) (by omega)]; rfl
    have mF : ∀ l, l ≠ 13 → l ≠ 24 → l ≠ 26 → F m4 (pq p l) = F m (pq p l) := fun l h1 h2 h3 => congrArg Int32.toInt (m4q l h1 h2 h3)
    refine ⟨⟨⟨by rw [mF 4 (by omega) (by omega) (by omega)]; exact q1, by rw [nA 89 _ (by omega)]; exact q2, q3⟩, by rw [m4J _ (pq_inj (by omega)), hh]; exact q4, ?_⟩, ⟨m424, by rw [w4a]; exact v94, fun i hi => by rw [m4J _ (pq_inj (by omega)), w4J 93 (by omega)]; exact q8 i (by omega)⟩, ⟨m426, by rw [w4a]; exact v92, fun i hi => ?_⟩, by rw [mF 7 (by omega) (by omega) (by omega)]; exact q12, by rw [nA 108 _ (by omega)]; exact q13, fun i hi => by rw [m4J _ (pq_inj (by omega)), w4J 107 (by omega)]; exact q14 i hi⟩
    · rw [m4q 5 (by omega) (by omega) (by omega), w42, w3R 90 (by omega) (by omega) (by omega) (by omega) (by omega) (by omega) (by omega) (by omega) (by omega)]; exact q5
    · rw [m435, w42, w391]
      by_cases c : P0 ≤ i
      · rw [if_pos (by omega), if_pos (by omega), show 46000 * p + i + (src - P0) = 46000 * p + (src + (i - P0)) by omega]
        exact q11 _ (by omega)
      · rw [if_neg (by omega), if_neg (by omega)]
        exact q11 i (by omega)
  have gm : GGm p (cbM m) m4 := by
    rw [← hm4]
    exact GGm.tr (GGm.tr GGm_cn GGm_rpS) (GGm_reg (by omega))
  have gw : GGw p (cbW w) w4 := by
    have ow : ∀ r K i, K ≠ 92 → K ≠ 94 → K ≠ 114 → (96 ≤ K → K ≤ 101 → r ≠ p → 60 * r ≤ i ∧ i < 60 * r + 60) → r ≠ p → w4.2.2.1 K i = w.2.2.1 K i := fun r K i h1 h2 h4 h5 h6 => by
      rw [w42]
      by_cases c : 96 ≤ K ∧ K ≤ 101
      · have := h5 c.1 c.2 h6
        exact w3A K i c.1 c.2 (by omega)
      · rw [w3R K h1 h2 (by omega) (by omega) (by omega) (by omega) (by omega) (by omega) h4]
    have o1 : ∀ K i, (K = 92 ∨ K = 94 ∨ K = 114) → i ≠ p → w4.2.2.1 K i = w.2.2.1 K i := fun K i h1 h2 => by
      rw [w42, ← hw3]
      unfold frmW
      rw [wa_at (by omega), wa_at (by omega), wa_at (by omega), wa_at (by omega), wa_at (by omega), wa_at (by omega), wa_at (by omega), uR, ← hw1, wa_at (by omega), wa_at (by omega)]
      rfl
    have wi1 : ∀ l, l ≤ 132 ∨ l = 150 ∨ l = 164 ∨ l = 165 → w4.1 l = (cbW w).1 l := fun l hl => by
      rw [w41 l (by omega) (by omega) (by omega) (by omega), w3i, ← hw1]
      show (wi (wi (wi w 166 0) 165 (F w 165 + 1)) 119 (F w 119 + 1)).1 l = _
      unfold cbW
      by_cases c : l = 119
      · subst c
        rw [wi_s1, wi_1 (by omega), wi_s1]
      · by_cases c5 : l = 165
        · subst c5
          rw [wi_1 c, wi_s1, wi_s1]
        · rw [wi_1 c, wi_1 c5, wi_1 (by omega), wi_1 c5, wi_1 c]
    have wrr : ∀ K, K ≠ 92 → K ≠ 94 → K ≠ 96 → K ≠ 97 → K ≠ 98 → K ≠ 99 → K ≠ 100 → K ≠ 101 → K ≠ 114 → w4.2.2.1 K = w.2.2.1 K := fun K h1 h2 h3 h4 h5 h6 h7 h8 h9 => by rw [w42]; exact w3R K h1 h2 h3 h4 h5 h6 h7 h8 h9
    refine ⟨fun d hd => ⟨fun K i h => ?_, fun K h => ?_, fun i _ _ => ?_, by rw [w4J 111 (by omega)]; rfl, fun i _ _ => by rw [w4J 88 (by omega)]; rfl, fun i h1 h2 => ?_, fun i _ _ => by rw [w4J 93 (by omega)]; rfl, fun i _ _ => by rw [w4J 107 (by omega)]; rfl⟩, ⟨fun K h => pr4 K h, w4J 34 (by omega), wrr 12 (by omega) (by omega) (by omega) (by omega) (by omega) (by omega) (by omega) (by omega) (by omega), wrr 13 (by omega) (by omega) (by omega) (by omega) (by omega) (by omega) (by omega) (by omega) (by omega), wi1 14 (by omega)⟩, wi1 150 (by omega), fun K h => wrr K (by omega) (by omega) (by omega) (by omega) (by omega) (by omega) (by omega) (by omega) (by omega), w4J 148 (by omega), fun K h => wrr K (by omega) (by omega) (by omega) (by omega) (by omega) (by omega) (by omega) (by omega) (by omega), fun l h => wi1 l (by omega)⟩
    · show w4.2.2.1 K i = w.2.2.1 K i
      by_cases c : K = 92 ∨ K = 94 ∨ K = 114
      · refine o1 K i c ?_
        unfold OWi at h
        omega
      · refine ow d K i (by omega) (by omega) (by omega) (fun h1 h2 _ => ?_) hd
        unfold OWi at h
        omega
    · exact ow d K d (by omega) (by omega) (by omega) (fun h1 h2 _ => by omega) hd
    · exact ow d 131 i (by omega) (by omega) (by omega) (fun h1 h2 _ => by omega) hd
    · show w4.2.2.2 91 i = w.2.2.2 91 i
      rw [w42, w391, if_neg (fun c => hd (by omega))]
  have sc4 : SCs p m w → SCs p m4 w4 := fun s => by
    obtain ⟨s1, s2, s3, s4, s5, s6⟩ := s
    have rr : ∀ K, 112 ≤ K → K ≤ 117 → K ≠ 114 → w4.2.2.1 K = w.2.2.1 K := fun K h1 h2 h3 => by
      rw [w42]
      exact w3R K (by omega) (by omega) (by omega) (by omega) (by omega) (by omega) (by omega) (by omega) h3
    refine ⟨by rw [m4q 12 (by omega) (by omega) (by omega), rr 113 (by omega) (by omega) (by omega)]; exact s1, ?_, by rw [m4q 11 (by omega) (by omega) (by omega), rr 112 (by omega) (by omega) (by omega)]; exact s3, by rw [m4q 15 (by omega) (by omega) (by omega), rr 117 (by omega) (by omega) (by omega)]; exact s4, by rw [m4q 29 (by omega) (by omega) (by omega), rr 115 (by omega) (by omega) (by omega)]; exact s5, fun i hi => ?_⟩
    · rw [m413, w42, v114]
      congr 1
      show (m.1 (pq p 13)).toInt + 1 = (w.2.2.1 114 p).toInt + 1
      rw [s2]
    · rw [m4A _ (pq_inj (by omega)), rr 116 (by omega) (by omega) (by omega)]
      refine s6 i ?_
      rw [show F m (pq p 15) = F m4 (pq p 15) from (congrArg Int32.toInt (m4q 15 (by omega) (by omega) (by omega))).symm]
      exact hi
  refine k m4 w4 e ((c : Nat) : Int) ⟨⟨⟨fa4, ct4⟩, ⟨(congrArg Int32.toInt (m4q 9 (by omega) (by omega) (by omega))).trans r5, ?_⟩, Or.inl ⟨rfl, (m4f 1112 (by omega) (by omega) (by omega) (by omega)).trans h12, (w4f 152 (by omega) (by omega) (by omega) (by omega) (by omega) (by omega) (by omega)).trans h152⟩, ⟨(m4f 1108 (by omega) (by omega) (by omega) (by omega)).trans r8, (m4f 1109 (by omega) (by omega) (by omega) (by omega)).trans r9, (w4f 151 (by omega) (by omega) (by omega) (by omega) (by omega) (by omega) (by omega)).trans r10⟩, (w4f 133 (by omega) (by omega) (by omega) (by omega) (by omega) (by omega) (by omega)).trans r11, ?_, ?_⟩, ?_, ⟨?_, ?_, ?_⟩, fun c => ?_, ⟨?_, ?_⟩, g1, g2, ?_⟩ (PLs_94 pl4 (by omega)) gm gw sc4 ⟨w4J 88 (by omega), by rw [w41 140 (by omega) (by omega) (by omega) (by omega), w3i]; exact i1 140 (by omega) (by omega) (by omega)⟩
  · show (w4.2.2.1 109 p).toInt = 0
    rw [w42, w3R 109 (by omega) (by omega) (by omega) (by omega) (by omega) (by omega) (by omega) (by omega) (by omega)]
    exact r6
  · rw [m406, w41 165 (by omega) (by omega) (by omega) (by omega), w3i, i165]
    congr 1
    show (m.1 1106).toInt + 1 = (w.1 165).toInt + 1
    rw [r12]
  · rw [m4g 1107 (by omega) (by omega) (by omega) (by omega), w4i 164 (by omega) (by omega) (by omega) (by omega) (by omega) (by omega) (by omega)]
    exact r13
  · rw [← hm4, wi_sm (by omega) (by omega)]
  · rw [← hw4, wi_ne (by omega), wi_ne (by omega), wi_ne (by omega), wi_sm (by omega) (by omega)]
    rfl
  · rw [← hw4, wi_ne (by omega), wi_sm (by omega) (by omega)]
  · rw [upf_s, upf_s, ← hw4, wi_sm (by omega) (by omega)]
    simp
  · omega
  · rw [upf_s]; exact List.nodup_nil
  · rw [upf_s]; exact List.nodup_nil
  · rw [upf_s, upf_s, h23, ROs_eq pr4, w4J 34 (by omega)]
    exact ft3
end
end
section
set_option maxRecDepth 100000
section
variable {α β : Type} {b : Int → Nat → Nat → Prop} {N p PR U B W Y j a n ar f t ee ee' : Nat} {m w : MS} {nb : Nat → Nat} {Hs Os : Nat → List Nat} {lne wd tl : Int} {Q : MS → α → MS → β → Prop} {K1 : MS → Option (MS × α)} {K2 : MS → Option (MS × β)} {D : Option (MS × α)} {K : MS → Unit → Option (MS × β)} {Fv Fv' : Int64 → Int64 → Prop} {P P' : Int64 → Prop} {t1 fv v5 : Int32}
theorem callS_m {fw : Int32} (hge : F m 1107 ≤ F m 1106) (hpc : F m 1105 = ((a : Nat) : Int)) (ha : a + 3 < 24000) (c3 : A m 23 (a + 3) = lne) : hm_Ma_call N m p fw t1 = some (wi (wi m 1108 1) (pq p 29) lne, ()) := by
  unfold hm_Ma_call hb_Ma_call_0 hb_Ma_call_70
  rw [I_F' hpc, show I ((a : Nat) : Int) + 3 = I ((a + 3 : Nat) : Int) from addN, Co_e (k := a + 3) rfl ha, bnd_so, c3]
  have r6 := F_r m 1106
  have r7 := F_r m 1107
  have c0 : decide (m.1 1106 < m.1 1107) = false := decide_eq_false (by
    rw [I_F (k := 1106), I_F (k := 1107), I_lt r6.1 r6.2 r7.1 r7.2]
    omega)
  have e : hm_Ma_begins N m p t1 (I lne) = some (wi (wi m 1108 1) (pq p 29) lne, 0) := by
    unfold hm_Ma_begins hb_Ma_begins_0
    rw [c0, br_fq]
    rfl
  rw [e, bnd_so, show decide ((0 : Int32) = 0) = true from rfl, br_tq]
theorem callS_r (hpp : p < 24) (hn : n < 100000) (heq : w.1 165 = w.1 164) (h133 : F w 133 = ((p : Nat) : Int)) (h24 : A w 24 n = ((t : Nat) : Int)) (ht : t < 100000) (h8 : A w 8 t = lne) (h : PP Q D (K (wa (wi w 151 1) 115 p lne) ())) : PP Q D (bnd (fb_M_callRun_213 N () w (I ((n : Nat) : Int)) (I ((ar : Nat) : Int)) fv v5) K) := by
  unfold fb_M_callRun_213
  rw [decide_eq_true heq, br_tq, show upI w 151 1 = wi w 151 1 from rfl, lt_e]
  refine rb_ck (fun _ => rb_ck (fun _ => rb_ck (fun _ => ?_)))
  have e33 : F (wi w 151 1) 133 = ((p : Nat) : Int) := by rw [wi_ne (by omega)]; exact h133
  have e24 : A (wi w 151 1) 24 n = ((t : Nat) : Int) := h24
  have e8 : A (wi w 151 1) 8 t = lne := h8
  rw [I_F' e33, tnI (n := p) rfl (by omega), tnI (n := n) rfl (by omega), I_A' e24, tnI (n := t) rfl (by omega), I_A' e8, wa_e, lt_e]
  exact h
theorem op_callS (hpp : p < 24) (ru : RUs m w p j nb Hs Os none a n) (hge : F m 1107 ≤ F m 1106) (heq : m.1 1106 = m.1 1107) (ha : a + 3 < 24000) (hwd : wd = 25 ∨ wd = 26) (h26 : A w 26 n = ((ar : Nat) : Int)) (h27 : A w 27 n = ((f : Nat) : Int)) (hf : f < 2000) (h24 : A w 24 n = ((t : Nat) : Int)) (ht : t < 100000) (c3 : A m 23 (a + 3) = A w 8 t) (k : PP Q (K1 (wi (wi m 1108 1) (pq p 29) (A w 8 t))) (K2 (wa (wi (wi w 166 0) 151 1) 115 p (A w 8 t)))) : PP Q (bnd (hm_Ma_flow N m p (I wd)) (fun u _ => K1 u)) (bnd (fm_M_one N w (I ((n : Nat) : Int)) (I 12)) (fun u _ => K2 u)) := by
  obtain ⟨-, ⟨r2, r3⟩, ⟨f0, cr0⟩, -, -, -, r11, r12, r13⟩ := id ru
  have cb := CR_b cr0
  have el : bnd (hm_Ma_flow N m p (I wd)) (fun u _ => K1 u) = K1 (wi (wi m 1108 1) (pq p 29) (A w 8 t)) := by
    rcases hwd with rfl | rfl
    · rw [flo25, I_F' r2, show I ((a : Nat) : Int) + 1 = I ((a + 1 : Nat) : Int) from addN, Co_e (k := a + 1) rfl (by omega), bnd_so, callS_m hge r2 ha c3, bnd_so, bnd_so]
    · rw [flo26, I_F' r2, show I ((a : Nat) : Int) + 1 = I ((a + 1 : Nat) : Int) from addN, Co_e (k := a + 1) rfl (by omega), bnd_so, callS_m hge r2 ha c3, bnd_so, bnd_so]
  rw [el, one_12]
  refine r_bb ?_
  refine call_12 (by omega) h26 h27 hf ?_
  refine callS_r (t := t) (lne := A w 8 t) hpp (by omega) ?_ (by rw [wi_ne (by omega)]; exact r11) h24 ht rfl k
  rw [wi_1 (by omega), wi_1 (by omega), ← r12, ← r13]
  exact heq
theorem op_callE (hpp : p < 24) (hpr : p < PR) (pl : PLs b p m w U B W Y) (ru : RUs m w p 59 nb Hs Os none a n) (hlt : F m 1106 < F m 1107) (ha : a + 3 < 24000) (h26 : A w 26 n = ((ar : Nat) : Int)) (h27 : A w 27 n = ((f : Nat) : Int)) (hf : f < 2000) (h30 : A w 30 n = 0) (hee : F m 955 = ((ee : Nat) : Int) ∧ ee < 24) (hee' : F w 150 = ((ee' : Nat) : Int) ∧ ee' < 4000) (p21 : P (mk 1 21)) (p21' : P' (mk 1 21))
    (ke : ∀ w3, GGw p w w3 → (SCs p m w → SCs p m w3) → m.1 (pq p 5) = w3.2.2.1 90 p → RQs Fv P Fv' P' PR (enS m p (mk 1 21) p ee) (enR w3 p 0 ((p : Nat) : Int) (mk 1 21) ee') p 0 p (mk 1 21) → PP Q (K1 (enS m p (mk 1 21) p ee)) (K2 (wi (enR w3 p 0 ((p : Nat) : Int) (mk 1 21) ee') 151 1))) : PP Q (bnd (hm_Ma_flow N m p (I 25)) (fun u _ => K1 u)) (bnd (fm_M_one N w (I ((n : Nat) : Int)) (I 12)) (fun u _ => K2 u)) := by
  obtain ⟨⟨fa, ct⟩, ⟨r2, r3⟩, ⟨f0, cr0⟩, ⟨r5, r6⟩, -, -, r11, r12, r13⟩ := id ru
  have cb := CR_b cr0
  have r06 := F_r m 1106
  have r07 := F_r m 1107
  have c0 : decide (m.1 1106 < m.1 1107) = true := decide_eq_true (by
    rw [I_F (k := 1106), I_F (k := 1107), I_lt r06.1 r06.2 r07.1 r07.2]
    exact hlt)
  have be : ∀ z : Int32, hm_Ma_begins N m p 0 z = some (enS m p (mk 1 21) p ee, 0) := fun z => by
    unfold hm_Ma_begins hb_Ma_begins_0
    rw [c0, br_tq, show decide ((0 : Int32) = 0) = true from rfl, br_tq, I_F' fa.1.1, show decide (I ((59 + 1 : Nat) : Int) < 60) = false from rfl, br_fq, show (21 : Int32) = I 21 from rfl, endsBy_e (by rw [r5]; omega) hee, bnd_so]
    rfl
  have hne : (wi w 166 0).1 165 ≠ (wi w 166 0).1 164 := by
    rw [wi_1 (by omega), wi_1 (by omega), ← r12, ← r13]
    intro c
    have := congrArg Int32.toInt c
    have h1 : F m 1106 = (m.1 1106).toInt := rfl
    have h2 : F m 1107 = (m.1 1107).toInt := rfl
    omega
  rw [flo25, I_F' r2, show I ((a : Nat) : Int) + 1 = I ((a + 1 : Nat) : Int) from addN, Co_e (k := a + 1) rfl (by omega), bnd_so]
  unfold hm_Ma_call hb_Ma_call_0 hb_Ma_call_70
  rw [I_F' r2, show I ((a : Nat) : Int) + 3 = I ((a + 3 : Nat) : Int) from addN, Co_e (k := a + 3) rfl ha, bnd_so, be, bnd_so, show decide ((0 : Int32) = 0) = true from rfl, br_tq, bnd_so, bnd_so, one_12]
  refine r_bb ?_
  refine call_12 (by omega) h26 h27 hf ?_
  unfold fb_M_callRun_213
  rw [decide_eq_false hne, br_fq]
  have e30 : A (wi w 166 0) 30 n = 0 := h30
  have e33 : F (wi w 166 0) 133 = ((p : Nat) : Int) := by rw [wi_ne (by omega)]; exact r11
  have e95 : A (wi w 166 0) 95 p = ((59 + 1 : Nat) : Int) := fa.1.2.1
  have e109 : A (wi w 166 0) 109 p ≠ 3 := by
    show A w 109 p ≠ 3
    rw [r6]; omega
  have e150 : F (wi w 166 0) 150 = ((ee' : Nat) : Int) := by rw [wi_ne (by omega)]; exact hee'.1
  refine rb_ck (fun _ => ?_)
  rw [tnI (n := n) rfl (by omega), I_A' e30, show decide (I 0 = 0) = true from rfl, br_tq]
  refine rb_ck (fun _ => ?_)
  rw [I_F' e33, tnI (n := p) rfl (by omega), I_A' e95, show decide (I ((59 + 1 : Nat) : Int) = 60) = true from rfl, br_tq, show (1 : Int32) = I 1 from rfl, show (21 : Int32) = I 21 from rfl, term_e, rb_bnd_so, lit0q, ends_e hpp e33 e109 e150 hee'.2, rb_bnd_so, bnd_so]
  exact ke (wi w 166 0) (GGw_reg (by omega) (by omega)) id pl.1.2.2 (RQ_lit hpr hpp (nh_mk (by omega)) (fun c => by rw [so_mk (by omega) (by omega)] at c; omega) p21 p21')
end
end
section
set_option maxRecDepth 100000
section
variable {Sf : MS → Int32 → Prop} {α β : Type} {N p j n t nbj hl ol : Nat} {m w : MS} {v : Int} {Q : MS → α → MS → β → Prop} {D : Option (MS × α)} {K : MS → Unit → Option (MS × β)}
theorem one_27 : fm_M_one N w (I v) (I 27) = ck (inb (w.1 133) (ln 110)) (lt (upA w 110 (upd (w.2.2.1 110) (w.1 133).toNatClampNeg 0)) (fun w30 => ck (inb (I v) (ln 31)) (br (decide ((w30.2.2.1 31 (I v).toNatClampNeg) = (-1))) (ck (inb (w30.1 133) (ln 111)) (lt (upJ w30 111 (vp_updL (w30.2.2.2 111) (w30.1 133).toNatClampNeg (-1))) (fun w31 => bnd (fm_M_goOnWith N w31 (I v)) (fun u5 _ => some (u5, ()))))) (bnd (fm_M_goOnWith N w30 (I v)) (fun u5 _ => some (u5, ())))))) := rfl
theorem goW_r (hpp : p < 24) (h133 : F w 133 = ((p : Nat) : Int)) (h95 : A w 95 p = ((j + 1 : Nat) : Int)) (hj : j < 60) (hn : n < 100000) (h110 : A w 110 p = ((t : Nat) : Int)) (h99 : A w 99 (60 * p + j) = ((nbj : Nat) : Int)) (h101 : A w 101 (60 * p + j) = ((hl : Nat) : Int)) (h27 : A w 27 n = ((ol : Nat) : Int)) (h : PP Q D (bnd (gwB N (wi (wi (wi (wi (wi w 159 ((n : Nat) : Int)) 158 ((t : Nat) : Int)) 153 3) 155 (A w 25 n)) 156 ((nbj + hl + ol : Nat) : Int))) K)) : PP Q D (bnd (fm_M_goOnWith N w (I ((n : Nat) : Int))) K) := by
  unfold fm_M_goOnWith fb_M_goOnWith_0
  have ix : (I ((p : Nat) : Int) * 60 + I ((j + 1 : Nat) : Int) - 1).toNatClampNeg = 60 * p + j := by
    rw [show (60 : Int32) = I 60 from rfl, lit1q, I_mul, I_add, I_sub]
    exact tnI (n := 60 * p + j) (by omega) (by omega)
  unfold fm_M_frame0 fb_M_frame0_0
  rw [I_F' h133, tnI (n := p) rfl (by omega), I_A' h95]
  refine rb_bnd (pk_ck (fun _ => pk_some ?_))
  rw [wi_e, lt_e]
  have e1 : F (wi w 159 ((n : Nat) : Int)) 133 = ((p : Nat) : Int) := by rw [wi_ne (by omega)]; exact h133
  have e2 : A (wi w 159 ((n : Nat) : Int)) 110 p = ((t : Nat) : Int) := h110
  refine rb_ck (fun _ => ?_)
  rw [I_F' e1, tnI (n := p) rfl (by omega), I_A' e2, wi_e, lt_e, show (3 : Int32) = I 3 from rfl, wi_e, lt_e]
  refine rb_ck (fun _ => ?_)
  rw [tnI (n := n) rfl (by omega), I_A (k := 25), wi_e, lt_e]
  refine rb_ck (fun _ => rb_ck (fun _ => rb_ck (fun _ => ?_)))
  have e3 : A (wi (wi (wi (wi w 159 ((n : Nat) : Int)) 158 ((t : Nat) : Int)) 153 3) 155 (A (wi (wi (wi w 159 ((n : Nat) : Int)) 158 ((t : Nat) : Int)) 153 3) 25 n)) 99 (60 * p + j) = ((nbj : Nat) : Int) := h99
  have e4 : A (wi (wi (wi (wi w 159 ((n : Nat) : Int)) 158 ((t : Nat) : Int)) 153 3) 155 (A (wi (wi (wi w 159 ((n : Nat) : Int)) 158 ((t : Nat) : Int)) 153 3) 25 n)) 101 (60 * p + j) = ((hl : Nat) : Int) := h101
  have e5 : A (wi (wi (wi (wi w 159 ((n : Nat) : Int)) 158 ((t : Nat) : Int)) 153 3) 155 (A (wi (wi (wi w 159 ((n : Nat) : Int)) 158 ((t : Nat) : Int)) 153 3) 25 n)) 27 n = ((ol : Nat) : Int) := h27
  rw [ix, I_A' e3, I_A' e4, I_A' e5, addN, addN, wi_e, lt_e]
  exact h
end
section
variable {Sf : MS → Int32 → Prop} {β : Type} {b : Int → Nat → Nat → Prop} {N p U B W Y j a n t sc M1 vk : Nat} {m w : MS} {nb : Nat → Nat} {Hs Os : Nat → List Nat} {Q : MS → Int32 → MS → β → Prop} {K2 : MS → Option (MS × β)}
theorem await0_m (hpc : F m 1105 = ((a : Nat) : Int)) (ha : a + 1 < 24000) (c1 : A m 23 (a + 1) = 0) : hm_Ma_flow N m p (I 31) = some (wi (wl (wi m (pq p 8) 0) (pq p 10) (-1)) 1105 ((a + 2 : Nat) : Int), ()) := by
  rw [flo31, I_F' hpc, show I ((a : Nat) : Int) + 1 = I ((a + 1 : Nat) : Int) from addN, Co_e (k := a + 1) rfl ha, bnd_so, c1, show decide (I 0 = 1) = false from rfl, br_fq]
  unfold hm_Ma_await hb_Ma_await_0 hb_Ma_await_104
  have e5 : F (wl (wi m (pq p 8) 0) (pq p 10) (-1)) 1105 = ((a : Nat) : Int) := by
    show F (wi m (pq p 8) 0) 1105 = _
    rw [wi_ne (pq_n (by omega))]
    exact hpc
  rw [show upI m (pq p 8) 0 = wi m (pq p 8) 0 from rfl, lt_e, show upL (wi m (pq p 8) 0) (pq p 10) (-1) = wl (wi m (pq p 8) 0) (pq p 10) (-1) from rfl, lt_e, show decide ((0 : Int32) = 0) = true from rfl, br_tq, I_F' e5, show I ((a : Nat) : Int) + 2 = I ((a + 2 : Nat) : Int) from addN, wi_e, lt_e, bnd_so, bnd_so]
theorem NX_of (fc : FAs m w p j nb Hs Os ∧ CTs m w p j nb Hs Os) (h9 : F m (pq p 9) = 0) (h109 : A w 109 p = 0) (h12 : F m 1112 = 0) (h152 : F w 152 = 0) (r8 : F m 1108 = 0) (r9 : F m 1109 = 0) (r10 : F w 151 = 0) (r11 : F w 133 = ((p : Nat) : Int)) (r12 : m.1 1106 = w.1 165) (r13 : m.1 1107 = w.1 164) (hpc : F m 1105 = ((sc : Nat) : Int)) (h8 : F m (pq p 8) = ((t : Nat) : Int)) (ht : t < 100000) (hn : n < 100000) (hb : nb j + (Hs j).length + (Os j).length < 100000) (dl : DLs (m.2.1 (pq p 10)) (w.2.2.2 111 p)) (h23 : A w 23 n = 27) (h27 : A w 27 n = (((Os j).length : Nat) : Int)) (nd : (Os j).Nodup ∧ (Hs j).Nodup) (rc : ∃ g, RCs (A m 23) (ROs w) (w.2.2.2 34) (CRs (A m 23) (ROs w) (w.2.2.2 34) g) g sc n (Hs j) (Os j)) : NXs m (wi (wi (wi (wi (wi w 159 ((n : Nat) : Int)) 158 ((t : Nat) : Int)) 153 3) 155 (A w 25 n)) 156 ((nb j + (Hs j).length + (Os j).length : Nat) : Int)) p j nb Hs Os sc := by
  have c25 := A_r w 25 n
  have lo : ∀ l, l ≠ 159 → l ≠ 158 → l ≠ 153 → l ≠ 155 → l ≠ 156 → (wi (wi (wi (wi (wi w 159 ((n : Nat) : Int)) 158 ((t : Nat) : Int)) 153 3) 155 (A w 25 n)) 156 ((nb j + (Hs j).length + (Os j).length : Nat) : Int)).1 l = w.1 l := fun l h1 h2 h3 h4 h5 => by rw [wi_1 h5, wi_1 h4, wi_1 h3, wi_1 h2, wi_1 h1]
  have lF : ∀ l, l ≠ 159 → l ≠ 158 → l ≠ 153 → l ≠ 155 → l ≠ 156 → F (wi (wi (wi (wi (wi w 159 ((n : Nat) : Int)) 158 ((t : Nat) : Int)) 153 3) 155 (A w 25 n)) 156 ((nb j + (Hs j).length + (Os j).length : Nat) : Int)) l = F w l := fun l h1 h2 h3 h4 h5 => congrArg Int32.toInt (lo l h1 h2 h3 h4 h5)
  refine ⟨⟨fc, ⟨h9, h109⟩, Or.inl ⟨rfl, h12, (lF 152 (by omega) (by omega) (by omega) (by omega) (by omega)).trans h152⟩, ⟨r8, r9, (lF 151 (by omega) (by omega) (by omega) (by omega) (by omega)).trans r10⟩, (lF 133 (by omega) (by omega) (by omega) (by omega) (by omega)).trans r11, by rw [lo 165 (by omega) (by omega) (by omega) (by omega) (by omega)]; exact r12, by rw [lo 164 (by omega) (by omega) (by omega) (by omega) (by omega)]; exact r13⟩, hpc, ⟨?_, wi_sm (by omega) (by omega)⟩, fun _ => ⟨⟨?_, dl⟩, n, ?_, ?_, h23, h27, rc⟩, nd⟩
  · rw [wi_ne (by omega), wi_ne (by omega), wi_sm (by omega) (by omega)]
  · rw [wi_ne (by omega), wi_ne (by omega), wi_ne (by omega), wi_sm (by omega) (by omega), h8]
  · rw [wi_ne (by omega), wi_ne (by omega), wi_ne (by omega), wi_ne (by omega), wi_sm (by omega) (by omega)]
  · rw [wi_ne (by omega), wi_sm c25.1 c25.2]
    rfl
theorem op_rcv (hpp : p < 24) (pl : PLs b p m w U B W Y) (ru : RUs m w p j nb Hs Os none a n) (hB2 : B < 100000) (hY : Y ≤ 30) (hvk : vk + 200 < 1000000000) (h956 : F m 955 ≤ F m 956) (hcl : m.1 944 = w.1 120) (c31 : A m 23 a = 31) (c32 : A m 23 (a + 1) = 0) (h31 : A w 31 n = -1) (h23 : A w 23 n = 27) (h27 : A w 27 n = (((Os j).length : Nat) : Int)) (rc : ∃ g, RCs (A m 23) (ROs w) (w.2.2.2 34) (CRs (A m 23) (ROs w) (w.2.2.2 34) g) g (a + 2) n (Hs j) (Os j))
    (kW : ∀ M' vk' m3 w3, M' ≤ M1 → vk' ≤ vk + 61 → WTn m3 w3 p j nb Hs Os (a + 2) → PLs b p m3 w3 U B W Y → GGm p m m3 → GGw p w w3 → (SCs p m w → SCs p m3 w3) → PP Q (q195 Sf N (qgo Sf N M') m3 p (I ((vk' : Nat) : Int))) (K2 w3))
    (kR : ∀ M' vk' m3 w3 l q, M' ≤ M1 → vk' ≤ vk + 61 → RUs m3 w3 p j nb Hs Os none l q → PLs b p m3 w3 U B W Y → GGm p m m3 → GGw p w w3 → (SCs p m w → SCs p m3 w3) → PP Q (q195 Sf N (qgo Sf N M') m3 p (I ((vk' : Nat) : Int))) (K2 w3))
    (kT : ∀ M' vk' m3 w3 k, M' ≤ M1 → vk' ≤ vk + 1 → 0 < Y → TRs m3 w3 p j nb Hs Os 3 (a + 2) (a + 2 + 2) k → PLs b p m3 (wa w3 94 p ((B : Nat) : Int)) U B W Y → F m3 (pq p 8) = ((0 : Nat) : Int) → GGm p m m3 → GGw p w w3 → (SCs p m w → SCs p m3 w3) → (w3.2.2.2 88 = w.2.2.2 88 ∧ w3.1 140 = w.1 140) → PP Q (q195 Sf N (qgo Sf N M') m3 p (I ((vk' : Nat) : Int))) (bnd (gg_M_choose N (rc_M_error N 19) N w3 1) (fun u _ => K2 u))) : PP Q (bnd (hm_Ma_flow N m p (I 31)) (fun u _ => q195 Sf N (qgo Sf N M1) u p (I ((vk : Nat) : Int)))) (bnd (fm_M_one N w (I ((n : Nat) : Int)) (I 27)) (fun u _ => K2 u)) := by
  obtain ⟨⟨fa, ct⟩, ⟨r2, r3⟩, ⟨f0, cr0⟩, ⟨r5, r6⟩, r7, ⟨r8, r9, r10⟩, r11, r12, r13⟩ := id ru
  obtain ⟨h12, h152⟩ : F m 1112 = 0 ∧ F w 152 = 0 := by
    rcases r7 with ⟨_, c3, c4⟩ | ⟨_, _, _, c, _⟩
    · exact ⟨c3, c4⟩
    · cases c
  have cb := CR_b cr0
  have hj : j < 60 := fa.1.2.2
  obtain ⟨-, -, ⟨-, g4⟩, -, g6, -⟩ := fa.2.1 j (Nat.le_refl _)
  have hB : B = nb j + (Hs j).length + (Os j).length := by
    have h1 := pl.2.1.1
    rw [fa.2.2.2, List.length_append] at h1
    omega
  rw [await0_m r2 cb.1 c32, bnd_so]
  generalize hm1 : wi (wl (wi m (pq p 8) 0) (pq p 10) (-1)) 1105 ((a + 2 : Nat) : Int) = m1
  have mq : ∀ l, l ≠ 8 → m1.1 (pq p l) = m.1 (pq p l) := fun l h => by
    rw [← hm1, wi_1 (fun c => pq_n (by omega) c.symm)]
    show (wi m (pq p 8) 0).1 (pq p l) = _
    rw [wi_1 (pq_inj h)]
  have mg : ∀ l, l < 2000 → l ≠ 1105 → m1.1 l = m.1 l := fun l h0 h => by
    rw [← hm1, wi_1 h]
    show (wi m (pq p 8) 0).1 l = _
    rw [wi_1 (pq_n h0)]
  have mF : ∀ l, l < 2000 → l ≠ 1105 → F m1 l = F m l := fun l h0 h => congrArg Int32.toInt (mg l h0 h)
  have mr : m1.2.2 = m.2.2 := by rw [← hm1]; rfl
  have m8 : F m1 (pq p 8) = ((0 : Nat) : Int) := by
    rw [← hm1, wi_ne (fun c => pq_n (by omega) c.symm)]
    show F (wi m (pq p 8) 0) (pq p 8) = _
    rw [wi_sm (by omega) (by omega)]; rfl
  have mL : m1.2.1 (pq p 10) = -1 := by rw [← hm1]; exact if_pos rfl
  have mpc : F m1 1105 = ((a + 2 : Nat) : Int) := by rw [← hm1, wi_sm (by omega) (by omega)]
  have gm : GGm p m m1 := by
    rw [← hm1]
    exact GGm.tr (GGm.tr (GGm_own (by omega)) (GGm_l (by omega))) (GGm_reg (by omega))
  have h23c : A m1 23 = A m 23 := by funext i; show (m1.2.2.1 23 i).toInt = _; rw [mr]; rfl
  refine go195 ((mF 1109 (by omega) (by omega)).trans r9) (by rw [mF 955 (by omega) (by omega), mF 956 (by omega) (by omega)]; exact h956) (fun hsf => ?_)
  cases M1 with
  | zero => exact pp_nl
  | succ M1 =>
  show PP Q (q67 Sf N (qgo Sf N M1) m1 p (I ((vk + 1 : Nat) : Int))) _
  rw [one_27]
  refine rb_ck (fun _ => ?_)
  rw [I_F' r11, tnI (n := p) rfl (by omega), lit0q, wa_e, lt_e]
  refine rb_ck (fun _ => ?_)
  have e31 : A (wa w 110 p 0) 31 n = -1 := by rw [wa_rne (by omega)]; exact h31
  have e33 : F (wa w 110 p 0) 133 = ((p : Nat) : Int) := r11
  rw [tnI (n := n) rfl (by omega), I_A' e31, show decide (I (-1) = -1) = true from rfl, br_tq]
  refine rb_ck (fun _ => ?_)
  rw [I_F' e33, tnI (n := p) rfl (by omega), wj_e, lt_e]
  refine r_bb ?_
  generalize hw1 : wj (wa w 110 p 0) 111 p (-1) = w1
  have wR : ∀ K, K ≠ 110 → w1.2.2.1 K = w.2.2.1 K := fun K h => by
    rw [← hw1]
    show (wa w 110 p 0).2.2.1 K = _
    exact wa_21 h
  have wA : ∀ K i, K ≠ 110 → A w1 K i = A w K i := fun K i h => by show (w1.2.2.1 K i).toInt = _; rw [wR K h]; rfl
  have w1i : w1.1 = w.1 := by rw [← hw1]; rfl
  have w1F : ∀ l, F w1 l = F w l := fun l => by show (w1.1 l).toInt = _; rw [w1i]; rfl
  have wJ : ∀ K, K ≠ 111 → w1.2.2.2 K = w.2.2.2 K := fun K h => by rw [← hw1, wj_22 h]; rfl
  have w111 : w1.2.2.2 111 p = -1 := by rw [← hw1, wj_row, if_pos rfl]
  have w111' : ∀ i, i ≠ p → w1.2.2.2 111 i = w.2.2.2 111 i := fun i h => by rw [← hw1, wj_row, if_neg h]; rfl
  have w110 : A w1 110 p = ((0 : Nat) : Int) := by
    rw [← hw1]
    show A (wa w 110 p 0) 110 p = _
    rw [wa_sm (by omega) (by omega)]; rfl
  have pr : ∀ K, PRr K → w1.2.2.1 K = w.2.2.1 K := fun K h => wR K (by unfold PRr at h; omega)
  have fc1 : FAs m1 w1 p j nb Hs Os ∧ CTs m1 w1 p j nb Hs Os := FC_w ⟨fa, ct⟩ (fun l h => mq l (by omega)) (fun l _ => by rw [mr]) (by rw [mr]) (fun K h => by rw [wR K (by omega)]) (fun K r h1 h2 h3 h4 => by rw [wR K (by omega)]) (fun K c h1 h2 _ => by rw [wR K (by omega)]) pr (wJ 34 (by omega))
  have pl1 : PLs b p m1 w1 U B W Y := PLs_cg pl (fun l hl => mq l (by simp at hl; omega)) (fun i _ => by rw [mr]) (fun i _ => by rw [mr]) (fun i _ => by rw [mr]) (fun i _ => by rw [mr]) (fun K hK => by rw [wR K (by simp at hK; omega)]) (fun i _ => by rw [wJ 88 (by omega)]) (fun i _ => by rw [wJ 93 (by omega)]) (fun i _ => by rw [wJ 91 (by omega)]) (fun i _ => by rw [wJ 107 (by omega)])
  have gw1 : GGw p w w1 := by
    refine GGw.tr (w2 := wa w 110 p 0) (GGw_own (Or.inl ⟨by omega, rfl⟩)) ?_
    rw [← hw1]
    exact ⟨fun d hd => ⟨fun _ _ _ => rfl, fun _ _ => rfl, fun _ _ _ => rfl, by rw [wj_row, if_neg hd], fun _ _ _ => by rw [wj_22 (by omega)], fun _ _ _ => by rw [wj_22 (by omega)], fun _ _ _ => by rw [wj_22 (by omega)], fun _ _ _ => by rw [wj_22 (by omega)]⟩, ⟨fun _ _ => rfl, wj_22 (by omega), rfl, rfl, rfl⟩, rfl, fun _ _ => rfl, wj_22 (by omega), fun _ _ => rfl, fun _ _ => rfl⟩
  have sc1 : SCs p m w → SCs p m1 w1 := fun s => SC_ow s (fun l hl => mq l (by omega)) (by rw [mr]) (fun K h1 h2 => wR K (by omega))
  obtain ⟨g, rc⟩ := rc
  have rc1 : ∃ g, RCs (A m1 23) (ROs w1) (w1.2.2.2 34) (CRs (A m1 23) (ROs w1) (w1.2.2.2 34) g) g (a + 2) n (Hs j) (Os j) := ⟨g, by rw [h23c, ROs_eq pr, wJ 34 (by omega)]; exact rc⟩
  refine goW_r (j := j) (t := 0) (nbj := nb j) (hl := (Hs j).length) (ol := (Os j).length) hpp (by rw [w1F]; exact r11) ((wA 95 p (by omega)).trans fa.1.2.1) hj (by omega) w110 ((wA 99 _ (by omega)).trans g4) ((wA 101 _ (by omega)).trans g6) ((wA 27 _ (by omega)).trans h27) ?_
  have nx := NX_of (t := 0) (sc := a + 2) fc1 ((congrArg Int32.toInt (mq 9 (by omega))).trans r5) ((wA 109 p (by omega)).trans r6) ((mF 1112 (by omega) (by omega)).trans h12) ((w1F 152).trans h152) ((mF 1108 (by omega) (by omega)).trans r8) ((mF 1109 (by omega) (by omega)).trans r9) ((w1F 151).trans r10) ((w1F 133).trans r11) (by rw [mg 1106 (by omega) (by omega), w1i]; exact r12) (by rw [mg 1107 (by omega) (by omega), w1i]; exact r13) mpc m8 (by omega) (show n < 100000 by omega) (by omega) (by rw [mL, w111]; exact ⟨rfl, Or.inl rfl⟩) ((wA 23 _ (by omega)).trans h23) ((wA 27 _ (by omega)).trans h27) (CR_n cr0) rc1
  have g5 : GGw p w1 (wi (wi (wi (wi (wi w1 159 ((n : Nat) : Int)) 158 ((0 : Nat) : Int)) 153 3) 155 (A w1 25 n)) 156 ((nb j + (Hs j).length + (Os j).length : Nat) : Int)) := GGw.tr (GGw.tr (GGw.tr (GGw.tr (GGw_reg (by omega) (by omega)) (GGw_reg (by omega) (by omega))) (GGw_reg (by omega) (by omega))) (GGw_reg (by omega) (by omega))) (GGw_reg (by omega) (by omega))
  have pl9 : PLs b p m1 (wa (wi (wi (wi (wi (wi w1 159 ((n : Nat) : Int)) 158 ((0 : Nat) : Int)) 153 3) 155 (A w1 25 n)) 156 ((nb j + (Hs j).length + (Os j).length : Nat) : Int)) 94 p ((B : Nat) : Int)) U B W Y := PLs_94 (PLs_ri (PLs_ri (PLs_ri (PLs_ri (PLs_ri pl1))))) hB2
  refine recv_pp (t := 0) hpp nx pl9 hB hB2 hY m8 (by omega) (by omega) (by rw [mF 955 (by omega) (by omega), mF 956 (by omega) (by omega)]; exact h956) (by rw [mg 944 (by omega) (by omega), wi_1 (by omega), wi_1 (by omega), wi_1 (by omega), wi_1 (by omega), wi_1 (by omega), w1i]; exact hcl) (fun _ => mL) (fun q hq => ?_) (fun M' vk' m3 w3 q1 q2 a1 a2 a3 a4 a5 => kW M' vk' m3 w3 (by omega) (by omega) a1 a2 (GGm.tr gm a3) (GGw.tr gw1 (GGw.tr g5 a4)) (fun s => a5 (sc1 s))) (fun M' vk' m3 w3 l q q1 q2 a1 a2 a3 a4 a5 => kR M' vk' m3 w3 l q (by omega) (by omega) a1 a2 (GGm.tr gm a3) (GGw.tr gw1 (GGw.tr g5 a4)) (fun s => a5 (sc1 s))) (fun m3 w3 k q1 a1 a2 a3 a4 a5 a6 a7 => kT M1 (vk + 1) m3 w3 k (by omega) (by omega) q1 a1 a2 a3 (GGm.tr gm a4) (GGw.tr gw1 (GGw.tr g5 a5)) (fun s => a6 (sc1 s)) ⟨a7.1.trans (wJ 88 (by omega)), a7.2.trans (by rw [wi_1 (by omega), wi_1 (by omega), wi_1 (by omega), wi_1 (by omega), wi_1 (by omega), w1i])⟩)
  rw [wi_ne (by omega), wi_ne (by omega), wi_ne (by omega), wi_ne (by omega), wi_sm (by omega) (by omega)] at hq
  omega
end
end
section
set_option maxRecDepth 100000
section
variable {N p k U W l a : Nat} {m w : MS}
theorem tup_m (h26 : F m (pq p 26) = ((W : Nat) : Int)) (hl : F m (pq p 45) = ((l : Nat) : Int)) (hl2 : W ≤ l ∧ l ≤ 1000000) (hk : k ≤ W) (h4 : F m (pq p 4) = ((U : Nat) : Int)) (hU : U + (k + 1) ≤ 500) (h5 : F m 1105 = ((a : Nat) : Int)) (ha : a < 24000) : ∀ (d M : Nat) (m1 : MS) (i : Nat), i + d = k → FR [] [] [] [pq p 2] m m1 → (∀ q, q < k → q < i → m1.2.2.2 (pq p 2) (U + 1 + q) = m.2.2.2 (pq p 35) (W - k + q)) → (∀ q, q ≤ U → m1.2.2.2 (pq p 2) q = m.2.2.2 (pq p 2) q) → PK (fun m2 (_ : Unit) => FR [pq p 4, pq p 26, pq p 45, 1105] [] [] [pq p 2, pq p 35] m m2 ∧ F m2 (pq p 4) = ((U + (k + 1) : Nat) : Int) ∧ F m2 (pq p 26) = ((W - k + 1 : Nat) : Int) ∧ F m2 1105 = ((a + 2 : Nat) : Int) ∧ (∀ q, q ≤ U → m2.2.2.2 (pq p 2) q = m.2.2.2 (pq p 2) q) ∧ (∀ q, q < k → m2.2.2.2 (pq p 2) (U + 1 + q) = m.2.2.2 (pq p 35) (W - k + q)) ∧ ∀ i, i ≤ W - k → m2.2.2.2 (pq p 35) i = if i = W - k then mk 5 ((U : Nat) : Int) else m.2.2.2 (pq p 35) i) (hg_Ma_tuple N M m1 p (I ((k : Nat) : Int)) (I ((U : Nat) : Int)) (I ((i : Nat) : Int))) := by
  intro d
  induction d with
  | zero =>
    intro M m1 i hi fr c1 c2
    have : i = k := by omega
    subst this
    cases M with
    | zero => exact pk_none
    | succ M =>
    show PK _ (hb_Ma_tuple_57 N (hg_Ma_tuple N M) m1 p (I ((i : Nat) : Int)) (I ((U : Nat) : Int)) (I ((i : Nat) : Int)))
    unfold hb_Ma_tuple_57
    have e4 : F m1 (pq p 4) = ((U : Nat) : Int) := by rw [FR.F fr (by simp)]; exact h4
    rw [decI (by omega) (by omega) (by omega) (by omega), decide_eq_true (by omega), br_tq, I_F' e4, show I ((i : Nat) : Int) + 1 = I ((i + 1 : Nat) : Int) from addN, addN, wi_e, lt_e, show (5 : Int32) = I 5 from rfl, e_make, bnd_so]
    unfold hm_Ma_answer hb_Ma_answer_0
    have e26 : F (wi m1 (pq p 4) ((U + (i + 1) : Nat) : Int)) (pq p 26) = ((W : Nat) : Int) := by rw [wi_ne (pq_inj (by omega)), FR.F fr (by simp)]; exact h26
    rw [drop_e (W := W) (k := i) (x := ((i : Nat) : Int)) e26 rfl hk, bnd_so, bb_e]
    have f26 : F (wi (wi m1 (pq p 4) ((U + (i + 1) : Nat) : Int)) (pq p 26) ((W - i : Nat) : Int)) (pq p 26) = ((W - i : Nat) : Int) := wi_sm (by omega) (by omega)
    have f45 : F (wi (wi m1 (pq p 4) ((U + (i + 1) : Nat) : Int)) (pq p 26) ((W - i : Nat) : Int)) (pq p 45) = ((l : Nat) : Int) := by rw [wi_ne (pq_inj (by omega)), wi_ne (pq_inj (by omega)), FR.F fr (by simp)]; exact hl
    refine pk_bnd (pk_mo (push_m (N := N) (t := mk 5 ((U : Nat) : Int)) f26 f45 (by omega) hl2.2) (fun m2 _ hh => ?_))
    obtain ⟨z1, z2, z3⟩ := hh
    rw [bnd_so]
    have e5 : F m2 1105 = ((a : Nat) : Int) := by
      rw [FR.F z1 (by simp [pq_n]), wi_ne (pq_n (by omega)), wi_ne (pq_n (by omega)), FR.F fr (by simp)]
      exact h5
    rw [I_F' e5, show I ((a : Nat) : Int) + 2 = I ((a + 2 : Nat) : Int) from addN, wi_e, lt_e]
    refine pk_some ⟨?_, ?_, ?_, wi_sm (by omega) (by omega), fun q hq => ?_, fun q hq => ?_, fun q hq => ?_⟩
    · refine FR.wi (FR.tr (FR.wi (FR.wi (FR.mo fr (by simp) (by simp) (by simp) (by simp)) (by simp)) (by simp)) (FR.mo z1 (by simp) (by simp) (by simp) (by simp))) (by simp)
    · rw [wi_ne (fun c => pq_n (by omega) c.symm), FR.F z1 (by simp; exact ⟨pq_inj (by omega), pq_inj (by omega)⟩), wi_ne (pq_inj (by omega)), wi_sm (by omega) (by omega)]
    · rw [wi_ne (fun c => pq_n (by omega) c.symm)]
      exact z2
    · show m2.2.2.2 (pq p 2) q = _
      rw [z1.2.2.2 _ (by simp; exact pq_inj (by omega))]
      exact c2 q hq
    · show m2.2.2.2 (pq p 2) (U + 1 + q) = _
      rw [z1.2.2.2 _ (by simp; exact pq_inj (by omega))]
      exact c1 q hq hq
    · show m2.2.2.2 (pq p 35) q = _
      rw [z3 q hq]
      by_cases c : q = W - i
      · rw [if_pos c, if_pos c]
      · rw [if_neg c, if_neg c]
        show m1.2.2.2 (pq p 35) q = _
        rw [fr.2.2.2 _ (by simp; exact pq_inj (by omega))]
  | succ d ih =>
    intro M m1 i hi fr c1 c2
    cases M with
    | zero => exact pk_none
    | succ M =>
    show PK _ (hb_Ma_tuple_57 N (hg_Ma_tuple N M) m1 p (I ((k : Nat) : Int)) (I ((U : Nat) : Int)) (I ((i : Nat) : Int)))
    unfold hb_Ma_tuple_57
    have e26 : F m1 (pq p 26) = ((W : Nat) : Int) := by rw [FR.F fr (by simp)]; exact h26
    have e45 : F m1 (pq p 45) = ((l : Nat) : Int) := by rw [FR.F fr (by simp)]; exact hl
    rw [decI (by omega) (by omega) (by omega) (by omega), decide_eq_false (by omega), br_fq, show I ((k : Nat) : Int) - 1 - I ((i : Nat) : Int) = I ((k - 1 - i : Nat) : Int) by rw [lit1q, I_sub, I_sub]; congr 1; omega, below_e (k := k - 1 - i) (W := W) (l := l) e26 e45 hl2.1 hl2.2 rfl (by omega), bnd_so, show W - 1 - (k - 1 - i) = W - k + i by omega, show I ((U : Nat) : Int) + 1 = I ((U + 1 : Nat) : Int) from addN, addN, (I_inb (by omega) (by omega)).mpr ⟨by omega, by omega⟩, ck_t, tnI (n := U + 1 + i) rfl (by omega), wj_e, lt_e, show I ((i : Nat) : Int) + 1 = I ((i + 1 : Nat) : Int) from addN]
    refine ih M _ (i + 1) (by omega) (FR.wj fr (by simp)) (fun q h1 h2 => ?_) (fun q hq => ?_)
    · rw [wj_row]
      by_cases c : q = i
      · subst c
        rw [if_pos rfl, fr.2.2.2 _ (by simp; exact pq_inj (by omega))]
      · rw [if_neg (by omega)]
        exact c1 q h1 (by omega)
    · rw [wj_row, if_neg (by omega)]
      exact c2 q hq
theorem tup_r (hpp : p < 24) (h133 : F w 133 = ((p : Nat) : Int)) (h92 : A w 92 p = ((W : Nat) : Int)) (hW : W ≤ 46000) (hk : k ≤ W) (hU : U + (k + 1) ≤ 500) : ∀ (d M : Nat) (w1 : MS) (i : Nat), i + d = k → FR [] [] [] [88] w w1 → (∀ q, w1.2.2.2 88 q = if 500 * p + U + 1 ≤ q ∧ q < 500 * p + U + 1 + i then w.2.2.2 91 (46000 * p + (W - k) + (q - (500 * p + U + 1))) else w.2.2.2 88 q) → PK (fun w2 (_ : Unit) => ∃ w1 : MS, FR [] [] [] [88] w w1 ∧ (∀ q, w1.2.2.2 88 q = if 500 * p + U + 1 ≤ q ∧ q < 500 * p + U + 1 + k then w.2.2.2 91 (46000 * p + (W - k) + (q - (500 * p + U + 1))) else w.2.2.2 88 q) ∧ w2 = wa (wj (wa w1 92 p ((W - k : Nat) : Int)) 91 (46000 * p + (W - k)) (mk 5 ((U : Nat) : Int))) 92 p ((W - k + 1 : Nat) : Int)) ((gg_M_tupleRun N M).2 w1 (I ((k : Nat) : Int)) (I ((U : Nat) : Int)) (I ((i : Nat) : Int))) := by
  intro d
  induction d with
  | zero =>
    intro M w1 i hi fr c1
    have : i = k := by omega
    subst this
    cases M with
    | zero => exact pk_none
    | succ M =>
    show PK _ (fb_M_tupleRun_111 N (gg_M_tupleRun N M) w1 (I ((i : Nat) : Int)) (I ((U : Nat) : Int)) (I ((i : Nat) : Int)))
    unfold fb_M_tupleRun_111
    have x33 : F w1 133 = ((p : Nat) : Int) := by rw [FR.F fr (by simp)]; exact h133
    have x92 : A w1 92 p = ((W : Nat) : Int) := by rw [FR.A fr (by simp)]; exact h92
    rw [decI (by omega) (by omega) (by omega) (by omega), decide_eq_true (by omega), br_tq]
    refine pk_ck (fun _ => pk_ck (fun _ => ?_))
    rw [I_F' x33, tnI (n := p) rfl (by omega), I_A' x92, show I ((W : Nat) : Int) - I ((i : Nat) : Int) = I ((W - i : Nat) : Int) by rw [I_sub]; congr 1; omega, wa_e, lt_e, show (5 : Int32) = I 5 from rfl, term_e, bnd_so]
    refine pk_bnd (pk_mo (put_r (N := N) (w := wa w1 92 p ((W - i : Nat) : Int)) (x := mk 5 ((U : Nat) : Int)) (W := W - i) hpp x33 (wa_sm (by omega) (by omega)) (by omega)) (fun w2 _ e => ?_))
    subst e
    exact pk_some ⟨w1, fr, c1, rfl⟩
  | succ d ih =>
    intro M w1 i hi fr c1
    cases M with
    | zero => exact pk_none
    | succ M =>
    show PK _ (fb_M_tupleRun_111 N (gg_M_tupleRun N M) w1 (I ((k : Nat) : Int)) (I ((U : Nat) : Int)) (I ((i : Nat) : Int)))
    unfold fb_M_tupleRun_111
    have x33 : F w1 133 = ((p : Nat) : Int) := by rw [FR.F fr (by simp)]; exact h133
    have x92 : A w1 92 p = ((W : Nat) : Int) := by rw [FR.A fr (by simp)]; exact h92
    rw [decI (by omega) (by omega) (by omega) (by omega), decide_eq_false (by omega), br_fq, show I ((k : Nat) : Int) - 1 - I ((i : Nat) : Int) = I ((k - 1 - i : Nat) : Int) by rw [lit1q, I_sub, I_sub]; congr 1; omega]
    refine pk_bnd (pk_mo (top_r (N := N) (k := k - 1 - i) hpp x33 x92 hW (by omega)) (fun w2 r e => ?_))
    obtain ⟨rfl, rfl⟩ := e
    refine pk_ck (fun _ => ?_)
    have sp : I ((p : Nat) : Int) * 500 + I ((U : Nat) : Int) + 1 + I ((i : Nat) : Int) = I ((500 * p + U + 1 + i : Nat) : Int) := by
      rw [show (500 : Int32) = I 500 from rfl, lit1q, I_mul, I_add, I_add, I_add]
      congr 1
      omega
    rw [I_F' x33, sp, tnI (n := 500 * p + U + 1 + i) rfl (by omega), wj_e, lt_e, show I ((i : Nat) : Int) + 1 = I ((i + 1 : Nat) : Int) from addN]
    refine ih M _ (i + 1) (by omega) (FR.wj fr (by simp)) (fun q => ?_)
    rw [wj_row]
    by_cases c : q = 500 * p + U + 1 + i
    · subst c
      rw [if_pos rfl, if_pos (by omega), fr.2.2.2 91 (by simp), show 46000 * p + (W - k) + (500 * p + U + 1 + i - (500 * p + U + 1)) = 46000 * p + (W - 1 - (k - 1 - i)) by omega]
    · rw [if_neg c, c1 q]
      by_cases c2 : 500 * p + U + 1 ≤ q ∧ q < 500 * p + U + 1 + i
      · rw [if_pos c2, if_pos (by omega)]
      · rw [if_neg c2, if_neg (by omega)]
end
end
section
set_option maxRecDepth 100000
def tupB (N M : Nat) (u : MS) (v1 : Int32) : Option (MS × Unit) := bnd (fm_M_wants N u (u.1 133) (1 + v1)) (fun u6 r6 => br (decide (r6 = 0)) (bnd (fm_M_noRoom N u6) (fun u10 _ => some (u10, ()))) (ck (inb (u6.1 133) (ln 89)) (lt (u6.2.2.1 89 (u6.1 133).toNatClampNeg) (fun y7 => ck (inb (u6.1 133) (ln 89)) (ck (inb (u6.1 133) (ln 89)) (lt (upA u6 89 (upd (u6.2.2.1 89) (u6.1 133).toNatClampNeg ((u6.2.2.1 89 (u6.1 133).toNatClampNeg) + (1 + v1)))) (fun w8 => ck (inb (((w8.1 133) * 500) + y7) (ln 88)) (lt (upJ w8 88 (vp_updL (w8.2.2.2 88) (((w8.1 133) * 500) + y7).toNatClampNeg (v1.toInt64))) (fun w9 => (gg_M_tupleRun N M).2 w9 (v1) (y7) (0))))))))))
section
variable {α β : Type} {b : Int → Nat → Nat → Prop} {Fv Fv' : Int64 → Int64 → Prop} {P P' : Int64 → Prop} {ow kd ow' kd' : Nat → Nat} {N p U W l k : Nat} {m0 w0 : MS} {h h' : Nat → Int64} {Q : MS → α → MS → β → Prop} {K1 : MS → Int32 → Option (MS × α)} {K2 : MS → Unit → Option (MS × β)}
theorem tsz_lp (hpp : p < 24) (hh : m0.2.2.2 (pq p 2) = h) (hh' : hp w0 p = h') (g : HPc h U ow kd Fv P) (hU : U ≤ 500) (hF : FVc Fv) (g' : HP h' U ow' kd' Fv' P') (s : ISb b h U h' U) (tp : ∀ i, i < W → TPb b U ow kd P U ow' kd' P' (m0.2.2.2 (pq p 35) i) (w0.2.2.2 91 (46000 * p + i))) (h26 : F m0 (pq p 26) = ((W : Nat) : Int)) (hl : F m0 (pq p 45) = ((l : Nat) : Int)) (hl2 : W ≤ l ∧ l ≤ 1000000) (h133 : F w0 133 = ((p : Nat) : Int)) (h92 : A w0 92 p = ((W : Nat) : Int)) (hW : W ≤ 46000) (hk : k ≤ W) (hk2 : k ≤ 100) (hN : 6000 ≤ N)
    (kk : ∀ m2 w2 M2 Z Z', FR [] [] [] [45] m0 m2 → FR [] [] [] [141] w0 w2 → ((Z ≤ 500 ∧ Z' = Z) ∨ (500 < Z ∧ 500 < Z')) → Z ≤ 200 + 1000 * k → Z' ≤ 200 + 1000 * k → PP Q (K1 m2 (I ((Z : Nat) : Int))) (bnd (br (decide (I ((Z' : Nat) : Int) ≤ 500)) (tupB N M2 w2 (I ((k : Nat) : Int))) (bnd (fr_M_error N w2 11) (fun u11 _ => some (u11, ())))) K2)) : ∀ (d M M2 : Nat) (m w : MS) (i z z' : Nat), i + d = k → FR [] [] [] [45] m0 m → FR [] [] [] [141] w0 w → ((z ≤ 500 ∧ z' = z) ∨ (500 < z ∧ 500 < z')) → z ≤ 200 + 1000 * i → z' ≤ 200 + 1000 * i → PP Q (bnd (hg_Ma_sizes N M m p (I ((k : Nat) : Int)) (I ((z : Nat) : Int)) (I ((i : Nat) : Int))) K1) (bnd ((gg_M_tupleRun N M2).1 w (I ((k : Nat) : Int)) (I ((z' : Nat) : Int)) (I ((i : Nat) : Int))) K2) := by
  intro d
  induction d with
  | zero =>
    intro M M2 m w i z z' hi fm fw hz b1 b2
    have : i = k := by omega
    subst this
    cases M with
    | zero => exact pp_nl
    | succ M =>
    cases M2 with
    | zero => exact pp_nr
    | succ M2 =>
    show PP Q (bnd (hb_Ma_sizes_5 N (hg_Ma_sizes N M) m p (I ((i : Nat) : Int)) (I ((z : Nat) : Int)) (I ((i : Nat) : Int))) K1) (bnd (fb_M_tupleRun_6 N (gg_M_tupleRun N M2) w (I ((i : Nat) : Int)) (I ((z' : Nat) : Int)) (I ((i : Nat) : Int))) K2)
    unfold hb_Ma_sizes_5 fb_M_tupleRun_6
    rw [decI (by omega) (by omega) (by omega) (by omega), decide_eq_true (by omega), br_tq, bnd_so, br_tq]
    exact kk m w M2 z z' fm fw hz b1 b2
  | succ d ih =>
    intro M M2 m w i z z' hi fm fw hz b1 b2
    cases M with
    | zero => exact pp_nl
    | succ M =>
    cases M2 with
    | zero => exact pp_nr
    | succ M2 =>
    show PP Q (bnd (hb_Ma_sizes_5 N (hg_Ma_sizes N M) m p (I ((k : Nat) : Int)) (I ((z : Nat) : Int)) (I ((i : Nat) : Int))) K1) (bnd (fb_M_tupleRun_6 N (gg_M_tupleRun N M2) w (I ((k : Nat) : Int)) (I ((z' : Nat) : Int)) (I ((i : Nat) : Int))) K2)
    unfold hb_Ma_sizes_5 fb_M_tupleRun_6
    have e26 : F m (pq p 26) = ((W : Nat) : Int) := by rw [FR.F fm (by simp)]; exact h26
    have e45 : F m (pq p 45) = ((l : Nat) : Int) := by rw [FR.F fm (by simp)]; exact hl
    have x33 : F w 133 = ((p : Nat) : Int) := by rw [FR.F fw (by simp)]; exact h133
    have x92 : A w 92 p = ((W : Nat) : Int) := by rw [FR.A fw (by simp)]; exact h92
    rw [decI (by omega) (by omega) (by omega) (by omega), decide_eq_false (by omega), br_fq, br_fq, below_e (k := i) (W := W) (l := l) e26 e45 hl2.1 hl2.2 rfl (by omega), bnd_so]
    refine rb_bnd (pk_mo (top_r (N := N) (k := i) hpp x33 x92 hW (by omega)) (fun w2 r e => ?_))
    obtain ⟨rfl, rfl⟩ := e
    rw [I_F' x33]
    have j2 : m.2.2.2 (pq p 2) = h := by rw [fm.2.2.2 _ (by simp; exact fun c => pq_n (by omega) c.symm)]; exact hh
    have j35 : m.2.2.2 (pq p 35) = m0.2.2.2 (pq p 35) := fm.2.2.2 _ (by simp; exact fun c => pq_n (by omega) c.symm)
    have hp2 : hp w2 p = h' := by
      rw [← hh']
      funext q
      show w2.2.2.2 88 _ = _
      rw [fw.2.2.2 88 (by simp)]
      rfl
    have t2 := tp (W - 1 - i) (by omega)
    rw [← j35, ← fw.2.2.2 91 (by simp)] at t2
    refine l_bb (r_bb ?_)
    refine pp_bb (pp_mo (size_pp (N := N) (v := pq p 2) (fun c => pq_n (by omega) c.symm) j2 hp2 g hU hF g' hU (by omega) s t2 hN) (fun m3 r3 w3 r4 q => ?_))
    obtain ⟨⟨f3, f4⟩, z1, hz1, -, -, rfl, rfl⟩ := q
    rw [addN, addN, show I ((i : Nat) : Int) + 1 = I ((i + 1 : Nat) : Int) from addN]
    refine ih M M2 m3 w3 (i + 1) _ _ (by omega) (FR.tr fm f3) (FR.tr fw f4) ?_ (by omega) ?_
    · by_cases c : z1 ≤ 500
      · rw [if_pos c]
        omega
      · rw [if_neg c]
        omega
    · by_cases c : z1 ≤ 500
      · rw [if_pos c]
        omega
      · rw [if_neg c]
        omega
end
section
variable {α β : Type} {b : Int → Nat → Nat → Prop} {Fv Fv' : Int64 → Int64 → Prop} {P P' : Int64 → Prop} {ow kd ow' kd' : Nat → Nat} {N p U B W Y l k j a n ee ee' : Nat} {m w : MS} {nb : Nat → Nat} {Hs Os : Nat → List Nat} {y : Option (Nat × Nat × Nat)} {v : Int} {Q : MS → α → MS → β → Prop} {K1 : MS → Option (MS × α)} {K2 : MS → Option (MS × β)}
theorem one_4 : fm_M_one N w (I v) (I 4) = bnd (fm_M_goTo N w (I v + 1)) (fun u7 _ => ck (inb (I v) (ln 25)) (bnd (fm_M_tupleRun N u7 (u7.2.2.1 25 (I v).toNatClampNeg)) (fun u23 _ => some (u23, ())))) := rfl
theorem CX_98 {i : Nat} {z : Int} (q : CX w p (hp w p) U ow' kd' Fv' P' W B Y) : CX (wa w 98 i z) p (hp (wa w 98 i z) p) U ow' kd' Fv' P' W B Y := by
  obtain ⟨-, c2, c3, c4, ⟨c5, c6⟩, ⟨c7, c8⟩, ⟨c9, c10⟩, c11, c12, c13, c14⟩ := q
  exact ⟨rfl, c2, c3, c4, ⟨by rw [wa_rne (by omega)]; exact c5, c6⟩, ⟨by rw [wa_rne (by omega)]; exact c7, c8⟩, ⟨by rw [wa_rne (by omega)]; exact c9, c10⟩, c11, c12, c13, c14⟩
theorem CX_141 {w2 : MS} (q : CX w p (hp w p) U ow' kd' Fv' P' W B Y) (f : FR [] [] [] [141] w w2) : CX w2 p (hp w2 p) U ow' kd' Fv' P' W B Y := by
  obtain ⟨-, c2, c3, c4, ⟨c5, c6⟩, ⟨c7, c8⟩, ⟨c9, c10⟩, c11, c12, c13, c14⟩ := q
  have e : hp w2 p = hp w p := by funext i; show w2.2.2.2 88 _ = _; rw [f.2.2.2 88 (by simp)]; rfl
  refine ⟨rfl, by rw [e]; exact c2, c3, c4, ⟨by rw [FR.A f (by simp)]; exact c5, c6⟩, ⟨by rw [FR.A f (by simp)]; exact c7, c8⟩, ⟨by rw [FR.A f (by simp)]; exact c9, c10⟩, fun i hi => by rw [f.2.2.2 91 (by simp)]; exact c11 i hi, fun i hi => by rw [f.2.2.2 93 (by simp)]; exact c12 i hi, fun i hi => by rw [f.2.2.2 107 (by simp)]; exact c13 i hi, fun h => ?_⟩
  rw [f.2.1 139 (by simp)]
  exact c14 (by rw [← FR.F f (by simp)]; exact h)
theorem op_tuple (hpp : p < 24) (pl : PLs b p m w U B W Y) (ru : RUs m w p j nb Hs Os y a n) (hW : W < 46000) (hl : F m (pq p 45) = ((l : Nat) : Int)) (hl2 : W ≤ l ∧ l ≤ 1000000) (pt : PTQ m p U ow kd Fv P B W Y) (cx : CTX Fv P m) (xc : CX w p (hp w p) U ow' kd' Fv' P' W B Y) (g : HPc (m.2.2.2 (pq p 2)) U ow kd Fv P) (g' : HP (hp w p) U ow' kd' Fv' P') (hF : FVc Fv) (h140 : F w 140 = -1) (h25 : A w 25 n = ((k : Nat) : Int)) (hk : k ≤ W) (hk2 : k ≤ 100) (c1 : A m 23 (a + 1) = ((k : Nat) : Int)) (hee : F m 955 = ((ee : Nat) : Int) ∧ ee < 24) (hee' : F w 150 = ((ee' : Nat) : Int) ∧ ee' < 4000) (hN : 2200000 ≤ N) (cr : ∃ f, CRs (A m 23) (ROs w) (w.2.2.2 34) f y (a + 2) (n + 1) (Hs j) (Os j))
    (kS : ∀ b3 U3 m3 w3, PLs b3 p m3 w3 U3 B (W - k + 1) Y → RUs m3 w3 p j nb Hs Os y (a + 2) (n + 1) → FGm p m m3 → FGw p j w w3 → PP Q (K1 m3) (K2 w3))
    (kX : ∀ m3 w3, FGm p m m3 → FGw p j w w3 → PLs b p m3 w3 U B W Y → RUb m3 w3 p j nb Hs Os y → PTQ m3 p U ow kd Fv P B W Y → CX w3 p (hp w3 p) U ow' kd' Fv' P' W B Y → F w3 140 = -1 → PP Q (K1 (tld m3 1 (-1) (mk 1 11))) (bnd (fr_M_error N w3 11) (fun u _ => K2 u)))
    (kE : ∀ m3 w3, FGm p m m3 → FGw p j w w3 → m3.1 (pq p 5) = w3.2.2.1 90 p → PP Q (K1 (enS m3 p (mk 1 20) p ee)) (K2 (wi (enR w3 p 0 ((p : Nat) : Int) (mk 1 20) ee') 151 1))) : PP Q (bnd (hm_Ma_making N m p (I 4)) (fun u _ => K1 u)) (bnd (fm_M_one N w (I ((n : Nat) : Int)) (I 4)) (fun u _ => K2 u)) := by
  obtain ⟨⟨fa, ct⟩, ⟨r2, r3⟩, ⟨f0, cr0⟩, ⟨r5, r6⟩, r7, ⟨r8, r9, r10⟩, r11, r12, r13⟩ := id ru
  have cb := CR_b cr0
  have hj : j < 60 := fa.1.2.2
  rw [mak4, one_4, I_F' r2, show I ((a : Nat) : Int) + 1 = I ((a + 1 : Nat) : Int) from addN, Co_e (k := a + 1) rfl (by omega), bnd_so, c1, show I ((n : Nat) : Int) + 1 = I ((n + 1 : Nat) : Int) from addN]
  refine l_bb (r_bb ?_)
  refine r_bnd (pk_mo (goto_r (N := N) (n := ((n + 1 : Nat) : Int)) hpp r11 fa.1.2.1 hj) (fun w1 _ e => ?_))
  subst e
  refine rb_ck (fun _ => ?_)
  have e25 : A (wa w 98 (60 * p + j) ((n + 1 : Nat) : Int)) 25 n = ((k : Nat) : Int) := by rw [wa_rne (by omega)]; exact h25
  rw [tnI (n := n) rfl (by omega), I_A' e25]
  refine r_bb ?_
  generalize hw1 : wa w 98 (60 * p + j) ((n + 1 : Nat) : Int) = w1
  have g1 : FGw p j w w1 := by rw [← hw1]; exact FGw.goto
  have pl1 : PLs b p m w1 U B W Y := by rw [← hw1]; exact PLs_98 pl
  have x33 : F w1 133 = ((p : Nat) : Int) := by rw [← hw1]; exact r11
  have x98 : A w1 98 (60 * p + j) = ((n + 1 : Nat) : Int) := by rw [← hw1, wa_sm (by omega) (by omega)]
  have hp1 : hp w1 p = hp w p := by rw [← hw1]; rfl
  have xc1 : CX w1 p (hp w1 p) U ow' kd' Fv' P' W B Y := by rw [← hw1]; exact CX_98 xc
  have tp : ∀ i, i < W → TPb b U ow kd P U ow' kd' P' (m.2.2.2 (pq p 35) i) (w1.2.2.2 91 (46000 * p + i)) := fun i hi => ⟨pl1.2.2.1.2.2 i hi, pt.2.2.1.2 i hi, xc1.2.2.2.2.2.2.2.1 i hi⟩
  unfold hm_Ma_tuple hb_Ma_tuple_0 hm_Ma_sizes hb_Ma_sizes_0 fm_M_tupleRun fb_M_tupleRun_0
  rw [show (1 : Int32) + I ((k : Nat) : Int) = I ((1 + k : Nat) : Int) from addN, show I ((k : Nat) : Int) + 1 = I ((k + 1 : Nat) : Int) from addN, show (0 : Int32) = I ((0 : Nat) : Int) from rfl]
  refine l_bb ?_
  refine tsz_lp (U := U) (W := W) (l := l) (k := k) hpp rfl hp1 g pl.1.1.2.2 hF g' pl.1.2.1 tp pl.2.2.1.1 hl hl2 x33 pl1.2.2.1.2.1 (by omega) hk hk2 (by omega) (fun m2 w2 M2 Z Z' f2 f3 hZ b1 b2 => ?_) k N N m w1 0 (k + 1) (1 + k) (by omega) FR.rf FR.rf (by omega) (by omega) (by omega)
  have fm2 : FGm p m m2 := FR.mo f2 (by simp) (by simp) (by simp) (by simp)
  have fw2 : FGw p j w1 w2 := ⟨FR.mo f3 (by simp) (by simp) (by simp) (by simp), fun _ _ => ⟨FR.A f3 (by simp), by rw [f3.2.2.1 90 (by simp)], FR.A f3 (by simp)⟩, fun _ _ => FR.A f3 (by simp), fun _ _ => by rw [f3.2.2.2 88 (by simp)], fun _ _ => by rw [f3.2.2.2 91 (by simp)], fun _ _ => by rw [f3.2.2.2 93 (by simp)], fun _ _ => by rw [f3.2.2.2 107 (by simp)]⟩
  have jq : ∀ d, m2.2.2.2 (pq p d) = m.2.2.2 (pq p d) := fun d => f2.2.2.2 _ (by simp; exact fun c => pq_n (by omega) c.symm)
  have pl2 : PLs b p m2 w2 U B W Y := PLs_cg pl1 (fun d _ => f2.1 _ (by simp)) (fun i _ => by rw [jq]) (fun i _ => by rw [jq]) (fun i _ => by rw [jq]) (fun i _ => by rw [jq]) (fun K hK => by rw [f3.2.2.1 K (by simp)]) (fun i _ => by rw [f3.2.2.2 88 (by simp)]) (fun i _ => by rw [f3.2.2.2 93 (by simp)]) (fun i _ => by rw [f3.2.2.2 91 (by simp)]) (fun i _ => by rw [f3.2.2.2 107 (by simp)])
  have ru2 : RUb m2 w2 p j nb Hs Os y := RUb_fg (RUb_fg (RUs_b ru) FGm.rf g1) fm2 fw2
  rw [show (500 : Int32) = I ((500 : Nat) : Int) from rfl, decI (by omega) (by omega) (by omega) (by omega), decI (by omega) (by omega) (by omega) (by omega)]
  by_cases cz : Z ≤ 500
  · have cz' : Z' ≤ 500 := by omega
    rw [decide_eq_true (by omega), decide_eq_true (by omega), br_tq, br_tq]
    unfold tupB
    have y33 : F w2 133 = ((p : Nat) : Int) := by rw [FR.F f3 (by simp)]; exact x33
    have y40 : F w2 140 = -1 := by rw [FR.F f3 (by simp), ← hw1]; exact h140
    have pt2 : PTQ m2 p U ow kd Fv P B W Y := PTQ_same pt (fun d _ => f2.1 _ (by simp)) (fun d _ => jq d)
    have cx2 : CTX Fv P m2 := CTX_fr cx (f2.1 22 (by simp)) (f2.2.2.1 3 (by simp))
    have xc2 : CX w2 p (hp w2 p) U ow' kd' Fv' P' W B Y := CX_141 xc1 f3
    have e9 : F m2 (pq p 9) ≠ 3 := by
      rw [FR.F f2 (by simp), r5]; omega
    have ee2 : F m2 955 = ((ee : Nat) : Int) ∧ ee < 24 := ⟨by rw [FR.F f2 (by simp)]; exact hee.1, hee.2⟩
    rw [I_F' y33, show (1 : Int32) + I ((k : Nat) : Int) = I ((k + 1 : Nat) : Int) by rw [lit1q, I_add]; congr 1; omega]
    refine l_bb (r_bb ?_)
    refine pp_bb (pp_mo (room_pp (N := N) (k := k + 1) pt2 cx2 xc2 pl2 y40 (by omega) e9 ee2 hN) (fun m4 r4 w4 r5' q9 => ?_))
    rcases q9 with ⟨rfl, rfl, a4, a5, b2', U2, pl4, rm4, ⟨ow2, kd2, pt4⟩, -⟩ | ⟨rfl, rfl, m5, a4, a5, rfl, h5⟩
    · rw [show decide ((1 : Int32) = 0) = false from rfl, br_fq, show decide ((1 : Int32) = I ((0 : Nat) : Int)) = false from rfl, br_fq]
      have fm4 : FGm p m m4 := FGm.tr fm2 (FGm_xr a4)
      have fw4 : FGw p j w1 w4 := FGw.tr fw2 (FGw_xr a5)
      have z33 : F w4 133 = ((p : Nat) : Int) := by rw [FR.F a5.1 (by simp)]; exact y33
      have z89 : A w4 89 p = ((U2 : Nat) : Int) := pl4.1.1.2.1
      have z4 : F m4 (pq p 4) = ((U2 : Nat) : Int) := pl4.1.1.1
      obtain ⟨l4, e1, e2, e3⟩ := pt4.2.2.2.2.2.1
      rw [show (8 : Int32) = I 8 from rfl, e_make, bnd_so, I_F' z4, (I_inb (by omega) (by omega)).mpr ⟨by omega, by omega⟩, ck_t, tnI (n := U2) rfl (by omega), wj_e, lt_e]
      refine rb_ck (fun _ => ?_)
      rw [lt_e]
      refine rb_ck (fun _ => rb_ck (fun _ => ?_))
      rw [I_F' z33, tnI (n := p) rfl (by omega), I_A' z89, addN, wa_e, lt_e]
      refine rb_ck (fun _ => ?_)
      have z33' : F (wa w4 89 p ((U2 + (k + 1) : Nat) : Int)) 133 = ((p : Nat) : Int) := z33
      have sp : I ((p : Nat) : Int) * 500 + I ((U2 : Nat) : Int) = I ((500 * p + U2 : Nat) : Int) := by
        rw [show (500 : Int32) = I 500 from rfl, I_mul, I_add]
        congr 1
        omega
      rw [I_F' z33', sp, tnI (n := 500 * p + U2) rfl (by omega), wj_e, lt_e]
      generalize hm6 : wj m4 (pq p 2) U2 (mk 8 ((k : Nat) : Int)) = m6
      generalize hw6 : wj (wa w4 89 p ((U2 + (k + 1) : Nat) : Int)) 88 (500 * p + U2) (I ((k : Nat) : Int)).toInt64 = w6
      have i6 : m6.1 = m4.1 := by rw [← hm6]; rfl
      have f6 : ∀ d, F m6 d = F m4 d := fun d => by show (m6.1 d).toInt = _; rw [i6]; rfl
      have e5 : F m6 1105 = ((a : Nat) : Int) := by
        rw [f6, FR.F a4 (by simp [pq_n]), FR.F f2 (by simp)]
        exact r2
      refine l_bnd (pk_mo (tup_m (N := N) (k := k) (U := U2) (W := W) (l := l4) (a := a) (m := m6) ((f6 _).trans pl4.2.2.1.1) ((f6 _).trans e1) ⟨e2, e3⟩ hk ((f6 _).trans z4) rm4 e5 (by omega) k N m6 0 (by omega) FR.rf (fun q _ h => by omega) (fun _ _ => rfl)) (fun m7 _ hh => ?_))
      obtain ⟨t1, t2, t3, t4, t5, t6, t7⟩ := hh
      have z336 : F w6 133 = ((p : Nat) : Int) := by rw [← hw6]; exact z33
      have z926 : A w6 92 p = ((W : Nat) : Int) := by
        rw [← hw6]
        show A (wa w4 89 p ((U2 + (k + 1) : Nat) : Int)) 92 p = _
        rw [wa_rne (by omega)]
        exact pl4.2.2.1.2.1
      refine r_bnd (pk_mo (tup_r (N := N) (k := k) (U := U2) (W := W) (w := w6) hpp z336 z926 (by omega) hk rm4 k M2 w6 0 (by omega) FR.rf (fun q => by rw [if_neg (by omega)])) (fun w7 _ hh => ?_))
      obtain ⟨w5, s1, s2, rfl⟩ := hh
      show PP Q (K1 m7) (K2 _)
      have cm : ∀ q, m7.2.2.2 (pq p 2) q = m7.2.2.2 (pq p 2) q := fun _ => rfl
      have hU2 : U2 + (k + 1) ≤ 500 := rm4
      have hm7d : m7.2.2.2 (pq p 2) U2 = mk 8 ((k : Nat) : Int) := by rw [t5 U2 (Nat.le_refl _), ← hm6, wj_row, if_pos rfl]
      have hm7o : ∀ i, i < U2 → m7.2.2.2 (pq p 2) i = m4.2.2.2 (pq p 2) i := fun i hi => by rw [t5 i (by omega), ← hm6, wj_row, if_neg (by omega)]
      have m635 : m6.2.2.2 (pq p 35) = m4.2.2.2 (pq p 35) := by rw [← hm6]; exact wj_22 (pq_inj (by omega))
      generalize hw7 : wa (wj (wa w5 92 p ((W - k : Nat) : Int)) 91 (46000 * p + (W - k)) (mk 5 ((U2 : Nat) : Int))) 92 p ((W - k + 1 : Nat) : Int) = w7
      have w788 : w7.2.2.2 88 = w5.2.2.2 88 := by
        rw [← hw7]
        show (wj (wa w5 92 p ((W - k : Nat) : Int)) 91 (46000 * p + (W - k)) (mk 5 ((U2 : Nat) : Int))).2.2.2 88 = _
        rw [wj_22 (by omega)]; rfl
      have w688 : ∀ q, w6.2.2.2 88 q = if q = 500 * p + U2 then (I ((k : Nat) : Int)).toInt64 else w4.2.2.2 88 q := fun q => by rw [← hw6, wj_row]; rfl
      have w691 : w6.2.2.2 91 = w4.2.2.2 91 := by rw [← hw6, wj_22 (by omega)]; rfl
      have hw7d : hp w7 p U2 = (I ((k : Nat) : Int)).toInt64 := by
        show w7.2.2.2 88 (500 * p + U2) = _
        rw [w788, s2, if_neg (by omega), w688, if_pos rfl]
      have hw7o : ∀ i, i < U2 → hp w7 p i = hp w4 p i := fun i hi => by
        show w7.2.2.2 88 (500 * p + i) = _
        rw [w788, s2, if_neg (by omega), w688, if_neg (by omega)]
        rfl
      have hw7c : ∀ i, i < k → hp w7 p (U2 + 1 + i) = w4.2.2.2 91 (46000 * p + (W - k + i)) := fun i hi => by
        show w7.2.2.2 88 (500 * p + (U2 + 1 + i)) = _
        rw [w788, s2, if_pos (by omega), w691, show 46000 * p + (W - k) + (500 * p + (U2 + 1 + i) - (500 * p + U2 + 1)) = 46000 * p + (W - k + i) by omega]
      have vk : vn (mk 8 ((k : Nat) : Int)) = k := by unfold vn; rw [va_mk (by omega) (by omega)]; omega
      have vk' : vn ((I ((k : Nat) : Int)).toInt64) = k := by unfold vn; rw [va_w, I_ti (by omega) (by omega)]; omega
      have ti := tup_iso (k := k) (L := (List.range k).map (fun i => m4.2.2.2 (pq p 35) (W - k + i))) (L' := (List.range k).map (fun i => w4.2.2.2 91 (46000 * p + (W - k + i)))) (h2 := m7.2.2.2 (pq p 2)) (h2' := hp w7 p) pl4.1.2.1 (by simp) (by simp) (fun i t x ht hx => by
        simp only [List.getElem?_map, List.getElem?_range, Option.map_eq_some_iff] at ht hx
        obtain ⟨i1, h1, rfl⟩ := ht
        obtain ⟨i2, h2, rfl⟩ := hx
        rw [h1] at h2
        injection h2 with h2
        subst h2
        have il : i1 < k := by
          have := List.getElem?_eq_some_iff.mp h1
          obtain ⟨q1, q2⟩ := this
          simp at q1 q2
          omega
        exact pl4.2.2.1.2.2 (W - k + i1) (by omega)) (by omega) (by rw [hm7d]; exact vk) (by rw [hw7d]; exact vk') (fun i t ht => by
        simp only [List.getElem?_map, Option.map_eq_some_iff] at ht
        obtain ⟨i1, h1, rfl⟩ := ht
        obtain ⟨q1, q2⟩ := List.getElem?_eq_some_iff.mp h1
        simp at q1 q2
        subst q2
        rw [t6 i q1, m635]) (fun i t ht => by
        simp only [List.getElem?_map, Option.map_eq_some_iff] at ht
        obtain ⟨i1, h1, rfl⟩ := ht
        obtain ⟨q1, q2⟩ := List.getElem?_eq_some_iff.mp h1
        simp at q1 q2
        subst q2
        exact hw7c i q1) hm7o hw7o
      obtain ⟨is7, rt7⟩ := ti
      have fm7 : FGm p m m7 := FGm.tr fm4 (FGm.tr (m2 := m6) (by rw [← hm6]; exact FR.wj FR.rf (by simp)) (FR.mo t1 (by simp) (by simp) (by simp) (by simp)))
      have fw7 : FGw p j w1 w7 := by
        refine FGw.tr fw4 ⟨?_, fun d hd => ⟨?_, ?_, ?_⟩, fun d _ => ?_, fun i hi => ?_, fun i hi => ?_, fun i _ => ?_, fun i _ => ?_⟩
        · rw [← hw7]
          refine FR.wa (FR.wj (FR.wa (FR.tr ?_ (FR.mo s1 (by simp) (by simp) (by simp) (by simp))) (by simp)) (by simp)) (by simp)
          rw [← hw6]
          exact FR.wj (FR.wa FR.rf (by simp)) (by simp)
        · rw [← hw7, wa_rne (by omega)]
          show A (wa w5 92 p ((W - k : Nat) : Int)) 89 d = _
          rw [wa_rne (by omega), FR.A s1 (by simp), ← hw6]
          show A (wa w4 89 p ((U2 + (k + 1) : Nat) : Int)) 89 d = _
          rw [wa_ro (by omega) (by omega), if_neg hd]
        · rw [← hw7, wa_21 (by omega)]
          show (wa w5 92 p ((W - k : Nat) : Int)).2.2.1 90 d = _
          rw [wa_21 (by omega), s1.2.2.1 90 (by simp), ← hw6]
          show (wa w4 89 p ((U2 + (k + 1) : Nat) : Int)).2.2.1 90 d = _
          rw [wa_21 (by omega)]
        · rw [← hw7, wa_ro (by omega) (by omega), if_neg hd]
          show A (wa w5 92 p ((W - k : Nat) : Int)) 92 d = _
          rw [wa_ro (by omega) (by omega), if_neg hd, FR.A s1 (by simp), ← hw6]
          show A (wa w4 89 p ((U2 + (k + 1) : Nat) : Int)) 92 d = _
          rw [wa_rne (by omega)]
        · rw [← hw7, wa_rne (by omega)]
          show A (wa w5 92 p ((W - k : Nat) : Int)) 98 d = _
          rw [wa_rne (by omega), FR.A s1 (by simp), ← hw6]
          show A (wa w4 89 p ((U2 + (k + 1) : Nat) : Int)) 98 d = _
          rw [wa_rne (by omega)]
        · rw [w788, s2, if_neg (by omega), w688, if_neg (by omega)]
        · rw [← hw7]
          show (wj (wa w5 92 p ((W - k : Nat) : Int)) 91 (46000 * p + (W - k)) (mk 5 ((U2 : Nat) : Int))).2.2.2 91 i = _
          rw [wj_row, if_neg (by omega)]
          show w5.2.2.2 91 i = _
          rw [s1.2.2.2 91 (by simp), w691]
        · rw [← hw7]
          show (wj (wa w5 92 p ((W - k : Nat) : Int)) 91 (46000 * p + (W - k)) (mk 5 ((U2 : Nat) : Int))).2.2.2 93 i = _
          rw [wj_22 (by omega)]
          show w5.2.2.2 93 i = _
          rw [s1.2.2.2 93 (by simp), ← hw6, wj_22 (by omega)]
          rfl
        · rw [← hw7]
          show (wj (wa w5 92 p ((W - k : Nat) : Int)) 91 (46000 * p + (W - k)) (mk 5 ((U2 : Nat) : Int))).2.2.2 107 i = _
          rw [wj_22 (by omega)]
          show w5.2.2.2 107 i = _
          rw [s1.2.2.2 107 (by simp), ← hw6, wj_22 (by omega)]
          rfl
      have m7q : ∀ d, d ≠ 4 → d ≠ 26 → d ≠ 45 → m7.1 (pq p d) = m4.1 (pq p d) := fun d h1 h2 h3 => by
        rw [t1.1 _ (by
          simp only [List.mem_cons, List.not_mem_nil, or_false]
          intro c
          rcases c with c | c | c | c
          · exact pq_inj h1 c
          · exact pq_inj h2 c
          · exact pq_inj h3 c
          · exact pq_n (by omega) c.symm), i6]
      have m7j : ∀ d, d ≠ 2 → d ≠ 35 → m7.2.2.2 (pq p d) = m4.2.2.2 (pq p d) := fun d h1 h2 => by
        rw [t1.2.2.2 _ (by simp; exact ⟨pq_inj h1, pq_inj h2⟩), ← hm6]
        exact wj_22 (pq_inj h1)
      have w7A : ∀ K i, K ≠ 89 → K ≠ 92 → w7.2.2.1 K i = w4.2.2.1 K i := fun K i h1 h2 => by
        rw [← hw7, wa_21 h2]
        show (wa w5 92 p ((W - k : Nat) : Int)).2.2.1 K i = _
        rw [wa_21 h2, s1.2.2.1 K (by simp), ← hw6]
        show (wa w4 89 p ((U2 + (k + 1) : Nat) : Int)).2.2.1 K i = _
        rw [wa_21 h1]
      have w791 : ∀ i, w7.2.2.2 91 i = if i = 46000 * p + (W - k) then mk 5 ((U2 : Nat) : Int) else w4.2.2.2 91 i := fun i => by
        rw [← hw7]
        show (wj (wa w5 92 p ((W - k : Nat) : Int)) 91 (46000 * p + (W - k)) (mk 5 ((U2 : Nat) : Int))).2.2.2 91 i = _
        rw [wj_row]
        by_cases c : i = 46000 * p + (W - k)
        · rw [if_pos c, if_pos c]
        · rw [if_neg c, if_neg c]
          show w5.2.2.2 91 i = _
          rw [s1.2.2.2 91 (by simp), w691]
      have w7J : ∀ K, K = 93 ∨ K = 107 → w7.2.2.2 K = w4.2.2.2 K := fun K h => by
        rw [← hw7]
        show (wj (wa w5 92 p ((W - k : Nat) : Int)) 91 (46000 * p + (W - k)) (mk 5 ((U2 : Nat) : Int))).2.2.2 K = _
        rw [wj_22 (by omega)]
        show w5.2.2.2 K = _
        rw [s1.2.2.2 K (by simp; omega), ← hw6, wj_22 (by omega)]
        rfl
      have pl7 : PLs (fun k a c => b2' k a c ∨ (k = so (mk 5 ((U2 : Nat) : Int)) ∧ a = U2 ∧ c = U2)) p m7 w7 (U2 + (k + 1)) B (W - k + 1) Y := by
        obtain ⟨⟨⟨q1, q2, q3⟩, q4, q5⟩, ⟨q6, q7, q8⟩, ⟨q9, q10, q11⟩, q12, q13, q14⟩ := pl4
        have up : ∀ {t x : Int64}, RTb b2' t x → RTb (fun k a c => b2' k a c ∨ (k = so (mk 5 ((U2 : Nat) : Int)) ∧ a = U2 ∧ c = U2)) t x := fun h => RTb_mo (fun _ _ _ c => Or.inl c) h
        refine ⟨⟨⟨t2, ?_, by omega⟩, is7, ?_⟩, ⟨?_, ?_, fun i hi => ?_⟩, ⟨t3, ?_, fun i hi => ?_⟩, ?_, ?_, fun i hi => ?_⟩
        · rw [← hw7, wa_rne (by omega)]
          show A (wa w5 92 p ((W - k : Nat) : Int)) 89 p = _
          rw [wa_rne (by omega), FR.A s1 (by simp), ← hw6]
          show A (wa w4 89 p ((U2 + (k + 1) : Nat) : Int)) 89 p = _
          rw [wa_sm (by omega) (by omega)]
        · rw [m7q 5 (by omega) (by omega) (by omega), w7A 90 p (by omega) (by omega)]; exact q5
        · rw [show F m7 (pq p 24) = F m4 (pq p 24) from congrArg Int32.toInt (m7q 24 (by omega) (by omega) (by omega))]; exact q6
        · rw [show A w7 94 p = A w4 94 p from congrArg Int32.toInt (w7A 94 p (by omega) (by omega))]; exact q7
        · rw [m7j 33 (by omega) (by omega), w7J 93 (by omega)]; exact up (q8 i hi)
        · rw [← hw7, wa_sm (by omega) (by omega)]
        · rw [t7 i (by omega), w791]
          by_cases c : i = W - k
          · rw [if_pos c, if_pos (by omega)]
            exact rt7
          · rw [if_neg c, if_neg (by omega), m635]
            exact up (q11 i (by omega))
        · rw [show F m7 (pq p 7) = F m4 (pq p 7) from congrArg Int32.toInt (m7q 7 (by omega) (by omega) (by omega))]; exact q12
        · rw [show A w7 108 p = A w4 108 p from congrArg Int32.toInt (w7A 108 p (by omega) (by omega))]; exact q13
        · rw [m7j 6 (by omega) (by omega), w7J 107 (by omega)]; exact up (q14 i hi)
      have x98' : A w7 98 (60 * p + j) = ((n + 1 : Nat) : Int) := by
        show (w7.2.2.1 98 _).toInt = _
        rw [w7A 98 _ (by omega) (by omega)]
        show A w4 98 (60 * p + j) = _
        rw [FR.A a5.1 (by simp), FR.A f3 (by simp)]
        exact x98
      exact kS _ _ m7 w7 pl7 (RUs_mv ru fm7 (FGw.tr g1 fw7) t4 x98' cr) fm7 (FGw.tr g1 fw7)
    · rw [show decide ((0 : Int32) = 0) = true from rfl, br_tq, show decide ((0 : Int32) = I ((0 : Nat) : Int)) = true from rfl, br_tq]
      have z33 : F w4 133 = ((p : Nat) : Int) := by rw [FR.F a5.1 (by simp)]; exact y33
      have g4 : FGw p j w w4 := FGw.tr g1 (FGw.tr fw2 (FGw_xr a5))
      have e109 : A w4 109 p ≠ 3 := by
        rw [FR.A g4.1 (by simp), r6]; omega
      have e150 : F w4 150 = ((ee' : Nat) : Int) := by
        rw [FR.F g4.1 (by simp)]; exact hee'.1
      rw [noR_e hpp z33 e109 e150 hee'.2]
      exact kE m5 w4 (FGm.tr fm2 (FGm_xr a4)) g4 h5
  · have cz' : ¬ Z' ≤ 500 := by omega
    rw [decide_eq_false (by omega), decide_eq_false (by omega), br_fq, br_fq]
    rw [show (11 : Int32) = I 11 from rfl, wrong_e, bnd_so]
    refine r_bb ?_
    exact kX m2 w2 fm2 (FGw.tr g1 fw2) pl2 ru2 (PTQ_same pt (fun d _ => f2.1 _ (by simp)) (fun d _ => jq d)) (CX_141 xc1 f3) (by rw [FR.F f3 (by simp), ← hw1]; exact h140)
end
end
section
set_option maxRecDepth 100000
section
variable {α β : Type} {b : Int → Nat → Nat → Prop} {Fv Fv' : Int64 → Int64 → Prop} {P P' : Int64 → Prop} {ow kd ow' kd' fa' : Nat → Nat} {N p U W Y l j a n na e q : Nat} {m w : MS} {nb : Nat → Nat} {Hs Os : Nat → List Nat} {O2 : List Nat} {v : Int} {Q : MS → α → MS → β → Prop} {K1 : MS → Option (MS × α)} {K2 : MS → Option (MS × β)}
theorem one_16 : fm_M_one N w (I v) (I 16) = bnd (fm_M_goTo N w (I v + 1)) (fun u7 _ => ck (inb (u7.1 133) (ln 94)) (lt (u7.2.2.1 94 (u7.1 133).toNatClampNeg) (fun y13 => ck (inb (I v) (ln 25)) (bnd (fm_M_top N u7 0) (fun u14 r14 => bnd (fm_M_fits N u14 (u7.2.2.1 25 (I v).toNatClampNeg) r14) (fun u15 r15 => br (decide (r15 = 0)) (ck (inb (u15.1 133) (ln 94)) (lt (upA u15 94 (upd (u15.2.2.1 94) (u15.1 133).toNatClampNeg y13)) (fun w16 => bnd (fm_M_top N w16 0) (fun u17 r17 => bnd (fr_M_errorOf N u17 13 r17) (fun u18 _ => some (u18, ())))))) (some (u15, ())))))))) := rfl
theorem op_match (hpp : p < 24) (pl : PLs b p m w U (nb j + (Hs j ++ Os j).length) (W + 1) Y) (ru : RUs m w p j nb Hs Os none a n) (hW : W + 1 ≤ 46000) (bB : nb j + (Hs j ++ Os j).length ≤ 2440) (hl : F m (pq p 45) = ((l : Nat) : Int)) (hl2 : W + 1 ≤ l ∧ l ≤ 1000000)
    (ft : FTx b Fv P Fv' P' ow kd ow' kd' p j (nb j) U na fa' (Hs j) m (wa w 98 (60 * p + j) ((n + 1 : Nat) : Int))) (pt : PTQ m p U ow kd Fv P (nb j + (Hs j ++ Os j).length) (W + 1) Y) (xc : CX w p (hp w p) U ow' kd' Fv' P' (W + 1) (nb j + (Hs j ++ Os j).length) Y) (h42 : ((nb j + (Hs j ++ Os j).length : Nat) : Int) ≤ F m (pq p 42)) (hN : 200000 ≤ N)
    (h25 : A w 25 n = ((q : Nat) : Int)) (ps : PTs (A m 23) (ROs w) (w.2.2.2 34) (Hs j) 230 (a + 1) q (Os j) e O2) (c8 : A m 23 e = 8) (he : e + 3 < 24000) (cr : ∃ f, CRs (A m 23) (ROs w) (w.2.2.2 34) f none (e + 1) (n + 1) (Hs j) O2)
    (kS : ∀ m3 w3, PLs b p m3 w3 U (nb j + (Hs j ++ O2).length) (W + 1) Y → RUs m3 w3 p j nb Hs (exO Os j O2) none (e + 1) (n + 1) → GGm p m m3 → GGw p w w3 → (SCs p m w → SCs p m3 w3) → PP Q (K1 m3) (K2 w3))
    (kX : ∀ m3 w3, PLs b p m3 w3 U (nb j + (Hs j ++ Os j).length) (W + 1) Y → RUb m3 w3 p j nb Hs Os none → GGm p m m3 → GGw p w w3 → (SCs p m w → SCs p m3 w3) → (w3.2.2.2 88 = w.2.2.2 88 ∧ w3.1 140 = w.1 140) → (∀ K, 102 ≤ K ∧ K ≤ 106 → w3.2.2.1 K = w.2.2.1 K) → m3.1 (pq p 28) = m.1 (pq p 28) → PP Q (K1 (tld m3 1 13 (m3.2.2.2 (pq p 35) W))) (bnd (fr_M_errorOf N w3 13 (w3.2.2.2 91 (46000 * p + W))) (fun u _ => K2 u))) : PP Q (bnd (hm_Ma_flow N m p (I 20)) (fun u _ => K1 u)) (bnd (fm_M_one N w (I ((n : Nat) : Int)) (I 16)) (fun u _ => K2 u)) := by
  obtain ⟨⟨fa, ct⟩, ⟨r2, r3⟩, ⟨f0, cr0⟩, ⟨r5, r6⟩, r7, ⟨r8, r9, r10⟩, r11, r12, r13⟩ := id ru
  have cb := CR_b cr0
  have nd := CR_n cr0
  have hj : j < 60 := fa.1.2.2
  have nr : q < 2147483648 := by
    have := A_r w 25 n
    rw [h25] at this
    omega
  obtain ⟨f9, cr9⟩ := cr
  have cb9 := CR_b cr9
  rw [flo20, one_16, I_F' r2, show I ((a : Nat) : Int) + 1 = I ((a + 1 : Nat) : Int) from addN, Co_e (k := a + 1) rfl (by omega), bnd_so, show I ((n : Nat) : Int) + 1 = I ((n + 1 : Nat) : Int) from addN]
  refine l_bb ?_
  refine rb_bnd (pk_mo (goto_r (N := N) (n := ((n + 1 : Nat) : Int)) hpp r11 fa.1.2.1 hj) (fun w1 _ h => ?_))
  subst h
  generalize hw1 : wa w 98 (60 * p + j) ((n + 1 : Nat) : Int) = w1 at *
  have w1R : ∀ K, K ≠ 98 → w1.2.2.1 K = w.2.2.1 K := fun K h => by rw [← hw1]; exact wa_21 h
  have w1A : ∀ K i, K ≠ 98 → A w1 K i = A w K i := fun K i h => by show (w1.2.2.1 K i).toInt = _; rw [w1R K h]; rfl
  have w1i : w1.1 = w.1 := by rw [← hw1]; rfl
  have w1J : w1.2.2.2 = w.2.2.2 := by rw [← hw1]; rfl
  have g1 : FGw p j w w1 := by rw [← hw1]; exact FGw.goto
  have x33 : F w1 133 = ((p : Nat) : Int) := by show (w1.1 133).toInt = _; rw [w1i]; exact r11
  have pl1 : PLs b p m w1 U (nb j + (Hs j ++ Os j).length) (W + 1) Y := by rw [← hw1]; exact PLs_98 pl
  have xc1 : CX w1 p (hp w1 p) U ow' kd' Fv' P' (W + 1) (nb j + (Hs j ++ Os j).length) Y := by rw [← hw1]; exact CX_98 xc
  have pr1 : ∀ K, PRr K → w1.2.2.1 K = w.2.2.1 K := fun K h => w1R K (by unfold PRr at h; omega)
  have ru1 : RUb m w1 p j nb Hs Os none := RUb_fg (RUs_b ru) FGm.rf g1
  have e94 : A w1 94 p = ((nb j + (Hs j ++ Os j).length : Nat) : Int) := pl1.2.1.2.1
  have e25 : A w1 25 n = ((q : Nat) : Int) := (w1A 25 n (by omega)).trans h25
  refine rb_ck (fun _ => ?_)
  rw [lt_e]
  refine rb_ck (fun _ => ?_)
  rw [I_F' x33, tnI (n := p) rfl (by omega), I_A' e94, tnI (n := n) rfl (by omega), I_A' e25, show (0 : Int32) = I ((0 : Nat) : Int) from rfl]
  refine rb_bnd (pk_mo (top_r (N := N) (k := 0) hpp x33 pl1.2.2.1.2.1 hW (by omega)) (fun w2 r h => ?_))
  obtain ⟨rfl, rfl⟩ := h
  rw [show W + 1 - 1 - 0 = W by omega]
  unfold hm_Ma_match hb_Ma_match_0 hb_Ma_match_73
  have be : ∀ u : MS, F u (pq p 26) = ((W + 1 : Nat) : Int) → F u (pq p 45) = ((l : Nat) : Int) → hm_Fr_below N u p 0 = some (u, u.2.2.2 (pq p 35) W) := fun u h1 h2 => by
    have := below_e (N := N) (x := 0) (k := 0) (W := W + 1) (l := l) h1 h2 hl2.1 hl2.2 rfl (by omega)
    rw [show W + 1 - 1 - 0 = W by omega] at this
    exact this
  rw [show (I ((0 : Nat) : Int)) = (0 : Int32) from rfl, be m pl.2.2.1.1 hl, bnd_so, show inb (0 : Int32) 2048 = true from rfl, ck_t, show (0 : Int32).toNatClampNeg = 0 from rfl, wj_e, lt_e]
  have fJ : FR [] [] [] [44] m (wj m 44 0 (m.2.2.2 (pq p 35) W)) := FR.wj FR.rf (by simp)
  have e5 : F (wj m 44 0 (m.2.2.2 (pq p 35) W)) 1105 = ((a : Nat) : Int) := r2
  have nms : NMs m p (nb j) (Hs j ++ Os j) := (fa.2.1 j (Nat.le_refl _)).2.2.2.2.2
  obtain ⟨⟨l3, cl1, cl2, cl3⟩, -⟩ := pt.2.2.2.2
  have fs0 : FSt b P P' ow kd ow' kd' p (nb j + (Hs j ++ Os j).length) (nb j) U (W + 1) Y (Hs j) (Os j) m w2 m w2 := ⟨⟨FIx.rf, ⟨_, Nat.le_refl _, pl1.2.1.1, by rw [cl1]; omega, h42⟩, fun _ _ => ⟨rfl, rfl⟩⟩, ⟨FR.rf, fun _ _ => rfl, fun _ _ => rfl⟩, pl1, nms, ⟨Nat.le_refl _, nd.1⟩, fun k hk => ⟨pl1.2.1.2.2 k hk, pt.2.1.2 k hk, xc1.2.2.2.2.2.2.2.2.1 k hk⟩⟩
  have tp : TPb b U ow kd P U ow' kd' P' (m.2.2.2 (pq p 35) W) (w2.2.2.2 91 (46000 * p + W)) := ⟨pl1.2.2.1.2.2 W (by omega), pt.2.2.1.2 W (by omega), xc1.2.2.2.2.2.2.2.1 W (by omega)⟩
  rw [I_F' e5, show I ((a : Nat) : Int) + 1 = I ((a + 1 : Nat) : Int) from addN, show (1 : Int32) = I ((0 + 1 : Nat) : Int) from rfl]
  have ps1 : PTs (A m 23) (ROs w2) (w2.2.2.2 34) (Hs j) 230 (a + 1) q (Os j) e O2 := by rw [ROs_eq pr1, w1J]; exact ps
  have hlen : nb j + (Hs j ++ O2).length ≤ 2500 := by
    rw [List.length_append] at bB ⊢
    omega
  refine l_bb (r_bb ?_)
  refine pp_lk (fit_1p (Q := fun m3 r3 w3 r4 => PP Q (bnd (br (decide (r3 = (-1))) (lt (upI m3 (pq p 24) (m.1 (pq p 24))) (fun w17 => bnd (hm_Fr_below N w17 p 0) (fun u19 r19 => bnd (hm_Ma_tell N u19 p 1 13 r19) (fun u21 r21 => some (u21, ()))))) (lt (upI m3 1105 r3) (fun w14 => some (w14, ())))) (fun u r => bnd (some (u, r)) (fun u _ => K1 u))) (bnd (br (decide (r4 = 0)) (ck (inb (w3.1 133) (ln 94)) (lt (upA w3 94 (upd (w3.2.2.1 94) (w3.1 133).toNatClampNeg (I ((nb j + (Hs j ++ Os j).length : Nat) : Int)))) (fun w16 => bnd (fm_M_top N w16 0) (fun u17 r17 => bnd (fr_M_errorOf N u17 13 r17) (fun u18 _ => some (u18, ())))))) (some (w3, ()))) (fun u _ => K2 u))) (K := fun u r => some (u, r)) (t := m.2.2.2 (pq p 35) W) ft ps1 c8 (FSt_m fs0 (FR.mo fJ (by simp) (by simp) (by simp) (by simp))) (by rw [wj_row, if_pos rfl]) tp nr he (Nat.le_refl _) hlen hN (fun m3 w3 nf fw => pp_end ?_) (fun m3 w3 fs => pp_end ?_))
  · 
    rw [show decide ((-1 : Int32) = -1) = true from rfl, br_tq, show decide ((0 : Int32) = 0) = true from rfl, br_tq, I_F' pl.2.1.1, wi_e, lt_e]
    generalize hm4 : wi m3 (pq p 24) ((nb j + (Hs j ++ Os j).length : Nat) : Int) = m4
    have nf4 : NFx p (nb j + (Hs j ++ Os j).length) m m4 := by rw [← hm4]; exact NFx_24 nf (by omega)
    have f26 : F m4 (pq p 26) = ((W + 1 : Nat) : Int) := (congrArg Int32.toInt (NF_q nf4 (by omega) (by omega) (by omega) (by omega))).trans pl.2.2.1.1
    have f45 : F m4 (pq p 45) = ((l : Nat) : Int) := (congrArg Int32.toInt (NF_q nf4 (by omega) (by omega) (by omega) (by omega))).trans hl
    rw [be m4 f26 f45, bnd_so, show (1 : Int32) = I 1 from rfl, show (13 : Int32) = I 13 from rfl, tell_e, bnd_so, bnd_so, bnd_so]
    have y33 : F w3 133 = ((p : Nat) : Int) := by rw [FR.F fw.1 (by simp)]; exact x33
    refine rb_ck (fun _ => ?_)
    rw [I_F' y33, tnI (n := p) rfl (by omega), wa_e, lt_e]
    generalize hw5 : wa w3 94 p ((nb j + (Hs j ++ Os j).length : Nat) : Int) = w5
    have pl5 : PLs b p m4 w5 U (nb j + (Hs j ++ Os j).length) (W + 1) Y := by rw [← hm4, ← hw5]; exact PLs_fail pl1 nf fw (by omega)
    have y335 : F w5 133 = ((p : Nat) : Int) := by rw [← hw5]; exact y33
    have nms4 : NMs m4 p (nb j) (Hs j ++ Os j) := fun i x hx => by
      have il : i < (Hs j ++ Os j).length := (List.getElem?_eq_some_iff.mp hx).1
      show (m4.2.2.1 (pq p 32) (nb j + i)).toInt = _
      rw [(nf4.2.2 (nb j + i) (by omega)).1]
      exact nms i x hx
    have ru4 : RUb m4 w3 p j nb Hs Os none := by
      have := RUb_nf ru1 (O2 := Os j) ⟨[], by simp⟩ nf4 fw nms4 (by rw [← hm4, wi_sm (by omega) (by omega)]) rfl
      rw [exO_id] at this
      exact this
    have ru5 : RUb m4 w5 p j nb Hs Os none := by rw [← hw5]; exact RUb_94 ru4
    rw [show (0 : Int32) = I ((0 : Nat) : Int) from rfl]
    refine rb_bnd (pk_mo (top_r (N := N) (k := 0) hpp y335 pl5.2.2.1.2.1 hW (by omega)) (fun w6 r h => ?_))
    obtain ⟨rfl, rfl⟩ := h
    rw [show W + 1 - 1 - 0 = W by omega]
    refine r_bb ?_
    refine kX m4 w6 pl5 ru5 (GGm_nf nf4) ?_ (fun s => ?_) ⟨?_, ?_⟩ (fun K hK => ?_) (NF_q nf4 (by omega) (by omega) (by omega) (by omega))
    · rw [← hw5]
      exact GGw.tr (GGw_fg g1 hj) (GGw.tr (GGw_fw fw) GGw_94)
    · rw [← hw5]
      exact SC_94 (SC_ow (SC_fg s FGm.rf g1) (fun d hd => NF_q nf4 (by omega) (by omega) (by omega) (by omega)) (nf4.1.2.2.2.2.2.2.1 p 14 (by omega) (fun _ => by simp)) (fun K h1 h2 => fw.1.2.2.1 K (by simp; omega)))
    · rw [← hw5]
      exact (fw.1.2.2.2 88 (by simp)).trans (by rw [w1J])
    · rw [← hw5]
      exact (fw.1.1 140 (by simp)).trans (by rw [w1i])
    · rw [← hw5, wa_21 (by omega)]
      exact (fw.1.2.2.1 K (by simp; omega)).trans (w1R K (by omega))
  · 
    obtain ⟨nf, fw, pl3, nms3, ⟨hle, nd3⟩, -⟩ := fs
    rw [m1I, decE (by omega) (by omega) (by omega) (by omega), decide_eq_false (by omega), br_fq, show decide ((1 : Int32) = 0) = false from rfl, br_fq, wi_e, lt_e, bnd_so, bnd_so, bnd_so]
    have hX := PTs_pre ps
    have ru3 : RUb (wi m3 1105 ((e + 1 : Nat) : Int)) w3 p j nb Hs (exO Os j O2) none := RUb_pm (RUb_nf ru1 hX nf fw nms3 pl3.2.1.1 rfl)
    have pr3 : ∀ K, PRr K → w3.2.2.1 K = w2.2.2.1 K := fun K h => fw.1.2.2.1 K (by unfold PRr at h; simp; omega)
    obtain ⟨t1, t2, t3, t4, t5, t6⟩ := ru3
    refine kS _ w3 (PLs_pc pl3) ⟨t1, ⟨wi_sm (by omega) (by omega), ?_⟩, ⟨f9, ?_⟩, t2, t3, t4, t5, t6⟩ (GGm.tr (GGm_nf nf) (GGm_reg (by omega))) (GGw.tr (GGw_fg g1 hj) (GGw_fw fw)) (fun s => SC_ow (SC_fg s FGm.rf g1) (fun d hd => ?_) ?_ (fun K h1 h2 => fw.1.2.2.1 K (by simp; omega)))
    · rw [FR.A fw.1 (by simp), ← hw1, wa_sm (by omega) (by omega)]
    · rw [show A (wi m3 1105 ((e + 1 : Nat) : Int)) 23 = A m3 23 from rfl, nf.c, ROs_eq pr3, ROs_eq pr1, fw.1.2.2.2 34 (by simp), w1J, exO_j]
      exact cr9
    · rw [wi_1 (fun c => pq_n (by omega) c.symm)]
      exact NF_q nf (by omega) (by omega) (by omega) (by omega)
    · exact nf.1.2.2.2.2.2.2.1 p 14 (by omega) (fun _ => by simp)
end
end
section
set_option maxRecDepth 100000
def lsC (h h0 : Nat → Int64) (U s l : Nat) (xx : Nat → Int64) (te : Int64) : Prop := (∀ i, i < U → h i = h0 i) ∧ ∀ r, r < s → h (U + 2 * r) = xx (l - 1 - r) ∧ h (U + 2 * r + 1) = (if r = 0 then te else mk 7 ((U + 2 * (r - 1) : Nat) : Int))
def lsM (h h0 : Nat → Int64) (U s : Nat) (tt : Nat → Int64) : Prop := (∀ i, i < U → h i = h0 i) ∧ ∀ r, r < s → h (U + 2 * r) = tt r ∧ h (U + 2 * r + 1) = mk 7 ((U + 2 * (r + 1) : Nat) : Int)
section
variable {N p U l : Nat} {m w w0 m0 : MS} {x t te : Int64} {xx tt : Nat → Int64}
theorem pair_r (hpp : p < 24) (h133 : F w 133 = ((p : Nat) : Int)) (h89 : A w 89 p = ((U : Nat) : Int)) (hU : U + 2 ≤ 500) : PK (fun w2 r => w2 = wa (wj (wj w 88 (500 * p + U) x) 88 (500 * p + U + 1) t) 89 p ((U + 2 : Nat) : Int) ∧ r = I ((U : Nat) : Int)) (fm_M_pair N w x t) := by
  unfold fm_M_pair fb_M_pair_0
  have s1 : I ((p : Nat) : Int) * 500 + I ((U : Nat) : Int) = I ((500 * p + U : Nat) : Int) := by
    rw [show (500 : Int32) = I 500 from rfl, I_mul, I_add]
    congr 1
    omega
  have s2 : I ((500 * p + U : Nat) : Int) + 1 = I ((500 * p + U + 1 : Nat) : Int) := addN
  refine pk_ck (fun _ => ?_)
  rw [I_F' h133, tnI (n := p) rfl (by omega), I_A' h89, lt_e, s1]
  refine pk_ck (fun _ => ?_)
  rw [tnI (n := 500 * p + U) rfl (by omega), wj_e, lt_e]
  have e1 : F (wj w 88 (500 * p + U) x) 133 = ((p : Nat) : Int) := h133
  rw [I_F' e1, s1, s2]
  refine pk_ck (fun _ => ?_)
  rw [tnI (n := 500 * p + U + 1) rfl (by omega), wj_e, lt_e]
  have e2 : F (wj (wj w 88 (500 * p + U) x) 88 (500 * p + U + 1) t) 133 = ((p : Nat) : Int) := h133
  have e3 : A (wj (wj w 88 (500 * p + U) x) 88 (500 * p + U + 1) t) 89 p = ((U : Nat) : Int) := h89
  refine pk_ck (fun _ => pk_ck (fun _ => ?_))
  rw [I_F' e2, tnI (n := p) rfl (by omega), I_A' e3, show I ((U : Nat) : Int) + 2 = I ((U + 2 : Nat) : Int) from addN, wa_e, lt_e]
  exact pk_some ⟨rfl, rfl⟩
theorem hp_pair {i : Nat} {z : Int} : hp (wa (wj (wj w 88 (500 * p + U) x) 88 (500 * p + U + 1) t) 89 p z) p i = if i = U + 1 then t else if i = U then x else hp w p i := by
  show (wj (wj w 88 (500 * p + U) x) 88 (500 * p + U + 1) t).2.2.2 88 (500 * p + i) = _
  rw [wj_row]
  by_cases c : i = U + 1
  · rw [if_pos c, if_pos (by omega)]
  · rw [if_neg c, if_neg (by omega), wj_row]
    by_cases c2 : i = U
    · rw [if_pos c2, if_pos (by omega)]
    · rw [if_neg c2, if_neg (by omega)]
      rfl
theorem lsC_s {s : Nat} {z : Int} (h : lsC (hp w p) (hp w0 p) U s l xx te) (hx : x = xx (l - 1 - s)) (ht : t = (if s = 0 then te else mk 7 ((U + 2 * (s - 1) : Nat) : Int))) : lsC (hp (wa (wj (wj w 88 (500 * p + (U + 2 * s)) x) 88 (500 * p + (U + 2 * s) + 1) t) 89 p z) p) (hp w0 p) U (s + 1) l xx te := by
  refine ⟨fun i hi => ?_, fun r hr => ?_⟩
  · rw [hp_pair, if_neg (by omega), if_neg (by omega)]
    exact h.1 i hi
  · by_cases c : r = s
    · subst c
      rw [hp_pair, if_neg (by omega), if_pos rfl, hp_pair, if_pos rfl]
      exact ⟨hx, ht⟩
    · obtain ⟨a1, a2⟩ := h.2 r (by omega)
      rw [hp_pair, if_neg (by omega), if_neg (by omega), hp_pair, if_neg (by omega), if_neg (by omega)]
      exact ⟨a1, a2⟩
theorem FR_pair {i : Nat} {z : Int} (f : FR [] [] [89] [88] w0 w) : FR [] [] [89] [88] w0 (wa (wj (wj w 88 i x) 88 (i + 1) t) 89 p z) := FR.wa (FR.wj (FR.wj f (by simp)) (by simp)) (by simp)
end
section
variable {N p U W l s0 bb : Nat} {w w0 : MS} {te : Int64}
theorem str_r (hpp : p < 24) (h133 : F w0 133 = ((p : Nat) : Int)) (h92 : A w0 92 p = ((W : Nat) : Int)) (hW : W ≤ 46000) (h19 : A w0 19 s0 = ((bb : Nat) : Int)) (hs0 : s0 < 100000) (hbl : bb + l < 1000000) (hU : U + 2 * l ≤ 500) : ∀ (d M : Nat) (w : MS) (s : Nat) (t : Int64), s + d = l → FR [] [] [89] [88] w0 w → A w 89 p = ((U + 2 * s : Nat) : Int) → (∀ r, r ≠ p → A w 89 r = A w0 89 r) → (∀ i, ¬ (500 * p ≤ i ∧ i < 500 * p + 500) → w.2.2.2 88 i = w0.2.2.2 88 i) → lsC (hp w p) (hp w0 p) U s l (fun i => mk 0 (A w0 18 (bb + i))) te → t = (if s = 0 then te else mk 7 ((U + 2 * (s - 1) : Nat) : Int)) → PK (fun w2 (_ : Unit) => ∃ w1 : MS, FR [] [] [89] [88] w0 w1 ∧ A w1 89 p = ((U + 2 * l : Nat) : Int) ∧ (∀ r, r ≠ p → A w1 89 r = A w0 89 r) ∧ (∀ i, ¬ (500 * p ≤ i ∧ i < 500 * p + 500) → w1.2.2.2 88 i = w0.2.2.2 88 i) ∧ lsC (hp w1 p) (hp w0 p) U l l (fun i => mk 0 (A w0 18 (bb + i))) te ∧ w2 = wa (wj w1 91 (46000 * p + W) (if l = 0 then te else mk 7 ((U + 2 * (l - 1) : Nat) : Int))) 92 p ((W + 1 : Nat) : Int)) (gg_M_stringRun N M w (I ((s0 : Nat) : Int)) t (I (((l : Nat) : Int) - 1 - ((s : Nat) : Int)))) := by
  intro d
  induction d with
  | zero =>
    intro M w s t hs fr h89 ho1 ho2 ls ht
    have : s = l := by omega
    subst this
    cases M with
    | zero => exact pk_none
    | succ M =>
    show PK _ (fb_M_stringRun_47 N (gg_M_stringRun N M) w (I ((s0 : Nat) : Int)) t (I (((s : Nat) : Int) - 1 - ((s : Nat) : Int))))
    unfold fb_M_stringRun_47
    have x33 : F w 133 = ((p : Nat) : Int) := by rw [FR.F fr (by simp)]; exact h133
    have x92 : A w 92 p = ((W : Nat) : Int) := by rw [FR.A fr (by simp)]; exact h92
    rw [show ((s : Nat) : Int) - 1 - ((s : Nat) : Int) = -1 by omega, show decide (I (-1) < 0) = true from rfl, br_tq]
    refine pk_bnd (pk_mo (put_r (N := N) (x := t) hpp x33 x92 hW) (fun w2 _ e => ?_))
    subst e
    exact pk_some ⟨w, fr, h89, ho1, ho2, ls, by rw [ht]⟩
  | succ d ih =>
    intro M w s t hs fr h89 ho1 ho2 ls ht
    cases M with
    | zero => exact pk_none
    | succ M =>
    show PK _ (fb_M_stringRun_47 N (gg_M_stringRun N M) w (I ((s0 : Nat) : Int)) t (I (((l : Nat) : Int) - 1 - ((s : Nat) : Int))))
    unfold fb_M_stringRun_47
    have x33 : F w 133 = ((p : Nat) : Int) := by rw [FR.F fr (by simp)]; exact h133
    have x19 : A w 19 s0 = ((bb : Nat) : Int) := by rw [FR.A fr (by simp)]; exact h19
    rw [show ((l : Nat) : Int) - 1 - ((s : Nat) : Int) = ((l - 1 - s : Nat) : Int) by omega, d_lt0 (by omega), br_fq]
    refine pk_ck (fun _ => ?_)
    rw [tnI (n := s0) rfl (by omega), I_A' x19, addN]
    refine pk_ck (fun _ => ?_)
    rw [tnI (n := bb + (l - 1 - s)) rfl (by omega), I_A (k := 18), lit0q, term_e, bnd_so, FR.A fr (by simp)]
    refine pk_bnd (pk_mo (pair_r (N := N) (U := U + 2 * s) hpp x33 h89 (by omega)) (fun w2 r e => ?_))
    obtain ⟨rfl, rfl⟩ := e
    rw [show (7 : Int32) = I 7 from rfl, term_e, bnd_so, show I ((l - 1 - s : Nat) : Int) + -1 = I (((l : Nat) : Int) - 1 - ((s + 1 : Nat) : Int)) by rw [m1I, I_add]; congr 1; omega]
    refine ih M _ (s + 1) _ (by omega) (FR_pair fr) ?_ (fun r hr => ?_) (fun i hi => ?_) (lsC_s ls rfl ht) ?_
    · rw [wa_sm (by omega) (by omega)]
      congr 1
    · rw [wa_ro (by omega) (by omega), if_neg hr]
      exact ho1 r hr
    · show (wj (wj w 88 (500 * p + (U + 2 * s)) _) 88 (500 * p + (U + 2 * s) + 1) t).2.2.2 88 i = _
      rw [wj_row, if_neg (by omega), wj_row, if_neg (by omega)]
      exact ho2 i hi
    · rw [if_neg (by omega), show s + 1 - 1 = s by omega]
end
section
variable {N p U W l a lc : Nat} {m m0 : MS}
theorem str_m (h26 : F m0 (pq p 26) = ((W : Nat) : Int)) (hl : F m0 (pq p 45) = ((lc : Nat) : Int)) (hl2 : W ≤ lc ∧ lc ≤ 1000000) (h5 : F m0 1105 = ((a : Nat) : Int)) (ha : a + 2 + l < 24000) (hU : U + 2 * l ≤ 500) : ∀ (d M : Nat) (m : MS) (s : Nat), s + d = l → FR [] [] [] [pq p 2] m0 m → lsM (m.2.2.2 (pq p 2)) (m0.2.2.2 (pq p 2)) U s (fun i => mk 0 (A m0 23 (a + 2 + i))) → PK (fun m2 (_ : Unit) => FR [pq p 4, pq p 26, pq p 45, 1105] [] [] [pq p 2, pq p 35] m0 m2 ∧ F m2 (pq p 4) = ((U + 2 * l : Nat) : Int) ∧ F m2 (pq p 26) = ((W + 1 : Nat) : Int) ∧ F m2 1105 = ((a + 2 + l : Nat) : Int) ∧ (∀ i, i < U → m2.2.2.2 (pq p 2) i = m0.2.2.2 (pq p 2) i) ∧ (∀ r, r < l → m2.2.2.2 (pq p 2) (U + 2 * r) = mk 0 (A m0 23 (a + 2 + r)) ∧ m2.2.2.2 (pq p 2) (U + 2 * r + 1) = (if r + 1 = l then mk 6 0 else mk 7 ((U + 2 * (r + 1) : Nat) : Int))) ∧ ∀ i, i ≤ W → m2.2.2.2 (pq p 35) i = if i = W then (if l = 0 then mk 6 0 else mk 7 ((U : Nat) : Int)) else m0.2.2.2 (pq p 35) i) (hg_Ma_string N M m p (I ((l : Nat) : Int)) (I ((U : Nat) : Int)) (I ((s : Nat) : Int))) := by
  intro d
  induction d with
  | zero =>
    intro M m s hs fr ls
    have : s = l := by omega
    subst this
    cases M with
    | zero => exact pk_none
    | succ M =>
    show PK _ (hb_Ma_string_21 N (hg_Ma_string N M) m p (I ((s : Nat) : Int)) (I ((U : Nat) : Int)) (I ((s : Nat) : Int)))
    unfold hb_Ma_string_21
    rw [decI (by omega) (by omega) (by omega) (by omega), decide_eq_true (by omega), br_tq, show (6 : Int32) = I 6 from rfl, show (0 : Int32) = I 0 from rfl, e_make, bnd_so]
    have el : ∃ m1 : MS, hm_Ma_endList N m p (I ((U : Nat) : Int)) (I ((s : Nat) : Int)) (mk 6 0) = some (wi m1 (pq p 4) ((U + 2 * s : Nat) : Int), ()) ∧ FR [] [] [] [pq p 2] m0 m1 ∧ ∀ i, m1.2.2.2 (pq p 2) i = if 0 < s ∧ i = U + 2 * s - 1 then mk 6 0 else m.2.2.2 (pq p 2) i := by
      unfold hm_Ma_endList hb_Ma_endList_0 hb_Ma_endList_20
      have s1 : I ((U : Nat) : Int) + 2 * I ((s : Nat) : Int) = I ((U + 2 * s : Nat) : Int) := by
        rw [show (2 : Int32) = I 2 from rfl, I_mul, I_add]
        congr 1 <;> omega
      rw [s1]
      by_cases c : s = 0
      · subst c
        rw [show decide (I ((0 : Nat) : Int) ≤ 0) = true from rfl, br_tq, wi_e, lt_e]
        exact ⟨m, rfl, fr, fun i => by rw [if_neg (by omega)]⟩
      · rw [lit0q, decI (by omega) (by omega) (by omega) (by omega), decide_eq_false (by omega), br_fq, show I ((U + 2 * s : Nat) : Int) - 1 = I ((U + 2 * s - 1 : Nat) : Int) by rw [lit1q, I_sub]; congr 1; omega, (I_inb (by omega) (by omega)).mpr ⟨by omega, by omega⟩, ck_t, tnI (n := U + 2 * s - 1) rfl (by omega), wj_e, lt_e, wi_e, lt_e]
        refine ⟨wj m (pq p 2) (U + 2 * s - 1) (mk 6 0), rfl, FR.wj fr (by simp), fun i => ?_⟩
        rw [wj_row]
        by_cases c2 : i = U + 2 * s - 1
        · rw [if_pos c2, if_pos ⟨by omega, c2⟩]
        · rw [if_neg c2, if_neg (fun z => c2 z.2)]
    obtain ⟨m1, el, f1, c1⟩ := el
    rw [el, bnd_so]
    have tail : ∀ x : Int64, x = (if s = 0 then mk 6 0 else mk 7 ((U : Nat) : Int)) → PK (fun m2 (_ : Unit) => FR [pq p 4, pq p 26, pq p 45, 1105] [] [] [pq p 2, pq p 35] m0 m2 ∧ F m2 (pq p 4) = ((U + 2 * s : Nat) : Int) ∧ F m2 (pq p 26) = ((W + 1 : Nat) : Int) ∧ F m2 1105 = ((a + 2 + s : Nat) : Int) ∧ (∀ i, i < U → m2.2.2.2 (pq p 2) i = m0.2.2.2 (pq p 2) i) ∧ (∀ r, r < s → m2.2.2.2 (pq p 2) (U + 2 * r) = mk 0 (A m0 23 (a + 2 + r)) ∧ m2.2.2.2 (pq p 2) (U + 2 * r + 1) = (if r + 1 = s then mk 6 0 else mk 7 ((U + 2 * (r + 1) : Nat) : Int))) ∧ ∀ i, i ≤ W → m2.2.2.2 (pq p 35) i = if i = W then (if s = 0 then mk 6 0 else mk 7 ((U : Nat) : Int)) else m0.2.2.2 (pq p 35) i) (hb_Ma_string_126 N (hg_Ma_string N M) (wi m1 (pq p 4) ((U + 2 * s : Nat) : Int)) p (I ((s : Nat) : Int)) p x) := fun x hx => by
      unfold hb_Ma_string_126
      have e26 : F (wi m1 (pq p 4) ((U + 2 * s : Nat) : Int)) (pq p 26) = ((W : Nat) : Int) := by rw [wi_ne (pq_inj (by omega)), FR.F f1 (by simp)]; exact h26
      have e45 : F (wi m1 (pq p 4) ((U + 2 * s : Nat) : Int)) (pq p 45) = ((lc : Nat) : Int) := by rw [wi_ne (pq_inj (by omega)), FR.F f1 (by simp)]; exact hl
      refine pk_bnd (pk_mo (push_m (N := N) (t := x) e26 e45 hl2.1 hl2.2) (fun m2 _ hh => ?_))
      obtain ⟨z1, z2, z3⟩ := hh
      have e5 : F m2 1105 = ((a : Nat) : Int) := by
        rw [FR.F z1 (by simp [pq_n]), wi_ne (pq_n (by omega)), FR.F f1 (by simp)]
        exact h5
      rw [I_F' e5, show (2 : Int32) + I ((s : Nat) : Int) = I ((2 + s : Nat) : Int) from addN, addN, wi_e, lt_e]
      have j2 : m2.2.2.2 (pq p 2) = m1.2.2.2 (pq p 2) := z1.2.2.2 _ (by simp; exact pq_inj (by omega))
      refine pk_some ⟨?_, ?_, ?_, ?_, fun i hi => ?_, fun r hr => ⟨?_, ?_⟩, fun i hi => ?_⟩
      · exact FR.wi (FR.tr (FR.wi (FR.mo f1 (by simp) (by simp) (by simp) (by simp)) (by simp)) (FR.mo z1 (by simp) (by simp) (by simp) (by simp))) (by simp)
      · rw [wi_ne (fun c => pq_n (by omega) c.symm), FR.F z1 (by simp; exact ⟨pq_inj (by omega), pq_inj (by omega)⟩), wi_sm (by omega) (by omega)]
      · rw [wi_ne (fun c => pq_n (by omega) c.symm)]
        exact z2
      · rw [wi_sm (by omega) (by omega)]
        congr 1
        omega
      · show m2.2.2.2 (pq p 2) i = _
        rw [j2, c1, if_neg (by omega)]
        exact ls.1 i hi
      · show m2.2.2.2 (pq p 2) (U + 2 * r) = _
        rw [j2, c1, if_neg (by omega)]
        exact (ls.2 r hr).1
      · show m2.2.2.2 (pq p 2) (U + 2 * r + 1) = _
        rw [j2, c1]
        by_cases c : r + 1 = s
        · rw [if_pos (by omega), if_pos c]
        · rw [if_neg (by omega), if_neg c]
          exact (ls.2 r hr).2
      · show m2.2.2.2 (pq p 35) i = _
        rw [z3 i hi, ← hx]
        by_cases c : i = W
        · rw [if_pos c, if_pos c]
        · rw [if_neg c, if_neg c]
          show m1.2.2.2 (pq p 35) i = _
          rw [f1.2.2.2 _ (by simp; exact pq_inj (by omega))]
    by_cases c : s = 0
    · rw [decE (by omega) (by omega) (by omega) (by omega), decide_eq_true (by omega), br_tq, e_make, bnd_so]
      exact tail (mk 6 0) (by rw [if_pos c])
    · rw [decE (by omega) (by omega) (by omega) (by omega), decide_eq_false (by omega), br_fq, show (7 : Int32) = I 7 from rfl, e_make, bnd_so]
      exact tail (mk 7 ((U : Nat) : Int)) (by rw [if_neg c])
  | succ d ih =>
    intro M m s hs fr ls
    cases M with
    | zero => exact pk_none
    | succ M =>
    show PK _ (hb_Ma_string_21 N (hg_Ma_string N M) m p (I ((l : Nat) : Int)) (I ((U : Nat) : Int)) (I ((s : Nat) : Int)))
    unfold hb_Ma_string_21
    have e5 : F m 1105 = ((a : Nat) : Int) := by rw [FR.F fr (by simp [pq_n])]; exact h5
    have e23 : A m 23 (a + 2 + s) = A m0 23 (a + 2 + s) := FR.A fr (by simp)
    have s1 : I ((U : Nat) : Int) + 2 * I ((s : Nat) : Int) = I ((U + 2 * s : Nat) : Int) := by
      rw [show (2 : Int32) = I 2 from rfl, I_mul, I_add]
      congr 1 <;> omega
    rw [decI (by omega) (by omega) (by omega) (by omega), decide_eq_false (by omega), br_fq, I_F' e5, show I ((a : Nat) : Int) + 2 = I ((a + 2 : Nat) : Int) from addN, addN, Co_e (k := a + 2 + s) rfl (by omega), bnd_so, e23, lit0q, e_make, bnd_so, s1, (I_inb (by omega) (by omega)).mpr ⟨by omega, by omega⟩, ck_t, tnI (n := U + 2 * s) rfl (by omega), wj_e, lt_e, show I ((U + 2 * s : Nat) : Int) + 2 = I ((U + 2 * s + 2 : Nat) : Int) from addN, show (7 : Int32) = I 7 from rfl, e_make, bnd_so, show I ((U + 2 * s : Nat) : Int) + 1 = I ((U + 2 * s + 1 : Nat) : Int) from addN, (I_inb (by omega) (by omega)).mpr ⟨by omega, by omega⟩, ck_t, tnI (n := U + 2 * s + 1) rfl (by omega), wj_e, lt_e, show I ((s : Nat) : Int) + 1 = I ((s + 1 : Nat) : Int) from addN]
    refine ih M _ (s + 1) (by omega) (FR.wj (FR.wj fr (by simp)) (by simp)) ⟨fun i hi => ?_, fun r hr => ?_⟩
    · rw [wj_row, if_neg (by omega), wj_row, if_neg (by omega)]
      exact ls.1 i hi
    · by_cases c : r = s
      · subst c
        rw [wj_row, if_neg (by omega), wj_row, if_pos rfl, wj_row, if_pos rfl]
        exact ⟨rfl, by congr 1⟩
      · rw [wj_row, if_neg (by omega), wj_row, if_neg (by omega), wj_row, if_neg (by omega), wj_row, if_neg (by omega)]
        exact ls.2 r (by omega)
end
end
section
set_option maxRecDepth 100000
section
variable {b b3 : Int → Nat → Nat → Prop} {p U U3 B W W3 Y j l : Nat} {m w m7 w7 w1 : MS} {t x : Int64}
theorem PLs_mk (pl : PLs b p m w U B W Y) (up : ∀ k a c, b k a c → b3 k a c) (t1 : FR [pq p 4, pq p 26, pq p 45, 1105] [] [] [pq p 2, pq p 35] m m7) (e4 : F m7 (pq p 4) = ((U3 : Nat) : Int)) (e26 : F m7 (pq p 26) = ((W3 + 1 : Nat) : Int)) (hW3 : W3 ≤ W) (top : ∀ i, i ≤ W3 → m7.2.2.2 (pq p 35) i = if i = W3 then t else m.2.2.2 (pq p 35) i) (f1 : FR [] [] [89, 92] [88, 91] w w7) (e89 : A w7 89 p = ((U3 : Nat) : Int)) (hU3 : U3 ≤ 500) (e92 : A w7 92 p = ((W3 + 1 : Nat) : Int)) (top' : ∀ i, i ≤ W3 → w7.2.2.2 91 (46000 * p + i) = if i = W3 then x else w.2.2.2 91 (46000 * p + i)) (is : ISb b3 (m7.2.2.2 (pq p 2)) U3 (hp w7 p) U3) (rt : RTb b3 t x) : PLs b3 p m7 w7 U3 B (W3 + 1) Y := by
  obtain ⟨⟨⟨q1, q2, q3⟩, q4, q5⟩, ⟨q6, q7, q8⟩, ⟨q9, q10, q11⟩, q12, q13, q14⟩ := pl
  have m7q : ∀ d, d ≠ 4 → d ≠ 26 → d ≠ 45 → m7.1 (pq p d) = m.1 (pq p d) := fun d h1 h2 h3 => t1.1 _ (by
    simp only [List.mem_cons, List.not_mem_nil, or_false]
    intro c
    rcases c with c | c | c | c
    · exact pq_inj h1 c
    · exact pq_inj h2 c
    · exact pq_inj h3 c
    · exact pq_n (by omega) c.symm)
  have m7j : ∀ d, d ≠ 2 → d ≠ 35 → m7.2.2.2 (pq p d) = m.2.2.2 (pq p d) := fun d h1 h2 => t1.2.2.2 _ (by simp; exact ⟨pq_inj h1, pq_inj h2⟩)
  refine ⟨⟨⟨e4, e89, hU3⟩, is, ?_⟩, ⟨?_, ?_, fun i hi => ?_⟩, ⟨e26, e92, fun i hi => ?_⟩, ?_, ?_, fun i hi => ?_⟩
  · rw [m7q 5 (by omega) (by omega) (by omega), f1.2.2.1 90 (by simp)]; exact q5
  · exact (congrArg Int32.toInt (m7q 24 (by omega) (by omega) (by omega))).trans q6
  · rw [FR.A f1 (by simp)]; exact q7
  · rw [m7j 33 (by omega) (by omega), f1.2.2.2 93 (by simp)]; exact RTb_mo up (q8 i hi)
  · rw [top i (by omega), top' i (by omega)]
    by_cases c : i = W3
    · rw [if_pos c, if_pos c]; exact rt
    · rw [if_neg c, if_neg c]; exact RTb_mo up (q11 i (by omega))
  · exact (congrArg Int32.toInt (m7q 7 (by omega) (by omega) (by omega))).trans q12
  · rw [FR.A f1 (by simp)]; exact q13
  · rw [m7j 6 (by omega) (by omega), f1.2.2.2 107 (by simp)]; exact RTb_mo up (q14 i hi)
theorem FGw_mk (f1 : FR [] [] [89, 92] [88, 91] w w7) (h1 : ∀ r, r ≠ p → A w7 89 r = A w 89 r) (h2 : ∀ r, r ≠ p → A w7 92 r = A w 92 r) (h3 : ∀ i, ¬ (500 * p ≤ i ∧ i < 500 * p + 500) → w7.2.2.2 88 i = w.2.2.2 88 i) (h4 : ∀ i, ¬ (46000 * p ≤ i ∧ i < 46000 * p + 46000) → w7.2.2.2 91 i = w.2.2.2 91 i) : FGw p j w w7 := ⟨FR.mo f1 (by simp) (by simp) (by simp) (by simp), fun k hk => ⟨h1 k hk, by rw [f1.2.2.1 90 (by simp)], h2 k hk⟩, fun k _ => FR.A f1 (by simp), h3, h4, fun i _ => by rw [f1.2.2.2 93 (by simp)], fun i _ => by rw [f1.2.2.2 107 (by simp)]⟩
theorem pairs_iso {h h' h2 h2' : Nat → Int64} {tt xx : Nat → Int64} {te xe : Int64} (s : ISb b h U h' U) (hm : U + 2 * l ≤ 500) (hl : 0 < l) (c0 : ∀ i, i < U → h2 i = h i) (cs : ∀ r, r < l → h2 (U + 2 * r) = tt r ∧ h2 (U + 2 * r + 1) = (if r + 1 = l then te else mk 7 ((U + 2 * (r + 1) : Nat) : Int))) (ds : lsC h2' h' U l l xx xe) (r1 : ∀ i, i < l → RTb b (tt i) (xx i)) (r2 : RTb b te xe) : ISb (fun k a c => b k a c ∨ bnL U U l k a c) h2 (U + 2 * l) h2' (U + 2 * l) ∧ RTb (fun k a c => b k a c ∨ bnL U U l k a c) (mk 7 ((U : Nat) : Int)) (mk 7 ((U + 2 * (l - 1) : Nat) : Int)) := by
  refine list_iso (tt := tt) (xx := xx) (te := te) (xe := xe) s hl ⟨by omega, by omega⟩ c0 ds.1 (fun i hi => (cs i hi).1) (fun i hi => ?_) ?_ (fun i hi => ?_) (fun i hi => ?_) ?_ r1 r2
  · rw [(cs i (by omega)).2, if_neg (by omega)]
  · have := (cs (l - 1) (by omega)).2
    rw [if_pos (by omega)] at this
    exact this
  · have := (ds.2 (l - 1 - i) (by omega)).1
    rw [show l - 1 - (l - 1 - i) = i by omega] at this
    exact this
  · have := (ds.2 (l - 1 - i) (by omega)).2
    rw [if_neg (by omega), show l - 1 - i - 1 = l - 1 - (i + 1) by omega] at this
    exact this
  · have := (ds.2 0 hl).2
    rw [if_pos rfl, Nat.mul_zero, Nat.add_zero] at this
    exact this
end
section
variable {α β : Type} {b : Int → Nat → Nat → Prop} {Fv Fv' : Int64 → Int64 → Prop} {P P' : Int64 → Prop} {ow kd ow' kd' : Nat → Nat} {N p U B W Y l j a n s0 bb ee ee' : Nat} {m w : MS} {nb : Nat → Nat} {Hs Os : Nat → List Nat} {y : Option (Nat × Nat × Nat)} {v : Int} {Q : MS → α → MS → β → Prop} {K1 : MS → Option (MS × α)} {K2 : MS → Option (MS × β)}
theorem one_2 : fm_M_one N w (I v) (I 2) = bnd (fm_M_goTo N w (I v + 1)) (fun u7 _ => ck (inb (I v) (ln 25)) (bnd (fm_M_stringRun N u7 (u7.2.2.1 25 (I v).toNatClampNeg)) (fun u24 _ => some (u24, ())))) := rfl
theorem op_string (hpp : p < 24) (pl : PLs b p m w U B W Y) (ru : RUs m w p j nb Hs Os y a n) (hW : W < 46000) (pt : PTQ m p U ow kd Fv P B W Y) (cx : CTX Fv P m) (xc : CX w p (hp w p) U ow' kd' Fv' P' W B Y) (h140 : F w 140 = -1) (h25 : A w 25 n = ((s0 : Nat) : Int)) (hs0 : s0 < 100000) (h19 : A w 19 s0 = ((bb : Nat) : Int)) (h19' : A w 19 (s0 + 1) = ((bb + l : Nat) : Int)) (hbl : bb + l < 1000000) (hl1 : l ≤ 1000) (c1 : A m 23 (a + 1) = ((l : Nat) : Int)) (cs : ∀ k, k < l → A m 23 (a + 2 + k) = A w 18 (bb + k)) (hee : F m 955 = ((ee : Nat) : Int) ∧ ee < 24) (hee' : F w 150 = ((ee' : Nat) : Int) ∧ ee' < 4000) (hN : 2200000 ≤ N) (cr : ∃ f, CRs (A m 23) (ROs w) (w.2.2.2 34) f y (a + 2 + l) (n + 1) (Hs j) (Os j))
    (kS : ∀ b3 U3 m3 w3, PLs b3 p m3 w3 U3 B (W + 1) Y → RUs m3 w3 p j nb Hs Os y (a + 2 + l) (n + 1) → FGm p m m3 → FGw p j w w3 → PP Q (K1 m3) (K2 w3))
    (kE : ∀ m3 w3, FGm p m m3 → FGw p j w w3 → m3.1 (pq p 5) = w3.2.2.1 90 p → PP Q (K1 (enS m3 p (mk 1 20) p ee)) (K2 (wi (enR w3 p 0 ((p : Nat) : Int) (mk 1 20) ee') 151 1))) : PP Q (bnd (hm_Ma_making N m p (I 2)) (fun u _ => K1 u)) (bnd (fm_M_one N w (I ((n : Nat) : Int)) (I 2)) (fun u _ => K2 u)) := by
  obtain ⟨⟨fa, ct⟩, ⟨r2, r3⟩, ⟨f0, cr0⟩, ⟨r5, r6⟩, r7, ⟨r8, r9, r10⟩, r11, r12, r13⟩ := id ru
  have cb := CR_b cr0
  have hj : j < 60 := fa.1.2.2
  have cb2 : a + 2 + l + 1 < 24000 := by
    obtain ⟨f9, cr9⟩ := cr
    exact (CR_b cr9).1
  rw [mak2, one_2, I_F' r2, show I ((a : Nat) : Int) + 1 = I ((a + 1 : Nat) : Int) from addN, Co_e (k := a + 1) rfl (by omega), bnd_so, c1, show I ((n : Nat) : Int) + 1 = I ((n + 1 : Nat) : Int) from addN]
  refine l_bb (r_bb ?_)
  refine r_bnd (pk_mo (goto_r (N := N) (n := ((n + 1 : Nat) : Int)) hpp r11 fa.1.2.1 hj) (fun w1 _ e => ?_))
  subst e
  refine rb_ck (fun _ => ?_)
  have e25 : A (wa w 98 (60 * p + j) ((n + 1 : Nat) : Int)) 25 n = ((s0 : Nat) : Int) := by rw [wa_rne (by omega)]; exact h25
  rw [tnI (n := n) rfl (by omega), I_A' e25]
  refine r_bb ?_
  generalize hw1 : wa w 98 (60 * p + j) ((n + 1 : Nat) : Int) = w1
  have g1 : FGw p j w w1 := by rw [← hw1]; exact FGw.goto
  have pl1 : PLs b p m w1 U B W Y := by rw [← hw1]; exact PLs_98 pl
  have x33 : F w1 133 = ((p : Nat) : Int) := by rw [← hw1]; exact r11
  have x98 : A w1 98 (60 * p + j) = ((n + 1 : Nat) : Int) := by rw [← hw1, wa_sm (by omega) (by omega)]
  have xc1 : CX w1 p (hp w1 p) U ow' kd' Fv' P' W B Y := by rw [← hw1]; exact CX_98 xc
  have y40 : F w1 140 = -1 := by rw [← hw1]; exact h140
  have a1 : ∀ K i, K ≠ 98 → A w1 K i = A w K i := fun K i h => by rw [← hw1, wa_rne h]
  unfold hm_Ma_string hb_Ma_string_0 fm_M_stringRun fb_M_stringRun_0
  have s2 : (2 : Int32) * I ((l : Nat) : Int) = I ((2 * l : Nat) : Int) := by
    rw [show (2 : Int32) = I 2 from rfl, I_mul]
    congr 1
  refine rb_ck (fun _ => rb_ck (fun _ => ?_))
  rw [lt_e, show I ((s0 : Nat) : Int) + 1 = I ((s0 + 1 : Nat) : Int) from addN, tnI (n := s0 + 1) rfl (by omega), tnI (n := s0) rfl (by omega), I_A' ((a1 19 _ (by omega)).trans h19'), I_A' ((a1 19 _ (by omega)).trans h19), show I ((bb + l : Nat) : Int) - I ((bb : Nat) : Int) = I ((l : Nat) : Int) by rw [I_sub]; congr 1; omega, s2, I_F' x33]
  have e9 : F m (pq p 9) ≠ 3 := by rw [r5]; omega
  refine l_bb (r_bb ?_)
  refine pp_bb (pp_mo (room_pp (N := N) (k := 2 * l) pt cx xc1 pl1 y40 (by omega) e9 hee hN) (fun m4 r4 w4 r5' q9 => ?_))
  rcases q9 with ⟨rfl, rfl, a4, a5, b2', U2, pl4, rm4, ⟨ow2, kd2, pt4⟩, -⟩ | ⟨rfl, rfl, m5, a4, a5, rfl, h5⟩
  · rw [show decide ((1 : Int32) = 0) = false from rfl, br_fq, br_fq]
    have fm4 : FGm p m m4 := FGm_xr a4
    have fw4 : FGw p j w1 w4 := FGw_xr a5
    have z33 : F w4 133 = ((p : Nat) : Int) := by rw [FR.F a5.1 (by simp)]; exact x33
    have z89 : A w4 89 p = ((U2 : Nat) : Int) := pl4.1.1.2.1
    have z4 : F m4 (pq p 4) = ((U2 : Nat) : Int) := pl4.1.1.1
    obtain ⟨l4, e1, e2, e3⟩ := pt4.2.2.2.2.2.1
    have e5 : F m4 1105 = ((a : Nat) : Int) := by rw [FR.F a4 (by simp [pq_n])]; exact r2
    have w4A : ∀ K i, K = 18 ∨ K = 19 → A w4 K i = A w K i := fun K i h => by rw [FR.A a5.1 (by simp; omega), a1 K i (by omega)]
    have m423 : ∀ i, A m4 23 i = A m 23 i := fun i => FR.A a4 (by simp)
    rw [I_F' z4, show (0 : Int32) = I ((0 : Nat) : Int) from rfl]
    refine l_bnd (pk_mo (str_m (N := N) (U := U2) (W := W) (l := l) (lc := l4) (a := a) (m0 := m4) pl4.2.2.1.1 e1 ⟨e2, e3⟩ e5 (by omega) (by omega) l N m4 0 (by omega) FR.rf ⟨fun _ _ => rfl, fun r hr => by omega⟩) (fun m7 _ hh => ?_))
    obtain ⟨t1, t2, t3, t4, t5, t6, t7⟩ := hh
    rw [show (6 : Int32) = I 6 from rfl, show (I ((0 : Nat) : Int)) = I 0 from rfl, term_e, rb_bnd_so, show I ((l : Nat) : Int) - 1 = I (((l : Nat) : Int) - 1 - ((0 : Nat) : Int)) by rw [lit1q, I_sub]; congr 1; omega]
    refine r_bnd (pk_mo (str_r (N := N) (U := U2) (W := W) (l := l) (bb := bb) (w0 := w4) (te := mk 6 0) hpp z33 pl4.2.2.1.2.1 (by omega) ((w4A 19 _ (by omega)).trans h19) hs0 hbl (by omega) l N w4 0 (mk 6 0) (by omega) FR.rf (by rw [z89]; congr 1) (fun _ _ => rfl) (fun _ _ => rfl) ⟨fun _ _ => rfl, fun r hr => by omega⟩ (by rw [if_pos rfl])) (fun w7 _ hh => ?_))
    obtain ⟨w5, s1, s89, so1, so2, ls, rfl⟩ := hh
    show PP Q (K1 m7) (K2 _)
    generalize hw7 : wa (wj w5 91 (46000 * p + W) (if l = 0 then mk 6 0 else mk 7 ((U2 + 2 * (l - 1) : Nat) : Int))) 92 p ((W + 1 : Nat) : Int) = w7
    have f7 : FR [] [] [89, 92] [88, 91] w4 w7 := by
      rw [← hw7]
      exact FR.wa (FR.wj (FR.mo s1 (by simp) (by simp) (by simp) (by simp)) (by simp)) (by simp)
    have hp7 : hp w7 p = hp w5 p := by
      funext i
      rw [← hw7]
      show (wj w5 91 (46000 * p + W) (if l = 0 then mk 6 0 else mk 7 ((U2 + 2 * (l - 1) : Nat) : Int))).2.2.2 88 (500 * p + i) = _
      rw [wj_22 (by omega)]
      rfl
    have w791 : ∀ i, w7.2.2.2 91 i = if i = 46000 * p + W then (if l = 0 then mk 6 0 else mk 7 ((U2 + 2 * (l - 1) : Nat) : Int)) else w4.2.2.2 91 i := fun i => by
      rw [← hw7]
      show (wj w5 91 (46000 * p + W) _).2.2.2 91 i = _
      rw [wj_row]
      by_cases c : i = 46000 * p + W
      · rw [if_pos c, if_pos c]
      · rw [if_neg c, if_neg c, s1.2.2.2 91 (by simp)]
    have e89 : A w7 89 p = ((U2 + 2 * l : Nat) : Int) := by
      rw [← hw7, wa_rne (by omega)]
      exact s89
    have e92 : A w7 92 p = ((W + 1 : Nat) : Int) := by rw [← hw7, wa_sm (by omega) (by omega)]
    have fm7 : FGm p m m7 := FGm.tr fm4 (FR.mo t1 (by simp) (by simp) (by simp) (by simp))
    have fw7 : FGw p j w1 w7 := by
      refine FGw.tr fw4 (FGw_mk f7 (fun r hr => ?_) (fun r hr => ?_) (fun i hi => ?_) (fun i hi => ?_))
      · rw [← hw7, wa_rne (by omega)]
        exact so1 r hr
      · rw [← hw7, wa_ro (by omega) (by omega), if_neg hr]
        exact FR.A s1 (by simp)
      · rw [← hw7]
        show (wj w5 91 (46000 * p + W) (if l = 0 then mk 6 0 else mk 7 ((U2 + 2 * (l - 1) : Nat) : Int))).2.2.2 88 i = _
        rw [wj_22 (by omega)]
        exact so2 i hi
      · rw [w791, if_neg (by omega)]
    have x98' : A w7 98 (60 * p + j) = ((n + 1 : Nat) : Int) := by rw [FR.A f7 (by simp), FR.A a5.1 (by simp)]; exact x98
    have rn : RTb b2' (mk 6 0) (mk 6 0) := lit_b (Or.inr (Or.inr rfl)) (fun _ => rfl) ⟨by omega, by omega⟩
    have top : ∀ (x : Int64), x = (if l = 0 then mk 6 0 else mk 7 ((U2 + 2 * (l - 1) : Nat) : Int)) → ∀ i, i ≤ W → w7.2.2.2 91 (46000 * p + i) = if i = W then x else w4.2.2.2 91 (46000 * p + i) := fun x hx i hi => by
      rw [w791, ← hx]
      by_cases c : i = W
      · rw [if_pos c, if_pos (by omega)]
      · rw [if_neg c, if_neg (by omega)]
    by_cases cl : l = 0
    · have t7' : ∀ i, i ≤ W → m7.2.2.2 (pq p 35) i = if i = W then mk 6 0 else m4.2.2.2 (pq p 35) i := fun i hi => by rw [t7 i hi, if_pos cl]
      have is7 : ISb b2' (m7.2.2.2 (pq p 2)) U2 (hp w7 p) U2 := by
        rw [hp7]
        exact ISb_ag pl4.1.2.1 t5 ls.1
      have t2' : F m7 (pq p 4) = ((U2 : Nat) : Int) := by rw [t2]; congr 1; omega
      have e89' : A w7 89 p = ((U2 : Nat) : Int) := by rw [e89]; congr 1; omega
      exact kS b2' U2 m7 w7 (PLs_mk pl4 (fun _ _ _ h => h) t1 t2' t3 (Nat.le_refl _) t7' f7 e89' pl4.1.1.2.2 e92 (top (mk 6 0) (by rw [if_pos cl])) is7 rn) (RUs_mv ru fm7 (FGw.tr g1 fw7) t4 x98' cr) fm7 (FGw.tr g1 fw7)
    · have t7' : ∀ i, i ≤ W → m7.2.2.2 (pq p 35) i = if i = W then mk 7 ((U2 : Nat) : Int) else m4.2.2.2 (pq p 35) i := fun i hi => by rw [t7 i hi, if_neg cl]
      obtain ⟨is7, rt7⟩ := pairs_iso (h2 := m7.2.2.2 (pq p 2)) (h2' := hp w7 p) (tt := fun i => mk 0 (A m4 23 (a + 2 + i))) (xx := fun i => mk 0 (A w4 18 (bb + i))) (te := mk 6 0) (xe := mk 6 0) pl4.1.2.1 (by omega) (by omega) t5 t6 (by rw [hp7]; exact ls) (fun i hi => by
        show RTb b2' (mk 0 (A m4 23 (a + 2 + i))) (mk 0 (A w4 18 (bb + i)))
        rw [m423, cs i hi, w4A 18 _ (by omega)]
        exact lit_b (Or.inl rfl) (fun c => by omega) (A_r _ _ _)) rn
      exact kS _ _ m7 w7 (PLs_mk pl4 (fun _ _ _ h => Or.inl h) t1 t2 t3 (Nat.le_refl _) t7' f7 e89 (by omega) e92 (top _ (by rw [if_neg cl])) is7 rt7) (RUs_mv ru fm7 (FGw.tr g1 fw7) t4 x98' cr) fm7 (FGw.tr g1 fw7)
  · rw [show decide ((0 : Int32) = 0) = true from rfl, br_tq, br_tq]
    have z33 : F w4 133 = ((p : Nat) : Int) := by rw [FR.F a5.1 (by simp)]; exact x33
    have g4 : FGw p j w w4 := FGw.tr g1 (FGw_xr a5)
    have e109 : A w4 109 p ≠ 3 := by
      rw [FR.A g4.1 (by simp), r6]; omega
    have e150 : F w4 150 = ((ee' : Nat) : Int) := by
      rw [FR.F g4.1 (by simp)]; exact hee'.1
    rw [noR_e hpp z33 e109 e150 hee'.2]
    exact kE m5 w4 (FGm_xr a4) g4 h5
end
end
section
set_option maxRecDepth 100000
section
variable {N p U W k a lc s : Nat} {m m0 w w0 : MS} {te : Int64}
theorem endL_e (hs : 0 < s) (hU : U + 2 * s ≤ 500) : hm_Ma_endList N m p (I ((U : Nat) : Int)) (I ((s : Nat) : Int)) te = some (wi (wj m (pq p 2) (U + 2 * s - 1) te) (pq p 4) ((U + 2 * s : Nat) : Int), ()) := by
  unfold hm_Ma_endList hb_Ma_endList_0 hb_Ma_endList_20
  have s1 : I ((U : Nat) : Int) + 2 * I ((s : Nat) : Int) = I ((U + 2 * s : Nat) : Int) := by
    rw [show (2 : Int32) = I 2 from rfl, I_mul, I_add]
    congr 1 <;> omega
  rw [s1, lit0q, decI (by omega) (by omega) (by omega) (by omega), decide_eq_false (by omega), br_fq, show I ((U + 2 * s : Nat) : Int) - 1 = I ((U + 2 * s - 1 : Nat) : Int) by rw [lit1q, I_sub]; congr 1; omega, (I_inb (by omega) (by omega)).mpr ⟨by omega, by omega⟩, ck_t, tnI (n := U + 2 * s - 1) rfl (by omega), wj_e, lt_e, wi_e, lt_e]
theorem lst_m (h26 : F m0 (pq p 26) = ((W + k + 1 : Nat) : Int)) (hl : F m0 (pq p 45) = ((lc : Nat) : Int)) (hl2 : W + k + 1 ≤ lc ∧ lc ≤ 1000000) (h5 : F m0 1105 = ((a : Nat) : Int)) (ha : a < 24000) (hk : 0 < k) (hU : U + 2 * k ≤ 500) : ∀ (d M : Nat) (m : MS) (s : Nat), s + d = k → FR [] [] [] [pq p 2] m0 m → lsM (m.2.2.2 (pq p 2)) (m0.2.2.2 (pq p 2)) U s (fun i => m0.2.2.2 (pq p 35) (W + i)) → PK (fun m2 (_ : Unit) => FR [pq p 4, pq p 26, pq p 45, 1105] [] [] [pq p 2, pq p 35] m0 m2 ∧ F m2 (pq p 4) = ((U + 2 * k : Nat) : Int) ∧ F m2 (pq p 26) = ((W + 1 : Nat) : Int) ∧ F m2 1105 = ((a + 2 : Nat) : Int) ∧ (∀ i, i < U → m2.2.2.2 (pq p 2) i = m0.2.2.2 (pq p 2) i) ∧ (∀ r, r < k → m2.2.2.2 (pq p 2) (U + 2 * r) = m0.2.2.2 (pq p 35) (W + r) ∧ m2.2.2.2 (pq p 2) (U + 2 * r + 1) = (if r + 1 = k then m0.2.2.2 (pq p 35) (W + k) else mk 7 ((U + 2 * (r + 1) : Nat) : Int))) ∧ ∀ i, i ≤ W → m2.2.2.2 (pq p 35) i = if i = W then mk 7 ((U : Nat) : Int) else m0.2.2.2 (pq p 35) i) (hg_Ma_list N M m p (I ((k : Nat) : Int)) (I ((U : Nat) : Int)) (I ((s : Nat) : Int))) := by
  intro d
  induction d with
  | zero =>
    intro M m s hs fr ls
    have : s = k := by omega
    subst this
    cases M with
    | zero => exact pk_none
    | succ M =>
    show PK _ (hb_Ma_list_44 N (hg_Ma_list N M) m p (I ((s : Nat) : Int)) (I ((U : Nat) : Int)) (I ((s : Nat) : Int)))
    unfold hb_Ma_list_44
    have e26 : F m (pq p 26) = ((W + s + 1 : Nat) : Int) := by rw [FR.F fr (by simp)]; exact h26
    have e45 : F m (pq p 45) = ((lc : Nat) : Int) := by rw [FR.F fr (by simp)]; exact hl
    have j35 : m.2.2.2 (pq p 35) = m0.2.2.2 (pq p 35) := fr.2.2.2 _ (by simp; exact pq_inj (by omega))
    have be : hm_Fr_below N m p 0 = some (m, m0.2.2.2 (pq p 35) (W + s)) := by
      have := below_e (N := N) (x := 0) (k := 0) (W := W + s + 1) (l := lc) e26 e45 hl2.1 hl2.2 rfl (by omega)
      rw [show W + s + 1 - 1 - 0 = W + s by omega, j35] at this
      exact this
    rw [decI (by omega) (by omega) (by omega) (by omega), decide_eq_true (by omega), br_tq, be, bnd_so, endL_e hk hU, bnd_so, show (7 : Int32) = I 7 from rfl, e_make, bnd_so, show I ((s : Nat) : Int) + 1 = I ((s + 1 : Nat) : Int) from addN]
    generalize hm1 : wi (wj m (pq p 2) (U + 2 * s - 1) (m0.2.2.2 (pq p 35) (W + s))) (pq p 4) ((U + 2 * s : Nat) : Int) = m1
    have f1 : FR [pq p 4] [] [] [pq p 2] m0 m1 := by
      rw [← hm1]
      exact FR.wi (FR.wj (FR.mo fr (by simp) (by simp) (by simp) (by simp)) (by simp)) (by simp)
    have e4 : F m1 (pq p 4) = ((U + 2 * s : Nat) : Int) := by rw [← hm1, wi_sm (by omega) (by omega)]
    have c1 : ∀ i, m1.2.2.2 (pq p 2) i = if i = U + 2 * s - 1 then m0.2.2.2 (pq p 35) (W + s) else m.2.2.2 (pq p 2) i := fun i => by
      rw [← hm1]
      show (wj m (pq p 2) (U + 2 * s - 1) (m0.2.2.2 (pq p 35) (W + s))).2.2.2 (pq p 2) i = _
      rw [wj_row]
    unfold hm_Ma_answer hb_Ma_answer_0
    have g26 : F m1 (pq p 26) = ((W + s + 1 : Nat) : Int) := by rw [FR.F f1 (by simp; exact pq_inj (by omega))]; exact h26
    rw [drop_e (W := W + s + 1) (k := s + 1) (x := ((s + 1 : Nat) : Int)) g26 rfl (by omega), bnd_so, bb_e, show W + s + 1 - (s + 1) = W by omega]
    have h26' : F (wi m1 (pq p 26) ((W : Nat) : Int)) (pq p 26) = ((W : Nat) : Int) := wi_sm (by omega) (by omega)
    have h45' : F (wi m1 (pq p 26) ((W : Nat) : Int)) (pq p 45) = ((lc : Nat) : Int) := by rw [wi_ne (pq_inj (by omega)), FR.F f1 (by simp; exact pq_inj (by omega))]; exact hl
    refine pk_bnd (pk_mo (push_m (N := N) (t := mk 7 ((U : Nat) : Int)) h26' h45' (by omega) hl2.2) (fun m2 _ hh => ?_))
    obtain ⟨z1, z2, z3⟩ := hh
    rw [bnd_so]
    have e5 : F m2 1105 = ((a : Nat) : Int) := by
      rw [FR.F z1 (by simp [pq_n]), wi_ne (pq_n (by omega)), FR.F f1 (by simp [pq_n])]
      exact h5
    rw [I_F' e5, show I ((a : Nat) : Int) + 2 = I ((a + 2 : Nat) : Int) from addN, wi_e, lt_e]
    have j2 : m2.2.2.2 (pq p 2) = m1.2.2.2 (pq p 2) := z1.2.2.2 _ (by simp; exact pq_inj (by omega))
    refine pk_some ⟨?_, ?_, ?_, wi_sm (by omega) (by omega), fun i hi => ?_, fun r hr => ⟨?_, ?_⟩, fun i hi => ?_⟩
    · exact FR.wi (FR.tr (FR.wi (FR.mo f1 (by simp) (by simp) (by simp) (by simp)) (by simp)) (FR.mo z1 (by simp) (by simp) (by simp) (by simp))) (by simp)
    · rw [wi_ne (fun c => pq_n (by omega) c.symm), FR.F z1 (by simp; exact ⟨pq_inj (by omega), pq_inj (by omega)⟩), wi_ne (pq_inj (by omega))]
      exact e4
    · rw [wi_ne (fun c => pq_n (by omega) c.symm)]
      exact z2
    · show m2.2.2.2 (pq p 2) i = _
      rw [j2, c1, if_neg (by omega)]
      exact ls.1 i hi
    · show m2.2.2.2 (pq p 2) (U + 2 * r) = _
      rw [j2, c1, if_neg (by omega)]
      exact (ls.2 r hr).1
    · show m2.2.2.2 (pq p 2) (U + 2 * r + 1) = _
      rw [j2, c1]
      by_cases c : r + 1 = s
      · rw [if_pos (by omega), if_pos c]
      · rw [if_neg (by omega), if_neg c]
        exact (ls.2 r hr).2
    · show m2.2.2.2 (pq p 35) i = _
      rw [z3 i hi]
      by_cases c : i = W
      · rw [if_pos c, if_pos c]
      · rw [if_neg c, if_neg c]
        show m1.2.2.2 (pq p 35) i = _
        rw [f1.2.2.2 _ (by simp; exact pq_inj (by omega))]
  | succ d ih =>
    intro M m s hs fr ls
    cases M with
    | zero => exact pk_none
    | succ M =>
    show PK _ (hb_Ma_list_44 N (hg_Ma_list N M) m p (I ((k : Nat) : Int)) (I ((U : Nat) : Int)) (I ((s : Nat) : Int)))
    unfold hb_Ma_list_44
    have e26 : F m (pq p 26) = ((W + k + 1 : Nat) : Int) := by rw [FR.F fr (by simp)]; exact h26
    have e45 : F m (pq p 45) = ((lc : Nat) : Int) := by rw [FR.F fr (by simp)]; exact hl
    have j35 : m.2.2.2 (pq p 35) = m0.2.2.2 (pq p 35) := fr.2.2.2 _ (by simp; exact pq_inj (by omega))
    have s1 : I ((U : Nat) : Int) + 2 * I ((s : Nat) : Int) = I ((U + 2 * s : Nat) : Int) := by
      rw [show (2 : Int32) = I 2 from rfl, I_mul, I_add]
      congr 1 <;> omega
    rw [decI (by omega) (by omega) (by omega) (by omega), decide_eq_false (by omega), br_fq, show I ((k : Nat) : Int) - I ((s : Nat) : Int) = I ((k - s : Nat) : Int) by rw [I_sub]; congr 1; omega, below_e (k := k - s) (W := W + k + 1) (l := lc) e26 e45 hl2.1 hl2.2 rfl (by omega), bnd_so, j35, show W + k + 1 - 1 - (k - s) = W + s by omega, s1, (I_inb (by omega) (by omega)).mpr ⟨by omega, by omega⟩, ck_t, tnI (n := U + 2 * s) rfl (by omega), wj_e, lt_e, show I ((U + 2 * s : Nat) : Int) + 2 = I ((U + 2 * s + 2 : Nat) : Int) from addN, show (7 : Int32) = I 7 from rfl, e_make, bnd_so, show I ((U + 2 * s : Nat) : Int) + 1 = I ((U + 2 * s + 1 : Nat) : Int) from addN, (I_inb (by omega) (by omega)).mpr ⟨by omega, by omega⟩, ck_t, tnI (n := U + 2 * s + 1) rfl (by omega), wj_e, lt_e, show I ((s : Nat) : Int) + 1 = I ((s + 1 : Nat) : Int) from addN]
    refine ih M _ (s + 1) (by omega) (FR.wj (FR.wj fr (by simp)) (by simp)) ⟨fun i hi => ?_, fun r hr => ?_⟩
    · rw [wj_row, if_neg (by omega), wj_row, if_neg (by omega)]
      exact ls.1 i hi
    · by_cases c : r = s
      · subst c
        rw [wj_row, if_neg (by omega), wj_row, if_pos rfl, wj_row, if_pos rfl]
        exact ⟨rfl, by congr 1⟩
      · rw [wj_row, if_neg (by omega), wj_row, if_neg (by omega), wj_row, if_neg (by omega), wj_row, if_neg (by omega)]
        exact ls.2 r (by omega)
theorem lst_r (hpp : p < 24) (h133 : F w0 133 = ((p : Nat) : Int)) (hW : W + k ≤ 46000) (hU : U + 2 * k ≤ 500) : ∀ (d M : Nat) (w : MS) (s : Nat) (t : Int64), s + d = k → FR [] [] [89, 92] [88] w0 w → A w 89 p = ((U + 2 * s : Nat) : Int) → A w 92 p = ((W + (k - s) : Nat) : Int) → (∀ r, r ≠ p → A w 89 r = A w0 89 r ∧ A w 92 r = A w0 92 r) → (∀ i, ¬ (500 * p ≤ i ∧ i < 500 * p + 500) → w.2.2.2 88 i = w0.2.2.2 88 i) → lsC (hp w p) (hp w0 p) U s k (fun i => w0.2.2.2 91 (46000 * p + (W + i))) te → t = (if s = 0 then te else mk 7 ((U + 2 * (s - 1) : Nat) : Int)) → PK (fun w2 (_ : Unit) => ∃ w1 : MS, FR [] [] [89, 92] [88] w0 w1 ∧ A w1 89 p = ((U + 2 * k : Nat) : Int) ∧ (∀ r, r ≠ p → A w1 89 r = A w0 89 r ∧ A w1 92 r = A w0 92 r) ∧ (∀ i, ¬ (500 * p ≤ i ∧ i < 500 * p + 500) → w1.2.2.2 88 i = w0.2.2.2 88 i) ∧ lsC (hp w1 p) (hp w0 p) U k k (fun i => w0.2.2.2 91 (46000 * p + (W + i))) te ∧ w2 = wa (wj w1 91 (46000 * p + W) (if k = 0 then te else mk 7 ((U + 2 * (k - 1) : Nat) : Int))) 92 p ((W + 1 : Nat) : Int)) ((gg_M_listRun N M).2 w (I ((k : Nat) : Int)) t (I ((s : Nat) : Int))) := by
  intro d
  induction d with
  | zero =>
    intro M w s t hs fr h89 h92 ho1 ho2 ls ht
    have : s = k := by omega
    subst this
    cases M with
    | zero => exact pk_none
    | succ M =>
    show PK _ (fb_M_listRun_94 N (gg_M_listRun N M) w (I ((s : Nat) : Int)) t (I ((s : Nat) : Int)))
    unfold fb_M_listRun_94
    have x33 : F w 133 = ((p : Nat) : Int) := by rw [FR.F fr (by simp)]; exact h133
    have x92 : A w 92 p = ((W : Nat) : Int) := by rw [h92]; congr 1; omega
    rw [decI (by omega) (by omega) (by omega) (by omega), decide_eq_true (by omega), br_tq]
    refine pk_bnd (pk_mo (put_r (N := N) (x := t) hpp x33 x92 (by omega)) (fun w2 _ e => ?_))
    subst e
    exact pk_some ⟨w, fr, h89, ho1, ho2, ls, by rw [ht]⟩
  | succ d ih =>
    intro M w s t hs fr h89 h92 ho1 ho2 ls ht
    cases M with
    | zero => exact pk_none
    | succ M =>
    show PK _ (fb_M_listRun_94 N (gg_M_listRun N M) w (I ((k : Nat) : Int)) t (I ((s : Nat) : Int)))
    unfold fb_M_listRun_94
    have x33 : F w 133 = ((p : Nat) : Int) := by rw [FR.F fr (by simp)]; exact h133
    have x92 : A w 92 p = ((W + (k - 1 - s) + 1 : Nat) : Int) := by rw [h92]; congr 1; omega
    rw [decI (by omega) (by omega) (by omega) (by omega), decide_eq_false (by omega), br_fq]
    refine pk_bnd (pk_mo (take_r (N := N) (W := W + (k - 1 - s)) hpp x33 x92 (by omega)) (fun w2 r e => ?_))
    obtain ⟨rfl, rfl⟩ := e
    have y33 : F (wa w 92 p ((W + (k - 1 - s) : Nat) : Int)) 133 = ((p : Nat) : Int) := x33
    have y89 : A (wa w 92 p ((W + (k - 1 - s) : Nat) : Int)) 89 p = ((U + 2 * s : Nat) : Int) := by rw [wa_rne (by omega)]; exact h89
    refine pk_bnd (pk_mo (pair_r (N := N) (w := wa w 92 p ((W + (k - 1 - s) : Nat) : Int)) (U := U + 2 * s) hpp y33 y89 (by omega)) (fun w3 r e => ?_))
    obtain ⟨rfl, rfl⟩ := e
    rw [show (7 : Int32) = I 7 from rfl, term_e, bnd_so, show I ((s : Nat) : Int) + 1 = I ((s + 1 : Nat) : Int) from addN]
    have ls' : lsC (hp (wa w 92 p ((W + (k - 1 - s) : Nat) : Int)) p) (hp w0 p) U s k (fun i => w0.2.2.2 91 (46000 * p + (W + i))) te := ls
    refine ih M _ (s + 1) _ (by omega) ?_ ?_ ?_ (fun r hr => ⟨?_, ?_⟩) (fun i hi => ?_) (lsC_s ls' ?_ ht) ?_
    · exact FR.wa (FR.wj (FR.wj (FR.wa fr (by simp)) (by simp)) (by simp)) (by simp)
    · rw [wa_sm (by omega) (by omega)]
      congr 1
    · rw [wa_rne (by omega)]
      show A (wa w 92 p ((W + (k - 1 - s) : Nat) : Int)) 92 p = _
      rw [wa_sm (by omega) (by omega)]
      congr 1
      omega
    · rw [wa_ro (by omega) (by omega), if_neg hr]
      show A (wa w 92 p ((W + (k - 1 - s) : Nat) : Int)) 89 r = _
      rw [wa_rne (by omega)]
      exact (ho1 r hr).1
    · rw [wa_rne (by omega)]
      show A (wa w 92 p ((W + (k - 1 - s) : Nat) : Int)) 92 r = _
      rw [wa_ro (by omega) (by omega), if_neg hr]
      exact (ho1 r hr).2
    · show (wj (wj (wa w 92 p ((W + (k - 1 - s) : Nat) : Int)) 88 (500 * p + (U + 2 * s)) _) 88 (500 * p + (U + 2 * s) + 1) t).2.2.2 88 i = _
      rw [wj_row, if_neg (by omega), wj_row, if_neg (by omega)]
      exact ho2 i hi
    · rw [fr.2.2.2 91 (by simp)]
    · rw [if_neg (by omega), show s + 1 - 1 = s by omega]
end
end
