/-! no CLAUSE fits a message: the next one -/
set_option maxRecDepth 100000
section
variable {Sf : MS → Int32 → Prop} {β : Type} {b : Int → Nat → Nat → Prop} {N p j Y sc a t U B W M M1 vk d : Nat} {m w : MS} {nb : Nat → Nat} {Hs Os : Nat → List Nat} {Q : MS → Int32 → MS → β → Prop} {K : MS → Unit → Option (MS × β)}
theorem none3_pp (hpp : p < 24) (tt : TRs m w p j nb Hs Os 3 sc a (-1)) (pl : PLs b p m (wa w 94 p ((B : Nat) : Int)) U B W Y) (hB : B = nb j + (Hs j).length + (Os j).length) (hB2 : B < 100000) (hY : Y ≤ 30) (h8 : F m (pq p 8) = ((t : Nat) : Int)) (ht : t < Y) (hvk : vk + 2 < 1000000000) (h956 : F m 955 ≤ F m 956) (hcl : m.1 944 = w.1 120) (hun : A m 23 (sc - 1) = 0 → m.2.1 (pq p 10) = -1) (hn : ∀ n : Nat, F w 159 = ((n : Nat) : Int) → n < 2147483648)
    (kW : ∀ M' vk' m3 w3, M' ≤ M1 → vk' ≤ vk + 1 → WTn m3 w3 p j nb Hs Os sc → PLs b p m3 w3 U B W Y → GGm p m m3 → GGw p w w3 → (SCs p m w → SCs p m3 w3) → PP Q (q195 Sf N (qgo Sf N M') m3 p (I ((vk' : Nat) : Int))) (K w3 ()))
    (kR : ∀ M' vk' m3 w3 l q, M' ≤ M1 → vk' ≤ vk + 1 → RUs m3 w3 p j nb Hs Os none l q → PLs b p m3 w3 U B W Y → GGm p m m3 → GGw p w w3 → (SCs p m w → SCs p m3 w3) → PP Q (q195 Sf N (qgo Sf N M') m3 p (I ((vk' : Nat) : Int))) (K w3 ()))
    (kT : ∀ M' vk' m3 w3 k, M' ≤ M1 → vk' ≤ vk + 1 → t + 1 < Y → TRs m3 w3 p j nb Hs Os 3 sc (sc + 2) k → PLs b p m3 (wa w3 94 p ((B : Nat) : Int)) U B W Y → F m3 (pq p 8) = ((t + 1 : Nat) : Int) → GGm p m m3 → GGw p w w3 → (SCs p m w → SCs p m3 w3) → (w3.2.2.2 88 = w.2.2.2 88 ∧ w3.1 140 = w.1 140) → PP Q (q195 Sf N (qgo Sf N M') m3 p (I ((vk' : Nat) : Int))) (bnd (gg_M_choose N (rc_M_error N d) M w3 1) K)) : PP Q (q67 Sf N (qgo Sf N M1) m p (I ((vk : Nat) : Int))) (bnd (gg_M_choose N (rc_M_error N d) (M + 1) w 1) K) := by
  obtain ⟨ru, hpc, ⟨h153, h154, h156⟩, tr, nd, f, g, zr⟩ := tt
  obtain ⟨-, ⟨r5, r6⟩, -, ⟨r8, r9, r10⟩, r11, r12, r13⟩ := id ru
  obtain ⟨⟨d1, dL⟩, n, d2, d3, d4, d5, g2, d6⟩ := id (tr rfl)
  rw [← hB] at h156
  have zc : a + 1 < 24000 ∧ A m 23 a = 34 ∧ A m 23 (a + 1) = ((sc : Nat) : Int) := by
    cases g with
    | zero => exact zr.elim
    | succ g =>
      rcases zr with ⟨z0, ⟨-, z | z | z | ⟨-, z1, z2⟩⟩ | ⟨k0, ⟨z, -⟩, -⟩⟩
      · omega
      · omega
      · omega
      · exact ⟨z0, z1, z2⟩
      · omega
  obtain ⟨x32, zr2, -, -⟩ := id d6
  have zb : sc + 3 < 24000 := by
    cases g2 with
    | zero => exact zr2.elim
    | succ g2 =>
      have := zr2.1
      omega
  have c25 := A_r w 25 n
  refine cho_n hpp r11 h156 h154 ?_
  cases d with
  | zero => exact pp_nr
  | succ d =>
  show PP Q _ (bnd (fm_M_nonePart N (rc_M_error N d) (wa w 94 p ((B : Nat) : Int))) (fun u8 r8 => bnd (gg_M_choose N (rc_M_error N (d + 1)) M u8 r8) K))
  rw [go_fl r5 r8 (by omega) hpc (by omega) zc.2.1 ⟨by omega, by omega⟩, skip_m (sc := sc) hpc zc.1 zc.2.2 h8, bnd_so]
  generalize hm1 : wi (wi m (pq p 8) ((t + 1 : Nat) : Int)) 1105 ((sc : Nat) : Int) = m1
  have mq : ∀ l, l ≠ 8 → m1.1 (pq p l) = m.1 (pq p l) := fun l h => by rw [← hm1, wi_1 (fun c => pq_n (by omega) c.symm), wi_1 (pq_inj h)]
  have mg : ∀ l, l < 2000 → l ≠ 1105 → m1.1 l = m.1 l := fun l h0 h => by rw [← hm1, wi_1 h, wi_1 (pq_n h0)]
  have mr : m1.2 = m.2 := by rw [← hm1]; rfl
  have m8 : F m1 (pq p 8) = ((t + 1 : Nat) : Int) := by rw [← hm1, wi_ne (fun c => pq_n (by omega) c.symm), wi_sm (by omega) (by omega)]
  have mpc : F m1 1105 = ((sc : Nat) : Int) := by rw [← hm1, wi_sm (by omega) (by omega)]
  have mF : ∀ l, l < 2000 → l ≠ 1105 → F m1 l = F m l := fun l h0 h => congrArg Int32.toInt (mg l h0 h)
  have h23 : A m1 23 = A m 23 := by funext i; show (m1.2.2.1 23 i).toInt = _; rw [mr]; rfl
  have gm : GGm p m m1 := by
    rw [← hm1]
    exact GGm.tr (GGm_own (by omega)) (GGm_reg (by omega))
  refine go195 ((mF 1109 (by omega) (by omega)).trans r9) (by rw [mF 955 (by omega) (by omega), mF 956 (by omega) (by omega)]; exact h956) (fun hsf => ?_)
  cases M1 with
  | zero => exact pp_nl
  | succ M1 =>
  show PP Q (q67 Sf N (qgo Sf N M1) m1 p (I ((vk + 1 : Nat) : Int))) _
  -- here
  unfold fm_M_nonePart fb_M_nonePart_0
  have y153 : F (wa w 94 p ((B : Nat) : Int)) 153 = 3 := h153
  have y158 : F (wa w 94 p ((B : Nat) : Int)) 158 = ((t : Nat) : Int) := d1.trans h8
  rw [I_F' y153, show decide (I 3 = 3) = true from rfl, br_t, I_F' y158, show I ((t : Nat) : Int) + 1 = I ((t + 1 : Nat) : Int) from addN, wi_e, lt_e]
  have z33 : F (wi (wa w 94 p ((B : Nat) : Int)) 158 ((t + 1 : Nat) : Int)) 133 = ((p : Nat) : Int) := by rw [wi_ne (by omega)]; exact r11
  have z58 : F (wi (wa w 94 p ((B : Nat) : Int)) 158 ((t + 1 : Nat) : Int)) 158 = ((t + 1 : Nat) : Int) := wi_sm (by omega) (by omega)
  refine rb_ck (fun _ => ?_)
  rw [I_F' z33, tnI (n := p) rfl (by omega), I_F' z58, wa_e, lt_e]
  generalize hw5 : wa (wi (wa w 94 p ((B : Nat) : Int)) 158 ((t + 1 : Nat) : Int)) 110 p ((t + 1 : Nat) : Int) = w5
  have vF : ∀ l, l ≠ 158 → w5.1 l = w.1 l := fun l h => by
    rw [← hw5]
    show (wi (wa w 94 p ((B : Nat) : Int)) 158 ((t + 1 : Nat) : Int)).1 l = _
    rw [wi_1 h]; rfl
  have vf : ∀ l, l ≠ 158 → F w5 l = F w l := fun l h => congrArg Int32.toInt (vF l h)
  have v58 : F w5 158 = ((t + 1 : Nat) : Int) := by rw [← hw5]; exact z58
  have vR : ∀ K, K ≠ 94 → K ≠ 110 → w5.2.2.1 K = w.2.2.1 K := fun K h1 h2 => by
    rw [← hw5, wa_21 h2]
    show (wa w 94 p ((B : Nat) : Int)).2.2.1 K = _
    rw [wa_21 h1]
  have vJ : w5.2.2.2 = w.2.2.2 := by rw [← hw5]; rfl
  have v94 : A w5 94 p = ((B : Nat) : Int) := by
    rw [← hw5, wa_rne (by omega)]
    show A (wa w 94 p ((B : Nat) : Int)) 94 p = _
    rw [wa_sm (by omega) (by omega)]
  have v110 : A w5 110 p = ((t + 1 : Nat) : Int) := by rw [← hw5, wa_sm (by omega) (by omega)]
  have vA : ∀ K i, K ≠ 94 → K ≠ 110 → A w5 K i = A w K i := fun K i h1 h2 => by show (w5.2.2.1 K i).toInt = _; rw [vR K h1 h2]; rfl
  have pr : ∀ K, PRr K → w5.2.2.1 K = w.2.2.1 K := fun K h => vR K (by unfold PRr at h; omega) (by unfold PRr at h; omega)
  have ru5 : RUb m1 w5 p j nb Hs Os none := RUb_gw ru mq (fun l h1 h2 => mg l (by omega) (by omega)) (by rw [mr]) vR (fun l h => vF l (by omega)) vJ
  have pl5 : PLs b p m1 w5 U B W Y := PLs_gw pl mq (by rw [mr]) (fun K h1 h2 => by rw [vR K h1 h2, wa_21 h1]) v94 (by rw [vJ]; rfl)
  have gw5 : GGw p w w5 := by
    rw [← hw5]
    exact GGw.tr (GGw.tr (GGw_own (Or.inl ⟨by omega, rfl⟩)) (GGw_reg (by omega) (by omega))) (GGw_own (Or.inl ⟨by omega, rfl⟩))
  have sc5 : SCs p m w → SCs p m1 w5 := fun s => SC_ow s (fun l hl => mq l (by omega)) (by rw [mr]) (fun K h1 h2 => vR K (by omega) (by omega))
  have h108 : A w5 108 p = ((Y : Nat) : Int) := pl5.2.2.2.2.1
  have h7 : F m1 (pq p 7) = ((Y : Nat) : Int) := pl5.2.2.2.1
  have tq5 : TRq sc m1 w5 p (Hs j) (Os j) := ⟨by rw [mr, vJ]; exact dL, n, by rw [vf 159 (by omega)]; exact d2, by rw [vA 23 _ (by omega) (by omega)]; exact d4, by rw [vA 27 _ (by omega) (by omega)]; exact d5, g2, by rw [h23, ROs_eq pr, vJ]; exact d6⟩
  refine rb_ck (fun _ => ?_)
  rw [I_F' ((vf 133 (by omega)).trans r11), tnI (n := p) rfl (by omega), I_A' h108, I_F' v58, decI (by omega) (by omega) (by omega) (by omega)]
  by_cases ct : t + 1 = Y
  · rw [decide_eq_true (by omega), br_t]
    refine rb_ck (fun _ => rb_ck (fun _ => ?_))
    rw [wa_e, lt_e]
    refine r_bb ?_
    generalize hw6 : wa w5 110 p ((Y : Nat) : Int) = w6
    have e56 : w6 = w5 := by
      rw [← hw6]
      have : w5.2.2.1 110 p = I ((Y : Nat) : Int) := by rw [I_A' v110, ct]
      show (w5.1, w5.2.1, (fun k => if k = 110 then upd (w5.2.2.1 110) p (I ((Y : Nat) : Int)) else w5.2.2.1 k), w5.2.2.2) = w5
      have e : (fun k => if k = 110 then upd (w5.2.2.1 110) p (I ((Y : Nat) : Int)) else w5.2.2.1 k) = w5.2.2.1 := by
        funext k
        by_cases c : k = 110
        · subst c
          rw [if_pos rfl]
          funext i
          show (if i = p then I ((Y : Nat) : Int) else w5.2.2.1 110 i) = _
          by_cases c2 : i = p
          · rw [if_pos c2, c2, this]
          · rw [if_neg c2]
        · rw [if_neg c]
      rw [e]
    rw [e56]
    refine next_fin (K2 := fun u => bnd (gg_M_choose N (rc_M_error N (d + 1)) M u 0) K) hpp ru5 mpc tq5 nd pl5 (by rw [v110, ct]) (by rw [m8, ct]) (by omega) (by omega) (by rw [mg 944 (by omega) (by omega), vF 120 (by omega)]; exact hcl) (fun z => by rw [mr]; exact hun (by rw [← h23]; exact z)) (fun n h => hn n (by rw [← vf 159 (by omega)]; exact h)) (fun m3 w3 a1 a2 a3 a4 a5 => cho_0 (kW M1 (vk + 1) m3 w3 (by omega) (by omega) a1 a2 (GGm.tr gm a3) (GGw.tr gw5 a4) (fun s => a5 (sc5 s)))) (fun m3 w3 l q a1 a2 a3 a4 a5 => cho_0 (kR M1 (vk + 1) m3 w3 l q (by omega) (by omega) a1 a2 (GGm.tr gm a3) (GGw.tr gw5 a4) (fun s => a5 (sc5 s))))
  · rw [decide_eq_false (by omega), br_f, I_F' ((vf 155 (by omega)).trans d3), wi_e, lt_e]
    refine rb_ck (fun _ => ?_)
    show PP Q _ (bnd (gg_M_choose N (rc_M_error N (d + 1)) M (wi w5 154 (A w 25 n)) 1) K)
    rw [go_fl ((congrArg Int32.toInt (mq 9 (by omega))).trans r5) ((mF 1108 (by omega) (by omega)).trans r8) (by omega) mpc (by omega) (show A m1 23 sc = 32 by rw [h23]; exact x32) ⟨by omega, by omega⟩, next_m mpc (by omega) h7 m8 (by omega) hY, bnd_so]
    have e8 : F (wi m1 1105 ((sc + 2 : Nat) : Int)) (pq p 8) = ((t + 1 : Nat) : Int) := by rw [wi_ne (fun c => pq_n (by omega) c.symm)]; exact m8
    refine kT M1 (vk + 1) _ _ (A w 25 n) (by omega) (by omega) (by omega) ⟨RUb_pc ru5 (by omega), wi_sm (by omega) (by omega), ⟨?_, wi_sm c25.1 c25.2, ?_⟩, fun _ => ?_, nd, g2, g2, ?_⟩ ?_ e8 (GGm.tr gm (GGm_reg (by omega))) (GGw.tr gw5 (GGw_reg (by omega) (by omega))) (fun s => SC_ow (sc5 s) (fun l _ => wi_1 (fun c => pq_n (by omega) c.symm)) rfl (fun _ _ _ => rfl)) ⟨by show w5.2.2.2 88 = _; rw [vJ], (wi_1 (by omega)).trans (vF 140 (by omega))⟩
    · rw [wi_ne (by omega), vf 153 (by omega)]; exact h153
    · rw [wi_ne (by omega), vf 156 (by omega), h156, hB]
    · refine ⟨⟨?_, ?_⟩, n, ?_, ?_, ?_, ?_, g2, ?_⟩
      · rw [wi_ne (by omega), v58, e8]
      · show DLs (m1.2.1 (pq p 10)) (w5.2.2.2 111 p)
        rw [mr, vJ]; exact dL
      · rw [wi_ne (by omega), vf 159 (by omega)]; exact d2
      · rw [wi_ne (by omega), vf 155 (by omega)]
        show _ = A w5 25 n
        rw [vA 25 _ (by omega) (by omega)]; exact d3
      · show A w5 23 n = 27
        rw [vA 23 _ (by omega) (by omega)]; exact d4
      · show A w5 27 n = _
        rw [vA 27 _ (by omega) (by omega)]; exact d5
      · show RCs (A m1 23) (ROs w5) (w5.2.2.2 34) (CRs (A m1 23) (ROs w5) (w5.2.2.2 34) g2) g2 sc n (Hs j) (Os j)
        rw [h23, ROs_eq pr, vJ]; exact d6
    · show ZRs (A m1 23) (ROs w5) (w5.2.2.2 34) (CRs (A m1 23) (ROs w5) (w5.2.2.2 34) g2) 3 sc (Hs j) (Os j) g2 (sc + 2) (A w 25 n)
      rw [h23, ROs_eq pr, vJ]
      rw [ro_e (k := 25) (by unfold PRr; omega)] at zr2
      exact zr2
    · exact PLs_cg (PLs_94 pl5 hB2) (fun l _ => wi_1 (fun c => pq_n (by omega) c.symm)) (fun _ _ => rfl) (fun _ _ => rfl) (fun _ _ => rfl) (fun _ _ => rfl) (fun _ _ => rfl) (fun _ _ => rfl) (fun _ _ => rfl) (fun _ _ => rfl) (fun _ _ => rfl)
end
