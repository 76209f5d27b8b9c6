/-! a receive: messages are looked at, both sides -/
set_option maxRecDepth 100000
section
variable {Sf : MS → Int32 → Prop} {β : Type} {b : Int → Nat → Nat → Prop} {N p j Y sc U B W : Nat} {m w m2 w2 : MS} {nb : Nat → Nat} {Hs Os : Nat → List Nat} {Q : MS → Int32 → MS → β → Prop} {Z : Option (MS × β)} {K2 : MS → Option (MS × β)}
theorem TRq_of {H O : List Nat} (h : TRr 3 sc m w p H O) : TRq sc m w p H O := by
  obtain ⟨⟨-, dL⟩, n, d2, -, d4, d5, d6⟩ := h rfl
  exact ⟨dL, n, d2, d4, d5, d6⟩
/-- there is no CLAUSE: all messages are passed over, there -/
theorem skip_lp (hY : Y ≤ 30) (c32 : A m 23 sc = 32) (c34 : A m 23 (sc + 2) = 34) (c35 : A m 23 (sc + 2 + 1) = ((sc : Nat) : Int)) (hsc : sc + 3 < 24000) (h9 : F m (pq p 9) = 0) (h18 : F m 1108 = 0) (h19 : F m 1109 = 0) (h956 : F m 955 ≤ F m 956) (h7 : F m (pq p 7) = ((Y : Nat) : Int)) {V M0 : Nat} (hV : V < 1000000000)
    (kk : ∀ m' M' vk', M' ≤ M0 → vk' ≤ V → (∀ l, l ≠ 1105 → l ≠ pq p 8 → m'.1 l = m.1 l) → m'.2 = m.2 → F m' 1105 = ((sc : Nat) : Int) → F m' (pq p 8) = ((Y : Nat) : Int) → PP Q (q67 Sf N (qgo Sf N M') m' p (I ((vk' : Nat) : Int))) Z) : ∀ (d t M vk : Nat) (m1 : MS), t + d = Y → M ≤ M0 → vk + 2 * d ≤ V → (∀ l, l ≠ 1105 → l ≠ pq p 8 → m1.1 l = m.1 l) → m1.2 = m.2 → F m1 1105 = ((sc : Nat) : Int) → F m1 (pq p 8) = ((t : Nat) : Int) → PP Q (q67 Sf N (qgo Sf N M) m1 p (I ((vk : Nat) : Int))) Z := by
  intro d
  induction d with
  | zero =>
    intro t M vk m1 ht hM hv e1 e2 e3 e4
    exact kk m1 M vk hM (by omega) e1 e2 e3 (e4.trans (by rw [show t = Y by omega]))
  | succ d ih =>
    intro t M vk m1 ht hM hv e1 e2 e3 e4
    have g : ∀ u : MS, (∀ l, l ≠ 1105 → l ≠ pq p 8 → u.1 l = m.1 l) → u.2 = m.2 → (F u (pq p 9) = 0 ∧ F u 1108 = 0 ∧ F u 1109 = 0 ∧ F u 955 ≤ F u 956 ∧ F u (pq p 7) = ((Y : Nat) : Int)) ∧ ∀ i, A u 23 i = A m 23 i := fun u u1 u2 => by
      have f : ∀ l, l ≠ 1105 → l ≠ pq p 8 → F u l = F m l := fun l a c => congrArg Int32.toInt (u1 l a c)
      refine ⟨⟨?_, ?_, ?_, ?_, ?_⟩, fun i => ?_⟩
      · rw [f _ (fun c => pq_n (by omega) c.symm) (pq_inj (by omega))]; exact h9
      · rw [f _ (by omega) (pq_n (by omega))]; exact h18
      · rw [f _ (by omega) (pq_n (by omega))]; exact h19
      · rw [f _ (by omega) (pq_n (by omega)), f _ (by omega) (pq_n (by omega))]; exact h956
      · rw [f _ (fun c => pq_n (by omega) c.symm) (pq_inj (by omega))]; exact h7
      · show (u.2.2.1 23 i).toInt = _
        rw [u2]; rfl
    obtain ⟨⟨a1, a2, a3, a4, a5⟩, a6⟩ := g m1 e1 e2
    rw [go_fl a1 a2 (by omega) e3 (by omega) ((a6 sc).trans c32) ⟨by omega, by omega⟩, next_m e3 (by omega) a5 e4 (by omega) hY, bnd_so]
    have e1' : ∀ l, l ≠ 1105 → l ≠ pq p 8 → (wi m1 1105 ((sc + 2 : Nat) : Int)).1 l = m.1 l := fun l c1 c2 => (wi_1 c1).trans (e1 l c1 c2)
    obtain ⟨⟨b1, b2, b3, b4, b5⟩, b6⟩ := g (wi m1 1105 ((sc + 2 : Nat) : Int)) e1' e2
    refine go195 b3 b4 (fun hsf => ?_)
    cases M with
    | zero => exact pp_nl
    | succ M =>
    show PP Q (q67 Sf N (qgo Sf N M) (wi m1 1105 ((sc + 2 : Nat) : Int)) p (I ((vk + 1 : Nat) : Int))) Z
    have e8 : F (wi m1 1105 ((sc + 2 : Nat) : Int)) (pq p 8) = ((t : Nat) : Int) := by rw [wi_ne (fun c => pq_n (by omega) c.symm)]; exact e4
    rw [go_fl b1 b2 (by omega) (a := sc + 2) (wi_sm (by omega) (by omega)) (by omega) ((b6 (sc + 2)).trans c34) ⟨by omega, by omega⟩, skip_m (a := sc + 2) (sc := sc) (wi_sm (by omega) (by omega)) (by omega) ((b6 (sc + 2 + 1)).trans c35) e8, bnd_so]
    have e1'' : ∀ l, l ≠ 1105 → l ≠ pq p 8 → (wi (wi (wi m1 1105 ((sc + 2 : Nat) : Int)) (pq p 8) ((t + 1 : Nat) : Int)) 1105 ((sc : Nat) : Int)).1 l = m.1 l := fun l c1 c2 => (wi_1 c1).trans ((wi_1 c2).trans (e1' l c1 c2))
    obtain ⟨⟨-, -, d3, d4, -⟩, -⟩ := g (wi (wi (wi m1 1105 ((sc + 2 : Nat) : Int)) (pq p 8) ((t + 1 : Nat) : Int)) 1105 ((sc : Nat) : Int)) e1'' e2
    refine go195 d3 d4 (fun hsf => ?_)
    cases M with
    | zero => exact pp_nl
    | succ M =>
    show PP Q (q67 Sf N (qgo Sf N M) (wi (wi (wi m1 1105 ((sc + 2 : Nat) : Int)) (pq p 8) ((t + 1 : Nat) : Int)) 1105 ((sc : Nat) : Int)) p (I ((vk + 1 + 1 : Nat) : Int))) Z
    exact ih (t + 1) M (vk + 1 + 1) _ (by omega) (by omega) (by omega) e1'' e2 (wi_sm (by omega) (by omega)) (by rw [wi_ne (fun c => pq_n (by omega) c.symm), wi_sm (by omega) (by omega)])
/-- messages are looked at from here on -/
theorem recv_pp {t M1 vk : Nat} (hpp : p < 24) (nx : NXs m w p j nb Hs Os sc) (pl : PLs b p m (wa w 94 p ((B : Nat) : Int)) U B W Y) (hB : B = nb j + (Hs j).length + (Os j).length) (hB2 : B < 100000) (hY : Y ≤ 30) (h8 : F m (pq p 8) = ((t : Nat) : Int)) (ht : t ≤ Y) (hvk : vk + 100 < 1000000000) (h956 : F m 955 ≤ F m 956) (hcl : m.1 944 = w.1 120) (hun : A m 23 (sc - 1) = 0 → m.2.1 (pq p 10) = -1) (hn : ∀ n : Nat, F w 159 = ((n : Nat) : Int) → n < 2147483648)
    (kW : ∀ M' vk' m3 w3, M' ≤ M1 → vk' ≤ vk + 60 → WTn m3 w3 p j nb Hs Os sc → PLs b p m3 w3 U B W Y → GGm p m m3 → GGw p w w3 → (SCs p m w → SCs p m3 w3) → PP Q (q195 Sf N (qgo Sf N M') m3 p (I ((vk' : Nat) : Int))) (K2 w3))
    (kR : ∀ M' vk' m3 w3 l q, M' ≤ M1 → vk' ≤ vk + 60 → RUs m3 w3 p j nb Hs Os none l q → PLs b p m3 w3 U B W Y → GGm p m m3 → GGw p w w3 → (SCs p m w → SCs p m3 w3) → PP Q (q195 Sf N (qgo Sf N M') m3 p (I ((vk' : Nat) : Int))) (K2 w3))
    (kT : ∀ m3 w3 k, t < Y → TRs m3 w3 p j nb Hs Os 3 sc (sc + 2) k → PLs b p m3 (wa w3 94 p ((B : Nat) : Int)) U B W Y → F m3 (pq p 8) = ((t : Nat) : Int) → GGm p m m3 → GGw p w w3 → (SCs p m w → SCs p m3 w3) → (w3.2.2.2 88 = w.2.2.2 88 ∧ w3.1 140 = w.1 140) → PP Q (q195 Sf N (qgo Sf N M1) m3 p (I ((vk : Nat) : Int))) (bnd (gg_M_choose N (rc_M_error N 19) N w3 1) (fun u _ => K2 u))) : PP Q (q67 Sf N (qgo Sf N M1) m p (I ((vk : Nat) : Int))) (bnd (gwB N w) (fun u _ => K2 u)) := by
  obtain ⟨ru, hpc, ⟨h153, h156⟩, tr, nd⟩ := nx
  obtain ⟨-, ⟨r5, r6⟩, -, ⟨r8, r9, r10⟩, r11, r12, r13⟩ := id ru
  obtain ⟨⟨d1, dL⟩, n, d2, d3, d4, d5, g, d6⟩ := tr rfl
  have h108 : A w 108 p = ((Y : Nat) : Int) := by
    have := pl.2.2.2.2.1
    rw [wa_rne (by omega)] at this
    exact this
  have h7 : F m (pq p 7) = ((Y : Nat) : Int) := pl.2.2.2.1
  have h158 : F w 158 = ((t : Nat) : Int) := d1.trans h8
  obtain ⟨x32, zr, -, -⟩ := id d6
  have zb : sc + 3 < 24000 := by
    cases g with
    | zero => exact zr.elim
    | succ g =>
      have := zr.1
      omega
  have c25 := A_r w 25 n
  unfold gwB
  refine rb_ck (fun _ => ?_)
  rw [I_F' r11, tnI (n := p) rfl (by omega), I_A' h108, I_F' h158, decI (by omega) (by omega) (by omega) (by omega)]
  by_cases ct : t = Y
  · rw [decide_eq_true (by omega), br_t]
    exact recv_end hpp ru hpc h156 (TRq_of tr) nd pl hB hB2 hY (by rw [h8, ct]) (by omega) (by omega) hcl hun hn (fun m3 w3 => kW M1 vk m3 w3 (Nat.le_refl _) (by omega)) (fun m3 w3 l q => kR M1 vk m3 w3 l q (Nat.le_refl _) (by omega))
  · rw [decide_eq_false (by omega), br_f, I_F' d3, show (-1 : Int32) = I (-1) from rfl, decE c25.1 c25.2 (by omega) (by omega)]
    by_cases ck : A w 25 n = -1
    · -- there is no CLAUSE
      rw [decide_eq_true ck, br_t]
      have z2 : A m 23 (sc + 2) = 34 ∧ A m 23 (sc + 2 + 1) = ((sc : Nat) : Int) := by
        rw [ro_e (k := 25) (by unfold PRr; omega), ck] at zr
        cases g with
        | zero => exact zr.elim
        | succ g =>
          rcases zr.2 with ⟨-, z | z | z | ⟨-, z1, z2⟩⟩ | ⟨k0, ⟨z, -⟩, -⟩
          · omega
          · omega
          · omega
          · exact ⟨z1, z2⟩
          · omega
      refine skip_lp (m := m) (Y := Y) (V := vk + 60) (M0 := M1) hY x32 z2.1 z2.2 zb r5 r8 r9 h956 h7 (by omega) (fun m' M' vk' q1 q2 q3 q4 q5 q6 => ?_) (Y - t) t M1 vk m (by omega) (Nat.le_refl _) (by omega) (fun _ _ _ => rfl) rfl hpc h8
      have mq : ∀ l, l ≠ 8 → m'.1 (pq p l) = m.1 (pq p l) := fun l h => q3 _ (fun c => pq_n (by omega) c.symm) (pq_inj h)
      have mg : ∀ l, l < 2000 → l ≠ 1105 → m'.1 l = m.1 l := fun l h0 h => q3 l h (pq_n h0)
      have h23 : A m' 23 = A m 23 := by funext i; show (m'.2.2.1 23 i).toInt = _; rw [q4]; rfl
      have ru' : RUb m' w p j nb Hs Os none := RUb_gw ru mq (fun l h1 h2 => mg l (by omega) (by omega)) (by rw [q4]) (fun _ _ _ => rfl) (fun _ _ => rfl) rfl
      have pl' : PLs b p m' (wa w 94 p ((B : Nat) : Int)) U B W Y := PLs_gw pl mq (by rw [q4]) (fun _ _ _ => rfl) (by rw [wa_sm (by omega) (by omega)]) rfl
      have gm : GGm p m m' := ⟨fun d hd l hl => ⟨q3 _ (fun c => pq_n (by omega) c.symm) (fun c => hd (pq_e hl (by omega) c).1), by rw [q4], by rw [q4], by rw [q4]⟩, ⟨by rw [q4], mg 22 (by omega) (by omega), by rw [q4], by rw [q4]⟩, mg 955 (by omega) (by omega), by rw [q4], mg 956 (by omega) (by omega), fun K _ => by rw [q4], fun k hk => mg k (by omega) (by omega)⟩
      have sc' : SCs p m w → SCs p m' w := fun s => SC_ow s (fun l hl => mq l (by omega)) (by rw [q4]) (fun _ _ _ => rfl)
      exact recv_end hpp ru' q5 h156 ⟨by rw [q4]; exact dL, n, d2, d4, d5, g, by rw [h23]; exact d6⟩ nd pl' hB hB2 hY q6 (by omega) (by omega) (by rw [mg 944 (by omega) (by omega)]; exact hcl) (fun z => by rw [q4]; exact hun (by rw [← h23]; exact z)) hn (fun m3 w3 a1 a2 a3 a4 a5 => kW M' vk' m3 w3 q1 q2 a1 a2 (GGm.tr gm a3) a4 (fun s => a5 (sc' s))) (fun m3 w3 l q a1 a2 a3 a4 a5 => kR M' vk' m3 w3 l q q1 q2 a1 a2 (GGm.tr gm a3) a4 (fun s => a5 (sc' s)))
    · rw [decide_eq_false ck, br_f, wi_e, lt_e]
      refine r_bb ?_
      show PP Q _ (bnd (gg_M_choose N (rc_M_error N 19) N (wi w 154 (A w 25 n)) 1) (fun u _ => K2 u))
      rw [go_fl r5 r8 (by omega) hpc (by omega) x32 ⟨by omega, by omega⟩, next_m hpc (by omega) h7 h8 (by omega) hY, bnd_so]
      have e8 : F (wi m 1105 ((sc + 2 : Nat) : Int)) (pq p 8) = ((t : Nat) : Int) := by rw [wi_ne (fun c => pq_n (by omega) c.symm)]; exact h8
      refine kT _ _ (A w 25 n) (by omega) ⟨RUb_pc ru (by omega), wi_sm (by omega) (by omega), ⟨?_, wi_sm c25.1 c25.2, ?_⟩, ?_, nd, g, g, ?_⟩ ?_ e8 (GGm_reg (by omega)) (GGw_reg (by omega) (by omega)) (fun s => SC_ow s (fun l _ => wi_1 (fun c => pq_n (by omega) c.symm)) rfl (fun _ _ _ => rfl)) ⟨rfl, wi_1 (by omega)⟩
      · rw [wi_ne (by omega)]; exact h153
      · rw [wi_ne (by omega)]; exact h156
      · exact TRr_w tr (wi_1 (fun c => pq_n (by omega) c.symm)) rfl rfl (fun l hl => wi_1 (by omega)) rfl (fun _ _ => rfl) rfl
      · rw [ro_e (k := 25) (by unfold PRr; omega)] at zr
        exact zr
      · exact PLs_cg pl (fun l _ => wi_1 (fun c => pq_n (by omega) c.symm)) (fun _ _ => rfl) (fun _ _ => rfl) (fun _ _ => rfl) (fun _ _ => rfl) (fun _ _ => rfl) (fun _ _ => rfl) (fun _ _ => rfl) (fun _ _ => rfl) (fun _ _ => rfl)
end
