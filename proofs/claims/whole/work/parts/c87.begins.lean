/-! trying begins; a GUARD holds -/
set_option maxRecDepth 100000
section
variable {Sf : MS → Int32 → Prop} {b : Int → Nat → Nat → Prop} {N p U B W Y : Nat} {m w : MS} {v : Int}
theorem PLs_94 (pl : PLs b p m w U B W Y) (hB : B < 100000) : PLs b p m (wa w 94 p ((B : Nat) : Int)) U B W Y := PLs_cg pl (fun _ _ => rfl) (fun _ _ => rfl) (fun _ _ => rfl) (fun _ _ => rfl) (fun _ _ => rfl) (fun K _ => by
  by_cases c : K = 94
  · subst c
    apply Int32.toInt_inj.mp
    show A (wa w 94 p ((B : Nat) : Int)) 94 p = A w 94 p
    rw [wa_sm (by omega) (by omega), pl.2.1.2.1]
  · rw [wa_21 c]) (fun _ _ => rfl) (fun _ _ => rfl) (fun _ _ => rfl) (fun _ _ => rfl)
theorem one_21 : fm_M_one N w (I v) (I 21) = bnd (fm_M_frame0 N w) (fun u4 r4 => ck (inb (I v) (ln 25)) (ck (inb r4 (ln 99)) (ck (inb r4 (ln 101)) (ck (inb (I v) (ln 27)) (bnd (fm_M_tryFrom N u4 (I 1) (u4.2.2.1 25 (I v).toNatClampNeg) (((u4.2.2.1 99 r4.toNatClampNeg) + (u4.2.2.1 101 r4.toNatClampNeg)) + (u4.2.2.1 27 (I v).toNatClampNeg))) (fun u3 _ => some (u3, ()))))))) := rfl
theorem one_31 : fm_M_one N w (I v) (I 31) = bnd (fm_M_frame0 N w) (fun u4 r4 => ck (inb (I v) (ln 25)) (ck (inb r4 (ln 99)) (ck (inb r4 (ln 101)) (ck (inb (I v) (ln 27)) (bnd (fm_M_tryFrom N u4 (I 2) (u4.2.2.1 25 (I v).toNatClampNeg) (((u4.2.2.1 99 r4.toNatClampNeg) + (u4.2.2.1 101 r4.toNatClampNeg)) + (u4.2.2.1 27 (I v).toNatClampNeg))) (fun u3 _ => some (u3, ()))))))) := rfl
theorem one_23 : fm_M_one N w (I v) (I 23) = bnd (fm_M_goTo N w (I v + 1)) (fun u7 _ => bnd (fm_M_chosen N u7) (fun u9 _ => some (u9, ()))) := rfl
end
section
variable {Sf : MS → Int32 → Prop} {α β : Type} {b : Int → Nat → Nat → Prop} {N p U B W Y j a n kd : Nat} {m w : MS} {nb : Nat → Nat} {Hs Os : Nat → List Nat} {Q : MS → α → MS → β → Prop} {D : Option (MS × α)} {K2 : MS → Option (MS × β)} {nk : Int}
/-- case, if: trying begins, here -/
theorem op_tries (hpp : p < 24) (hv : (nk = 21 ∧ kd = 1) ∨ (nk = 31 ∧ kd = 2)) (pl : PLs b p m w U B W Y) (ru : RUs m w p j nb Hs Os none a n) (hB : B < 100000) (h27 : A w 27 n = (((Os j).length : Nat) : Int)) (zr : ∃ f g, ZRs (A m 23) (ROs w) (w.2.2.2 34) (CRs (A m 23) (ROs w) (w.2.2.2 34) f) kd 0 (Hs j) (Os j) g a (A w 25 n))
    (c : ∀ w3, TRs m w3 p j nb Hs Os kd 0 a (A w 25 n) → PLs b p m (wa w3 94 p ((B : Nat) : Int)) U B W Y → GGw p w w3 → (SCs p m w → SCs p m w3) → (w3.2.2.2 88 = w.2.2.2 88 ∧ w3.1 140 = w.1 140) → PP Q D (bnd (gg_M_choose N (rc_M_error N 19) N w3 1) (fun u _ => K2 u))) : PP Q D (bnd (fm_M_one N w (I ((n : Nat) : Int)) (I nk)) (fun u _ => K2 u)) := by
  obtain ⟨⟨fa, ct⟩, ⟨r2, r3⟩, ⟨f0, cr⟩, ⟨r5, r6⟩, r7, ⟨r8, r9, r10⟩, r11, r12, r13⟩ := id ru
  obtain ⟨h12, h152⟩ : F m 1112 = 0 ∧ F w 152 = 0 := by
    rcases r7 with ⟨_, c3, c4⟩ | ⟨_, _, _, c, _⟩
    · exact ⟨c3, c4⟩
    · cases c
  have hj : j < 60 := fa.1.2.2
  have cb := CR_b cr
  have e1 : fm_M_one N w (I ((n : Nat) : Int)) (I nk) = bnd (fm_M_frame0 N w) (fun u4 r4 => ck (inb (I ((n : Nat) : Int)) (ln 25)) (ck (inb r4 (ln 99)) (ck (inb r4 (ln 101)) (ck (inb (I ((n : Nat) : Int)) (ln 27)) (bnd (fm_M_tryFrom N u4 (I ((kd : Nat) : Int)) (u4.2.2.1 25 (I ((n : Nat) : Int)).toNatClampNeg) (((u4.2.2.1 99 r4.toNatClampNeg) + (u4.2.2.1 101 r4.toNatClampNeg)) + (u4.2.2.1 27 (I ((n : Nat) : Int)).toNatClampNeg))) (fun u3 _ => some (u3, ()))))))) := by
    rcases hv with ⟨rfl, rfl⟩ | ⟨rfl, rfl⟩
    · exact one_21
    · exact one_31
  obtain ⟨-, -, ⟨-, g4⟩, -, g6, -⟩ := fa.2.1 j (Nat.le_refl _)
  have ix : (I ((p : Nat) : Int) * 60 + I ((j + 1 : Nat) : Int) - 1).toNatClampNeg = 60 * p + j := by
    rw [show (60 : Int32) = I 60 from rfl, lit1, I_mul, I_add, I_sub]
    exact tnI (n := 60 * p + j) (by omega) (by omega)
  rw [e1]
  unfold fm_M_frame0 fb_M_frame0_0
  rw [I_F' r11, tnI (n := p) rfl (by omega), I_A' fa.1.2.1]
  refine rb_bnd (pk_ck (fun _ => pk_some ?_))
  refine rb_ck (fun _ => rb_ck (fun _ => rb_ck (fun _ => rb_ck (fun _ => ?_))))
  rw [ix, tnI (n := n) rfl (by omega), I_A' g4, I_A' g6, I_A' h27, I_A (k := 25), addN, addN]
  refine r_bb ?_
  unfold fm_M_tryFrom fb_M_tryFrom_0
  rw [wi_e, lt_e, wi_e, lt_e, wi_e, lt_e, wi_e, lt_e]
  refine r_bb ?_
  show PP Q D (bnd (gg_M_choose N (rc_M_error N 19) N (wi (wi (wi (wi w 153 ((kd : Nat) : Int)) 155 (A w 25 n)) 154 (A w 25 n)) 156 ((nb j + (Hs j).length + (Os j).length : Nat) : Int)) 1) (fun u _ => K2 u))
  have cr25 := A_r w 25 n
  have hB3 : B = nb j + (Hs j).length + (Os j).length := by
    have h1 := pl.2.1.1
    rw [fa.2.2.2, List.length_append] at h1
    omega
  have lo : ∀ l, l ≠ 153 → l ≠ 154 → l ≠ 155 → l ≠ 156 → (wi (wi (wi (wi w 153 ((kd : Nat) : Int)) 155 (A w 25 n)) 154 (A w 25 n)) 156 ((nb j + (Hs j).length + (Os j).length : Nat) : Int)).1 l = w.1 l := fun l h1 h2 h3 h4 => by rw [wi_1 h4, wi_1 h2, wi_1 h3, wi_1 h1]
  have lF : ∀ l, l ≠ 153 → l ≠ 154 → l ≠ 155 → l ≠ 156 → F (wi (wi (wi (wi w 153 ((kd : Nat) : Int)) 155 (A w 25 n)) 154 (A w 25 n)) 156 ((nb j + (Hs j).length + (Os j).length : Nat) : Int)) l = F w l := fun l h1 h2 h3 h4 => congrArg Int32.toInt (lo l h1 h2 h3 h4)
  refine c _ ⟨⟨⟨fa, ct⟩, ⟨r5, r6⟩, Or.inl ⟨rfl, h12, ?_⟩, ⟨r8, r9, ?_⟩, ?_, ?_, ?_⟩, r2, ⟨?_, ?_, ?_⟩, fun c => ?_, CR_n cr, zr⟩ ?_ (GGw.tr (GGw.tr (GGw.tr (GGw_reg (by omega) (by omega)) (GGw_reg (by omega) (by omega))) (GGw_reg (by omega) (by omega))) (GGw_reg (by omega) (by omega))) id ⟨rfl, lo 140 (by omega) (by omega) (by omega) (by omega)⟩
  · rw [lF 152 (by omega) (by omega) (by omega) (by omega)]; exact h152
  · rw [lF 151 (by omega) (by omega) (by omega) (by omega)]; exact r10
  · rw [lF 133 (by omega) (by omega) (by omega) (by omega)]; exact r11
  · rw [lo 165 (by omega) (by omega) (by omega) (by omega)]; exact r12
  · rw [lo 164 (by omega) (by omega) (by omega) (by omega)]; exact r13
  · rw [wi_ne (by omega), wi_ne (by omega), wi_ne (by omega), wi_sm (by omega) (by omega)]
  · rw [wi_ne (by omega), wi_sm cr25.1 cr25.2]
  · rw [wi_sm (by omega) (by omega)]
  · omega
  · exact PLs_cg (PLs_94 pl hB) (fun _ _ => rfl) (fun _ _ => rfl) (fun _ _ => rfl) (fun _ _ => rfl) (fun _ _ => rfl) (fun _ _ => rfl) (fun _ _ => rfl) (fun _ _ => rfl) (fun _ _ => rfl) (fun _ _ => rfl)
end
section
variable {Sf : MS → Int32 → Prop} {β : Type} {b : Int → Nat → Nat → Prop} {N p U B W Y j a n kd k0 sc M1 vk : Nat} {m w : MS} {nb : Nat → Nat} {Hs Os : Nat → List Nat} {Q : MS → Int32 → MS → β → Prop} {K2 : MS → Option (MS × β)}
/-- a GUARD holds: its part is chosen -/
theorem op_gdend (hpp : p < 24) (pl : PLs b p m w U B W Y) (ru : RUs m w p j nb Hs Os (some (kd, k0, sc)) a n) (hW : W < 46000) (hvk : vk + 1 < 1000000000) (hk : k0 < 100000) (h956 : F m 955 ≤ F m 956) (c23 : A m 23 a = 23)
    (b0 : kd = 0 → ∃ n0 : Nat, A w 41 k0 = ((n0 : Nat) : Int) ∧ n0 ≤ W) (b1 : kd = 1 → 1 ≤ W) (b3 : kd = 3 → Y ≤ 30 ∧ ∃ t : Nat, F m (pq p 8) = ((t : Nat) : Int) ∧ t < Y)
    (cs : ∃ f, CHs (A m 23) (ROs w) (CRs (A m 23) (ROs w) (w.2.2.2 34) f) kd (a + 1) k0 (Hs j) (Os j))
    (kC : ∀ M' vk' m3 w3 W3 Y3 y a n, M' ≤ M1 → vk' ≤ vk + 1 → PLs b p m3 w3 U B W3 Y3 → RUs m3 w3 p j nb Hs Os y a n → GGm p m m3 → GGw p w w3 → (SCs p m w → SCs p m3 w3) → PP Q (q195 Sf N (qgo Sf N M') m3 p (I ((vk' : Nat) : Int))) (K2 w3))
    (kD : ∀ M' vk' m3 w3 a n, M' ≤ M1 → vk' ≤ vk + 1 → PLs b p m3 w3 U B W Y → RUs m3 w3 p j nb Hs Os none a n → GGm p m m3 → GGw p w w3 → (SCs p m w → SCs p m3 w3) → (∃ k : Nat, vk' = k + 1 ∧ Sf m3 (I ((k : Nat) : Int))) → PP Q (q67 Sf N (qgo Sf N M') m3 p (I ((vk' : Nat) : Int))) (K2 w3)) : PP Q (bnd (hm_Ma_flow N m p (I 23)) (fun u _ => q195 Sf N (qgo Sf N M1) u p (I ((vk : Nat) : Int)))) (bnd (fm_M_one N w (I ((n : Nat) : Int)) (I 23)) (fun u _ => K2 u)) := by
  obtain ⟨⟨fa, ct⟩, ⟨r2, r3⟩, ⟨f0, cr⟩, ⟨r5, r6⟩, r7, ⟨r8, r9, r10⟩, r11, r12, r13⟩ := id ru
  have hj : j < 60 := fa.1.2.2
  have cb := CR_b cr
  obtain ⟨h153, h154, tr⟩ : F w 153 = ((kd : Nat) : Int) ∧ F w 154 = ((k0 : Nat) : Int) ∧ (kd = 3 → F w 158 = F m (pq p 8)) := by
    rcases r7 with ⟨c, _⟩ | ⟨kd2, k2, sc2, c, fl, W0, O0, X, _, _, ⟨_, c8, c9, _, _⟩, c12, _⟩
    · cases c
    · injection c with c
      injection c with e1 c
      injection c with e2 e3
      subst e1 e2 e3
      exact ⟨c8, c9, fun c => (c12 c).1.1⟩
  rw [flo23, one_23, show I ((n : Nat) : Int) + 1 = I ((n + 1 : Nat) : Int) from addN, I_F' r2, show I ((a : Nat) : Int) + 1 = I ((a + 1 : Nat) : Int) from addN, Co_e (k := a + 1) rfl (by omega), bnd_so, lit0, wi_e, lt_e]
  have e5 : F (wi m 1112 0) 1105 = ((a : Nat) : Int) := by rw [wi_ne (by omega)]; exact r2
  rw [I_F' e5, show I ((a : Nat) : Int) + 1 = I ((a + 1 : Nat) : Int) from addN, wi_e, lt_e, bnd_so]
  have q9 : F (wi (wi m 1112 0) 1105 ((a + 1 : Nat) : Int)) 1109 = 0 := by rw [wi_ne (by omega), wi_ne (by omega)]; exact r9
  have q5 : F (wi (wi m 1112 0) 1105 ((a + 1 : Nat) : Int)) 955 ≤ F (wi (wi m 1112 0) 1105 ((a + 1 : Nat) : Int)) 956 := by rw [wi_ne (by omega), wi_ne (by omega), wi_ne (by omega), wi_ne (by omega)]; exact h956
  refine go195 q9 q5 (fun hsf => ?_)
  cases M1 with
  | zero => exact pp_nl
  | succ M1 =>
  show PP Q (q67 Sf N (qgo Sf N M1) (wi (wi m 1112 0) 1105 ((a + 1 : Nat) : Int)) p (I ((vk + 1 : Nat) : Int))) _
  refine rb_bnd (pk_mo (goto_r (N := N) (n := ((n + 1 : Nat) : Int)) hpp r11 fa.1.2.1 hj) (fun w2 _ h => ?_))
  subst h
  refine r_bb ?_
  have wR : ∀ K, K ≠ 98 → (wa w 98 (60 * p + j) ((n + 1 : Nat) : Int)).2.2.1 K = w.2.2.1 K := fun K h => wa_21 h
  have pr : ∀ K, PRr K → (wa w 98 (60 * p + j) ((n + 1 : Nat) : Int)).2.2.1 K = w.2.2.1 K := fun K h => wR K (by unfold PRr at h; omega)
  have gw : GGw p w (wa w 98 (60 * p + j) ((n + 1 : Nat) : Int)) := GGw_own (Or.inr (Or.inl ⟨⟨by omega, by omega⟩, by omega, by omega⟩))
  have gm : GGm p m (wi (wi m 1112 0) 1105 ((a + 1 : Nat) : Int)) := GGm.tr (GGm_reg (by omega)) (GGm_reg (by omega))
  have mq : ∀ l, (wi (wi m 1112 0) 1105 ((a + 1 : Nat) : Int)).1 (pq p l) = m.1 (pq p l) := fun l => by rw [wi_1 (fun c => pq_n (by omega) c.symm), wi_1 (fun c => pq_n (by omega) c.symm)]
  have fc : FAs (wi (wi m 1112 0) 1105 ((a + 1 : Nat) : Int)) (wa w 98 (60 * p + j) ((n + 1 : Nat) : Int)) p j nb Hs Os ∧ CTs (wi (wi m 1112 0) 1105 ((a + 1 : Nat) : Int)) (wa w 98 (60 * p + j) ((n + 1 : Nat) : Int)) p j nb Hs Os := FC_w ⟨fa, ct⟩ (fun l _ => mq l) (fun _ _ => rfl) rfl (fun K h => by rw [wR K (by omega)]) (fun K r h1 h2 h3 h4 => wa_at (by omega)) (fun K c h1 h2 _ => by rw [wR K (by omega)]) pr rfl
  have ru1 : RUb (wi (wi m 1112 0) 1105 ((a + 1 : Nat) : Int)) (wi (wa w 98 (60 * p + j) ((n + 1 : Nat) : Int)) 152 0) p j nb Hs Os none := by
    refine ⟨fc, ⟨(congrArg Int32.toInt (mq 9)).trans r5, ?_⟩, Or.inl ⟨rfl, ?_, wi_sm (by omega) (by omega)⟩, ⟨?_, q9, ?_⟩, ?_, ?_, ?_⟩
    · show A (wa w 98 (60 * p + j) ((n + 1 : Nat) : Int)) 109 p = 0
      rw [wa_rne (by omega)]; exact r6
    · rw [wi_ne (by omega), wi_sm (by omega) (by omega)]
    · rw [wi_ne (by omega), wi_ne (by omega)]; exact r8
    · rw [wi_ne (by omega)]; exact r10
    · rw [wi_ne (by omega)]; exact r11
    · rw [wi_1 (by omega), wi_1 (by omega), wi_1 (by omega)]; exact r12
    · rw [wi_1 (by omega), wi_1 (by omega), wi_1 (by omega)]; exact r13
  have pl1 : PLs b p (wi (wi m 1112 0) 1105 ((a + 1 : Nat) : Int)) (wa w 98 (60 * p + j) ((n + 1 : Nat) : Int)) U B W Y := PLs_98 (PLs_cg pl (fun l _ => mq l) (fun _ _ => rfl) (fun _ _ => rfl) (fun _ _ => rfl) (fun _ _ => rfl) (fun _ _ => rfl) (fun _ _ => rfl) (fun _ _ => rfl) (fun _ _ => rfl) (fun _ _ => rfl))
  have e8 : F (wi (wi m 1112 0) 1105 ((a + 1 : Nat) : Int)) (pq p 8) = F m (pq p 8) := congrArg Int32.toInt (mq 8)
  have sc1 : SCs p m w → SCs p (wi (wi m 1112 0) 1105 ((a + 1 : Nat) : Int)) (wa w 98 (60 * p + j) ((n + 1 : Nat) : Int)) := fun s => SC_ow s (fun l _ => mq l) rfl (fun K h1 h2 => wR K (by omega))
  refine chosen_pp (K2 := K2) (e := a + 1) (kd := kd) (k0 := k0) hpp pl1 ru1 hW (by omega) (wi_sm (by omega) (by omega)) h153 h154 hk (fun c => by rw [e8]; exact tr c) (fun c => ?_) b1 (fun c => ?_) ?_ (fun m3 w3 W3 Y3 y a2 n2 a3 a4 a5 a6 a7 => ?_) (fun w3 a2 n2 a3 a4 a5 a6 => ?_)
  · obtain ⟨n0, q1, q2⟩ := b0 c
    exact ⟨n0, by rw [wa_rne (by omega)]; exact q1, q2⟩
  · rw [e8]; exact b3 c
  · rw [ROs_eq pr]; exact cs
  · exact kC M1 (vk + 1) m3 w3 W3 Y3 y a2 n2 (by omega) (by omega) a3 a4 (GGm.tr gm a5) (GGw.tr gw a6) (fun s => a7 (sc1 s))
  · exact kD M1 (vk + 1) _ w3 a2 n2 (by omega) (by omega) a3 a4 gm (GGw.tr gw a5) (fun s => a6 (sc1 s)) ⟨vk, rfl, hsf⟩
end
