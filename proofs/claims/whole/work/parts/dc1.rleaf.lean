/-! a PATTERN that is read as an E, here alone: leaves -/
set_option maxRecDepth 100000
/-- names may be held, no others come -/
def HLp : SCT → SCT → Prop
  | [], [] => True
  | e :: t, e2 :: t2 => (e2.1 = e.1 ∧ e2.2.2 = e.2.2 ∧ e.2.1 <+: e2.2.1) ∧ HLp t t2
  | _, _ => False
def RUQ (w0 : MS) (T : Nat) (Q : Nat → Nat) (sc : SCT) (w : MS) (hi : Nat) (Q2 : Nat → Nat) (sc2 : SCT) (w2 : MS) : Prop := XRS w0 T w2 hi Q2 sc2 ∧ XRF w w2 Q Q2 ∧ HLp sc sc2
def RUX (w0 : MS) (T : Nat) (Q : Nat → Nat) (sc : SCT) (w : MS) (hi : Nat) (w2 : MS) : Prop := ∃ (Q2 : Nat → Nat) (sc2 : SCT), RUQ w0 T Q sc w hi Q2 sc2 w2
section
variable {α β : Type} {m0 w0 m w m2 w2 m3 w3 v u w1 : MS} {K nm Nk W W2 : Nat → Nat} {N T D d o b c q r s lo mid hi i j f f2 n k kk p p2 σ tk x xa xb xc M M1 M2 y : Nat} {Q Q2 Q3 : Nat → Nat} {sc sc0 sc2 sc3 t t2 : SCT} {e e2 : List Nat × List Nat × Nat} {g lst own : Bool} {rt v1 v2 v3 v4 v5 t0 xx : Int32} {RR : MS → α → MS → β → Prop} {RX : MS → α → MS → Int32 → Prop} {A' : Option (MS × α)} {S : SG_M_behind} {QU : MS → β → Prop} {X : Option (MS × β)} {ff : Nat → Int32}
theorem rv_pk (h : PP (fun (_ : MS) (_ : Unit) w r => QU w r) (some (u, ())) X) : PK QU X := fun w r e => h u () w r rfl e
theorem HLp_rf : ∀ {sc : SCT}, HLp sc sc
  | [] => trivial
  | _ :: _ => ⟨⟨rfl, rfl, List.prefix_rfl⟩, HLp_rf⟩
theorem HLp_tr : ∀ {a b c : SCT}, HLp a b → HLp b c → HLp a c
  | [], [], [], _, _ => trivial
  | [], [], _ :: _, _, h => h.elim
  | [], _ :: _, _, h, _ => h.elim
  | _ :: _, [], _, h, _ => h.elim
  | _ :: _, _ :: _, [], _, h => h.elim
  | _ :: _, _ :: _, _ :: _, h, k => ⟨⟨k.1.1.trans h.1.1, k.1.2.1.trans h.1.2.1, h.1.2.2.trans k.1.2.2⟩, HLp_tr h.2 k.2⟩
theorem HLp_hld : ∀ {sc : SCT}, HLp sc (hld x sc)
  | [] => trivial
  | e :: t => by
    unfold hld
    split
    · exact HLp_rf
    · split
      · refine ⟨⟨rfl, rfl, ?_⟩, HLp_hld⟩
        show e.2.1 <+: (if e.2.1.length < 60 then e.2.1 ++ [x] else e.2.1)
        split
        · exact List.prefix_append _ _
        · exact List.prefix_rfl
      · exact HLp_rf
theorem HLp_len : ∀ {a b : SCT}, HLp a b → b.length = a.length
  | [], [], _ => rfl
  | [], _ :: _, h => h.elim
  | _ :: _, [], h => h.elim
  | _ :: t, _ :: t2, h => congrArg Nat.succ (HLp_len h.2)
theorem RUQ_rf (h : XRS w0 T w p Q sc) : RUQ w0 T Q sc w p Q sc w := ⟨h, XFR_rf, HLp_rf⟩
theorem RUQ_tr (h : RUQ w0 T Q sc w p Q2 sc2 w2) (k : RUQ w0 T Q2 sc2 w2 hi Q3 sc3 w3) : RUQ w0 T Q sc w hi Q3 sc3 w3 := ⟨k.1, XFR_tr h.2.1 k.2.1, HLp_tr h.2.2 k.2.2⟩
theorem RUQ_ad (h : RUQ w0 T Q sc w p Q2 sc2 w2) (hp : p < T) : RUQ w0 T Q sc w (p + 1) Q2 sc2 (adv w2 p) := ⟨XRS_ad h.1 hp, ⟨QRR_e h.2.1.1 rfl rfl, h.2.1.2⟩, h.2.2⟩
theorem XRS_A31 (h : XRS w0 T w p Q sc) (hk : 23 ≤ k ∧ k ≤ 31) : XRS w0 T (upA w k ff) p Q sc := ⟨PRS_x h.1 (fun _ _ => rfl) (fun j hj => upA_no (by omega)) h.1.2.1.1, h.2⟩
/-- a node -/
theorem RUQ_nod (h : RUQ w0 T Q sc w p Q2 sc2 w2) (hN : NOD w2 v (Q2 32)) (h69 : v.1 69 = I (hi : Nat)) (hh : hi ≤ T) (h16 : Q2 32 < 16000) : RUQ w0 T Q sc w hi (qst Q2 32 (Q2 32 + 1)) sc2 v :=
  RUQ_tr h ⟨XRS_n h.1 hN.1 (fun k hk => funext (fun j => hN.2.2.1 k j (by omega))) h69 hh hN.2.1 (by omega), ⟨QRR_N hN (Nat.le_refl _), QLE_st QLE_rf (by omega), qst_no (by decide), qst_no (by decide), qst_no (by decide)⟩, HLp_rf⟩
/-- alone() at a NAME, whatever it is -/
theorem al_nmx (c : CTZ m0 w0 K T nm Nk) (hR : XRS w0 T w lo Q sc) (hk : K lo = 3) (hh : ∀ v rt, lo < T → RUX w0 T Q sc w (lo + 1) v → PP RX A' (some (v, rt))) : PP RX A' (km_M_alone N S w (I (lo : Nat))) := by
  have hw := XRS_wp c hR
  have hl : lo < T := c.2.1.1.lt hR.1.2.1.2 (by omega) (by omega)
  have t4 := c.2.1.1.1
  obtain ⟨-, c7, cx, cu⟩ := c.2.2.2 lo hl hk
  obtain ⟨a, b, -⟩ := tkd_6 c hR
  obtain ⟨n1, n2⟩ := XRS_q hR
  have s4 : decide (w.2.2.1 6 lo = 4) = decide (K lo = 1) := srt_dc hw srK_4
  have s1 : decide (w.2.2.1 6 lo = 1) = decide (K lo = 2) := srt_dc hw srK_1
  have s5 : decide (w.2.2.1 6 lo = 5) = decide (K lo = 4) := srt_dc hw srK_5
  have s2 : decide (w.2.2.1 6 lo = 2) = decide (K lo = 3) := srt_dc hw srK_2
  unfold km_M_alone kb_M_alone_0
  rw [b, s4, s1, s5, s2]
  refine r_ck (fun _ => ?_)
  rw [decide_eq_false (by omega), br_f]
  refine r_ck (fun _ => ?_)
  rw [decide_eq_false (by omega), br_f]
  refine r_ck (fun _ => ?_)
  rw [decide_eq_false (by omega), br_f]
  refine r_ck (fun _ => ?_)
  rw [decide_eq_true hk, br_t]
  refine r_nod n1 n2 rfl (nsh (by omega)) (fun h16 => ?_)
  have d0 : NOD w (nwD w (Q 32) 3 (I (lo : Nat))) (Q 32) := NOD_0 n1
  have d2 : (nwD w (Q 32) 3 (I (lo : Nat))).1 69 = I (lo : Nat) := by rw [nwD_i (by decide)]; exact hR.1.2.1.1
  have d4 : (nwD w (Q 32) 3 (I (lo : Nat))).2.2.1 7 lo = I (Nk lo : Nat) := by rw [nwD_r (by decide), XRS_7 hR]; exact c7
  have d6 := RUQ_nod (RUQ_rf hR) d0 d2 hR.1.2.1.2 h16
  generalize nwD w (Q 32) 3 (I (lo : Nat)) = u at d0 d2 d4 d6
  -- the end
  have f213 : ∀ (y : MS) (sc2 : SCT) (t0 : Int32), RUQ w0 T Q sc w lo (qst Q 32 (Q 32 + 1)) sc2 y → PP RX A' (kb_M_alone_213 N S () y (I (Q 32 : Nat)) t0) := fun y sc2 t0 hy => by
    unfold kb_M_alone_213 kb_M_alone_361
    rw [i_nt2 (p := Q 32) (by omega)]
    refine r_ck (fun _ => r_lt ?_)
    have y1 : RUQ w0 T Q sc w lo (qst Q 32 (Q 32 + 1)) sc2 (upA y 25 (upd (y.2.2.1 25) (Q 32) t0)) := ⟨XRS_A31 hy.1 (by decide), ⟨QRR_A hy.2.1.1 (by decide) (Nat.le_refl _), hy.2.1.2⟩, hy.2.2⟩
    have e69 : (upA y 25 (upd (y.2.2.1 25) (Q 32) t0)).1 69 + 1 = I ((lo + 1 : Nat) : Int) := by rw [y1.1.1.2.1.1, i_suc]
    rw [e69]
    exact r_lt (hh _ _ hl ⟨_, _, RUQ_ad y1 hl⟩)
  have f201 : ∀ (y : MS) (sc2 : SCT) (t0 : Int32), RUQ w0 T Q sc w lo (qst Q 32 (Q 32 + 1)) sc2 y → PP RX A' (kb_M_alone_201 N S () y (I (lo : Nat)) (I (Q 32 : Nat)) t0) := fun y sc2 t0 hy => by
    unfold kb_M_alone_201
    exact r_br (fun _ => r_rul (fun v hv => f213 v sc2 t0 ⟨RUL_x hv hy.1, ⟨QRR_e hy.2.1.1 (by rw [hv.2]) (by rw [hv.2]), hy.2.1.2⟩, hy.2.2⟩)) (fun _ => f213 y sc2 t0 hy)
  rw [d2]
  cases hx : fm_M_isUnderscore N u (I (lo : Nat)) with
  | none => exact pp_nr
  | some z =>
    obtain ⟨z1, z2⟩ := z
    obtain ⟨rfl, q⟩ := und_p (N := N) cx (by omega) d4 z1 z2 hx
    rw [bnd_s]
    refine r_br (fun _ => ?_) (fun _ => f201 _ _ _ d6)
    have hn := d6.1.1.2.2.2.1
    obtain ⟨e, t, rfl⟩ := PRS_ne hR.1
    have h65 : z1.1 65 = I (t.length : Nat) := hn.1
    rw [d2, i_nt (p := lo) (by omega), d4, h65]
    refine r_ck (fun _ => ?_)
    cases hy : fr_M_found N z1 (I (t.length : Nat)) (I (Nk lo : Nat)) with
    | none => exact pp_nr
    | some y =>
      obtain ⟨y1, y2⟩ := y
      have fd := fnx_d (N := N) cx 30 (e :: t) z1 hn.2.2.1 d6.1.1.2.2.2.2.1 hn.2.2.2 (fun z => by cases z) hn.2.1.2 y1 y2 hy
      have f9 := yv9_fr_M_found (u0 := z1) Kv9_rf y1 y2 hy
      rw [bnd_s]
      rcases fd with ⟨e1, rfl, e3⟩ | ⟨e1, e2, e3, e4, e5, e6, i, e7, e8⟩
      · exact f201 _ _ _ d6
      refine f201 y1 (hld (Nk lo) (e :: t)) y2 ?_
      have rn : RNs y1 (hld (Nk lo) (e :: t)) := ⟨by rw [hld_len, e3.1 65]; exact hn.1, by rw [hld_len]; exact hn.2.1, e5, hld_ok hn.2.2.2⟩
      have D6 := d6.1.1
      refine ⟨⟨⟨⟨fun k hk => by rw [e3.1]; exact D6.1.1 k hk, fun k hk => ?_⟩, ⟨by rw [e3.1]; exact D6.2.1.1, D6.2.1.2⟩, by rw [e3.1]; exact D6.2.2.1, rn, e6, by rw [e3.1]; exact D6.2.2.2.2.2⟩, fun k hk => by rw [e3.1]; exact d6.1.2 k hk⟩, ⟨?_, d6.2.1.2⟩, HLp_hld⟩
      · have : k < 23 := by unfold TRW at hk; simp only [List.mem_cons, List.not_mem_nil, or_false] at hk; omega
        rw [e3.2 k (by omega)]; exact D6.1.2 k hk
      · obtain ⟨q1, q2, q3⟩ := d6.2.1.1
        have gr : ∀ k, grp k ≠ 0 → k < 59 ∨ 64 < k := fun k hk => by
          unfold grp at hk
          by_cases z : 59 ≤ k ∧ k ≤ 64
          · exfalso
            rw [if_neg (by omega), if_neg (by omega), if_neg (by omega), if_neg (by omega), if_neg (by omega), if_neg (by omega), if_neg (by omega), if_neg (by omega)] at hk
            exact hk rfl
          · omega
        refine ⟨fun k a1 a2 a3 => by rw [e3.2 k (by omega)]; exact q1 k a1 a2 a3, fun k q a1 a2 => by rw [e3.2 k (by have := gr k a1; omega)]; exact q2 k q a1 a2, fun k q a1 => by rw [f9.1]; exact q3 k q a1⟩
/-- a leaf -/
theorem al_lfx (c : CTZ m0 w0 K T nm Nk) (hR : XRS w0 T w lo Q sc) (hk : 1 ≤ K lo ∧ K lo ≤ 4) : PK (fun v _ => lo < T ∧ RUX w0 T Q sc w (lo + 1) v) (km_M_alone N S w (I (lo : Nat))) := by
  refine rv_pk (u := w0) ?_
  by_cases h3 : K lo = 3
  · exact al_nmx c hR h3 (fun v rt h1 h2 => pp_end ⟨h1, h2⟩)
  by_cases h4 : K lo = 4
  · exact al_str c hR h4 (fun v h16 hl hN h69 _ _ _ => pp_end ⟨hl, _, _, RUQ_nod (RUQ_rf hR) hN h69 hl h16⟩)
  · exact al_num c hR (by omega) (fun v h16 hl hN h69 _ _ _ _ => pp_end ⟨hl, _, _, RUQ_nod (RUQ_rf hR) hN h69 hl h16⟩)
end
