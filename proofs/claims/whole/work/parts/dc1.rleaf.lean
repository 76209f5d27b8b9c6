/-! a PATTERN that is read as an E, here alone: leaves -/
set_option maxRecDepth 100000
/-- names may be held, no others come -/
def HLp : SCT → SCT → Prop
  | [], [] => True
  | e :: t, e2 :: t2 => (e2.1 = e.1 ∧ e2.2.2 = e.2.2 ∧ e.2.1 <+: e2.2.1) ∧ HLp t t2
  | _, _ => False
/-- how many names are held at a level -/
def hcn : SCT → Nat → Nat
  | [], _ => 0
  | e :: t, s => if s = t.length then e.2.1.length else hcn t s
def B63 (w : MS) (n : Nat) (h : Nat → Nat) : Prop := ∀ s, s < n → w.2.2.1 63 s = I (h s : Nat) ∧ h s ≤ 60
def F62 (n : Nat) (h : Nat → Nat) (u v : MS) : Prop := ∃ h2 : Nat → Nat, B63 v n h2 ∧ (∀ s, h s ≤ h2 s) ∧ ∀ s k, s < n → k < h s → v.2.2.1 62 (1400 * s + k) = u.2.2.1 62 (1400 * s + k)
/-- where held names come from: as it was -/
def H62 (w v : MS) (sc : SCT) : Prop := ∀ s k, s < sc.length → k < hcn sc s → v.2.2.1 62 (1400 * s + k) = w.2.2.1 62 (1400 * s + k)
def RUQ (w0 : MS) (T : Nat) (Q : Nat → Nat) (sc : SCT) (w : MS) (hi : Nat) (Q2 : Nat → Nat) (sc2 : SCT) (w2 : MS) : Prop := XRS w0 T w2 hi Q2 sc2 ∧ XRF w w2 Q Q2 ∧ HLp sc sc2 ∧ H62 w w2 sc
def RUX (w0 : MS) (T : Nat) (Q : Nat → Nat) (sc : SCT) (w : MS) (hi : Nat) (w2 : MS) : Prop := ∃ (Q2 : Nat → Nat) (sc2 : SCT), RUQ w0 T Q sc w hi Q2 sc2 w2
section
variable {α β : Type} {m0 w0 m w m2 w2 m3 w3 v u w1 : MS} {K nm Nk W W2 : Nat → Nat} {N T D d o b c q r s lo mid hi i j f f2 n k kk p p2 σ tk x xa xb xc M M1 M2 y : Nat} {Q Q2 Q3 : Nat → Nat} {sc sc0 sc2 sc3 t t2 : SCT} {e e2 : List Nat × List Nat × Nat} {g lst own : Bool} {rt v1 v2 v3 v4 v5 t0 xx : Int32} {RR : MS → α → MS → β → Prop} {RX : MS → α → MS → Int32 → Prop} {A' : Option (MS × α)} {S : SG_M_behind} {QU : MS → β → Prop} {X : Option (MS × β)} {ff : Nat → Int32}
theorem rv_pk (h : PP (fun (_ : MS) (_ : Unit) w r => QU w r) (some (u, ())) X) : PK QU X := fun w r e => h u () w r rfl e
theorem HLp_rf : ∀ {sc : SCT}, HLp sc sc
  | [] => trivial
  | _ :: _ => ⟨⟨rfl, rfl, List.prefix_rfl⟩, HLp_rf⟩
theorem HLp_tr : ∀ {a b c : SCT}, HLp a b → HLp b c → HLp a c
  | [], [], [], _, _ => trivial
  | [], [], _ :: _, _, h => h.elim
  | [], _ :: _, _, h, _ => h.elim
  | _ :: _, [], _, h, _ => h.elim
  | _ :: _, _ :: _, [], _, h => h.elim
  | _ :: _, _ :: _, _ :: _, h, k => ⟨⟨k.1.1.trans h.1.1, k.1.2.1.trans h.1.2.1, h.1.2.2.trans k.1.2.2⟩, HLp_tr h.2 k.2⟩
theorem HLp_hld : ∀ {sc : SCT}, HLp sc (hld x sc)
  | [] => trivial
  | e :: t => by
    unfold hld
    split
    · exact HLp_rf
    · split
      · refine ⟨⟨rfl, rfl, ?_⟩, HLp_hld⟩
        show e.2.1 <+: (if e.2.1.length < 60 then e.2.1 ++ [x] else e.2.1)
        split
        · exact List.prefix_append _ _
        · exact List.prefix_rfl
      · exact HLp_rf
theorem HLp_len : ∀ {a b : SCT}, HLp a b → b.length = a.length
  | [], [], _ => rfl
  | [], _ :: _, h => h.elim
  | _ :: _, [], h => h.elim
  | _ :: t, _ :: t2, h => congrArg Nat.succ (HLp_len h.2)
theorem HLp_hcn : ∀ {a b : SCT}, HLp a b → ∀ s, hcn a s ≤ hcn b s
  | [], [], _, _ => Nat.le_refl _
  | [], _ :: _, h, _ => h.elim
  | _ :: _, [], h, _ => h.elim
  | e :: t, e2 :: t2, h, s => by
    have hl := HLp_len h.2
    show (if s = t.length then e.2.1.length else hcn t s) ≤ (if s = t2.length then e2.2.1.length else hcn t2 s)
    rw [hl]
    by_cases z : s = t.length
    · rw [if_pos z, if_pos z]; exact h.1.2.2.length_le
    · rw [if_neg z, if_neg z]; exact HLp_hcn h.2 s
theorem H62_tr (h : H62 w v sc) (k : H62 v u sc2) (hl : HLp sc sc2) : H62 w u sc := fun s j h1 h2 => (k s j (by rw [HLp_len hl]; exact h1) (Nat.lt_of_lt_of_le h2 (HLp_hcn hl s))).trans (h s j h1 h2)
theorem H62_e (h : H62 w v sc) (e : u.2.2.1 62 = v.2.2.1 62) : H62 w u sc := fun s j h1 h2 => by rw [e]; exact h s j h1 h2
theorem H62_rf : H62 w w sc := fun _ _ _ _ => rfl
theorem hcn_B : ∀ {sc : SCT} {n : Nat}, SOK sc → RNl w sc → sc.length = n → B63 w n (hcn sc)
  | [], n, _, _, hl => fun s hs => by
    have : n = 0 := hl.symm
    omega
  | e :: t, n, ok, h, hl => fun s hs => by
    have hl : t.length + 1 = n := hl
    show w.2.2.1 63 s = I ((if s = t.length then e.2.1.length else hcn t s : Nat) : Int) ∧ (if s = t.length then e.2.1.length else hcn t s) ≤ 60
    by_cases z : s = t.length
    · rw [if_pos z, z]
      exact ⟨h.1.2.2.1, ok.1.2.2.1⟩
    · rw [if_neg z]
      exact hcn_B ok.2 h.2 rfl s (by omega)
theorem f62_lp {S : SG_M_found} {xf : Int32} (hn : n ≤ 27) (hS : ∀ (u : MS) (s : Nat) (h : Nat → Nat), B63 u n h → s < n → PK (fun v _ => F62 n h u v) (S u (I (s : Nat)) xf)) : ∀ (M : Nat) (u : MS) (s : Nat) (h : Nat → Nat) (v4 : Int32), B63 u n h → s < n → PK (fun v _ => F62 n h u v) (gg_M_found N S M u (I (s : Nat)) xf v4)
  | 0, _, _, _, _, _, _ => pk_none
  | M + 1, u, s, h, v4, hB, hs => by
    show PK _ (fb_M_found_17 N S (gg_M_found N S M) u (I (s : Nat)) xf v4)
    have rf : F62 n h u u := ⟨h, hB, fun _ => Nat.le_refl _, fun _ _ _ _ => rfl⟩
    unfold fb_M_found_17
    refine pk_ck (fun _ => pk_br (fun _ => pk_br (fun _ => pk_some rf) (fun z => ?_)) (fun _ => pk_ck (fun _ => pk_br (fun _ => pk_some rf) (fun _ => f62_lp hn hS M u s h _ hB hs))))
    have z := of_decide_eq_false z
    have s0 : s ≠ 0 := fun y => z (by rw [y]; rfl)
    rw [show I (s : Nat) - 1 = I ((s - 1 : Nat) : Int) by rw [lit1, I_sub]; congr 1; omega]
    refine pk_bnd (pk_mo (hS u (s - 1) h hB (by omega)) (fun u1 r1 hz => ?_))
    obtain ⟨h2, b2, l2, f2⟩ := hz
    refine pk_br (fun _ => pk_some ⟨h2, b2, l2, f2⟩) (fun _ => pk_ck (fun _ => ?_))
    obtain ⟨c1, c2⟩ := b2 s hs
    rw [i_nt2 (p := s) (by omega), c1, show (60 : Int32) = I 60 from rfl, decL (by omega) (by omega) (by omega) (by omega)]
    refine pk_br (fun y => ?_) (fun _ => pk_some ⟨h2, b2, l2, f2⟩)
    have y := of_decide_eq_true y
    have h60 : h2 s < 60 := by omega
    have e1 : (1400 : Int32) * I (s : Nat) + I (h2 s : Nat) = I ((1400 * s + h2 s : Nat) : Int) := by
      rw [show (1400 : Int32) = I 1400 from rfl, I_mul, I_add]
      congr 1
    have e3 : ∀ g : Nat → Int32, (upA u1 61 g).2.2.1 63 s = I (h2 s : Nat) := fun g => by rw [upA_no (by decide)]; exact c1
    have e4 : ∀ g g2 : Nat → Int32, (upA (upA u1 61 g) 62 g2).2.2.1 63 s = I (h2 s : Nat) := fun g g2 => by rw [upA_no (by decide)]; exact e3 g
    refine pk_ck (fun _ => pk_ck (fun _ => pk_lt (pk_ck (fun _ => pk_ck (fun _ => pk_lt (pk_ck (fun _ => pk_ck (fun _ => pk_lt (pk_ck (fun _ => pk_some ?_)))))))))) 
    rw [e1, i_nt2 (p := 1400 * s + h2 s) (by omega), e3, e1, i_nt2 (p := 1400 * s + h2 s) (by omega), e4, i_suc]
    refine ⟨fun j => if j = s then h2 s + 1 else h2 j, fun j hj => ?_, fun j => ?_, fun j k hj hk => ?_⟩
    · show (upA _ 63 _).2.2.1 63 j = I ((if j = s then h2 s + 1 else h2 j : Nat) : Int) ∧ (if j = s then h2 s + 1 else h2 j) ≤ 60
      rw [upA_at]
      by_cases q : j = s
      · rw [if_pos q, q, upd_at]; exact ⟨rfl, by omega⟩
      · rw [if_neg q, upd_no q, upA_no (by decide), upA_no (by decide)]
        exact b2 j hj
    · show h j ≤ if j = s then h2 s + 1 else h2 j
      by_cases q : j = s
      · rw [if_pos q, q]; have := l2 s; omega
      · rw [if_neg q]; exact l2 j
    · rw [upA_no (by decide), upA_at, upA_no (by decide)]
      have lj := l2 j
      have bj := (b2 j hj).2
      rw [upd_no (fun q => by
        by_cases qq : j = s
        · rw [qq] at q hk lj; omega
        · omega)]
      exact f2 j k hj hk
theorem f62_d {xf : Int32} (hn : n ≤ 27) : ∀ (d : Nat) (u : MS) (s : Nat) (h : Nat → Nat), B63 u n h → s < n → PK (fun v _ => F62 n h u v) (rc_M_found N d u (I (s : Nat)) xf)
  | 0, _, _, _, _, _ => pk_none
  | d + 1, u, s, h, hB, hs => by
    show PK _ (fm_M_found N (rc_M_found N d) u (I (s : Nat)) xf)
    unfold fm_M_found fb_M_found_0
    have bi : PK (fun v (_ : Int32) => v = u) (fm_M_boundIn N u (I (s : Nat)) xf) := by
      unfold fm_M_boundIn fb_M_boundIn_0
      have lp : ∀ (M : Nat) (k : Int32), PK (fun v (_ : Int32) => v = u) (gg_M_boundIn N M u (I (s : Nat)) xf k) := fun M => by
        induction M with
        | zero => exact fun _ => pk_none
        | succ M ih =>
          intro k
          show PK _ (fb_M_boundIn_2 N (gg_M_boundIn N M) u (I (s : Nat)) xf k)
          unfold fb_M_boundIn_2
          exact pk_ck (fun _ => pk_br (fun _ => pk_some rfl) (fun _ => pk_ck (fun _ => pk_br (fun _ => pk_some rfl) (fun _ => ih _))))
      exact lp N _
    refine pk_bnd (pk_mo bi (fun v r q => ?_))
    subst q
    exact pk_br (fun _ => f62_lp hn (f62_d hn d) N v s h _ hB hs) (fun _ => pk_some ⟨h, hB, fun _ => Nat.le_refl _, fun _ _ _ _ => rfl⟩)
theorem RUQ_rf (h : XRS w0 T w p Q sc) : RUQ w0 T Q sc w p Q sc w := ⟨h, XFR_rf, HLp_rf, H62_rf⟩
theorem RUQ_tr (h : RUQ w0 T Q sc w p Q2 sc2 w2) (k : RUQ w0 T Q2 sc2 w2 hi Q3 sc3 w3) : RUQ w0 T Q sc w hi Q3 sc3 w3 := ⟨k.1, XFR_tr h.2.1 k.2.1, HLp_tr h.2.2.1 k.2.2.1, H62_tr h.2.2.2 k.2.2.2 h.2.2.1⟩
theorem RUQ_ad (h : RUQ w0 T Q sc w p Q2 sc2 w2) (hp : p < T) : RUQ w0 T Q sc w (p + 1) Q2 sc2 (adv w2 p) := ⟨XRS_ad h.1 hp, ⟨QRR_e h.2.1.1 rfl rfl, h.2.1.2⟩, h.2.2.1, H62_e h.2.2.2 rfl⟩
theorem XRS_A31 (h : XRS w0 T w p Q sc) (hk : 23 ≤ k ∧ k ≤ 31) : XRS w0 T (upA w k ff) p Q sc := ⟨PRS_x h.1 (fun _ _ => rfl) (fun j hj => upA_no (by omega)) h.1.2.1.1, h.2⟩
/-- a node -/
theorem RUQ_nod (h : RUQ w0 T Q sc w p Q2 sc2 w2) (hN : NOD w2 v (Q2 32)) (h69 : v.1 69 = I (hi : Nat)) (hh : hi ≤ T) (h16 : Q2 32 < 16000) : RUQ w0 T Q sc w hi (qst Q2 32 (Q2 32 + 1)) sc2 v :=
  RUQ_tr h ⟨XRS_n h.1 hN.1 (fun k hk => funext (fun j => hN.2.2.1 k j (by omega))) h69 hh hN.2.1 (by omega), ⟨QRR_N hN (Nat.le_refl _), QLE_st QLE_rf (by omega), qst_no (by decide), qst_no (by decide), qst_no (by decide)⟩, HLp_rf, fun s j _ _ => hN.2.2.1 62 _ (by omega)⟩
/-- alone() at a NAME, whatever it is -/
theorem al_nmx (c : CTZ m0 w0 K T nm Nk) (hR : XRS w0 T w lo Q sc) (hk : K lo = 3) (hh : ∀ v rt, lo < T → RUX w0 T Q sc w (lo + 1) v → PP RX A' (some (v, rt))) : PP RX A' (km_M_alone N S w (I (lo : Nat))) := by
  have hw := XRS_wp c hR
  have hl : lo < T := c.2.1.1.lt hR.1.2.1.2 (by omega) (by omega)
  have t4 := c.2.1.1.1
  obtain ⟨-, c7, cx, cu⟩ := c.2.2.2 lo hl hk
  obtain ⟨a, b, -⟩ := tkd_6 c hR
  obtain ⟨n1, n2⟩ := XRS_q hR
  have s4 : decide (w.2.2.1 6 lo = 4) = decide (K lo = 1) := srt_dc hw srK_4
  have s1 : decide (w.2.2.1 6 lo = 1) = decide (K lo = 2) := srt_dc hw srK_1
  have s5 : decide (w.2.2.1 6 lo = 5) = decide (K lo = 4) := srt_dc hw srK_5
  have s2 : decide (w.2.2.1 6 lo = 2) = decide (K lo = 3) := srt_dc hw srK_2
  unfold km_M_alone kb_M_alone_0
  rw [b, s4, s1, s5, s2]
  refine r_ck (fun _ => ?_)
  rw [decide_eq_false (by omega), br_f]
  refine r_ck (fun _ => ?_)
  rw [decide_eq_false (by omega), br_f]
  refine r_ck (fun _ => ?_)
  rw [decide_eq_false (by omega), br_f]
  refine r_ck (fun _ => ?_)
  rw [decide_eq_true hk, br_t]
  refine r_nod n1 n2 rfl (nsh (by omega)) (fun h16 => ?_)
  have d0 : NOD w (nwD w (Q 32) 3 (I (lo : Nat))) (Q 32) := NOD_0 n1
  have d2 : (nwD w (Q 32) 3 (I (lo : Nat))).1 69 = I (lo : Nat) := by rw [nwD_i (by decide)]; exact hR.1.2.1.1
  have d4 : (nwD w (Q 32) 3 (I (lo : Nat))).2.2.1 7 lo = I (Nk lo : Nat) := by rw [nwD_r (by decide), XRS_7 hR]; exact c7
  have d6 := RUQ_nod (RUQ_rf hR) d0 d2 hR.1.2.1.2 h16
  generalize nwD w (Q 32) 3 (I (lo : Nat)) = u at d0 d2 d4 d6
  -- the end
  have f213 : ∀ (y : MS) (sc2 : SCT) (t0 : Int32), RUQ w0 T Q sc w lo (qst Q 32 (Q 32 + 1)) sc2 y → PP RX A' (kb_M_alone_213 N S () y (I (Q 32 : Nat)) t0) := fun y sc2 t0 hy => by
    unfold kb_M_alone_213 kb_M_alone_361
    rw [i_nt2 (p := Q 32) (by omega)]
    refine r_ck (fun _ => r_lt ?_)
    have y1 : RUQ w0 T Q sc w lo (qst Q 32 (Q 32 + 1)) sc2 (upA y 25 (upd (y.2.2.1 25) (Q 32) t0)) := ⟨XRS_A31 hy.1 (by decide), ⟨QRR_A hy.2.1.1 (by decide) (Nat.le_refl _), hy.2.1.2⟩, hy.2.2.1, H62_e hy.2.2.2 (upA_no (by decide))⟩
    have e69 : (upA y 25 (upd (y.2.2.1 25) (Q 32) t0)).1 69 + 1 = I ((lo + 1 : Nat) : Int) := by rw [y1.1.1.2.1.1, i_suc]
    rw [e69]
    exact r_lt (hh _ _ hl ⟨_, _, RUQ_ad y1 hl⟩)
  have f201 : ∀ (y : MS) (sc2 : SCT) (t0 : Int32), RUQ w0 T Q sc w lo (qst Q 32 (Q 32 + 1)) sc2 y → PP RX A' (kb_M_alone_201 N S () y (I (lo : Nat)) (I (Q 32 : Nat)) t0) := fun y sc2 t0 hy => by
    unfold kb_M_alone_201
    exact r_br (fun _ => r_rul (fun v hv => f213 v sc2 t0 ⟨RUL_x hv hy.1, ⟨QRR_e hy.2.1.1 (by rw [hv.2]) (by rw [hv.2]), hy.2.1.2⟩, hy.2.2.1, H62_e hy.2.2.2 (by rw [hv.2])⟩)) (fun _ => f213 y sc2 t0 hy)
  rw [d2]
  cases hx : fm_M_isUnderscore N u (I (lo : Nat)) with
  | none => exact pp_nr
  | some z =>
    obtain ⟨z1, z2⟩ := z
    obtain ⟨rfl, q⟩ := und_p (N := N) cx (by omega) d4 z1 z2 hx
    rw [bnd_s]
    refine r_br (fun _ => ?_) (fun _ => f201 _ _ _ d6)
    have hn := d6.1.1.2.2.2.1
    obtain ⟨e, t, rfl⟩ := PRS_ne hR.1
    have h65 : z1.1 65 = I (t.length : Nat) := hn.1
    rw [d2, i_nt (p := lo) (by omega), d4, h65]
    refine r_ck (fun _ => ?_)
    cases hy : fr_M_found N z1 (I (t.length : Nat)) (I (Nk lo : Nat)) with
    | none => exact pp_nr
    | some y =>
      obtain ⟨y1, y2⟩ := y
      have fd := fnx_d (N := N) cx 30 (e :: t) z1 hn.2.2.1 d6.1.1.2.2.2.2.1 hn.2.2.2 (fun z => by cases z) hn.2.1.2 y1 y2 hy
      have f9 := yv9_fr_M_found (u0 := z1) Kv9_rf y1 y2 hy
      rw [bnd_s]
      rcases fd with ⟨e1, rfl, e3⟩ | ⟨e1, e2, e3, e4, e5, e6, i, e7, e8⟩
      · exact f201 _ _ _ d6
      refine f201 y1 (hld (Nk lo) (e :: t)) y2 ?_
      have rn : RNs y1 (hld (Nk lo) (e :: t)) := ⟨by rw [hld_len, e3.1 65]; exact hn.1, by rw [hld_len]; exact hn.2.1, e5, hld_ok hn.2.2.2⟩
      have D6 := d6.1.1
      have h62 : H62 w y1 (e :: t) := by
        obtain ⟨h2, -, -, f2⟩ := f62_d (N := N) (n := t.length + 1) hn.2.1.2 30 z1 t.length (hcn (e :: t)) (hcn_B (sc := e :: t) hn.2.2.2 hn.2.2.1 rfl) (by omega) y1 y2 hy
        exact fun s j h1 h3 => (f2 s j h1 h3).trans (d6.2.2.2 s j h1 h3)
      refine ⟨⟨⟨⟨fun k hk => by rw [e3.1]; exact D6.1.1 k hk, fun k hk => ?_⟩, ⟨by rw [e3.1]; exact D6.2.1.1, D6.2.1.2⟩, by rw [e3.1]; exact D6.2.2.1, rn, e6, by rw [e3.1]; exact D6.2.2.2.2.2⟩, fun k hk => by rw [e3.1]; exact d6.1.2 k hk⟩, ⟨?_, d6.2.1.2⟩, HLp_hld, h62⟩
      · have : k < 23 := by unfold TRW at hk; simp only [List.mem_cons, List.not_mem_nil, or_false] at hk; omega
        rw [e3.2 k (by omega)]; exact D6.1.2 k hk
      · obtain ⟨q1, q2, q3⟩ := d6.2.1.1
        have gr : ∀ k, grp k ≠ 0 → k < 59 ∨ 64 < k := fun k hk => by
          unfold grp at hk
          by_cases z : 59 ≤ k ∧ k ≤ 64
          · exfalso
            rw [if_neg (by omega), if_neg (by omega), if_neg (by omega), if_neg (by omega), if_neg (by omega), if_neg (by omega), if_neg (by omega), if_neg (by omega)] at hk
            exact hk rfl
          · omega
        refine ⟨fun k a1 a2 a3 => by rw [e3.2 k (by omega)]; exact q1 k a1 a2 a3, fun k q a1 a2 => by rw [e3.2 k (by have := gr k a1; omega)]; exact q2 k q a1 a2, fun k q a1 => by rw [f9.1]; exact q3 k q a1⟩
/-- a leaf -/
theorem al_lfx (c : CTZ m0 w0 K T nm Nk) (hR : XRS w0 T w lo Q sc) (hk : 1 ≤ K lo ∧ K lo ≤ 4) : PK (fun v _ => lo < T ∧ RUX w0 T Q sc w (lo + 1) v) (km_M_alone N S w (I (lo : Nat))) := by
  refine rv_pk (u := w0) ?_
  by_cases h3 : K lo = 3
  · exact al_nmx c hR h3 (fun v rt h1 h2 => pp_end ⟨h1, h2⟩)
  by_cases h4 : K lo = 4
  · exact al_str c hR h4 (fun v h16 hl hN h69 _ _ _ => pp_end ⟨hl, _, _, RUQ_nod (RUQ_rf hR) hN h69 hl h16⟩)
  · exact al_num c hR (by omega) (fun v h16 hl hN h69 _ _ _ _ => pp_end ⟨hl, _, _, RUQ_nod (RUQ_rf hR) hN h69 hl h16⟩)
/-- what is saved, whole -/
def SVd (w v : MS) (Q : Nat → Nat) (L : Nat) : Prop := (Q 75 + 8 ≤ 400 ∧ Q 77 + 54 ≤ 3300) ∧ SVC w v (Q 75) (Q 77) L ∧ v.2.2.1 74 (Q 75 + 1) = w.1 39 ∧ v.2.2.1 74 (Q 75 + 2) = w.1 46 ∧ v.2.2.1 74 (Q 75 + 3) = w.1 56 ∧ v.2.2.1 74 (Q 75 + 4) = w.1 58 ∧ v.2.2.1 74 (Q 75 + 5) = w.1 71
theorem sv_y {F : MS → Unit → Option (MS × β)} {R : MS → α → MS → β → Prop} {X : Option (MS × α)} (hR : XRS w0 T w p Q sc) (h : ∀ v, XRS w0 T v p (QSV Q) sc → QRR Q w v → (∀ k, k ≠ 74 → k ≠ 76 → v.2.2.1 k = w.2.2.1 k) → (v.2.2.2 = w.2.2.2) → (∀ k, k ≠ 75 → k ≠ 77 → v.1 k = w.1 k) → SVd w v Q sc.length → PP R X (F v ())) : PP R X (bnd (fm_M_save N w) F) := by
  intro m9 z9 w9 r9 x1 x2
  have q75 := hR.2 75 (by decide)
  have q77 := hR.2 77 (by decide)
  refine (pk_bnd (Q := fun w9 r9 => R m9 z9 w9 r9) (fun v z hv => ?_)) w9 r9 x2
  have a1 := save_p (N := N) hR.1.2.2.2.1 v z hv
  have k1 := (yv9_fm_M_save (u0 := w) Kv9_rf v z hv).1
  obtain ⟨a, b, ⟨s1, s2, s3, s4⟩, ⟨s5, s6⟩, s7, s8, s9, s10, s11⟩ := a1
  have ea : a = Q 75 := by
    have := (I_eq (x := ((a : Nat) : Int)) (y := ((Q 75 : Nat) : Int)) (by omega) (by omega) (by omega) (by omega)).mp (s1.symm.trans q75.1)
    omega
  have eb : b = Q 77 := by
    have := (I_eq (x := ((b : Nat) : Int)) (y := ((Q 77 : Nat) : Int)) (by omega) (by omega) (by omega) (by omega)).mp (s2.symm.trans q77.1)
    omega
  subst ea
  subst eb
  have b1 := sv2 (N := N) q75.1 (by omega) v z hv
  refine fun w9 r9 x2 => h v ⟨?_, fun k hk => ?_⟩ ⟨fun k z1 z2 z3 => ?_, fun k n z1 z2 => ?_, fun k n _ => by rw [k1]⟩ s8 k1 s7 ⟨⟨s3, s4⟩, s11, b1⟩ m9 z9 w9 r9 x1 x2
  · rw [QSV_n (by decide) (by decide)]
    exact PRS_x hR.1 (fun k hk => s7 k (by rintro rfl; revert hk; decide) (by rintro rfl; revert hk; decide)) (fun k hk => s8 k (by omega) (by omega)) (by rw [s7 69 (by decide) (by decide)]; exact hR.1.2.1.1)
  · by_cases h1 : k = 75
    · rw [h1, QSV_75]; exact ⟨s5, by omega⟩
    by_cases h2 : k = 77
    · rw [h2, QSV_77]; exact ⟨s6, by omega⟩
    rw [QSV_n h1 h2, s7 k h1 h2]; exact hR.2 k hk
  · exact s8 k (fun e => by rw [e] at z1; exact absurd z1 (by decide)) (fun e => by rw [e] at z1; exact absurd z1 (by decide))
  · by_cases h1 : k = 74
    · subst h1; exact s9 n z2
    by_cases h2 : k = 76
    · subst h2; exact s10 n z2
    rw [s8 k h1 h2]
end
