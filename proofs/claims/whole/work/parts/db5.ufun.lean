/-! what compiling an E does to names, there alone: FUN -/
set_option maxRecDepth 100000
section
variable {α β : Type} {m0 w0 m w m2 w2 m3 w3 m4 mC v u w1 mS wS : MS} {K nm Nk W W2 : Nat → Nat} {N T D d o a a0 a2 b b0 b4 c cm cm0 cm2 cm3 cm4 p pl ph pn q q0 r s lo lo0 mid hi i j f f2 n n1 k k2 kd kk KK kp p2 σ tk x xa xb xc xd mm M m1 lv y cl l2 : Nat} {sc sc0 sc2 sc3 t t2 : SCT} {e e0 e2 e3 e4 : List Nat × List Nat × Nat} {g g2 own lst : Bool} {hs : List Nat} {v1 v2 v3 v4 v5 v6 vv xw : Int32} {RU : MS → α → MS → β → Prop} {B : Option (MS × β)} {fc : MS → Unit → Option (MS × α)} {RX : MS → Int32 → MS → β → Prop} {QU : MS → α → Prop} {AU : Option (MS × α)}
/-- a level less -/
theorem u_pop (hC : XCS m0 nm m a cm (e :: t) false) (i1 : ∀ k, k ≠ 441 → k ≠ 709 → mC.1 k = m.1 k) (i2 : ∀ j, j < a → mC.2.2.1 23 j = m.2.2.1 23 j) (i3 : ∀ k j, k = 40 ∨ k = 41 → j ≠ (e :: t).length → mC.2.2.1 k j = m.2.2.1 k j) (ok : SOK (e :: t)) (h : UXQ m0 nm (e :: t) false k mC (a + 2) 0 ([], [], 0) m3 b cm3 ([], [], 0)) : UXQ m0 nm t false 0 m a cm e (upI m3 709 (I (t.length : Nat))) b cm e := by
  obtain ⟨c1, -, -, -, c5, c6⟩ := h
  obtain ⟨⟨p1, p2, p3, p4, p5, p6, p7⟩, p8⟩ := c1
  obtain ⟨⟨h1, h2, h3, h4, h5, h6, h7⟩, h8⟩ := hC
  have el : (e :: t).length = t.length + 1 := rfl
  refine ⟨⟨⟨⟨fun k hk => by rw [upI_ne (by omega)]; exact p1.1 k hk, p1.2⟩, ⟨by rw [upI_at]; rfl, h2.2.1, by rw [upI_ne (by decide)]; exact p2.2.2.1, h2.2.2.2.1, CNl_fr p2.2.2.2.2.2.2 rfl (fun _ _ => rfl)⟩, ⟨by rw [upI_ne (by decide)]; exact p3.1, p3.2⟩, by rw [upI_ne (by decide)]; exact p4, ?_, h6, h7⟩, by rw [upI_ne (by decide)]; exact p8⟩, ok, List.prefix_rfl, Nat.le_refl _, ⟨by omega, Nat.le_refl _⟩, ⟨fun k k1 k2 => ?_, fun j hj => (c6.2.1 j (by omega)).trans (i2 j hj), fun j hj => (c6.2.2.1 j (by omega)).trans (i3 40 j (Or.inl rfl) (by omega)), fun j hj => (c6.2.2.2 j (by omega)).trans (i3 41 j (Or.inr rfl) (by omega))⟩⟩
  · show m3.2.2.1 41 ((e :: t).length - 1) = _
    rw [c6.2.2.2 ((e :: t).length - 1) (by omega), i3 41 _ (Or.inr rfl) (by omega)]
    exact h5
  · by_cases z : k = 709
    · rw [z, upI_at]
      exact h2.1.symm
    · rw [upI_ne z, c6.1 k k1 k2]
      exact i1 k k1 z
/-- a word further on -/
theorem u_A23 (h : UXQ m0 nm t g k m a cm e m2 b cm2 e2) (hj : a ≤ j) : UXQ m0 nm t g k m a cm e (upA m2 23 (upd (m2.2.2.1 23) j xw)) b cm2 e2 := by
  obtain ⟨h1, h2, h3, h4, h5, h6⟩ := h
  exact ⟨XCS_A (k := 23) (f := upd (m2.2.2.1 23) j xw) h1 (Or.inl rfl), h2, h3, h4, h5, ⟨h6.1, fun i hi => by rw [upA_at, upd_no (by omega)]; exact h6.2.1 i hi, fun i hi => by rw [upA_no (by decide)]; exact h6.2.2.1 i hi, fun i hi => by rw [upA_no (by decide)]; exact h6.2.2.2 i hi⟩⟩
theorem u_fun (c : CTZ m0 w0 K T nm Nk) (cv : CTV m0 w0 K T) (IE : HUE N m0 T nm f) (hC : XCS m0 nm m a cm (e :: t) g) (ok : SOK (e :: t)) (ho : o ≤ 25) (hn : n ≤ 8015) (h16 : A m0 16 n = 12) (h17 : A m0 17 n = ((lo : Nat) : Int)) (h18 : A m0 18 n = ((q : Nat) : Int)) (h19 : A m0 19 n = ((pn : Nat) : Int)) (h20 : A m0 20 n = ((hi - 1 : Nat) : Int)) (hkk : kk ≤ 6) (hP : PRTcK m0 (PAcK m0 f) (XPcK m0 f (o + 2) 3) (XPcK m0 f (o + 1) 3) kk pn (lo + 2) ph (ph + 1) (hi - 1) xa xb (q + 1) r) (hxb : xb ≤ 8015) (hr4 : r ≤ 400) (hl4 : lo ≤ 4000) (hiT : hi ≤ T) (htot : tot (e :: t) + (hi - lo) ≤ 4000 ∧ (e :: t).length ≤ o + 1) : PK (fun v _ => UXP m0 nm t g (hi - lo) m a cm e v) (jm_Cm_expression N (jrc_Cm_fun N D) m (I (n : Nat)) (lsI lst)) := by
  have fr := XCS_fr hC
  have el : (e :: t).length = t.length + 1 := rfl
  have hb : lo + 2 ≤ ph ∧ ph + 2 < hi - 1 ∧ q + 1 ≤ r ∧ pn ≤ 8015 := by
    obtain ⟨⟨y1, y2⟩, -, -, p0, xc, gx, mid, xd, s, kb, mb, xe, ⟨-, hpa⟩, ⟨-, hg⟩, ⟨-, hB⟩, -, -⟩ := hP
    have hB1 := (RW_hdK (XP_bdK f (o + 2) 3) hB).1
    unfold HDc at hB1
    have a1 : lo + 2 ≤ ph := by
      rcases hpa with ⟨-, -, z, -⟩ | ⟨-, z⟩
      · omega
      · have := (RW_hdK (PA_bdK f) z).1
        unfold HDc at this
        omega
    have a2 : ph + 1 ≤ mid ∧ q + 1 ≤ s := by
      rcases hg with ⟨-, z, -, z2⟩ | ⟨-, kg, z⟩
      · exact ⟨by omega, by omega⟩
      · have := (RW_hdK (XP_bdK f (o + 1) 3) z).1
        unfold HDc at this
        exact ⟨by omega, by omega⟩
    exact ⟨a1, by omega, by omega, by omega⟩
  obtain ⟨p0, h18p, hOR⟩ : ∃ p0 : Nat, A m0 18 pn = ((p0 : Nat) : Int) ∧ ∃ xc, ORcK m0 1 26 (PAcK m0 f) kk p0 (lo + 2) ph xa xc (q + 1) (q + 1) ∧ xc ≤ 8015 := by
    obtain ⟨⟨y1, y2⟩, -, -, p0, xc, gx, mid, xd, s, kb, mb, xe, ⟨z1, hpa⟩, ⟨-, hg⟩, ⟨-, hB⟩, hxe, -⟩ := hP
    have hB1 := (RW_hdK (XP_bdK f (o + 2) 3) hB).1
    unfold HDc at hB1
    refine ⟨p0, z1, xc, hpa, ?_⟩
    rcases hg with ⟨-, -, z, -⟩ | ⟨-, kg, z⟩
    · omega
    · have := (RW_hdK (XP_bdK f (o + 1) 3) z).1
      unfold HDc at this
      omega
  obtain ⟨xc, hOR, hxc⟩ := hOR
  refine pu_pk (w := m0) (exd_12 hn (tre fr (by decide) h16) (l_id ?_))
  cases D with
  | zero => exact pp_nl
  | succ D =>
  show PP _ (jm_Cm_compound N (jrc_Cm_fun N D) m (I (n : Nat)) (lsI lst)) _
  refine cmd_12 hn (tre fr (by decide) h16) hC.2 (tre fr (by decide) h17) (by omega) (fun hg => l_id ?_)
  subst hg
  cases D with
  | zero => exact pp_nl
  | succ D =>
  show PP _ (jm_Cm_fun N (jrc_Cm_fun N D) m (I (n : Nat))) _
  unfold jm_Cm_fun jb_Cm_fun_0
  rw [i_nt2 (show n ≤ 100000 by omega), tre fr (by decide) h19, i_nt2 (p := pn) (by omega), tre fr (by decide) h18p, tre fr (by decide) h18, i_nt2 (p := q) (by omega)]
  refine l_ck (fun _ => l_ck (fun _ => l_ck (fun _ => ?_)))
  refine l_bnd (pk_mo (len_j fr hxc hOR) (fun mx rx hmx => ?_))
  obtain ⟨hmx, rfl⟩ := hmx
  rw [hmx]
  clear hmx
  refine fn_beg (X := fun w52 r26 => _) hC ⟨by omega, by omega⟩ (by omega) hkk (fun mC xC miC m709 mrC moC mwC mpC mqC m4C => ?_)
  refine l_ck (fun _ => l_ck (fun _ => ?_))
  have frC := XCS_fr xC
  have okC : SOK (([], [], 0) :: e :: t) := ⟨⟨List.nodup_nil, fun x h => (by cases h), Nat.zero_le _, Nat.le_refl _, Nat.zero_le _, fun x h => (by cases h), List.nodup_nil⟩, ok⟩
  have m712 : m.1 712 = 0 := of_decide_eq_true (by have := hC.2; exact this)
  refine l_bnd (pk_mo (u_cls (e := ([], [], 0)) (t := e :: t) c cv IE xC okC hP ⟨hb.1, by omega⟩ hxb hr4 (by omega) ⟨by show tot (e :: t) + 0 + (hi - 1 - (lo + 2)) ≤ 4000; omega, by omega⟩) (fun m2 z hz => ?_))
  obtain ⟨b2, cm2, h2⟩ := hz
  refine u_put h2 (fun _ h3 => l_ck (fun _ => l_lt ?_))
  have e709 : (ptc m2 b2 36).1 709 - 1 = I (t.length : Nat) := by
    have h709 : (ptc m2 b2 36).1 709 = I ((t.length + 1 : Nat) : Int) := h3.1.1.2.1.1
    rw [h709, I_sn]
  have wv : (ptc m2 b2 36).2.2.1 23 (a + 1) = 0 := (h3.2.2.2.2.2.2.1 (a + 1) (by omega)).trans mwC.2
  rw [e709, m712]
  have h4 := u_pop hC miC moC m4C ok h3
  have le2 := h2.2.2.2.2.1.1
  have wv4 : (upI (ptc m2 b2 36) 709 (I (t.length : Nat))).2.2.1 23 (a + 1) = 0 := wv
  generalize upI (ptc m2 b2 36) 709 (I (t.length : Nat)) = m4 at h4 wv4
  generalize (ptc m2 b2 36).2.2.1 41 ((ptc m2 b2 36).1 709).toNatClampNeg = x41
  have z712 : m4.1 712 = 0 := (h4.2.2.2.2.2.1 712 (by decide) (by decide)).trans m712
  rw [show isb 0 = true from rfl, ck_t, show upI m4 712 0 = m4 from upI_id z712, lt_e]
  have b2k : b2 + 1 ≤ 23990 := h4.1.1.2.2.1.2.2
  refine u_arr2 (hs := [a + 1]) h4 ⟨rfl, ⟨by omega, by omega⟩, fun h hm => (by cases hm), wv4⟩ (fun j hj => ?_) (fun Z hZ _ => ?_)
  · rcases List.mem_cons.mp hj with rfl | y
    · omega
    · cases y
  refine u_put hZ (fun _ h5 => u_put h5 (fun _ h6 => l_ck (fun _ => l_lt ?_)))
  have e441 : (ptc (ptc Z (b2 + 1) 6) (b2 + 1 + 1) (I (q : Nat))).1 441 = I ((b2 + 1 + 1 + 1 : Nat) : Int) := h6.1.1.2.2.1.1
  rw [e441]
  have h7 := u_A (j := 32) (f := upd ((ptc (ptc Z (b2 + 1) 6) (b2 + 1 + 1) (I (q : Nat))).2.2.1 32) q (I ((b2 + 1 + 1 + 1 : Nat) : Int))) h6 ⟨by decide, by decide⟩
  have e32 : (upA (ptc (ptc Z (b2 + 1) 6) (b2 + 1 + 1) (I (q : Nat))) 32 (upd ((ptc (ptc Z (b2 + 1) 6) (b2 + 1 + 1) (I (q : Nat))).2.2.1 32) q (I ((b2 + 1 + 1 + 1 : Nat) : Int)))).2.2.1 32 q = I ((b2 + 1 + 1 + 1 : Nat) : Int) := by rw [upA_at, upd_at]
  generalize upA (ptc (ptc Z (b2 + 1) 6) (b2 + 1 + 1) (I (q : Nat))) 32 (upd ((ptc (ptc Z (b2 + 1) 6) (b2 + 1 + 1) (I (q : Nat))).2.2.1 32) q (I ((b2 + 1 + 1 + 1 : Nat) : Int))) = m7 at h7 e32
  refine u_put h7 (fun _ h8 => l_ck (fun _ => l_ck (fun _ => ?_)))
  have e32' : (ptc m7 (b2 + 1 + 1 + 1) 0).2.2.1 32 q = I ((b2 + 1 + 1 + 1 : Nat) : Int) := by rw [ptc_r (by decide)]; exact e32
  have b8k : b2 + 1 + 1 + 1 + 1 ≤ 23990 := h8.1.1.2.2.1.2.2
  generalize ptc m7 (b2 + 1 + 1 + 1) 0 = m8 at h8 e32'
  unfold jm_Cm_hold jb_Cm_hold_0
  refine l_bnd (pk_mo ((u_hold N).1 m8 _ _ _ _ (UXQ_rf h8.1 ok) rfl) (fun m9 r104 hz => l_ck (fun _ => ?_)))
  obtain ⟨b9, h9, e9⟩ := hz
  rw [e9, e32', set_j (by omega), bnd_s]
  have hF := u_A23 (j := b2 + 1 + 1 + 1) (xw := r104) (UXQ_tr h8 h9) (by omega)
  generalize upA m9 23 (upd (m9.2.2.1 23) (b2 + 1 + 1 + 1) r104) = mF at hF
  refine l_br (fun z711 => l_br (fun _ => ?_) (fun _ => ?_)) (fun _ => ?_)
  · unfold jb_Cm_fun_308 hb_Cm_fun_308
    rw [show decide ((0 : Int32) = 0) = true from rfl, ck_t, show isb 0 = true from rfl, ck_t]
    rw [show upI mF 711 0 = mF from upI_id (of_decide_eq_true z711)]
    exact l_lt (pp_end ⟨_, _, _, UXQ_mo hF (by omega)⟩)
  · unfold jb_Cm_fun_303 jb_Cm_fun_308
    rw [show decide ((1 : Int32) = 0) = false from rfl]
    exact pp_nl
  · unfold jb_Cm_fun_303 jb_Cm_fun_308
    rw [show decide ((1 : Int32) = 0) = false from rfl]
    exact pp_nl
end
