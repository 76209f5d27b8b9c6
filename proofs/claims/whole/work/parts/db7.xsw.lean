/-! RECEIVE with `after`: what is compiled first there is read last here -/
set_option maxRecDepth 100000
section
variable {α β : Type} {m0 w0 m w m2 w2 m3 w3 v u w1 mC mE m9 wp wE : MS} {K nm Nk W W2 WP WE : Nat → Nat} {N T D d o a aC a2 b b' bE b0 c cm cm0 cm2 cm3 cmE cm9 q q0 r s lo lo0 mid hi i j f f2 n k kk p p2 σ tk x : Nat} {Q Qp QE Q2 Q3 : Nat → Nat} {sc sc0 sc2 sc9 scE t t2 t9 tE : SCT} {e e2 e9 eE : List Nat × List Nat × Nat} {g lst : Bool} {L LE L9 : List Nat} {l : List Nat} {fc : MS → Unit → Option (MS × α)} {RU : MS → α → MS → β → Prop} {B : Option (MS × β)}
theorem CNl_BDs : ∀ {t t2 : SCT}, BDs t t2 → CNl m nm t → CNl m nm t2
  | [], [], _, h => h
  | [], _ :: _, k, _ => k.elim
  | _ :: _, [], k, _ => k.elim
  | e :: t, e2 :: t2, k, h => by
    obtain ⟨h1, h2, h3⟩ := h
    have bl := BDs_len k.2
    exact ⟨by rw [bl.1, bl.2]; exact h1, by rw [bl.2, k.1.1]; exact h2, CNl_BDs k.2 h3⟩
theorem XCS_eq (h : XCS m0 nm m a cm (e :: t) g) (h1 : e2.1 = e.1) (h2 : BDs t t2) : XCS m0 nm m a cm (e2 :: t2) g := by
  obtain ⟨⟨p1, p2, p3, p4, p5, p6, p7⟩, p8⟩ := h
  obtain ⟨c1, c2, c3, c4, c5, c6, c7⟩ := p2
  have bl := BDs_len h2
  have l1 : (e2 :: t2).length = (e :: t).length := by show t2.length + 1 = t.length + 1; rw [bl.1]
  have l2 : tot (e2 :: t2) = tot (e :: t) := by show tot t2 + e2.1.length = tot t + e.1.length; rw [bl.2, h1]
  exact ⟨⟨p1, ⟨by rw [l1]; exact c1, by rw [l1]; exact c2, by rw [l2]; exact c3, by rw [l2]; exact c4, by rw [bl.1, bl.2]; exact c5, by rw [bl.2, h1]; exact c6, CNl_BDs h2 c7⟩, p3, p4, by rw [l1]; exact p5, p6, by show e2.1.length ≤ cm; rw [h1]; exact p7⟩, p8⟩
/-- the number of names here is set back -/
theorem XRS_60 (hX : XRS w0 T w p Q (e2 :: t2)) (n1 : l <+: e2.1) : XRS w0 T (upA w 60 (upd (w.2.2.1 60) t2.length (I (l.length : Nat)))) p Q ((l, e2.2) :: t2) := by
  have le := n1.length_le
  obtain ⟨x1, x2, x3, rnV, hf, x6⟩ := hX.1
  have okc : SOK ((l, e2.2) :: t2) := by
    obtain ⟨⟨o1, o2, o3, o4, o5, o6, o7⟩, o8⟩ := rnV.2.2.2
    exact ⟨⟨o1.sublist n1.sublist, fun x hx => o2 x (n1.subset hx), o3, by show l.length ≤ e2.2.2; omega, o5, o6, o7⟩, o8⟩
  have rnc : RNs (upA w 60 (upd (w.2.2.1 60) t2.length (I (l.length : Nat)))) ((l, e2.2) :: t2) := by
    obtain ⟨⟨r1, r2, r3, r4, r5⟩, r6⟩ := rnV.2.2.1
    refine ⟨rnV.1, rnV.2.1, ⟨⟨by rw [upA_at, upd_at], fun k x hk => ?_, by rw [upA_no (by decide)]; exact r3, fun k x hk => by rw [upA_no (by decide)]; exact r4 k x hk, by rw [upA_no (by decide)]; exact r5⟩, ?_⟩, okc⟩
    · rw [upA_no (by decide)]
      exact r2 k x (pre_getd n1 hk)
    · exact RNl_60 r6 (Nat.le_refl _)
  have hfc : HFl (upA w 60 (upd (w.2.2.1 60) t2.length (I (l.length : Nat)))) ((l, e2.2) :: t2) := ⟨fun k x hk => by rw [upA_no (by decide)]; exact hf.1 k x hk, HFl_fr rnV.2.2.2.2 hf.2 (fun j _ => by rw [upA_no (by decide)])⟩
  refine ⟨⟨⟨x1.1, fun k hk => ?_⟩, x2, x3, rnc, hfc, x6⟩, hX.2⟩
  have : k < 23 := by unfold TRW at hk; simp only [List.mem_cons, List.not_mem_nil, or_false] at hk; omega
  rw [upA_no (by omega)]; exact x1.2 k hk
/-- names are taken back, there: its words -/
theorem u_fg3 (h : UXQ m0 nm t g k m a cm e m2 b cm2 e2) (ok : SOK (e :: t)) (hh : ∀ m3 b3, UXQ m0 nm t g 0 m a cm e m3 b3 cm2 e → (∀ j, j < b → m3.2.2.1 23 j = m2.2.2.1 23 j) → (∀ k, k ≠ 23 → m3.2.2.1 k = m2.2.2.1 k) → (∀ k, k ≠ 441 → k ≠ 706 → m3.1 k = m2.1 k) → ((e2.1.length = e.1.length ∧ b3 = b) ∨ (e.1.length < e2.1.length ∧ b3 = b + 2 ∧ m3.2.2.1 23 b = 16 ∧ m3.2.2.1 23 (b + 1) = I ((e2.1.length - e.1.length : Nat) : Int))) → PP RU (fc m3 ()) B) : PP RU (bnd (jm_Cm_forget N m2 (I (tot (e :: t) : Nat))) fc) B := by
  obtain ⟨a2, -, n1, -, a5, a6⟩ := h
  have le := n1.length_le
  have e706 : m2.1 706 = I (tot (e2 :: t) : Nat) := a2.1.2.1.2.2.1
  have t4k : tot (e2 :: t) ≤ 4000 := a2.1.2.1.2.2.2.1
  have et : tot (e2 :: t) = tot t + e2.1.length := rfl
  have et0 : tot (e :: t) = tot t + e.1.length := rfl
  show PP RU (bnd (jb_Cm_forget_0 N () m2 (I (tot (e :: t) : Nat))) fc) B
  unfold jb_Cm_forget_0 jb_Cm_forget_30
  rw [e706, decI (by omega) (by omega) (by omega) (by omega)]
  by_cases z : e2.1.length ≤ e.1.length
  · have ee : e2.1 = e.1 := (n1.eq_of_length (by omega)).symm
    rw [decide_eq_true (by omega), br_t, lt_e, bnd_s]
    have : upI m2 706 (I (tot (e :: t) : Nat)) = m2 := upI_id (by rw [e706, et, et0, ee])
    rw [this]
    refine hh m2 b ⟨?_, ok, List.prefix_rfl, Nat.le_refl _, a5, a6⟩ (fun _ _ => rfl) (fun _ _ => rfl) (fun _ _ _ => rfl) (Or.inl ⟨by rw [ee], rfl⟩)
    obtain ⟨f1, f2⟩ := e2
    obtain ⟨g1, g2⟩ := e
    have ee : f1 = g1 := ee
    subst ee
    exact a2
  · rw [decide_eq_false (by omega), br_f]
    have s1 : ∀ x, (ptc m2 b x).1 706 - I (tot (e :: t) : Nat) = I ((e2.1.length - e.1.length : Nat) : Int) := fun x => by
      rw [ptc_i (by decide), e706, I_sub]
      congr 1
      omega
    rw [bnd_as2]
    refine l_put a2.1.2.2.1.1 a2.1.2.2.1.2.2 (fun ha => ?_)
    have c1 := XCS_put (x := 16) a2 ha
    rw [s1, bnd_as2]
    refine l_put c1.1.2.2.1.1 c1.1.2.2.1.2.2 (fun ha1 => ?_)
    have c2 := XCS_put (x := I ((e2.1.length - e.1.length : Nat) : Int)) c1 ha1
    rw [lt_e, bnd_s]
    have em : ptc (ptc m2 b 16) (b + 1) (I ((e2.1.length - e.1.length : Nat) : Int)) = ptcs m2 b [16, I ((e2.1.length - e.1.length : Nat) : Int)] := rfl
    rw [em] at c2 ⊢
    have w0' : (ptcs m2 b [16, I ((e2.1.length - e.1.length : Nat) : Int)]).2.2.1 23 b = 16 := ptcs_at (l := [16, I ((e2.1.length - e.1.length : Nat) : Int)]) (k := 0) rfl
    have w1' : (ptcs m2 b [16, I ((e2.1.length - e.1.length : Nat) : Int)]).2.2.1 23 (b + 1) = I ((e2.1.length - e.1.length : Nat) : Int) := ptcs_at (l := [16, I ((e2.1.length - e.1.length : Nat) : Int)]) (k := 1) rfl
    have fb : UFC m2 (ptcs m2 b [16, I ((e2.1.length - e.1.length : Nat) : Int)]) b t.length := by rw [← em]; exact XFC_U (q := 0) (r := 0) (XFC_put (XFC_put XFC_rf (Nat.le_refl b)) (by omega))
    have fr : ∀ k, k ≠ 23 → (ptcs m2 b [16, I ((e2.1.length - e.1.length : Nat) : Int)]).2.2.1 k = m2.2.2.1 k := fun k hk => ptcs_r hk
    have fx := UFC_tr a6 fb a5.1
    generalize ptcs m2 b [16, I ((e2.1.length - e.1.length : Nat) : Int)] = m4 at c2 fx fb w0' w1' fr
    have cc : XCS m0 nm (upI m4 706 (I (tot (e :: t) : Nat))) (b + 2) cm2 (e :: t) g := by
      obtain ⟨⟨p1, p2, p3, p4, p5, p6, p7⟩, p8⟩ := c2
      obtain ⟨q1, q2, q3⟩ := p2.2.2.2.2
      refine ⟨⟨⟨fun k hk => by rw [upI_ne (by omega)]; exact p1.1 k hk, p1.2⟩, ⟨by rw [upI_ne (by decide)]; exact p2.1, p2.2.1, by rw [upI_at], by omega, ⟨q1, fun k x hk => q2 k x (pre_getd n1 hk), CNl_fr q3 rfl (fun _ _ => rfl)⟩⟩, ⟨by rw [upI_ne (by decide)]; exact p3.1, p3.2⟩, by rw [upI_ne (by decide)]; exact p4, p5, p6, ?_⟩, by rw [upI_ne (by decide)]; exact p8⟩
      have p7 : e2.1.length ≤ cm2 := p7
      show e.1.length ≤ cm2
      omega
    exact hh _ (b + 2) ⟨cc, ok, List.prefix_rfl, Nat.le_refl _, ⟨by omega, a5.2⟩, ⟨fun k k1 k2 => by rw [upI_ne k2]; exact fx.1 k k1 k2, fx.2⟩⟩ fb.2.1 fr (fun k k1 k2 => by rw [upI_ne k2]; exact fb.1 k k1 k2) (Or.inr ⟨by omega, rfl, w0', w1'⟩)
theorem wup_swx {G : Nat → Int32} (h1 : lo ≤ mid) (h2 : mid ≤ hi) : wup (wup G K WE mid hi) K WP lo mid = wup G K (mrw mid WP WE) lo hi := by
  funext j
  unfold wup mrw
  by_cases z : j < mid
  · by_cases y : lo ≤ j ∧ K j = 3
    · rw [if_pos ⟨y.1, z, y.2⟩, if_pos ⟨y.1, by omega, y.2⟩, if_pos z]
    · rw [if_neg (fun x => y ⟨x.1, x.2.2⟩), if_neg (fun x => by omega), if_neg (fun x => y ⟨x.1, x.2.2⟩)]
  · rw [if_neg (fun x => z x.2.1)]
    by_cases y : j < hi ∧ K j = 3
    · rw [if_pos ⟨by omega, y⟩, if_pos ⟨by omega, y⟩, if_neg z]
    · rw [if_neg (fun x => y x.2), if_neg (fun x => y x.2)]
/-- both: the parts are read first and compiled last -/
theorem XTF_sw (hE : XTF m0 w0 K T nm Nk false LE mid hi a bE cm cmE s r Qp QE sc9 (eE :: tE) m wp mE wE) (hP : XTF m0 w0 K T nm Nk false L9 lo mid aC a2 cmE cm9 q s Q Qp (e :: t) sc9 mC w m9 wp) (hsame : (hdS sc9).1 = e.1) (hab : a ≤ aC) (l1 : ∀ k, k ≠ 441 → k ≠ 706 → mC.1 k = mE.1 k) (l2 : ∀ k, k ≠ 23 → mC.2.2.1 k = mE.2.2.1 k) (l3 : ∀ j, j < a → mC.2.2.1 23 j = mE.2.2.1 23 j) : XTF m0 w0 K T nm Nk false L9 lo hi a a2 cm cm9 q r Q QE (e :: t) ((e.1, eE.2) :: tE) m w m9 (upA wE 60 (upd (wE.2.2.1 60) tE.length (I (e.1.length : Nat)))) := by
  have len9 := XTF_len hP
  obtain ⟨a1, a2', a3, a4, ⟨WE, a5, a6⟩, a7, a8, a9, a10⟩ := hE
  obtain ⟨b1, b2, b3, b4, ⟨WP, b5, b6⟩, b7, b8, b9, b10⟩ := hP
  cases sc9 with
  | nil => cases len9
  | cons e9 t9 =>
  have hsame : e9.1 = e.1 := hsame
  obtain ⟨n1, n2, n3⟩ := (a5.2 rfl).2
  obtain ⟨p1, p2, p3⟩ := (b5.2 rfl).2
  rw [hsame] at n1
  have tl1 := BDs_len n2
  have tl2 := BDs_len p2
  rw [len9] at a7
  have hdo : HDo Nk K (mrw mid WP WE) lo hi (e :: t) (eE :: tE) := HDo_tr b1.1 a1.1 (HDo_w (fun j _ b => if_pos b) b5.1) (HDo_w (fun j a _ => if_neg (by omega)) a5.1)
  refine ⟨⟨by omega, by omega, by omega, by omega⟩, XCS_eq b2 hsame.symm n2, ⟨XRS_60 a3.1 n1, a3.2⟩, ?_, ⟨mrw mid WP WE, ⟨⟨hdo.1, hdo.2⟩, fun _ => ⟨trivial, List.prefix_rfl, BDs_tr p2 n2, fun x hx => Or.inl hx⟩⟩, ?_⟩, ?_, ⟨?_, QLE_tr b8.2.1 a8.2.1, ⟨a8.2.2.1.trans b8.2.2.1, a8.2.2.2.1.trans b8.2.2.2.1, a8.2.2.2.2.trans b8.2.2.2.2⟩⟩, fun z => (by cases z), fun n hn => ⟨(b10 n hn).1, Nat.lt_of_lt_of_le (b10 n hn).2 (a8.2.1 32 (by decide))⟩⟩
  · show tot tE + e.1.length ≤ tot t + e.1.length + (hi - lo)
    rw [tl1.2, tl2.2]
    omega
  · rw [b6, l2 42 (by decide), a6, wup_swx b1.1 a1.1]
  · refine ⟨fun k k1 k2 => by rw [b7.1 k k1 k2, l1 k k1 k2, a7.1 k k1 k2], fun k k1 k2 k3 => by rw [b7.2.1 k k1 k2 k3, l2 k k1, a7.2.1 k k1 k2 k3], fun j hj => by rw [b7.2.2.1 j (by omega), l3 j hj, a7.2.2.1 j hj], fun k j k1 k2 k3 => by rw [b7.2.2.2.1 k j k1 k2 (by omega), l2 k (by omega), a7.2.2.2.1 k j k1 k2 (by omega)], fun j hj => by rw [b7.2.2.2.2.1 j hj, l2 40 (by decide), a7.2.2.2.2.1 j hj], fun j hj => by rw [b7.2.2.2.2.2 j hj, l2 41 (by decide), a7.2.2.2.2.2 j hj]⟩
  · have q1 := QRR_tr b8.1 a8.1 b8.2.1
    refine ⟨fun k k1 k2 k3 => ?_, fun k n k1 k2 => ?_, q1.2.2⟩
    · rw [upA_no (by rintro rfl; exact k2 ⟨by decide, by decide⟩)]
      exact q1.1 k k1 k2 k3
    · rw [upA_no (by rintro rfl; exact k1 (by decide))]
      exact q1.2.1 k n k1 k2
end
