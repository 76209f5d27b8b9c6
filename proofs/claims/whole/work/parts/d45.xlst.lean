/-! expressions: LISTS, both -/
set_option maxRecDepth 100000
section
variable {α β : Type} {m0 w0 m w m2 w2 m3 w3 v u mS wS : MS} {K nm Nk W W2 : Nat → Nat} {N T D d o a a0 b c cm cm0 cm2 cm3 q q0 r s lo lo0 mid hi i j f f2 n k kk p σ tk x xa xb : Nat} {Q Q0 Q2 Q3 Q4 : Nat → Nat} {sc sc0 sc2 sc3 t : SCT} {e : List Nat × List Nat × Nat} {g lst l2 : Bool} {L L1 L2 : List Nat} {fof cvr : Int → Int → Int} {C : Nat → Int} {P R : Nat → Nat → Int} {J : Nat → Int64} {H O : List Nat} {y : Option (Nat × Nat × Nat)} {z : Unit} {rt v1 v2 v3 v5 : Int32} {fc : MS → Unit → Option (MS × α)} {RR : MS → α → MS → Int32 → Prop} {RU : MS → α → MS → β → Prop} {A' : Option (MS × α)} {l : List Int32}
/-- the end of a LIST: words, a node -/
theorem lst_n {S : SG_M_behind} {G : MS → Int32 → Int32 → Int32 → Int32 → Int32 → Int32 → Option (MS × Int32)} (c : CTZ m0 w0 K T nm Nk) (ht : XTR m0 w0 K T nm Nk fof cvr lst g [] lo mid a b cm cm2 q r Q Q2 sc sc2 m w m2 w2) (k25 : K mid = 25) (hlo : lo < mid) (hkk : kk ≤ 8) {tl : Nat} (htl : tl ≤ 1) (hl1 : 1 ≤ l.length) (hw : XCS m0 nm (ptcs m2 b l) (b + l.length) cm2 sc2 g) (hll : (tl = 1 ∧ 1 ≤ kk ∧ l = [5, I (kk : Nat)]) ∨ (tl = 0 ∧ kk = 0 ∧ l = [1, 6, 0]) ∨ (tl = 0 ∧ 1 ≤ kk ∧ l = [1, 6, 0, 5, I (kk : Nat)])) : PP (XZ m0 w0 K T nm Nk fof cvr lst g lo (mid + 1) a cm q r Q sc m w) (some (ptcs m2 b l, ())) (kb_M_row_125 N S G w2 (I (lo : Nat)) 0 5 (I (kk : Nat)) (I (tl : Nat))) := by
  have hR := ht.2.2.1.1
  have hC := ht.2.1
  have t4 := c.2.1.1.1
  have hl : mid < T := c.2.1.1.lt hR.1.2.1.2 (by omega) (by omega)
  unfold kb_M_row_125
  refine need_k (XRS_wp c hR) hR.1.2.2.1 (k := 25) (by decide) rfl (fun _ => ?_)
  rw [show decide ((0 : Int32) = 0) = true from rfl, br_t]
  unfold kb_M_row_140
  have hA := XRS_ad hR hl
  obtain ⟨n1, n2⟩ := XRS_q hA
  refine r_n2 n1 n2 rfl (by omega) (fun v h16 hN h69 _ r23 r24 r25 r26 r27 r28 r30 => ?_)
  have h69 : v.1 69 = I ((mid + 1 : Nat) : Int) := h69.trans upI_at
  have l1 := ht.1
  have r23 : A v 23 (Q2 32) = 5 := r23
  have i25 : A v 25 (Q2 32) = ((kk : Nat) : Int) := r25.trans (I_ti (by omega) (by omega))
  have i26 : A v 26 (Q2 32) = ((tl : Nat) : Int) := r26.trans (I_ti (by omega) (by omega))
  refine pp_end (XZ_n (L := []) (c := b + l.length) ht (XT_nod hC hR ht.2.2.1.2 ⟨by omega, hl⟩ (fun j j1 j2 => ?_) (by omega) hw (XFC_ps XFC_rf (Nat.le_refl _)) (ptcs_r (by decide)) (adv_n hN) rfl h16 h69 (fun n hn => by cases hn) (fun C P R J H fi hx => ⟨fun u u1 u2 => by omega, fun y hy hr => ?_⟩)) (by omega) (by omega) r28 (Or.inl ⟨rfl, by rw [r23]; decide⟩))
  · rw [show j = mid by omega]; omega
  · have gc := fi.1
    have ro : ∀ k, 23 ≤ k ∧ k ≤ 31 → k ≠ 27 ∧ k ≠ 29 ∧ k ≠ 30 → R k (Q2 32) = A v k (Q2 32) := fun k k1 k2 => FIN_R fi k1 k2 ⟨Nat.le_refl _, by rw [qst_at]; omega⟩
    have ki : (I (kk : Nat)).toInt = ((kk : Nat) : Int) := I_ti (by omega) (by omega)
    have R23 := (ro 23 (by decide) (by decide)).trans r23
    have R25 := (ro 25 (by decide) (by decide)).trans i25
    have R26 := (ro 26 (by decide) (by decide)).trans i26
    obtain ⟨b1, b2⟩ := XB c.2.2.1 hC hR hx h16
    obtain ⟨d, hd⟩ := hr
    rw [qst_at] at hd
    rcases hll with ⟨h1, h2, rfl⟩ | ⟨h1, h2, rfl⟩ | ⟨h1, h2, rfl⟩
    · have c0 : C b = 5 := C_0 gc (by omega)
      have c1 : C (b + 1) = (I (kk : Nat)).toInt := C_at (k := 1) gc rfl (Nat.lt_of_lt_of_eq (by omega : b + 1 < b + 2) rfl)
      exact cr_1 b1 b2 ⟨d, Or.inr (Or.inr (Or.inr (Or.inr (Or.inl ⟨R23, by rw [R26, h1]; rfl, by rw [R25]; omega, c0, by rw [c1, R25, ki], hd⟩))))⟩
    · have c0 : C b = 1 := C_0 gc (by omega)
      have c1 : C (b + 1) = 6 := C_at (k := 1) gc rfl (Nat.lt_of_lt_of_eq (by omega : b + 1 < b + 3) rfl)
      have c2 : C (b + 2) = 0 := C_at (k := 2) gc rfl (Nat.lt_of_lt_of_eq (by omega : b + 2 < b + 3) rfl)
      exact cr_1 b1 b2 ⟨d, Or.inr (Or.inr (Or.inr (Or.inr (Or.inr (Or.inl ⟨R23, by rw [R26, h1]; rfl, c0, c1, c2, Or.inl ⟨by rw [R25, h2]; rfl, hd⟩⟩)))))⟩
    · have c0 : C b = 1 := C_0 gc (by omega)
      have c1 : C (b + 1) = 6 := C_at (k := 1) gc rfl (Nat.lt_of_lt_of_eq (by omega : b + 1 < b + 5) rfl)
      have c2 : C (b + 2) = 0 := C_at (k := 2) gc rfl (Nat.lt_of_lt_of_eq (by omega : b + 2 < b + 5) rfl)
      have c3 : C (b + 3) = 5 := C_at (k := 3) gc rfl (Nat.lt_of_lt_of_eq (by omega : b + 3 < b + 5) rfl)
      have c4 : C (b + 4) = (I (kk : Nat)).toInt := C_at (k := 4) gc rfl (Nat.lt_of_lt_of_eq (by omega : b + 4 < b + 5) rfl)
      exact cr_1 b1 b2 ⟨d, Or.inr (Or.inr (Or.inr (Or.inr (Or.inr (Or.inl ⟨R23, by rw [R26, h1]; rfl, c0, c1, c2, Or.inr ⟨by rw [R25]; omega, c3, by rw [c4, R25, ki], hd⟩⟩)))))⟩
/-- 57: how many, there -/
theorem l_57 {S : SF_Cm_fun} {B : Option (MS × β)} {RU : MS → Unit → MS → β → Prop} (hC : XCS m0 nm m a cm sc g) (hn : n ≤ 8015) (h19 : A m0 19 n = ((kk : Nat) : Int)) (hkk : kk ≤ 8) (h0 : kk = 0 → PP RU (some (m, ())) B) (h1 : 1 ≤ kk → XCS m0 nm (ptcs m a [5, I (kk : Nat)]) (a + 2) cm sc g → PP RU (some (ptcs m a [5, I (kk : Nat)], ())) B) : PP RU (jb_Cm_list_57 N S () m (I (n : Nat))) B := by
  unfold jb_Cm_list_57 jb_Cm_list_93
  rw [i_nt2 (show n ≤ 100000 by omega), tre (XCS_fr hC) (by decide) h19]
  refine l_ck (fun _ => ?_)
  rw [show (0 : Int32) = I ((0 : Nat) : Int) from rfl, decI (by omega) (by omega) (by omega) (by omega)]
  by_cases z : kk = 0
  · rw [decide_eq_true (by omega), br_t]
    exact h0 z
  · rw [decide_eq_false (by omega), br_f]
    refine l_put hC.1.2.2.1.1 hC.1.2.2.1.2.2 (fun ha => l_ck (fun _ => ?_))
    have x1 := XCS_put (x := 5) hC ha
    have e19 : (ptc m a 5).2.2.1 19 n = I (kk : Nat) := tre (XCS_fr x1) (by decide) h19
    rw [e19]
    refine l_put x1.1.2.2.1.1 x1.1.2.2.1.2.2 (fun ha1 => ?_)
    exact h1 (by omega) (XCS_put (x := I (kk : Nat)) x1 ha1)
/-- nil, then how many -/
theorem l_nil {S : SF_Cm_fun} {B : Option (MS × β)} {RU : MS → Unit → MS → β → Prop} (hC : XCS m0 nm m a cm sc g) (hn : n ≤ 8015) (h19 : A m0 19 n = ((kk : Nat) : Int)) (hkk : kk ≤ 8) (hh : ∀ l : List Int32, XCS m0 nm (ptcs m a l) (a + l.length) cm sc g → ((kk = 0 ∧ l = [1, 6, 0]) ∨ (1 ≤ kk ∧ l = [1, 6, 0, 5, I (kk : Nat)])) → PP RU (some (ptcs m a l, ())) B) : PP RU (bnd (jm_Co_put N m 1) (fun u29 r29 => bnd (jm_Cm_term N u29 6 0) (fun u31 r31 => jb_Cm_list_57 N S () u31 (I (n : Nat))))) B := by
  refine l_put hC.1.2.2.1.1 hC.1.2.2.1.2.2 (fun ha => ?_)
  have h1 := XCS_put (x := 1) hC ha
  unfold jm_Cm_term jb_Cm_term_0
  rw [bnd_as2]
  refine l_put h1.1.2.2.1.1 h1.1.2.2.1.2.2 (fun ha1 => ?_)
  have h2 := XCS_put (x := 6) h1 ha1
  rw [bnd_as2]
  refine l_put h2.1.2.2.1.1 h2.1.2.2.1.2.2 (fun ha2 => ?_)
  rw [bnd_s]
  have h3 := XCS_put (x := 0) h2 ha2
  exact l_57 h3 hn h19 hkk (fun z => hh [1, 6, 0] h3 (Or.inl ⟨z, rfl⟩)) (fun z hx => hh [1, 6, 0, 5, I (kk : Nat)] hx (Or.inr ⟨z, rfl⟩))
theorem l_id {X : Option (MS × Unit)} {B : Option (MS × β)} {RU : MS → Unit → MS → β → Prop} (h : PP RU X B) : PP RU (bnd X (fun u _ => some (u, ()))) B := by
  cases X with
  | none => exact pp_nl
  | some X => exact h
theorem r_id {X : Option (MS × β)} (h : PP RU A' X) : PP RU A' (bnd X (fun u r => some (u, r))) := by
  cases X with
  | none => exact pp_nr
  | some X => exact h
/-- behind the parts of a LIST -/
theorem lst_t {G : MS → Int32 → Int32 → Int32 → Int32 → Int32 → Int32 → Option (MS × Int32)} (c : CTZ m0 w0 K T nm Nk) (IH : HXE N m0 w0 K T nm Nk fof cvr f) (ht : XTR m0 w0 K T nm Nk fof cvr lst g [] lo mid a b cm cm2 q s Q Q2 sc sc2 m w m2 w2) (hn : n ≤ 8015) (h19 : A m0 19 n = ((k : Nat) : Int)) (hk8 : k ≤ 8) (hlo : lo < mid) (k25 : K (hi - 1) = 25) (hr4 : r ≤ 400) (hiT : hi ≤ T) (hlh : lo + 2 ≤ hi) (htot : tot sc + (hi - lo) ≤ 4000 ∧ sc.length ≤ o + 1) {c1 : Nat} (hT : (A m0 20 n = 0 ∧ hi = mid + 1 ∧ s = r ∧ c1 < n) ∨ ((1 ≤ k ∧ A m0 6 mid = 29) ∧ ∃ x c2 : Nat, A m0 20 n = ((x : Nat) : Int) ∧ XPcK m0 f o 3 x (mid + 1) (hi - 1) c1 c2 s r ∧ c2 < n)) : PP (XZ m0 w0 K T nm Nk fof cvr lst g lo hi a cm q r Q sc m w) (ck (inb (I (n : Nat)) 8016) (br (decide ((m2.2.2.1 20 n) = 0)) (bnd (jm_Co_put N m2 1) (fun u29 r29 => bnd (jm_Cm_term N u29 6 0) (fun u31 r31 => jb_Cm_list_57 N (jrc_Cm_fun N D) () u31 (I (n : Nat))))) (ck (inb (I (n : Nat)) 8016) (bnd ((jrc_Cm_fun N D).2.2.2.2.2.2.2.2.2.2.1 m2 (m2.2.2.1 20 n) 0) (fun u37 r37 => jb_Cm_list_57 N (jrc_Cm_fun N D) () u37 (I (n : Nat))))))) (kb_M_row_103 N (krc_M_behind N d) G w2 (I (lo : Nat)) 0 5 (I (k : Nat)) 0) := by
  have hC2 := ht.2.1
  have hR2 := ht.2.2.1.1
  have t4 := c.2.1.1.1
  have hw2 := XRS_wp c hR2
  unfold kb_M_row_103
  rw [show decide ((0 : Int32) = 0) = true from rfl, br_t, tkS_e (k := 29) (s := 9) hw2 hR2.1.2.2.1 (by decide) rfl]
  refine l_ck (fun _ => ?_)
  rcases hT with ⟨h20, rfl, rfl, -⟩ | ⟨⟨h1, h29⟩, x, c2, h20, hE, hc2⟩
  · have k25 : K mid = 25 := k25
    rw [if_neg (by omega), bnd_s, show decide ((0 : Int32) = 0) = true from rfl, br_t, tre (XCS_fr hC2) (by decide) h20, show decide (I 0 = (0 : Int32)) = true from rfl, br_t]
    refine l_nil hC2 hn h19 hk8 (fun l hx hl => ?_)
    refine lst_n (tl := 0) c ht k25 hlo hk8 (by decide) (by rcases hl with ⟨-, rfl⟩ | ⟨-, rfl⟩ <;> exact Nat.succ_le_succ (Nat.zero_le _)) hx ?_
    rcases hl with ⟨h1, h2⟩ | ⟨h1, h2⟩
    · exact Or.inr (Or.inl ⟨rfl, h1, h2⟩)
    · exact Or.inr (Or.inr ⟨rfl, h1, h2⟩)
  · have hd := xp_hd hE
    have k29 : K mid = 29 := kA c (by omega) h29
    have hl : mid < T := by omega
    rw [if_pos k29, bnd_s, show decide ((1 : Int32) = 0) = false from rfl, br_f, tre (XCS_fr hC2) (by decide) h20, decide_eq_false (fun z => by
      have := (I_eq (x := ((x : Nat) : Int)) (y := 0) (by omega) (by omega) (by decide) (by decide)).mp z
      omega), br_f]
    refine l_ck (fun _ => ?_)
    have hA := XTR_ad ht hl (by omega)
    have t1 := hA.2.2.2.1
    have ttl := XTR_len hA
    refine pp_bb (pp_mo (IH D d o x (mid + 1) (hi - 1) c1 c2 s r m2 (adv w2 mid) b cm2 Q2 sc2 g false hE (by omega) hr4 ⟨by rw [k25]; exact NEC_k.2.2.2.2.2.1, by omega⟩ hC2 hA.2.2.1.1 hA.2.2.1.2 (by omega)) (fun m3 z3 w3 rt hz => ?_))
    obtain ⟨b3, cm3, Q3, sc3, ht3⟩ := XZ_tr hz hA
    refine l_57 ht3.2.1 hn h19 hk8 (fun z => by omega) (fun _ hx => ?_)
    have := lst_n (N := N) (S := krc_M_behind N d) (G := G) (tl := 1) (kk := k) (l := [5, I (k : Nat)]) c ht3 k25 (by omega) hk8 (by decide) (by show 1 ≤ 2; omega) hx (Or.inl ⟨rfl, h1, rfl⟩)
    rw [show hi - 1 + 1 = hi by omega] at this
    exact this
/-- a LIST -/
theorem x_lst (c : CTZ m0 w0 K T nm Nk) (IH : HXE N m0 w0 K T nm Nk fof cvr f) (hC : XCS m0 nm m a cm sc g) (hR : XRS w0 T w lo Q sc) (hq : Q 56 = q) (hn : n ≤ 8015) (h16 : A m0 16 n = 7) (hT : TLcK m0 (XPcK m0 f (o + 1) 3) n lo hi xa q r) (hr4 : r ≤ 400) (hiT : hi ≤ T) (htot : tot sc + (hi - lo) ≤ 4000 ∧ sc.length ≤ o + 1) : PP (XZ m0 w0 K T nm Nk fof cvr lst g lo hi a cm q r Q sc m w) (jm_Cm_expression N (jrc_Cm_fun N D) m (I (n : Nat)) v2) (km_M_alone N (krc_M_behind N d) w (I (lo : Nat))) := by
  obtain ⟨k, m1, mid, c1, s1, h18, h19, ⟨hk8, h6, h6b⟩, hE, hT⟩ := hT
  have fr := XCS_fr hC
  have t4 := c.2.1.1.1
  have bd : lo < mid ∧ mid < hi ∧ c1 ≤ n ∧ s1 ≤ r := by
    have h1 := OR_hdK (XP_bdK _ _ _) hE
    rcases hT with ⟨-, h2, h3, h4⟩ | ⟨-, x, c2, -, hx, h2⟩
    · omega
    · have := xp_hd hx
      omega
  have k24 : K lo = 24 := kA c (by omega : lo ≤ T) h6
  have k25 : K (hi - 1) = 25 := kA c (by omega : hi - 1 ≤ T) h6b
  have hw := XRS_wp c hR
  have hl : lo < T := by omega
  refine exd_7 hn (tre fr (by decide) h16) (l_id ?_)
  cases D with
  | zero => exact pp_nl
  | succ D =>
  refine al_row c hR (Or.inr k24) (r_id ?_)
  cases d with
  | zero => exact pp_nr
  | succ d =>
  show PP _ (jb_Cm_list_0 N (jrc_Cm_fun N D) () m (I (n : Nat))) (kb_M_row_0 N (krc_M_behind N d) (kg_M_row N (krc_M_behind N d) N) w (I (lo : Nat)))
  unfold jb_Cm_list_0 kb_M_row_0 kb_M_row_15
  refine l_ck (fun _ => ?_)
  rw [i_nt2 (show n ≤ 100000 by omega), tre fr (by decide) h18, isS_e (k := 22) (s := 2) hw (by decide) rfl, if_neg (by omega), bnd_s, show decide ((0 : Int32) = 0) = true from rfl, br_t]
  have e1 : w.1 69 + 1 = I ((lo + 1 : Nat) : Int) := by rw [hR.1.2.1.1, i_suc]
  rw [lt_e, e1]
  have ht := XTR_ad (K := K) (nm := nm) (Nk := Nk) (fof := fof) (cvr := cvr) (lst := lst) (mid := lo) (XTR_rf hC hR hq) hl (by omega)
  have hA := ht.2.2.1.1
  have hwA := XRS_wp c hA
  have ea : upI w 69 (I ((lo + 1 : Nat) : Int)) = adv w lo := rfl
  rw [ea, decide_eq_true hA.1.2.2.1, br_t, isS_e (k := 25) (s := 5) hwA (by decide) rfl, bnd_s]
  cases D with
  | zero => exact pp_nl
  | succ D =>
  show PP _ (bnd (jg_Cm_row N (jrc_Cm_fun N D) N m (I (m1 : Nat))) _) _
  rcases hE with ⟨rfl, rfl, h1, h2, h3⟩ | ⟨h1, hE⟩
  · subst h3
    subst h1
    rcases hT with ⟨h20, hh, hs, h4⟩ | ⟨⟨h, -⟩, -⟩
    · have k25' : K (lo + 1) = 25 := by rw [show lo + 1 = hi - 1 by omega]; exact k25
      rw [if_pos k25', show decide ((1 : Int32) = 0) = false from rfl, br_f]
      refine row_0 ?_
      have := lst_t (N := N) (D := D + 1) (d := d) (G := kg_M_row N (krc_M_behind N d) N) (k := 0) (n := n) (r := r) (hi := hi) (c1 := c1) (o := o) c IH ht hn h19 (by omega) (by omega) k25 hr4 hiT (by omega) htot (Or.inl ⟨h20, hh, hs, h4⟩)
      unfold kb_M_row_103 at this
      rw [show decide ((0 : Int32) = 0) = true from rfl, br_t, tkS_e (k := 29) (s := 9) hwA hA.1.2.2.1 (by decide) rfl, if_neg (by omega), bnd_s, show decide ((0 : Int32) = 0) = true from rfl, br_t] at this
      exact this
    · omega
  · have hd := RW_hdK (XP_bdK _ _ _) hE
    have k25n : K (lo + 1) ≠ 25 := fun z => by
      have b := (BG_ne (rw_beg hE)).2.2.1
      have y : (m0.2.2.1 6 (lo + 1)).toInt = 25 := by
        rw [c.1.2 (lo + 1) (by omega), z]
        rfl
      exact b y
    have ncl : NEC (K mid) ∧ K mid ≠ 26 := by
      rcases hT with ⟨-, hh, -, -⟩ | ⟨⟨-, h29⟩, -⟩
      · rw [show mid = hi - 1 by omega, k25]
        exact ⟨NEC_k.2.2.2.2.2.1, by decide⟩
      · have : K mid = 29 := kA c (by omega) h29
        rw [this]
        exact ⟨NEC_k.2.2.2.2.2.2.1, by decide⟩
    rw [if_neg k25n, show decide ((0 : Int32) = 0) = true from rfl, br_t]
    have htt : tot sc + (mid - lo) ≤ 4000 ∧ c1 ≤ 8015 ∧ s1 ≤ 400 ∧ mid ≤ T := by
      clear hT
      omega
    refine row_x (xb := c1) (hi := mid) (r := s1) (kk := k) c IH htt.2.1 htt.2.2.1 ⟨⟨ncl.1, htt.2.2.2⟩, ncl.2⟩ ⟨htt.1, by have := htot.2; omega⟩ (fun M2 m2 w2 b cm2 Q2 sc2 ht2 => ?_) k m1 (lo + 1) xa q N N 0 m (adv w lo) a cm Q sc hE ht (Nat.zero_add k)
    cases M2 with
    | zero => exact pp_nr
    | succ M2 =>
      show PP _ _ (kb_M_row_50 N (krc_M_behind N d) (kg_M_row N (krc_M_behind N d) M2) w2 (I (lo : Nat)) 0 5 (I (k : Nat)) 0 0)
      unfold kb_M_row_50
      rw [show decide ((0 : Int32) = 0) = true from rfl, br_t]
      exact lst_t (N := N) (D := D + 1) (d := d) (G := kg_M_row N (krc_M_behind N d) M2) (k := k) (n := n) (r := r) (hi := hi) (c1 := c1) (o := o + 1) c IH ht2 hn h19 hk8 bd.1 k25 hr4 hiT (by clear hT; omega) ⟨htot.1, by have := htot.2; omega⟩ hT
end
