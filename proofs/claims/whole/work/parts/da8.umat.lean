/-! what compiling an E does to names, there alone: MATCH -/
set_option maxRecDepth 100000
section
variable {α β : Type} {m0 w0 m w m2 w2 m3 w3 m4 v u w1 mS wS : MS} {K nm Nk W W2 : Nat → Nat} {N T D d o a a0 a2 b b0 c cm cm0 cm2 cm3 cm4 q q0 r s lo lo0 mid hi i j f f2 n n1 k k2 kk KK p p2 σ tk x xa xb xc mm M m1 lv y cl l2 : Nat} {sc sc0 sc2 sc3 t t2 : SCT} {e e2 e3 e4 : List Nat × List Nat × Nat} {g own lst : Bool} {idc fof cvr : Int → Int → Int} {fc : MS → Unit → Option (MS × α)} {RU : MS → α → MS → β → Prop} {B : Option (MS × β)}
/-- a PATTERN behind an E -/
theorem UPQ_X (h : UXQ m0 nm t g k m a cm e m2 b cm2 e2) (h2 : UPQ m0 nm t false k2 m2 b cm2 e2 m3 c cm3 e3) : UXQ m0 nm t g (k + k2) m a cm e m3 c cm3 e3 := by
  obtain ⟨b1, b2, b3, b4, b5, b6⟩ := h2
  exact UXQ_tr h ⟨⟨b1, by rw [b6.1 712 (by decide) (by decide)]; exact h.1.2⟩, b2, b3, b4, b5, XFC_U (q := 0) (r := 0) (XFC_P b6)⟩
/-- MATCH -/
theorem u_mat (c : CTZ m0 w0 K T nm Nk) (cv : CTV m0 w0 K T) (IE : HUE N m0 T nm f) (hC : XCS m0 nm m a cm (e :: t) g) (ok : SOK (e :: t)) (hn : n ≤ 8015) (h16 : A m0 16 n = 20) (h17 : A m0 17 n = ((tk : Nat) : Int)) (htk : tk ≤ 4000) (h18 : A m0 18 n = ((x : Nat) : Int)) (h19 : A m0 19 n = ((y : Nat) : Int)) (hx : PAcK m0 f x lo mid xa xc q q) (hE : XPcK m0 f (o + 1) 3 y (mid + 1) hi xc xb q r) (hxb : xb ≤ 8015) (hr4 : r ≤ 400) (hiT : hi ≤ T) (htot : tot (e :: t) + (hi - lo) ≤ 4000 ∧ (e :: t).length ≤ o + 1) : PK (fun v _ => UXP m0 nm t g (hi - lo) m a cm e v) (jm_Cm_expression N (jrc_Cm_fun N D) m (I (n : Nat)) (lsI lst)) := by
  have fr := XCS_fr hC
  have hd1 := PA_bdK _ _ _ _ _ _ _ _ hx
  unfold HDc at hd1
  have hd2 := xp_hd hE
  refine pu_pk (w := m0) (exd_20 hn (tre fr (by decide) h16) (l_id ?_))
  cases D with
  | zero => exact pp_nl
  | succ D =>
  show PP _ (jm_Cm_compound N (jrc_Cm_fun N D) m (I (n : Nat)) (lsI lst)) _
  refine cmd_20 hn (tre fr (by decide) h16) hC.2 (tre fr (by decide) h17) (by omega) (fun hg => l_ck (fun _ => ?_))
  rw [tre fr (by decide) h19]
  refine l_bnd (pk_mo (IE D (o + 1) 3 y (mid + 1) hi xc xb q r m a cm e t g false hE hxb hr4 hiT hC ok ⟨by omega, by omega⟩) (fun m3 z hz => ?_))
  obtain ⟨b3, cm3, e3, h3⟩ := hz
  have nu := UXQ_nu h3
  refine u_put h3 (fun _ h4 => l_ck (fun _ => ?_))
  rw [tre (XCS_fr h4.1) (by decide) h18]
  unfold jr_Cm_pattern
  refine l_bnd (pk_mo (u_pat c cv f 300 x lo mid xa xc q q _ _ cm3 e3 t false hx (by omega) (by omega) h4.1.1 h4.2.1 (by omega)) (fun m5 z hz => ?_))
  obtain ⟨b5, cm5, e5, h5⟩ := hz
  unfold jb_Cm_compound_455
  exact u_put (UXQ_mo (UPQ_X h4 h5) (by omega)) (fun _ h6 => pp_end ⟨_, _, _, h6⟩)
end
