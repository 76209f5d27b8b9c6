/-! MATCH, both; all E -/
set_option maxRecDepth 100000
section
variable {α β : Type} {m0 w0 m w m2 w2 m3 w3 v u w1 mS wS : MS} {K nm Nk W WE W1 W2 : Nat → Nat} {N T D d o a b c cm q q0 r s lo lo0 mid hi i j f f2 n k kk p p2 σ tk x y xa xb xc M L : Nat} {Q Q0 Q2 Q3 : Nat → Nat} {sc sc0 sc2 sc3 t t1 t2 : SCT} {e e1 e2 : List Nat × List Nat × Nat} {g lst : Bool} {idc fof cvr : Int → Int → Int}
theorem x_mat (c : CTZ m0 w0 K T nm Nk) (cv : CTV m0 w0 K T) (IS : HXS N m0 w0 K T nm Nk fof cvr f) (hf : f ≤ 230) : HXM N m0 w0 K T nm Nk fof cvr (f + 1) := by
  intro D d o n lo hi xa xb q r m w a cm Q sc g lst hE h16 hxb hr4 hcl hC hR hq htot
  have t4 := c.2.1.1.1
  have hd := xp_hd hE
  have fr := XCS_fr hC
  have hn : n ≤ 8015 := by omega
  obtain ⟨-, ⟨tk, h17, htk⟩, -, h4⟩ := hE
  have h4' : ∃ x y mid c c2 : Nat, A m0 18 n = ((x : Nat) : Int) ∧ PAcK m0 f x lo mid xa c q q ∧ A m0 19 n = ((y : Nat) : Int) ∧ XPcK m0 f (o + 1) 3 y (mid + 1) hi c c2 q r ∧ (c2 < n ∧ A m0 6 mid = 30 ∧ A m0 6 (mid + 1) ≠ 9) := by
    rcases h4 with h | h | h | h | h | h | h | h | h | h | h | h | h | h | h | h | h
    · have := h.1.1; have := h.1.2.1; omega
    · have := h.1; omega
    · have := h.1; omega
    · have := h.1; omega
    · have := h.1; omega
    · have := h.1; omega
    · have := h.1; omega
    · have := h.1; omega
    · have := h.1; omega
    · have := h.1; omega
    · have := h.1; omega
    · have := h.1; omega
    · rcases h.1 with z | z <;> omega
    · have := h.1; omega
    · exact h.2.2
    · have := h.1; omega
    · have := h.1; omega
  clear h4
  obtain ⟨x, y, mid, c1, c2, h18, hx, h19, hy, hc2, k30, k9⟩ := h4'
  have hdx := PA_bdK _ _ _ _ _ _ _ _ hx
  unfold HDc at hdx
  have hdy := xp_hd hy
  have km : K mid = 30 := kA c (by omega) k30
  obtain ⟨e, t, rfl⟩ := PRS_ne hR.1
  unfold km_M_simple kb_M_simple_0
  refine sv_y hR (fun v hX hQ s8 sj s7 hSV => ?_)
  cases d with
  | zero => exact pp_nr
  | succ d =>
  cases D with
  | zero => exact pp_nl
  | succ D =>
  show PP _ (jm_Cm_expression N (jrc_Cm_fun N D) m (I (n : Nat)) (lsI lst)) _
  refine exd_20 hn (tre fr (by decide) h16) (l_id ?_)
  cases D with
  | zero => exact pp_nl
  | succ D =>
  show PP _ (jm_Cm_compound N (jrc_Cm_fun N D) m (I (n : Nat)) (lsI lst)) _
  refine cmd_20 hn (tre fr (by decide) h16) hC.2 (tre fr (by decide) h17) (by omega) (fun hg => l_ck (fun _ => ?_))
  subst hg
  rw [tre fr (by decide) h19]
  refine r_bnd (pk_mo (ru_all (N := N) c f d x lo mid xa c1 q q v (QSV Q) (e :: t) hx ⟨by omega, by omega, by rw [km]; rfl⟩ hX) (fun w2 rt hz => ?_))
  obtain ⟨Q2, sc2, hX2, hF2, hL2, h622⟩ := hz
  rw [decide_eq_true hX2.1.2.2.1, br_t, isS_e (k := 30) (s := 11) (XRS_wp c hX2) (by decide) rfl, if_pos km, bnd_s, show decide ((1 : Int32) = 0) = false from rfl, br_f, hR.1.2.1.1]
  refine pp_rb ?_
  show PP _ _ (km_M_matched N (krc_M_behind N d) w2 (I (lo : Nat)))
  refine mt_rd c hx hR hX2 hQ s8 hF2 hL2 h622 hSV km (fun x4 e1 t1 W1 X4 q4 pre bd hdM wc1 => ?_)
  have totM : tot ((e.1, e1.2.1, e1.2.2) :: t1) = tot (e :: t) := by
    show tot t1 + e.1.length = tot t + e.1.length
    rw [(BDs_len bd).2]
  have lenM : ((e.1, e1.2.1, e1.2.2) :: t1).length = (e :: t).length := by
    show t1.length + 1 = t.length + 1
    rw [(BDs_len bd).1]
  have hCM : XCS m0 nm m a cm ((e.1, e1.2.1, e1.2.2) :: t1) false := XCS_eq hC rfl bd
  have q56 : QSV Q 56 = q := by rw [QSV_n (by decide) (by decide)]; exact hq
  refine pp_bb (pp_mo (x_bh (o := o + 1) (lst := false) c IS hy k9 (by omega) hr4 hcl hCM X4 q56 ⟨by omega, by omega⟩) (fun m5 z5 u5 rt5 hz5 => ?_))
  obtain ⟨b5, cm5, Q5, sc5, tE⟩ := XZ_tr (lst := lst) hz5 (XTR_rf hCM X4 q56)
  refine mt_end c cv hf hn h18 hx (by omega) km ⟨by omega, by omega, by omega⟩ hC hq htot.1 bd hdM wc1 q4 tE (fun m9 v9 i hz9 => pp_end ?_)
  unfold kb_M_simple_97
  exact XZ_mk hz9 hQ (fun v => rfl)
/-- all E's -/
theorem hx_fin (c : CTZ m0 w0 K T nm Nk) (cv : CTV m0 w0 K T) (cx : CVX N m0 w0 K T idc fof cvr) (f : Nat) (hf : f ≤ 230) : HXE N m0 w0 K T nm Nk fof cvr f := (hx_al2 c cv cx (fun f hf _ IS _ => x_mat c cv IS (by omega)) f hf).2.2.2.2
end
