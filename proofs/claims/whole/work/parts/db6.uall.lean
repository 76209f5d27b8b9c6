/-! what compiling an E does to names, there alone: all E -/
set_option maxRecDepth 100000
section
variable {m0 w0 : MS} {K nm Nk : Nat → Nat} {N T f : Nat} {idc fof cvr : Int → Int → Int}
theorem ue_step (c : CTZ m0 w0 K T nm Nk) (cv : CTV m0 w0 K T) (cx : CVX N m0 w0 K T idc fof cvr) (IE : HUE N m0 T nm f) : HUE N m0 T nm (f + 1) := by
  intro D o cl n lo hi xa xb q r m a cm e t g lst hE hxb hr4 hiT hC ok htot
  have t4 := c.2.1.1.1
  obtain ⟨hdc', ⟨tk, h17t, htk1, htk2⟩, ho, hE⟩ := hE
  have hd := hdc'
  unfold HDc at hd
  have hn : n ≤ 8015 := by omega
  have hT4 : T ≤ 4000 := by omega
  cases D with
  | zero => exact pu_pk (w := m0) pp_nl
  | succ D =>
  show PK _ (jm_Cm_expression N (jrc_Cm_fun N D) m (I (n : Nat)) (lsI lst))
  rcases hE with ⟨hl, ⟨rfl, hnc⟩, rfl⟩ | ⟨h16, x, xc, h18, hx, hc, h6, h6b, h17⟩ | ⟨h16, hT, h17⟩ | ⟨h16, hT, h17⟩ | ⟨h16, k, x, xc, h18, hB, hc, h6, h6b, h17⟩ | ⟨h16, x, mid, xc, s, k, mm, c2, h18, hx, h19, hB, hc, h6, h6m, h6b, h17⟩ | ⟨h16, k, mm, xc, h19, hB, hc, h6, h6b, h17⟩ | ⟨h16, k, mm, m1, c1, s1, h19, hO, hrest⟩ | ⟨h16, k, mm, ph, xc, h17, h18, h19, h20, hk, hqr, hP, hc, h6, h6a, h6p, h6b⟩ | ⟨h16, ⟨rfl, h6⟩, rfl⟩ | ⟨h16, h17, k, mm, a2, xc, h19, h20, hk, ha2, hO, hc, h6, h6a, h6b, h18⟩ | ⟨h16, -, x, mid, xc, s, k, mm, h18, hx, ⟨hc, h17⟩, h19, hR⟩ | ⟨h16, -, x, xc, h18, hx, hc, -⟩ | ⟨h16, -, x, xc, h18, hx, hc, h6⟩ | ⟨h16, -, x, y, mid, xc, c2, h18, hP, h19, hy, hc, -⟩ | ⟨h16, -, x, y, mid, xc, c2, s, h18, hx, h19, hy, hc, -⟩ | ⟨h16, -, j, x, xc, h18, hs, hc, -⟩
  · exact pk_mo (u_leaf c cv hC ok hn hl (by omega)) (fun v _ hz => by
      obtain ⟨b, cm2, e2, h⟩ := hz
      exact ⟨b, cm2, e2, UXQ_mo h (Nat.zero_le _)⟩)
  · have := xp_hd hx
    exact u_grp IE hC ok hn h16 h18 hx (by omega) (by omega) hr4 hiT (by omega) htot
  · have hl2 : lo + 2 ≤ hi := by
      obtain ⟨k, mm, xc, -, -, ⟨-, h6, h6b⟩, hO, -⟩ := hT
      rcases hO with ⟨-, -, z, -⟩ | ⟨-, z⟩
      · omega
      · have := (RW_hdK (XP_bdK f (o + 1) 3) z).1
        unfold HDc at this
        omega
    exact u_tup IE hC ok hn h16 hT hr4 hl2 hiT htot
  · exact u_lst IE hC ok hn h16 hT hr4 hiT htot
  · exact u_blk (o := o + 2) IE hC ok hn h16 h17 h18 hB (by omega) hr4 (by omega) hiT ⟨htot.1, by have := htot.2; omega⟩
  · have e1 : PEc m0 f o 1 = CSPcK m0 (PAcK m0 f) (XPcK m0 f (o + 2) 3) (XPcK m0 f (o + 1) 3) := if_neg (by decide)
    exact u_cas c cv IE hC ok hn h16 h17 h18 hx h19 (by rw [e1]; exact hB) (by omega) hr4 (by omega) hiT htot
  · have e1 : PEc m0 f o 2 = CHPcK m0 (XPcK m0 f (o + 2) 3) (XPcK m0 f (o + 1) 3) := if_pos rfl
    exact u_iff c cv IE hC ok hn h16 h17 h19 (by rw [e1]; exact hB) (by omega) hr4 (by omega) hiT htot
  · have e1 : PEc m0 f o 3 = CSPcK m0 (PAcK m0 f) (XPcK m0 f (o + 2) 3) (XPcK m0 f (o + 1) 3) := if_neg (by decide)
    rcases hrest with ⟨h18, h20, hk, rfl, rfl, hc, h6, h6b, h17⟩ | ⟨x, m2, c2, s2, kb, mb, c3, hx1, h18, hx, h20, hB, hc, h6, h6m, h6m2, h6b, h17⟩
    · exact u_rcv (k := k) (s := s1) (m1 := m1) (xc := c1) (xb := xb) c cv IE hC ok hn h16 h17 h19 (by rw [e1]; exact hO) (Or.inl ⟨h18, rfl, rfl, by omega⟩) hxb hr4 (by omega) hiT htot
    · exact u_rcv (k := k) (s := s1) (m1 := m1) (xc := c1) (xb := c3) c cv IE hC ok hn h16 h17 h19 (by rw [e1]; exact hO) (Or.inr ⟨x, m2, c2, s2, kb, mb, hx1, h18, hx, h20, hB⟩) (by omega) hr4 (by omega) hiT htot
  · exact u_fun c cv IE hC ok ho hn h16 h17 (by rw [h18, if_pos (by omega)]) h19 h20 hk hP (by omega) hr4 (by omega) hiT htot
  · exact u_fof cx hC ok hn h16 h6.2.2.2.2.1 (by omega)
  · have hl3 : lo + 3 ≤ hi := by
      rcases hO with ⟨-, -, z, -⟩ | ⟨-, z⟩
      · omega
      · have := (RW_hdK (XP_bdK f (o + 1) 3) z).1
        unfold HDc at this
        omega
    exact u_call (o := o + 1) (xa := a2) cx IE hC ok hn h16 h17 h19 h20 hk hO (by omega) hl3 hr4 (by omega) hiT ⟨htot.1, by have := htot.2; omega⟩
  · have h1 := xp_hd hx
    have hbE : BdE (AGcK m0 (XPcK m0 f (o + 1) 3)) := fun _ _ _ _ _ _ _ h => h.1
    exact u_app IE hC ok hn h16 h17 (by omega) h18 h19 hx hR (by omega) (by omega) hr4 hiT htot
  · exact u_neg IE hC ok hn h16 h18 hx (by omega) hr4 hiT htot
  · exact u_cat IE hC ok hn h16 h17t (by omega) h18 hx (by omega) hr4 hiT htot
  · have h1 := xp_hd hy
    exact u_mat c cv IE hC ok hn h16 h17t (by omega) h18 h19 hP hy (by omega) hr4 hiT htot
  · exact u_snd IE hC ok hn h16 h17t (by omega) h18 h19 hx hy (by omega) hr4 hiT htot
  · exact u_sgn IE hC ok hn h16 h18 hs (by omega) hr4 hiT hT4 htot
theorem ue_all (c : CTZ m0 w0 K T nm Nk) (cv : CTV m0 w0 K T) (cx : CVX N m0 w0 K T idc fof cvr) : ∀ f, HUE N m0 T nm f
  | 0 => fun _ _ _ _ _ _ _ _ _ _ _ _ _ _ _ _ _ h => h.elim
  | f + 1 => ue_step c cv cx (ue_all c cv cx f)
end
