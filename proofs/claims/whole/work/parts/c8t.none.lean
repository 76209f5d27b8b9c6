/-! no part fits: an error -/
set_option maxRecDepth 100000
section
variable {Sf : MS → Int32 → Prop} {β : Type} {b : Int → Nat → Nat → Prop} {N p j Y sc a U B W l M M1 vk d kd : Nat} {m w : MS} {nb : Nat → Nat} {Hs Os : Nat → List Nat} {Q : MS → Int32 → MS → β → Prop} {K : MS → Unit → Option (MS × β)} {c wd : Int}
/-- a FUNCTION, an if -/
theorem none02_pp (hpp : p < 24) (hkd : (kd = 0 ∧ wd = 36 ∧ c = 14) ∨ (kd = 2 ∧ wd = 38 ∧ c = 16)) (tt : TRs m w p j nb Hs Os kd sc a (-1)) (hB : B = nb j + (Hs j).length + (Os j).length) (hvk : vk < 1000000000)
    (kU : ∀ (d : Nat) (K2 : MS → Option (MS × β)), (∀ (D : Option (MS × Int32)) (w3 : MS), PP Q D (K w3 ()) → PP Q D (K2 w3)) → PP Q (q195 Sf N (qgo Sf N M1) (tld m 1 (-1) (mk 1 c)) p (I ((vk : Nat) : Int))) (bnd (fm_M_goesUp N (rc_M_error N d) (wa w 94 p ((B : Nat) : Int)) (I 0) (mk 1 c)) (fun u _ => K2 u))) : PP Q (q67 Sf N (qgo Sf N M1) m p (I ((vk : Nat) : Int))) (bnd (gg_M_choose N (rc_M_error N d) (M + 1) w 1) K) := by
  obtain ⟨ru, hpc, ⟨h153, h154, h156⟩, tr, nd, f, g, zr⟩ := tt
  obtain ⟨-, ⟨r5, r6⟩, -, ⟨r8, r9, r10⟩, r11, r12, r13⟩ := id ru
  rw [← hB] at h156
  have zc : a + 1 < 24000 ∧ A m 23 a = wd := by
    cases g with
    | zero => exact zr.elim
    | succ g =>
      rcases zr with ⟨z0, ⟨-, ⟨q1, q2⟩ | ⟨q1, q2⟩ | ⟨q1, q2⟩ | ⟨q1, q2, -⟩⟩ | ⟨k0, ⟨z, -⟩, -⟩⟩
      · exact ⟨z0, by omega⟩
      · omega
      · exact ⟨z0, by omega⟩
      · omega
      · omega
  refine cho_n hpp r11 h156 h154 ?_
  cases d with
  | zero => exact pp_nr
  | succ d =>
  show PP Q _ (bnd (fm_M_nonePart N (rc_M_error N d) (wa w 94 p ((B : Nat) : Int))) (fun u8 r8 => bnd (gg_M_choose N (rc_M_error N (d + 1)) M u8 r8) K))
  have el : q67 Sf N (qgo Sf N M1) m p (I ((vk : Nat) : Int)) = q195 Sf N (qgo Sf N M1) (tld m 1 (-1) (mk 1 c)) p (I ((vk : Nat) : Int)) := by
    rcases hkd with ⟨-, rfl, rfl⟩ | ⟨-, rfl, rfl⟩
    · rw [go_fl r5 r8 hvk hpc (by omega) zc.2 ⟨by omega, by omega⟩, flo36, I_F' hpc, show I ((a : Nat) : Int) + 1 = I ((a + 1 : Nat) : Int) from addN, Co_e (k := a + 1) rfl zc.1, bnd_so, show (14 : Int32) = I 14 from rfl, wrong_e, bnd_so, bnd_so, bnd_so]
      rfl
    · rw [go_fl r5 r8 hvk hpc (by omega) zc.2 ⟨by omega, by omega⟩, flo38, I_F' hpc, show I ((a : Nat) : Int) + 1 = I ((a + 1 : Nat) : Int) from addN, Co_e (k := a + 1) rfl zc.1, bnd_so, show (16 : Int32) = I 16 from rfl, wrong_e, bnd_so, bnd_so, bnd_so]
      rfl
  rw [el]
  have y153 : F (wa w 94 p ((B : Nat) : Int)) 153 = ((kd : Nat) : Int) := h153
  have er : fm_M_nonePart N (rc_M_error N d) (wa w 94 p ((B : Nat) : Int)) = bnd ((rc_M_error N d).1 (wa w 94 p ((B : Nat) : Int)) (I c)) (fun u1 _ => ck (isb 0) (some (u1, 0))) := by
    unfold fm_M_nonePart fb_M_nonePart_0 fb_M_nonePart_119 fb_M_nonePart_122
    rcases hkd with ⟨rfl, rfl, rfl⟩ | ⟨rfl, rfl, rfl⟩
    · rw [I_F' y153, show decide (I ((0 : Nat) : Int) = 3) = false from rfl, br_f, show decide (I ((0 : Nat) : Int) = 1) = false from rfl, br_f, show decide (I ((0 : Nat) : Int) = 2) = false from rfl, br_f]
      rfl
    · rw [I_F' y153, show decide (I ((2 : Nat) : Int) = 3) = false from rfl, br_f, show decide (I ((2 : Nat) : Int) = 1) = false from rfl, br_f, show decide (I ((2 : Nat) : Int) = 2) = true from rfl, br_t]
      rfl
  rw [er]
  refine r_bb ?_
  refine er_pp (K2 := fun u => bnd (ck (isb 0) (some (u, 0))) (fun u8 r8 => bnd (gg_M_choose N (rc_M_error N (d + 1)) M u8 r8) K)) (fun d2 => ?_)
  exact kU d2 _ (fun D w3 h => rb_ck (fun _ => cho_0 h))
/-- a case: the term that fits nowhere is told -/
theorem none1_pp (hpp : p < 24) (tt : TRs m w p j nb Hs Os 1 sc a (-1)) (hB : B = nb j + (Hs j).length + (Os j).length) (hvk : vk < 1000000000) (pl : PLs b p m (wa w 94 p ((B : Nat) : Int)) U B (W + 1) Y) (hW : W + 1 ≤ 46000) (hl : F m (pq p 45) = ((l : Nat) : Int)) (hl2 : W + 1 ≤ l ∧ l ≤ 1000000)
    (kU : ∀ (d : Nat) (K2 : MS → Option (MS × β)), (∀ (D : Option (MS × Int32)) (w3 : MS), PP Q D (K w3 ()) → PP Q D (K2 w3)) → PP Q (q195 Sf N (qgo Sf N M1) (tld m 1 15 (m.2.2.2 (pq p 35) W)) p (I ((vk : Nat) : Int))) (bnd ((rc_M_error N d).2.1 (wa w 94 p ((B : Nat) : Int)) 15 (w.2.2.2 91 (46000 * p + W))) (fun u _ => K2 u))) : PP Q (q67 Sf N (qgo Sf N M1) m p (I ((vk : Nat) : Int))) (bnd (gg_M_choose N (rc_M_error N d) (M + 1) w 1) K) := by
  obtain ⟨ru, hpc, ⟨h153, h154, h156⟩, tr, nd, f, g, zr⟩ := tt
  obtain ⟨-, ⟨r5, r6⟩, -, ⟨r8, r9, r10⟩, r11, r12, r13⟩ := id ru
  rw [← hB] at h156
  have zc : a + 1 < 24000 ∧ A m 23 a = 37 := by
    cases g with
    | zero => exact zr.elim
    | succ g =>
      rcases zr with ⟨z0, ⟨-, ⟨q1, q2⟩ | ⟨q1, q2⟩ | ⟨q1, q2⟩ | ⟨q1, q2, -⟩⟩ | ⟨k0, ⟨z, -⟩, -⟩⟩
      · omega
      · exact ⟨z0, q2⟩
      · omega
      · omega
      · omega
  refine cho_n hpp r11 h156 h154 ?_
  cases d with
  | zero => exact pp_nr
  | succ d =>
  show PP Q _ (bnd (fm_M_nonePart N (rc_M_error N d) (wa w 94 p ((B : Nat) : Int))) (fun u8 r8 => bnd (gg_M_choose N (rc_M_error N (d + 1)) M u8 r8) K))
  have be : hm_Fr_below N m p 0 = some (m, m.2.2.2 (pq p 35) W) := by
    have := below_e (N := N) (x := 0) (k := 0) (W := W + 1) (l := l) pl.2.2.1.1 hl hl2.1 hl2.2 rfl (by omega)
    rw [show W + 1 - 1 - 0 = W by omega] at this
    exact this
  have el : q67 Sf N (qgo Sf N M1) m p (I ((vk : Nat) : Int)) = q195 Sf N (qgo Sf N M1) (tld m 1 15 (m.2.2.2 (pq p 35) W)) p (I ((vk : Nat) : Int)) := by
    rw [go_fl r5 r8 hvk hpc (by omega) zc.2 ⟨by omega, by omega⟩, flo37, I_F' hpc, show I ((a : Nat) : Int) + 1 = I ((a + 1 : Nat) : Int) from addN, Co_e (k := a + 1) rfl zc.1, bnd_so, be, bnd_so, show (1 : Int32) = I 1 from rfl, show (15 : Int32) = I 15 from rfl, tell_e, bnd_so, bnd_so, bnd_so]
    rfl
  rw [el]
  have y153 : F (wa w 94 p ((B : Nat) : Int)) 153 = 1 := h153
  unfold fm_M_nonePart fb_M_nonePart_0 fb_M_nonePart_122
  rw [I_F' y153, show decide (I 1 = 3) = false from rfl, br_f, show decide (I 1 = 1) = true from rfl, br_t, show (0 : Int32) = I ((0 : Nat) : Int) from rfl]
  refine rb_bnd (pk_mo (top_r (N := N) (k := 0) hpp r11 pl.2.2.1.2.1 hW (by omega)) (fun w2 r h => ?_))
  obtain ⟨rfl, rfl⟩ := h
  rw [show W + 1 - 1 - 0 = W by omega]
  refine r_bb ?_
  exact kU d (fun u => bnd (ck (isb (I ((0 : Nat) : Int))) (some (u, I ((0 : Nat) : Int)))) (fun u8 r8 => bnd (gg_M_choose N (rc_M_error N (d + 1)) M u8 r8) K)) (fun D w3 h => rb_ck (fun _ => cho_0 h))
end
