set_option maxRecDepth 100000
theorem bv8 (x : BitVec 32) (n : Nat) (hn : n ≤ 24) : (x.sshiftRight n).setWidth 8 = (x >>> n).setWidth 8 := by
  apply BitVec.eq_of_getLsbD_eq
  intro i hi
  simp only [BitVec.getLsbD_setWidth, BitVec.getLsbD_sshiftRight, BitVec.getLsbD_ushiftRight]
  have h1 : ¬ 32 ≤ i := by omega
  have h2 : n + i < 32 := by omega
  simp [h1, h2]
theorem by_bv {v : Int32} {s : Int32} {n : Nat} (hs : s = Int32.ofNat n) (hn : n = 24 ∨ n = 16 ∨ n = 8 ∨ n = 0) : (v >>> (s &&& 31)).toInt8 = ((v.toUInt32 >>> (s.toUInt32 &&& Int32.toUInt32 31)).toInt32).toInt8 := by
  apply Int8.toBitVec_inj.mp
  have e1 : ∀ x : Int32, x.toInt8.toBitVec = x.toBitVec.setWidth 8 := fun x => BitVec.signExtend_eq_setWidth_of_le _ (by decide)
  rw [e1, e1]
  rcases hn with rfl | rfl | rfl | rfl <;> subst hs
  · exact bv8 v.toBitVec 24 (by decide)
  · exact bv8 v.toBitVec 16 (by decide)
  · exact bv8 v.toBitVec 8 (by decide)
  · exact bv8 v.toBitVec 0 (by decide)
theorem by_eq {v j s : Int32} {n : Nat} (hs : s = Int32.ofNat n) (hn : n = 24 ∨ n = 16 ∨ n = 8 ∨ n = 0) (hj : 24 - (8 * (j - j / 4 * 4)) = s) : byH v s = byM v j := by
  unfold byH byM
  rw [hj, by_bv hs hn]
def TT (u : CS) (w : MS) (k : Nat) : Prop := FI u 4 1 = Int32.ofNat k ∧ w.1 5 = Int32.ofNat k ∧ ∀ j, j < k → AI u 5 j = w.2.2.1 4 j
theorem TT_step {u : CS} {w : MS} {k : Nat} {v t s j : Int32} (h : skB u = true) (ht : TT u w k) (hk : k < 4000) (hb : byH v s = byM t j) : TT (apH u v s) (apM w t j) (k + 1) := by
  obtain ⟨h1, h2, h3⟩ := ht
  refine ⟨apH_n h h1, apM_n h2, fun i hi => ?_⟩
  have e1 : AI (apH u v s) 5 = upd (AI u 5) (FI u 4 1).toNatClampNeg (byH v s) := by unfold apH; rw [AI_F, fa_5 h]
  have e2 : (apM w t j).2.2.1 4 = upd (w.2.2.1 4) (w.1 5).toNatClampNeg (byM t j) := rfl
  rw [e1, e2, h1, h2, q_nat (by omega), hb]
  by_cases e : i = k
  · subst e; simp [upd]
  · have := h3 i (by omega)
    simp [upd, e, this]
set_option maxHeartbeats 4000000 in
theorem TT_feed {u : CS} {w : MS} {k : Nat} {a b c d e : Int32} (h : skB u = true) (ht : TT u w k) (hk : k + 20 ≤ 4000) : TT (fdH u a b c d e) (fdM w a b c d e) (k + 20) := by
  have h0 := h
  have t0 : TT u (upI w 3 0) k := ht
  have t1 := TT_step (v := a) (t := seM a b c d e (Int32.ofNat 0)) (s := 24) (j := Int32.ofNat 0) h0 t0 (by omega) (by rw [show seM a b c d e (Int32.ofNat 0) = a from rfl]; exact by_eq (n := 24) rfl (by decide) (by decide))
  have h1 := apH_sk (v := a) (s := 24) h0
  have t2 := TT_step (v := a) (t := seM a b c d e (Int32.ofNat 1)) (s := 16) (j := Int32.ofNat 1) h1 t1 (by omega) (by rw [show seM a b c d e (Int32.ofNat 1) = a from rfl]; exact by_eq (n := 16) rfl (by decide) (by decide))
  have h2 := apH_sk (v := a) (s := 16) h1
  have t3 := TT_step (v := a) (t := seM a b c d e (Int32.ofNat 2)) (s := 8) (j := Int32.ofNat 2) h2 t2 (by omega) (by rw [show seM a b c d e (Int32.ofNat 2) = a from rfl]; exact by_eq (n := 8) rfl (by decide) (by decide))
  have h3 := apH_sk (v := a) (s := 8) h2
  have t4 := TT_step (v := a) (t := seM a b c d e (Int32.ofNat 3)) (s := 0) (j := Int32.ofNat 3) h3 t3 (by omega) (by rw [show seM a b c d e (Int32.ofNat 3) = a from rfl]; exact by_eq (n := 0) rfl (by decide) (by decide))
  have h4 := apH_sk (v := a) (s := 0) h3
  have t5 := TT_step (v := b) (t := seM a b c d e (Int32.ofNat 4)) (s := 24) (j := Int32.ofNat 4) h4 t4 (by omega) (by rw [show seM a b c d e (Int32.ofNat 4) = b from rfl]; exact by_eq (n := 24) rfl (by decide) (by decide))
  have h5 := apH_sk (v := b) (s := 24) h4
  have t6 := TT_step (v := b) (t := seM a b c d e (Int32.ofNat 5)) (s := 16) (j := Int32.ofNat 5) h5 t5 (by omega) (by rw [show seM a b c d e (Int32.ofNat 5) = b from rfl]; exact by_eq (n := 16) rfl (by decide) (by decide))
  have h6 := apH_sk (v := b) (s := 16) h5
  have t7 := TT_step (v := b) (t := seM a b c d e (Int32.ofNat 6)) (s := 8) (j := Int32.ofNat 6) h6 t6 (by omega) (by rw [show seM a b c d e (Int32.ofNat 6) = b from rfl]; exact by_eq (n := 8) rfl (by decide) (by decide))
  have h7 := apH_sk (v := b) (s := 8) h6
  have t8 := TT_step (v := b) (t := seM a b c d e (Int32.ofNat 7)) (s := 0) (j := Int32.ofNat 7) h7 t7 (by omega) (by rw [show seM a b c d e (Int32.ofNat 7) = b from rfl]; exact by_eq (n := 0) rfl (by decide) (by decide))
  have h8 := apH_sk (v := b) (s := 0) h7
  have t9 := TT_step (v := c) (t := seM a b c d e (Int32.ofNat 8)) (s := 24) (j := Int32.ofNat 8) h8 t8 (by omega) (by rw [show seM a b c d e (Int32.ofNat 8) = c from rfl]; exact by_eq (n := 24) rfl (by decide) (by decide))
  have h9 := apH_sk (v := c) (s := 24) h8
  have t10 := TT_step (v := c) (t := seM a b c d e (Int32.ofNat 9)) (s := 16) (j := Int32.ofNat 9) h9 t9 (by omega) (by rw [show seM a b c d e (Int32.ofNat 9) = c from rfl]; exact by_eq (n := 16) rfl (by decide) (by decide))
  have h10 := apH_sk (v := c) (s := 16) h9
  have t11 := TT_step (v := c) (t := seM a b c d e (Int32.ofNat 10)) (s := 8) (j := Int32.ofNat 10) h10 t10 (by omega) (by rw [show seM a b c d e (Int32.ofNat 10) = c from rfl]; exact by_eq (n := 8) rfl (by decide) (by decide))
  have h11 := apH_sk (v := c) (s := 8) h10
  have t12 := TT_step (v := c) (t := seM a b c d e (Int32.ofNat 11)) (s := 0) (j := Int32.ofNat 11) h11 t11 (by omega) (by rw [show seM a b c d e (Int32.ofNat 11) = c from rfl]; exact by_eq (n := 0) rfl (by decide) (by decide))
  have h12 := apH_sk (v := c) (s := 0) h11
  have t13 := TT_step (v := d) (t := seM a b c d e (Int32.ofNat 12)) (s := 24) (j := Int32.ofNat 12) h12 t12 (by omega) (by rw [show seM a b c d e (Int32.ofNat 12) = d from rfl]; exact by_eq (n := 24) rfl (by decide) (by decide))
  have h13 := apH_sk (v := d) (s := 24) h12
  have t14 := TT_step (v := d) (t := seM a b c d e (Int32.ofNat 13)) (s := 16) (j := Int32.ofNat 13) h13 t13 (by omega) (by rw [show seM a b c d e (Int32.ofNat 13) = d from rfl]; exact by_eq (n := 16) rfl (by decide) (by decide))
  have h14 := apH_sk (v := d) (s := 16) h13
  have t15 := TT_step (v := d) (t := seM a b c d e (Int32.ofNat 14)) (s := 8) (j := Int32.ofNat 14) h14 t14 (by omega) (by rw [show seM a b c d e (Int32.ofNat 14) = d from rfl]; exact by_eq (n := 8) rfl (by decide) (by decide))
  have h15 := apH_sk (v := d) (s := 8) h14
  have t16 := TT_step (v := d) (t := seM a b c d e (Int32.ofNat 15)) (s := 0) (j := Int32.ofNat 15) h15 t15 (by omega) (by rw [show seM a b c d e (Int32.ofNat 15) = d from rfl]; exact by_eq (n := 0) rfl (by decide) (by decide))
  have h16 := apH_sk (v := d) (s := 0) h15
  have t17 := TT_step (v := e) (t := seM a b c d e (Int32.ofNat 16)) (s := 24) (j := Int32.ofNat 16) h16 t16 (by omega) (by rw [show seM a b c d e (Int32.ofNat 16) = e from rfl]; exact by_eq (n := 24) rfl (by decide) (by decide))
  have h17 := apH_sk (v := e) (s := 24) h16
  have t18 := TT_step (v := e) (t := seM a b c d e (Int32.ofNat 17)) (s := 16) (j := Int32.ofNat 17) h17 t17 (by omega) (by rw [show seM a b c d e (Int32.ofNat 17) = e from rfl]; exact by_eq (n := 16) rfl (by decide) (by decide))
  have h18 := apH_sk (v := e) (s := 16) h17
  have t19 := TT_step (v := e) (t := seM a b c d e (Int32.ofNat 18)) (s := 8) (j := Int32.ofNat 18) h18 t18 (by omega) (by rw [show seM a b c d e (Int32.ofNat 18) = e from rfl]; exact by_eq (n := 8) rfl (by decide) (by decide))
  have h19 := apH_sk (v := e) (s := 8) h18
  have t20 := TT_step (v := e) (t := seM a b c d e (Int32.ofNat 19)) (s := 0) (j := Int32.ofNat 19) h19 t19 (by omega) (by rw [show seM a b c d e (Int32.ofNat 19) = e from rfl]; exact by_eq (n := 0) rfl (by decide) (by decide))
  have h20 := apH_sk (v := e) (s := 0) h19
  exact t20
theorem TT_back {u : CS} {w : MS} {k : Nat} {a : Int32} (h : skB u = true) (ht : TT u w k) (hk : k ≤ 4000) : ∃ k2, k2 ≤ k ∧ TT (bkH u k a) (bkM w k a) k2 := by
  obtain ⟨h1, h2, h3⟩ := ht
  unfold bkH bkM
  rcases bk_cases hk a with ⟨-, e⟩ | ⟨-, -, e⟩ | ⟨m, -, -, hm, -, e⟩
  · rw [e]; exact ⟨k, Nat.le_refl _, h1, h2, h3⟩
  · rw [e]; exact ⟨k, Nat.le_refl _, h1, h2, h3⟩
  · rw [e]
    refine ⟨k - m, by omega, fi_4_1 h, rfl, fun j hj => ?_⟩
    show AI (uF u 4 1 _) 5 j = w.2.2.1 4 j
    rw [AI_F]
    exact h3 j (by omega)
