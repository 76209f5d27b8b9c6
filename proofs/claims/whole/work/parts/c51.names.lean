/-! a name is looked up; a term is dropped; on from elsewhere -/
set_option maxRecDepth 100000
section
variable {α β : Type} {b : Int → Nat → Nat → Prop} {N p k l U B W Y j a n : Nat} {m w m2 w2 m3 w3 : MS} {t x : Int64} {nb : Nat → Nat} {Hs Os : Nat → List Nat} {y : Option (Nat × Nat × Nat)} {Q : MS → α → MS → β → Prop} {K1 : MS → Option (MS × α)} {K2 : MS → Option (MS × β)} {v : Int}
theorem one_3 : fm_M_one N w (I v) (I 3) = bnd (fm_M_goTo N w (I v + 1)) (fun u7 _ => ck (inb (I v) (ln 25)) (bnd (fm_M_nameAt N u7 (u7.2.2.1 25 (I v).toNatClampNeg)) (fun u25 r25 => bnd (fm_M_put N u25 r25) (fun u26 _ => some (u26, ()))))) := rfl
theorem nd_ne {L : List Nat} (h : L.Nodup) {i k : Nat} {s e : Nat} (hi : L[i]? = some s) (hk : L[k]? = some e) (hn : i ≠ k) : s ≠ e := fun c => by
  subst c
  obtain ⟨i1, i2⟩ := List.getElem?_eq_some_iff.mp hi
  obtain ⟨k1, k2⟩ := List.getElem?_eq_some_iff.mp hk
  have hp := List.pairwise_iff_getElem.mp h
  rcases Nat.lt_or_gt_of_ne hn with z | z
  · exact hp i k i1 k1 z (by rw [i2, k2])
  · exact hp k i k1 i1 z (by rw [i2, k2])
/-- where a name stands -/
theorem LKP_at (nd : (Os j).Nodup ∧ (Hs j).Nodup) (lk : LKP (Hs j) (Os j) v (A w 25 n)) : ∃ (s k0 : Nat), v = ((s : Nat) : Int) ∧ (Hs j ++ Os j)[k0]? = some s ∧ (∀ i e, k0 < i → (Hs j ++ Os j)[i]? = some e → e ≠ s) ∧ ((0 ≤ A w 25 n ∧ ((k0 : Nat) : Int) = (((Hs j).length : Nat) : Int) + A w 25 n) ∨ (A w 25 n < 0 ∧ ((k0 : Nat) : Int) = -2 - A w 25 n)) := by
  obtain ⟨s, e, ⟨k, e1, e2⟩ | ⟨k, e1, e2, e3⟩⟩ := lk
  · have kl : k < (Os j).length := (List.getElem?_eq_some_iff.mp e2).1
    refine ⟨s, (Hs j).length + k, e, by rw [List.getElem?_append_right (by omega), show (Hs j).length + k - (Hs j).length = k by omega]; exact e2, fun i z hi hz => ?_, Or.inl ⟨by omega, by omega⟩⟩
    rw [List.getElem?_append_right (by omega)] at hz
    exact nd_ne nd.1 hz e2 (by omega)
  · have kl : k < (Hs j).length := (List.getElem?_eq_some_iff.mp e3).1
    refine ⟨s, k, e, by rw [List.getElem?_append_left kl]; exact e3, fun i z hi hz => ?_, Or.inr ⟨by omega, by omega⟩⟩
    by_cases c : i < (Hs j).length
    · rw [List.getElem?_append_left c] at hz
      exact nd_ne nd.2 hz e3 (by omega)
    · rw [List.getElem?_append_right (by omega)] at hz
      exact fun q => e2 (by rw [← q]; exact List.mem_of_getElem? hz)
/-- a name -/
theorem op_name (hp : p < 24) (pl : PLs b p m w U B W Y) (ru : RUs m w p j nb Hs Os y a n) (bd : BDr p W l m) (hB : B ≤ 2500) (ha : a + 3 < 24000) (hn : n < 100000) (nd : (Os j).Nodup ∧ (Hs j).Nodup) (lk : LKP (Hs j) (Os j) (A m 23 (a + 1)) (A w 25 n)) (cr : ∃ f, CRs (A m 23) (ROs w) (w.2.2.2 34) f y (a + 2) (n + 1) (Hs j) (Os j))
    (c : ∀ m3 w3, PLs b p m3 w3 U B (W + 1) Y → RUs m3 w3 p j nb Hs Os y (a + 2) (n + 1) → FGm p m m3 → FGw p j w w3 → PP Q (K1 m3) (K2 w3)) : PP Q (bnd (hm_Ma_making N m p (I 3)) (fun u _ => K1 u)) (bnd (fm_M_one N w (I ((n : Nat) : Int)) (I 3)) (fun u _ => K2 u)) := by
  obtain ⟨⟨fa, ct⟩, ⟨r2, r3⟩, -, ⟨r5, r6⟩, r7, ⟨r8, r9, r10⟩, r11, r12, r13⟩ := id ru
  have hj : j < 60 := fa.1.2.2
  obtain ⟨s, k0, e1, e2, e3, e4⟩ := LKP_at nd lk
  have s1 : s < 2147483648 := by
    have := A_r m 23 (a + 1)
    rw [e1] at this
    omega
  have k0l : k0 < (Hs j ++ Os j).length := (List.getElem?_eq_some_iff.mp e2).1
  obtain ⟨-, -, ⟨f99m, f99⟩, -, f101, nms⟩ := fa.2.1 j (Nat.le_refl _)
  have eB : B = nb j + (Hs j ++ Os j).length := by
    have h1 := fa.2.2.2
    have h2 := pl.2.1.1
    omega
  rw [mak3, one_3, show I ((n : Nat) : Int) + 1 = I ((n + 1 : Nat) : Int) from addN, I_F' r2, show I ((a : Nat) : Int) + 1 = I ((a + 1 : Nat) : Int) from addN, Co_e (k := a + 1) rfl (by omega), bnd_so, e1, bb_e]
  -- there
  unfold hm_Fr_termOf hb_Fr_termOf_0
  rw [I_F' pl.2.1.1, show I ((B : Nat) : Int) - 1 = I ((B - 1 : Nat) : Int) by rw [lit1, I_sub]; congr 1; omega]
  refine l_bnd (pk_mo (termOf_s (N := N) (m := m) (p := p) (k := nb j + k0) (l := s) (B := B) (fun i h1 h2 => ?_) (nms k0 s e2) s1 (by omega) (by omega) N (B - 1) (by omega) (by omega)) (fun m2 r h => ?_))
  · have il : i - nb j < (Hs j ++ Os j).length := by omega
    have ge : (Hs j ++ Os j)[i - nb j]? = some (Hs j ++ Os j)[i - nb j] := List.getElem?_eq_getElem il
    have e5 := nms (i - nb j) _ ge
    rw [show nb j + (i - nb j) = i by omega] at e5
    rw [e5]
    have := e3 (i - nb j) _ (by omega) ge
    omega
  obtain ⟨rfl, rfl⟩ := h
  -- here
  refine rb_bnd (pk_mo (goto_r (N := N) (n := ((n + 1 : Nat) : Int)) hp r11 fa.1.2.1 hj) (fun w2 _ h => ?_))
  subst h
  refine rb_ck (fun _ => ?_)
  have aw : ∀ K i, K ≠ 98 → A (wa w 98 (60 * p + j) ((n + 1 : Nat) : Int)) K i = A w K i := fun K i h => by rw [A_wa (by omega) (by omega), if_neg h]
  rw [tnI (n := n) rfl (by omega), I_A' (aw 25 n (by omega))]
  have nm : PK (fun w2 r => w2 = wa w 98 (60 * p + j) ((n + 1 : Nat) : Int) ∧ r = w.2.2.2 93 (2500 * p + (nb j + k0))) (fm_M_nameAt N (wa w 98 (60 * p + j) ((n + 1 : Nat) : Int)) (I (A w 25 n))) := by
    unfold fm_M_nameAt fb_M_nameAt_0 fb_M_nameAt_43 fm_M_frame0 fb_M_frame0_0
    have ix : (I ((p : Nat) : Int) * 60 + I ((j + 1 : Nat) : Int) - 1).toNatClampNeg = 60 * p + j := by
      rw [show (60 : Int32) = I 60 from rfl, lit1, I_mul, I_add, I_sub]
      exact tnI (n := 60 * p + j) (by omega) (by omega)
    have h133 : F (wa w 98 (60 * p + j) ((n + 1 : Nat) : Int)) 133 = ((p : Nat) : Int) := r11
    rw [I_F' h133, tnI (n := p) rfl (by omega), I_A' ((aw 95 p (by omega)).trans fa.1.2.1)]
    refine pk_bnd (pk_ck (fun _ => pk_some ?_))
    refine pk_ck (fun _ => ?_)
    rw [ix, I_A' ((aw 99 _ (by omega)).trans f99), I_A' ((aw 101 _ (by omega)).trans f101), I_F' h133, lit0]
    have ra := A_r w 25 n
    refine p_le ⟨by decide, by decide⟩ ra (fun z => ?_) (fun z => ?_)
    · refine pk_ck (fun _ => pk_ck (fun _ => pk_ck (fun _ => pk_some ⟨rfl, ?_⟩)))
      have : (I ((p : Nat) : Int) * 2500 + I ((nb j : Nat) : Int) + (I (((Hs j).length : Nat) : Int) + I (A w 25 n))).toNatClampNeg = 2500 * p + (nb j + k0) := by
        rw [show (2500 : Int32) = I 2500 from rfl, I_mul, I_add, I_add, I_add]
        exact tnI (n := 2500 * p + (nb j + k0)) (by omega) (by omega)
      rw [this]
      rfl
    · refine pk_ck (fun _ => pk_ck (fun _ => pk_some ⟨rfl, ?_⟩))
      have : (I ((p : Nat) : Int) * 2500 + I ((nb j : Nat) : Int) + (-2 - I (A w 25 n))).toNatClampNeg = 2500 * p + (nb j + k0) := by
        rw [show (2500 : Int32) = I 2500 from rfl, show (-2 : Int32) = I (-2) from rfl, I_mul, I_add, I_sub, I_add]
        exact tnI (n := 2500 * p + (nb j + k0)) (by omega) (by omega)
      rw [this]
      rfl
  refine rb_bnd (pk_mo nm (fun w2 r h => ?_))
  obtain ⟨rfl, rfl⟩ := h
  have rt : RTb b (m2.2.2.2 (pq p 33) (nb j + k0)) (w.2.2.2 93 (2500 * p + (nb j + k0))) := pl.2.1.2.2 _ (by omega)
  refine push_pp (a2 := a + 2) (n2 := n + 1) (dz := 2) hp ru bd rt FGm.rf FGw.goto (PLs_cg pl (fun _ _ => rfl) (fun _ _ => rfl) (fun _ _ => rfl) (fun _ _ => rfl) (fun _ _ => rfl) (fun k hk => ?_) (fun _ _ => rfl) (fun _ _ => rfl) (fun _ _ => rfl) (fun _ _ => rfl)) bd.2.1 r11 (by rw [A_wa (by omega) (by omega), if_pos rfl, if_pos rfl]) r2 rfl (by omega) cr c
  show (if k = 98 then _ else w.2.2.1 k) p = _
  rw [if_neg (by simp at hk; omega)]
end
