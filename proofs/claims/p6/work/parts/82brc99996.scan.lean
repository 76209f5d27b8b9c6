set_option maxRecDepth 100000
theorem bx_id {x : Option (CS × Int32)} : bx x (fun u r => some (u, r)) = x := by cases x <;> rfl
theorem sx_all {x : Int32} (hx : nrB x = x) : x &&& 255 ≠ -1 ∧ (isDg (x &&& 255) = true → isSm (x &&& 255) = false ∧ isGr (x &&& 255) = false) := by
  have := sg_all (fun x => !decide (x &&& 255 = -1) && (!isDg (x &&& 255) || (!isSm (x &&& 255) && !isGr (x &&& 255)))) (by decide +kernel) hx
  simp only [Bool.and_eq_true, Bool.not_eq_true', decide_eq_false_iff_not, Bool.or_eq_true] at this
  refine ⟨this.1, fun z => ?_⟩
  rcases this.2 with y | y
  · rw [z] at y; cases y
  · exact y
section SCN
variable {u : CS} {w : MS} {n : TN} {N : Nat}
theorem scan_both {G : (MS → Option (MS × Unit)) × (MS → Option (MS × Unit))} (h : TK u w n) (hl : AI u 8 n.i = Int32.ofNat n.l) (hv : AI u 7 n.i = 0) (hp : n.p < n.k) (x1 : AI u 5 n.p ≠ 10) (x2 : AI u 5 n.p ≠ 9) (x3 : AI u 5 n.p ≠ 32) (x4 : AI u 5 n.p ≠ 37) (hN : 100000 ≤ N) : ∃ Y, fb_M_readTokens_53 N G w = bnd Y (fun u3 _ => G.1 u3) ∧ OUT u w n (fm_To_scan N u 4) Y := by
  have k4 := h.k4
  have hx := h.bu n.p (by omega)
  obtain ⟨z1, z2, z3, z4⟩ := z_and hx
  obtain ⟨y1, y2⟩ := sx_all hx
  have eb : fm_M_byteAt N w (w.1 10) = some (w, AI u 5 n.p &&& 255) := by
    rw [h.pw, atM (N := N) (w := w) (k := n.k) (p := n.p) h.cw h.k4 (by omega)]
    unfold sgA
    rw [if_pos hp, h.ta n.p hp]
  have ec : fm_To_signAt N u 4 (Int32.ofNat n.p) = some (u, AI u 5 n.p &&& 255) := by
    rw [atC h.sk h.cu h.k4 (by omega)]
    unfold sgA
    rw [if_pos hp]
  have ww := w_and hx
  have wd := d_and hx
  have hW : isW (AI u 5 n.p &&& 255) = (isDg (AI u 5 n.p &&& 255) || isSm (AI u 5 n.p &&& 255) || isGr (AI u 5 n.p &&& 255)) := rfl
  unfold fm_To_scan fb_To_scan_0 fb_M_readTokens_53
  rw [gi_4_9 h.sk, q_bo, h.pu, q_ck (io_4 h.sk), ec, q_bx, decide_eq_false y1, q_b0, woC, q_bx, b2i_0, eb, q_bn, z1, decide_eq_false x1, q_b0, z2, decide_eq_false x2, q_b0, z3, decide_eq_false x3, q_b0, z4, decide_eq_false x4, q_b0, smM, q_bn, b2i_0]
  have word : (isSm (AI u 5 n.p &&& 255) = true ∨ isGr (AI u 5 n.p &&& 255) = true) → isW (AI u 5 n.p) = true ∧ isDg (AI u 5 n.p) = false := fun z => by
    have d0 : isDg (AI u 5 n.p &&& 255) = false := by
      cases hd : isDg (AI u 5 n.p &&& 255) with
      | false => rfl
      | true =>
        obtain ⟨a, b⟩ := y2 hd
        rcases z with z | z
        · rw [a] at z; cases z
        · rw [b] at z; cases z
    refine ⟨?_, by rw [← wd]; exact d0⟩
    rw [← ww, hW, d0]
    rcases z with z | z
    · rw [z]; rfl
    · rw [z, Bool.or_true]
  have classW : isW (AI u 5 n.p) = true → isDg (AI u 5 n.p) = false → br (!isW (AI u 5 n.p &&& 255)) (br (decide (AI u 5 n.p &&& 255 = 34)) (ck (isO u 4 9) (bx (fm_To_string N u 4) (fun u5 r5 => fb_To_scan_61 N () u5 r5))) (ck (isO u 4 9) (bx (fm_To_signs N u 4 (AI u 5 n.p &&& 255)) (fun u4 r4 => fb_To_scan_61 N () u4 r4)))) (bx (fm_To_isDigit N u (AI u 5 n.p &&& 255)) (fun u6 r6 => br (decide (r6 = 0)) (ck (isO u6 4 9) (bx (fm_To_word N u6 4 (AI u 5 n.p &&& 255)) (fun u7 r7 => fb_To_scan_42 N () u7 r7))) (ck (isO u6 4 9) (bx (fm_To_number N u6 4) (fun u8 r8 => fb_To_scan_42 N () u8 r8))))) = fm_To_word N u 4 (AI u 5 n.p &&& 255) := fun a b => by
    rw [ww, a]
    show br false _ _ = _
    rw [q_b0, dgC, q_bx, b2i_0, wd, b]
    show br true _ _ = _
    rw [q_b1, q_ck (io_4 h.sk)]
    exact bx_id
  cases hs : isSm (AI u 5 n.p &&& 255) with
  | true =>
    obtain ⟨a, b⟩ := word (Or.inl hs)
    refine ⟨fm_M_wordToken N w (AI u 5 n.p &&& 255), rfl, ?_⟩
    refine Eq.mpr (congrArg (fun z => OUT u w n z (fm_M_wordToken N w (AI u 5 n.p &&& 255))) (classW a b)) ?_
    exact word_both h hl hv hp rfl a b hN
  | false =>
    show ∃ Y, br true _ _ = _ ∧ _
    rw [q_b1, grM, q_bn, b2i_0]
    cases hg : isGr (AI u 5 n.p &&& 255) with
    | true =>
      obtain ⟨a, b⟩ := word (Or.inr hg)
      refine ⟨fm_M_wordToken N w (AI u 5 n.p &&& 255), rfl, ?_⟩
      refine Eq.mpr (congrArg (fun z => OUT u w n z (fm_M_wordToken N w (AI u 5 n.p &&& 255))) (classW a b)) ?_
      exact word_both h hl hv hp rfl a b hN
    | false =>
      show ∃ Y, br true _ _ = _ ∧ _
      rw [q_b1, dgM, q_bn, b2i_0]
      cases hd : isDg (AI u 5 n.p &&& 255) with
      | true =>
        refine ⟨fm_M_numberToken N w, rfl, ?_⟩
        have e : isW (AI u 5 n.p &&& 255) = true := by rw [hW, hd]; rfl
        rw [e]
        show OUT u w n (br false _ _) _
        rw [q_b0, dgC, q_bx, b2i_0, hd]
        show OUT u w n (br false _ _) _
        rw [q_b0, q_ck (io_4 h.sk)]
        refine Eq.mpr (congrArg (fun z => OUT u w n z (fm_M_numberToken N w)) (show bx (fm_To_number N u 4) (fun u8 r8 => fb_To_scan_42 N () u8 r8) = fm_To_number N u 4 from bx_id)) ?_
        exact num_both h hl hv hp (by rw [← wd]; exact hd) hN
      | false =>
        have e : isW (AI u 5 n.p &&& 255) = false := by rw [hW, hd, hs, hg]; rfl
        rw [e]
        show ∃ Y, br true _ _ = _ ∧ OUT u w n (br true _ _) _
        rw [q_b1, q_b1]
        by_cases h34 : AI u 5 n.p &&& 255 = 34
        · rw [decide_eq_true h34, q_b1, q_b1]
          refine ⟨fm_M_stringToken N w, rfl, ?_⟩
          rw [q_ck (io_4 h.sk)]
          refine Eq.mpr (congrArg (fun z => OUT u w n z (fm_M_stringToken N w)) (show bx (fm_To_string N u 4) (fun u5 r5 => fb_To_scan_61 N () u5 r5) = fm_To_string N u 4 from bx_id)) ?_
          exact str_both h hl hp hN
        · rw [decide_eq_false h34, q_b0, q_b0]
          refine ⟨fm_M_signToken N w (AI u 5 n.p &&& 255), rfl, ?_⟩
          rw [q_ck (io_4 h.sk)]
          refine Eq.mpr (congrArg (fun z => OUT u w n z (fm_M_signToken N w (AI u 5 n.p &&& 255))) (show bx (fm_To_signs N u 4 (AI u 5 n.p &&& 255)) (fun u4 r4 => fb_To_scan_61 N () u4 r4) = fm_To_signs N u 4 (AI u 5 n.p &&& 255) from bx_id)) ?_
          exact sig_both h hl hv hp hN
end SCN
