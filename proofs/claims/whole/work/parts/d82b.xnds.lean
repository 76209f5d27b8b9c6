/-! a sign that must stand here; rows of parts -/
set_option maxRecDepth 100000
section
variable {α β : Type} {m0 w0 m w m2 w2 m3 w3 v u V : MS} {K nm Nk W W2 : Nat → Nat} {N T a b c cm cm2 q r lo hi p k i j n nd : Nat} {Q Q2 Q3 : Nat → Nat} {sc sc2 sc3 t t2 : SCT} {e e2 : List Nat × List Nat × Nat} {g : Bool} {L : List Nat} {R : MS → α → MS → β → Prop} {X : Option (MS × α)} {s' xw : Int32}
theorem nd_s {F : MS → Unit → Option (MS × β)} (c : CTZ m0 w0 K T nm Nk) (hX : XRS w0 T w p Q sc) (hk : 20 ≤ k ∧ k ≤ 44) (hs : s' = I (svK k : Nat)) (h : K p = k → PP R X (F (adv w p) ())) : PP R X (bnd (km_M_needSign N w s') F) := fun m9 z9 w9 r9 x1 x2 => (pk_bnd (Q := fun w9 r9 => R m9 z9 w9 r9) (pk_ndS (PP' := fun v _ => PK (fun w9 r9 => R m9 z9 w9 r9) (F v ())) c hX hk hs (fun hk w9 r9 x2 => h hk m9 z9 w9 r9 x1 x2))) w9 r9 x2
/-- a node 26 behind a part, here -/
theorem nd_26 {F : MS → Int32 → Option (MS × β)} (c : CTZ m0 w0 K T nm Nk) (h : XTF m0 w0 K T nm Nk g L lo p a b cm cm2 q r Q Q2 sc sc2 m w m2 w2) (hh : ∀ V, Q2 32 < 16000 → XTF m0 w0 K T nm Nk g L lo p a b cm cm2 q r Q (qst Q2 32 (Q2 32 + 1)) sc sc2 m w m2 V → QRR Q2 w2 V → V.2.2.1 23 (Q2 32) = 26 → V.2.2.1 25 (Q2 32) = -2 → V.2.2.1 26 (Q2 32) = I (nd : Nat) → (∀ k n, (k < 23 ∨ 31 < k ∨ n ≠ Q2 32) → V.2.2.1 k n = w2.2.2.1 k n) → PP R X (F V (I (Q2 32 : Nat)))) : PP R X (bnd (fm_M_node N w2 26 (w2.1 69)) (fun u8 r8 => ck (inb r8 (ln 25)) (lt (upA u8 25 (upd (u8.2.2.1 25) r8.toNatClampNeg (-2))) (fun w9 => ck (inb r8 (ln 26)) (lt (upA w9 26 (upd (w9.2.2.1 26) r8.toNatClampNeg (I (nd : Nat)))) (fun w10 => F w10 r8)))))) := by
  have t4 := c.2.1.1.1
  obtain ⟨a1, a2, a3, a4, a5, a7, a8, a9, a10⟩ := h
  have hR := a3.1
  have pT : p ≤ T := hR.1.2.1.2
  obtain ⟨q1, q2⟩ := XRS_q hR
  rw [hR.1.2.1.1]
  refine r_nod q1 q2 rfl (nsh (by omega)) (fun h16 => ?_)
  have d0 : NOD w2 (nwD w2 (Q2 32) 26 (I (p : Nat))) (Q2 32) := NOD_0 q1
  obtain ⟨d1, -⟩ := nwD_at (w := w2) (i := Q2 32) (k := 26) (t := I (p : Nat))
  have d9 : (nwD w2 (Q2 32) 26 (I (p : Nat))).1 69 = I (p : Nat) := by rw [nwD_i (by decide)]; exact hR.1.2.1.1
  generalize nwD w2 (Q2 32) 26 (I (p : Nat)) = U at d0 d1 d9
  rw [i_nt2 (p := Q2 32) (by omega)]
  refine r_ck (fun _ => r_lt (r_ck (fun _ => r_lt ?_)))
  have hN : NOD w2 (upA (upA U 25 (upd (U.2.2.1 25) (Q2 32) (-2))) 26 (upd ((upA U 25 (upd (U.2.2.1 25) (Q2 32) (-2))).2.2.1 26) (Q2 32) (I (nd : Nat)))) (Q2 32) := NOD_A (NOD_A d0 (by decide)) (by decide)
  have v23 : (upA (upA U 25 (upd (U.2.2.1 25) (Q2 32) (-2))) 26 (upd ((upA U 25 (upd (U.2.2.1 25) (Q2 32) (-2))).2.2.1 26) (Q2 32) (I (nd : Nat)))).2.2.1 23 (Q2 32) = 26 := by rw [upA_no (by decide), upA_no (by decide)]; exact d1
  have v25 : (upA (upA U 25 (upd (U.2.2.1 25) (Q2 32) (-2))) 26 (upd ((upA U 25 (upd (U.2.2.1 25) (Q2 32) (-2))).2.2.1 26) (Q2 32) (I (nd : Nat)))).2.2.1 25 (Q2 32) = -2 := by rw [upA_no (by decide), upA_at, upd_at]
  have v26 : (upA (upA U 25 (upd (U.2.2.1 25) (Q2 32) (-2))) 26 (upd ((upA U 25 (upd (U.2.2.1 25) (Q2 32) (-2))).2.2.1 26) (Q2 32) (I (nd : Nat)))).2.2.1 26 (Q2 32) = I (nd : Nat) := by rw [upA_at, upd_at]
  have v69 : (upA (upA U 25 (upd (U.2.2.1 25) (Q2 32) (-2))) 26 (upd ((upA U 25 (upd (U.2.2.1 25) (Q2 32) (-2))).2.2.1 26) (Q2 32) (I (nd : Nat)))).1 69 = I (p : Nat) := d9
  generalize upA (upA U 25 (upd (U.2.2.1 25) (Q2 32) (-2))) 26 (upd ((upA U 25 (upd (U.2.2.1 25) (Q2 32) (-2))).2.2.1 26) (Q2 32) (I (nd : Nat))) = V at hN v23 v25 v26 v69
  have hX := XRS_n hR hN.1 (fun k hk => funext (fun j => hN.2.2.1 k j (by omega))) v69 pT hN.2.1 (by omega)
  have hQ : QRR Q2 w2 V := QRR_N hN (Nat.le_refl _)
  have q32 : Q 32 ≤ Q2 32 := a8.2.1 32 (by decide)
  exact hh V h16 ⟨a1, a2, ⟨hX, by rw [qst_no (by decide)]; exact a3.2⟩, a4, a5, a7, ⟨QRR_tr a8.1 hQ a8.2.1, QLE_st a8.2.1 (by omega), by rw [qst_no (by decide), qst_no (by decide), qst_no (by decide)]; exact a8.2.2⟩, a9, fun n hn => by rw [qst_at]; have := a10 n hn; omega⟩ hQ v23 v25 v26 (fun k n hk => hN.2.2.1 k n hk)
end
