/-! names are forgotten at the end of a stretch whose code is told apart, both -/
set_option maxRecDepth 100000
/-- what forgetting does -/
def FGD (nm : Nat → Nat) (cm2 b b' : Nat) (Q2 Q3 : Nat → Nat) (sc2 sc3 : SCT) (m3 w3 : MS) : Prop := ∀ (C : Nat → Int) (R : Nat → Nat → Int) (J : Nat → Int64) (H : List Nat) (y : Option (Nat × Nat × Nat)), (∀ j, b ≤ j → j < b' → C j = A m3 23 j) → (Q2 32 < Q3 32 → R 23 (Q2 32) = A w3 23 (Q2 32) ∧ R 25 (Q2 32) = A w3 25 (Q2 32)) → HNX nm sc2 cm2 H → CRe C R J y b' (Q3 32) H (Onm nm sc3) → CRe C R J y b (Q2 32) H (Onm nm sc2)
section
variable {α β : Type} {m0 w0 m w m2 w2 m3 w3 v u : MS} {K nm Nk W W2 : Nat → Nat} {N T a b c cm cm2 q r lo p : Nat} {Q Q2 Q3 : Nat → Nat} {sc sc2 sc3 t t2 : SCT} {e e2 : List Nat × List Nat × Nat} {g : Bool} {L : List Nat} {fc : MS → Unit → Option (MS × α)} {RR : MS → α → MS → β → Prop} {F : MS → Unit → Option (MS × β)}
theorem fg_pf (c : CTZ m0 w0 K T nm Nk) (h : XTF m0 w0 K T nm Nk g L lo p a b cm cm2 q r Q Q2 (e :: t) sc2 m w m2 w2)
    (hend : ∀ m3 w3 b' Q3 sc3, XTF m0 w0 K T nm Nk g L lo p a b' cm cm2 q r Q Q3 (e :: t) sc3 m w m3 w3 → (hdS sc3).1 = e.1 → QRR Q2 w2 w3 → b ≤ b' → (∀ j, j < b → m3.2.2.1 23 j = m2.2.2.1 23 j) → (∀ k, k ≠ 23 → m3.2.2.1 k = m2.2.2.1 k) → (Q2 32 ≤ Q3 32 ∧ ∀ k, k ≠ 32 → Q3 k = Q2 k) → (∀ cm H, HNX nm sc3 cm H → HNX nm sc2 cm H) → FGD nm cm2 b b' Q2 Q3 sc2 sc3 m3 w3 → PP RR (fc m3 ()) (F w3 ())) : PP RR (bnd (jm_Cm_forget N m2 (I (tot (e :: t) : Nat))) fc) (bnd (fm_M_unbind N w2 (I (e.1.length : Nat))) F) := by
  obtain ⟨a1, a2, a3, a4, ⟨W, a5, a6⟩, a7, a8, a9, a10⟩ := h
  have nx := (a5.2 rfl).2
  cases sc2 with
  | nil => exact nx.elim
  | cons e2 t2 =>
  obtain ⟨n1, n2, n3⟩ := nx
  have bt : tot t2 = tot t := (BDs_len n2).2
  have hR2 := a3.1
  refine fg_op c a2 hR2 n1 bt (fun m3 w3 b' Q3 sc3 hC3 hR3 hQ3 wr hcase => ?_)
  rcases hcase with ⟨rfl, rfl, rfl, rfl, rfl, ee⟩ | ⟨hl, rfl, rfl, rfl, rfl, h16, h23, h25, tk⟩
  · exact hend m3 w3 b' Q3 (e2 :: t2) ⟨a1, a2, a3, a4, ⟨W, a5, a6⟩, a7, a8, a9, a10⟩ ee QRR_rf (Nat.le_refl _) (fun _ _ => rfl) (fun _ _ => rfl) ⟨Nat.le_refl _, fun _ _ => rfl⟩ (fun _ _ h => h) (fun C R J H y _ _ _ h => h)
  · have mo : ∀ j, j < b → (upI (ptcs m2 b [16, I ((e2.1.length - e.1.length : Nat) : Int)]) 706 (I (tot (e :: t) : Nat))).2.2.1 23 j = m2.2.2.1 23 j := fun j hj => ptcs_o (Or.inl hj)
    have mr : ∀ k, k ≠ 23 → (upI (ptcs m2 b [16, I ((e2.1.length - e.1.length : Nat) : Int)]) 706 (I (tot (e :: t) : Nat))).2.2.1 k = m2.2.2.1 k := fun k hk => ptcs_r hk
    have mi : ∀ k, k ≠ 441 → k ≠ 706 → (upI (ptcs m2 b [16, I ((e2.1.length - e.1.length : Nat) : Int)]) 706 (I (tot (e :: t) : Nat))).1 k = m2.1 k := fun k h1 h2 => by rw [upI_ne h2, ptcs_i h1]
    have w0' : (upI (ptcs m2 b [16, I ((e2.1.length - e.1.length : Nat) : Int)]) 706 (I (tot (e :: t) : Nat))).2.2.1 23 b = 16 := ptcs_at (l := [16, I ((e2.1.length - e.1.length : Nat) : Int)]) (k := 0) rfl
    have w1' : (upI (ptcs m2 b [16, I ((e2.1.length - e.1.length : Nat) : Int)]) 706 (I (tot (e :: t) : Nat))).2.2.1 23 (b + 1) = I ((e2.1.length - e.1.length : Nat) : Int) := ptcs_at (l := [16, I ((e2.1.length - e.1.length : Nat) : Int)]) (k := 1) rfl
    generalize upI (ptcs m2 b [16, I ((e2.1.length - e.1.length : Nat) : Int)]) 706 (I (tot (e :: t) : Nat)) = Z at hC3 mo mr mi w0' w1'
    have le2 : e2.1.length ≤ 4000 := by
      have := a2.1.2.1.2.2.2.1
      have et : tot (e2 :: t2) = tot t2 + e2.1.length := rfl
      omega
    have q32 : Q 32 ≤ Q2 32 := a8.2.1 32 (by decide)
    refine hend Z w3 (b + 2) (qst Q2 32 (Q2 32 + 1)) ((e.1, e2.2) :: t2) ⟨⟨a1.1, by omega, a1.2.2⟩, hC3, ⟨hR3, by rw [qst_no (by decide)]; exact a3.2⟩, ?_, ⟨W, ⟨⟨a5.1.1, a5.1.2⟩, fun _ => ⟨(a5.2 rfl).1, List.prefix_rfl, n2, fun x hx => Or.inl hx⟩⟩, by rw [mr 42 (by decide)]; exact a6⟩, ⟨fun k k1 k2 => (mi k k1 k2).trans (a7.1 k k1 k2), fun k k1 k2 k3 => by rw [mr k k1]; exact a7.2.1 k k1 k2 k3, fun j hj => (mo j (by omega)).trans (a7.2.2.1 j hj), fun k j k1 k2 k3 => by rw [mr k (by omega)]; exact a7.2.2.2.1 k j k1 k2 k3, fun j hj => by rw [mr 40 (by decide)]; exact a7.2.2.2.2.1 j hj, fun j hj => by rw [mr 41 (by decide)]; exact a7.2.2.2.2.2 j hj⟩, ⟨QRR_tr a8.1 hQ3 a8.2.1, QLE_st a8.2.1 (by omega), by rw [qst_no (by decide), qst_no (by decide), qst_no (by decide)]; exact a8.2.2⟩, fun z => rfl, fun n hn => by rw [qst_at]; have := a10 n hn; omega⟩ rfl hQ3 (by omega) mo mr ⟨by rw [qst_at]; omega, fun k hk => qst_no hk⟩ (fun _ _ h => h) (fun C R J H y hc hr hx hk => ?_)
    · show tot t2 + e.1.length ≤ _
      have : tot (e :: t) = tot t + e.1.length := rfl
      omega
    · obtain ⟨r23, r25⟩ := hr (by rw [qst_at]; omega)
      obtain ⟨b1, b2⟩ := XB c.2.2.1 a2 hR2 hx h16
      obtain ⟨d, hd⟩ := hk
      rw [qst_at] at hd
      have l2 : (Onm nm (e2 :: t2)).length = e2.1.length := by unfold Onm; rw [List.length_map]; rfl
      have tk2 : (Onm nm (e2 :: t2)).take e.1.length = Onm nm ((e.1, e2.2) :: t2) := by
        show (e2.1.map nm).take e.1.length = e.1.map nm
        rw [← List.map_take, tk]
      have c0 : C b = 16 := by
        rw [hc b (Nat.le_refl _) (by omega)]
        show (Z.2.2.1 23 b).toInt = _
        rw [w0']; rfl
      have c1 : C (b + 1) = ((e2.1.length - e.1.length : Nat) : Int) := by
        rw [hc (b + 1) (by omega) (by omega)]
        show (Z.2.2.1 23 (b + 1)).toInt = _
        rw [w1']
        exact I_ti (by omega) (by omega)
      exact cr_1 b1 b2 ⟨d, Or.inr (Or.inr (Or.inr (Or.inr (Or.inr (Or.inr (Or.inr (Or.inr (Or.inr (Or.inr (Or.inr (Or.inr (Or.inr (Or.inr (Or.inr (Or.inr (Or.inr (Or.inr (Or.inl ⟨r23.trans h23, c0, e.1.length, r25.trans h25, by rw [l2]; omega, by rw [l2]; exact c1, by rw [tk2]; exact hd⟩))))))))))))))))))⟩
end
