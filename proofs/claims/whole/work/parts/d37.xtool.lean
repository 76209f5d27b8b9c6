/-! expressions: words there, a node here -/
set_option maxRecDepth 100000
def ptcs : MS → Nat → List Int32 → MS
  | m, _, [] => m
  | m, a, x :: l => ptcs (ptc m a x) (a + 1) l
/-- ints that a node leaves -/
def NIX : List Nat := [5, 9, 10, 11, 14, 17, 20, 39, 46, 56, 58, 65, 67, 75, 77, 83]
/-- node i is made -/
def NOD (w v : MS) (i : Nat) : Prop := (∀ k, k ∈ NIX → v.1 k = w.1 k) ∧ v.1 32 = I ((i + 1 : Nat) : Int) ∧ (∀ k q, k < 23 ∨ 31 < k ∨ q ≠ i → v.2.2.1 k q = w.2.2.1 k q) ∧ v.2.2.2 = w.2.2.2
section
variable {m0 w0 m w m2 w2 m3 w3 v u : MS} {K nm Nk W W2 : Nat → Nat} {N T a b c cm cm2 cm3 q r s lo mid hi i j f f2 n k p σ tk : Nat} {Q Q2 Q3 Q4 : Nat → Nat} {sc sc2 sc3 t : SCT} {e : List Nat × List Nat × Nat} {g lst : Bool} {L L1 L2 : List Nat} {fof cvr : Int → Int → Int} {C : Nat → Int} {P R : Nat → Nat → Int} {J : Nat → Int64} {H O : List Nat} {y : Option (Nat × Nat × Nat)} {x : Int32} {l : List Int32}
theorem XCS_put (h : XCS m0 nm m a cm sc g) (ha : a < 23990) : XCS m0 nm (ptc m a x) (a + 1) cm sc g := ⟨PCS_put h.1 ha, by rw [ptc_i (by decide)]; exact h.2⟩
theorem XCS_ps : ∀ {l : List Int32} {m : MS} {a : Nat}, XCS m0 nm m a cm sc g → a + l.length ≤ 23990 → XCS m0 nm (ptcs m a l) (a + l.length) cm sc g
  | [], _, _, h, _ => h
  | x :: l, m, a, h, hl => by
    have hl : a + (l.length + 1) ≤ 23990 := hl
    have := XCS_ps (l := l) (XCS_put (x := x) h (by omega)) (by omega)
    rw [show a + 1 + l.length = a + (x :: l).length by show _ = a + (l.length + 1); omega] at this
    exact this
theorem ptcs_r {k : Nat} (hk : k ≠ 23) : ∀ {l : List Int32} {m : MS} {a : Nat}, (ptcs m a l).2.2.1 k = m.2.2.1 k
  | [], _, _ => rfl
  | x :: l, m, a => (ptcs_r hk (l := l)).trans (ptc_r hk)
theorem ptcs_i {k : Nat} (hk : k ≠ 441) : ∀ {l : List Int32} {m : MS} {a : Nat}, (ptcs m a l).1 k = m.1 k
  | [], _, _ => rfl
  | x :: l, m, a => (ptcs_i hk (l := l)).trans (ptc_i hk)
theorem ptcs_o : ∀ {l : List Int32} {m : MS} {a j : Nat}, j < a ∨ a + l.length ≤ j → (ptcs m a l).2.2.1 23 j = m.2.2.1 23 j
  | [], _, _, _, _ => rfl
  | x :: l, m, a, j, h => by
    have h : j < a ∨ a + (l.length + 1) ≤ j := h
    exact (ptcs_o (l := l) (by omega)).trans (ptc_o (by omega))
theorem ptcs_at : ∀ {l : List Int32} {m : MS} {a k : Nat} {z : Int32}, l[k]? = some z → (ptcs m a l).2.2.1 23 (a + k) = z
  | [], _, _, _, _, h => by cases h
  | x :: l, m, a, 0, z, h => by
    injection h with h
    subst h
    exact (ptcs_o (l := l) (Or.inl (by omega))).trans ptc_n
  | x :: l, m, a, k + 1, z, h => by
    have : (ptcs (ptc m a x) (a + 1) l).2.2.1 23 (a + 1 + k) = z := ptcs_at h
    rw [show a + (k + 1) = a + 1 + k by omega]
    exact this
theorem XFC_ps (h : XFC m m2 a q r σ) (hab : a ≤ b) : XFC m (ptcs m2 b l) a q r σ := ⟨fun j h1 h2 => (ptcs_i h1).trans (h.1 j h1 h2), fun j h1 h2 h3 => (congrFun rfl _ |>.trans (ptcs_r h1)).trans (h.2.1 j h1 h2 h3), fun j hj => (ptcs_o (Or.inl (by omega))).trans (h.2.2.1 j hj), fun k j h1 h2 h3 => by rw [ptcs_r (by omega)]; exact h.2.2.2.1 k j h1 h2 h3, fun j hj => by rw [ptcs_r (by decide)]; exact h.2.2.2.2.1 j hj, fun j hj => by rw [ptcs_r (by decide)]; exact h.2.2.2.2.2 j hj⟩
/-- a word of what has been written -/
theorem C_at {m2 : MS} (h : AGC C (ptcs m2 a l) a b) {k : Nat} {z : Int32} (hz : l[k]? = some z) (hb : a + k < b) : C (a + k) = z.toInt := by
  rw [h (a + k) (by omega) hb]
  exact congrArg Int32.toInt (ptcs_at hz)
theorem C_0 {m2 : MS} {z : Int32} (h : AGC C (ptcs m2 a (z :: l)) a b) (hb : a < b) : C a = z.toInt := C_at (k := 0) h rfl hb
theorem NOD_0 (h32 : w.1 32 = I (i : Nat)) {kd tk : Int32} : NOD w (nwD w i kd tk) i := ⟨fun k hk => nwD_i (fun z => by rw [z] at hk; revert hk; decide), nwD_n, fun k q h => by
  by_cases z : q = i
  · rw [nwD_r (by omega)]
  · exact nwD_o z, rfl⟩
theorem NOD_A {k : Nat} (h : NOD w v i) (hk : 23 ≤ k ∧ k ≤ 31) : NOD w (upA v k (upd (v.2.2.1 k) i x)) i := ⟨h.1, h.2.1, fun j q hq => by
  by_cases z : j = k
  · subst z
    rw [upA_at, upd_no (by omega)]
    exact h.2.2.1 j q hq
  · rw [upA_no z]
    exact h.2.2.1 j q hq, h.2.2.2⟩
theorem NOD_I {k : Nat} (h : NOD w v i) (hk : k ∉ NIX) (h32 : k ≠ 32) : NOD w (upI v k x) i := ⟨fun j hj => by
  rw [upI_ne (fun z : j = k => hk (z ▸ hj))]
  exact h.1 j hj, by rw [upI_ne (by omega)]; exact h.2.1, h.2.2.1, h.2.2.2⟩
theorem NOD_w {w1 : MS} (h : NOD w1 v i) (hi : ∀ k, k ∈ NIX → w1.1 k = w.1 k) (hr : w1.2.2.1 = w.2.2.1) (hj : w1.2.2.2 = w.2.2.2) : NOD w v i := ⟨fun k hk => (h.1 k hk).trans (hi k hk), h.2.1, fun k q z => by rw [h.2.2.1 k q z, hr], h.2.2.2.trans hj⟩
/-- the reader, when ints and rows of nodes have changed -/
theorem XRS_n (h : XRS w0 T w p Q sc) (hi : ∀ k, k ∈ NIX → v.1 k = w.1 k) (hr : ∀ k, k < 23 ∨ 31 < k → v.2.2.1 k = w.2.2.1 k) (h69 : v.1 69 = I (n : Nat)) (hn : n ≤ T) (h32 : v.1 32 = I (i : Nat)) (hi4 : i ≤ 24000) : XRS w0 T v n (qst Q 32 i) sc := by
  obtain ⟨⟨h1, h2, h3, h4, h5, h6⟩, hq⟩ := h
  refine ⟨⟨⟨fun k hk => ?_, fun k hk => ?_⟩, ⟨h69, hn⟩, (hi 67 (by decide)).trans h3, RNs_e h4 (hi 65 (by decide)) (fun k a b => hr k (by omega)), HFl_fr h4.2.2.2 h5 (fun j _ => by rw [hr 62 (by omega)]), by rw [qst_no (by decide), hi 39 (by decide)]; exact h6⟩, fun k hk => ?_⟩
  · have : k ∈ NIX := by
      unfold TIN at hk
      unfold NIX
      simp only [List.mem_cons, List.not_mem_nil, or_false] at hk ⊢
      omega
    rw [hi k this]; exact h1.1 k hk
  · have : k < 23 := by unfold TRW at hk; simp only [List.mem_cons, List.not_mem_nil, or_false] at hk; omega
    rw [hr k (Or.inl this)]; exact h1.2 k hk
  · by_cases z : k = 32
    · subst z; rw [qst_at]; exact ⟨h32, hi4⟩
    · have : k ∈ NIX := by
        unfold MKs at hk
        unfold NIX
        simp only [List.mem_cons, List.not_mem_nil, or_false] at hk ⊢
        omega
      rw [qst_no z, hi k this]; exact hq k hk
theorem XRS_ad (h : XRS w0 T w p Q sc) (hl : p < T) : XRS w0 T (adv w p) (p + 1) Q sc := ⟨PRS_ad h.1 hl, QMK_I h.2 (by decide)⟩
theorem XRS_I {k : Nat} (h : XRS w0 T w p Q sc) (hk : k ∉ NIX) (h2 : k ≠ 32 ∧ k ≠ 69) : XRS w0 T (upI w k x) p Q sc := by
  obtain ⟨⟨h1, h3, h4, h5, h6, h7⟩, hq⟩ := h
  have e : ∀ j, j ∈ NIX → (upI w k x).1 j = w.1 j := fun j hj => upI_ne (fun z => hk (z ▸ hj))
  refine ⟨⟨⟨fun j hj => ?_, h1.2⟩, ⟨by rw [upI_ne (by omega)]; exact h3.1, h3.2⟩, (e 67 (by decide)).trans h4, RNs_e h5 (e 65 (by decide)) (fun _ _ _ => rfl), HFl_fr h5.2.2.2 h6 (fun _ _ => rfl), (e 39 (by decide)).trans h7.1, h7.2⟩, fun j hj => ?_⟩
  · have : j ∈ NIX := by
      unfold TIN at hj
      unfold NIX
      simp only [List.mem_cons, List.not_mem_nil, or_false] at hj ⊢
      omega
    rw [e j this]; exact h1.1 j hj
  · by_cases z : j = 32
    · subst z; rw [upI_ne (by omega)]; exact hq 32 (by decide)
    · have : j ∈ NIX := by
        unfold MKs at hj
        unfold NIX
        simp only [List.mem_cons, List.not_mem_nil, or_false] at hj ⊢
        omega
      rw [e j this]; exact hq j hj
theorem XRS_wp (c : CTZ m0 w0 K T nm Nk) (h : XRS w0 T w p Q sc) : WP w K T p := PRS_w c h.1
theorem QRR_N (h : NOD w v i) (hq : Q 32 ≤ i) : QRR Q w v := ⟨fun k a b c => by
  have : k < 23 ∨ 31 < k := by
    unfold grp at a
    by_cases z : 23 ≤ k ∧ k ≤ 31
    · rw [if_pos z] at a; cases a
    · omega
  funext q
  exact h.2.2.1 k q (by omega), fun k q a b => by
  by_cases z : 23 ≤ k ∧ k ≤ 31
  · have e : grp k = 32 := if_pos z
    rw [e] at b
    exact h.2.2.1 k q (by omega)
  · exact h.2.2.1 k q (by omega), fun k q _ => by rw [h.2.2.2]⟩
theorem XFR_N (h : NOD w v i) (hq : Q 32 = i) : XRF w v Q (qst Q 32 (i + 1)) := ⟨QRR_N h (by omega), QLE_st QLE_rf (by omega), rfl, rfl, rfl⟩
/-- a node, words: a stretch -/
theorem XT_nod (hC : XCS m0 nm m a cm sc g) (hR : XRS w0 T w lo Q sc) (hq : Q 56 = q) (hl : lo ≤ hi ∧ hi ≤ T) (no3 : ∀ j, lo ≤ j → j < hi → K j ≠ 3) (hab : a ≤ b) (hm : XCS m0 nm m2 b cm sc g) (hx : XFC m m2 a q q (sc.length - 1)) (h42 : m2.2.2.1 42 = m.2.2.1 42) (hN : NOD w v i) (hi32 : Q 32 = i) (h16 : i < 16000) (h69 : v.1 69 = I (hi : Nat)) (hL : ∀ n, n ∈ L → n = i) (hcd : CDX w0 nm fof cvr lst g L a b cm q q Q (qst Q 32 (i + 1)) sc sc m2 v) : XTR m0 w0 K T nm Nk fof cvr lst g L lo hi a b cm cm q q Q (qst Q 32 (i + 1)) sc sc m w m2 v := by
  refine ⟨⟨hl.1, hab, Nat.le_refl _, Nat.le_refl _⟩, hm, ⟨?_, by rw [qst_no (by decide)]; exact hq⟩, by omega, ⟨fun _ => 0, HDx_gap no3, by rw [wup_0 no3]; exact h42⟩, hx, XFR_N hN hi32, fun _ => rfl, fun n hn => ?_, hcd⟩
  · exact XRS_n hR hN.1 (fun k hk => funext (fun j => hN.2.2.1 k j (by omega))) h69 hl.2 hN.2.1 (by omega)
  · rw [hL n hn, qst_at]; omega
/-- rows of a node at the end -/
theorem FIN_R {m2 : MS} {k : Nat} (h : FNd w0 fof cvr C P R J m2 v a b q r Q Q2 lst L) (hk : 23 ≤ k ∧ k ≤ 31) (h2 : k ≠ 27 ∧ k ≠ 29 ∧ k ≠ 30) (hi : Q 32 ≤ i ∧ i < Q2 32) : R k i = A v k i := by
  have e : grp k = 32 := if_pos hk
  exact h.2.2.2.1.1 k i h2.1 h2.2.1 h2.2.2 (by omega) (by rw [e]; decide) (by rw [e]; exact hi.1) (by rw [e]; exact hi.2)
/-- a node without roots -/
theorem RTd_1 {x : Int} (h28 : A v 28 i = -1) (hk : A v 23 i ≠ 12 ∧ A v 23 i ≠ 13) (hx : x = ((i : Nat) : Int)) (hj : j ≤ i ∧ i < n) : RTd v j 2 false n x [] := ⟨i, hx, hj, [], Or.inl ⟨h28, rfl⟩, by rw [if_neg (by omega)]⟩
theorem RTd_c {x : Int} (h28 : A v 28 i = -1) (hk : A v 23 i = 12 ∨ A v 23 i = 13) (hx : x = ((i : Nat) : Int)) (hj : j ≤ i ∧ i < n) : RTd v j 2 false n x [i] := ⟨i, hx, hj, [], Or.inl ⟨h28, rfl⟩, by rw [if_pos hk]⟩
end
