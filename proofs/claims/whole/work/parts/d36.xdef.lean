/-! expressions: the compiler there, the reader here: what goes together -/
set_option maxRecDepth 100000
/-- code there does what nodes here do, with enough fuel -/
def CRe (C : Nat → Int) (R : Nat → Nat → Int) (J : Nat → Int64) (y : Option (Nat × Nat × Nat)) (a n : Nat) (H O : List Nat) : Prop := ∃ d, CRs C R J d y a n H O
/-- the compiler: g: in a GUARD -/
def XCS (m0 : MS) (nm : Nat → Nat) (m : MS) (a cm : Nat) (sc : SCT) (g : Bool) : Prop := PCS m0 nm m a cm sc false ∧ decide (m.1 712 = 0) = !g
/-- the reader, with its marks -/
def XRS (w0 : MS) (T : Nat) (w : MS) (p : Nat) (Q : Nat → Nat) (sc : SCT) : Prop := PRd w0 T w p (Q 39) sc ∧ QMK w Q
/-- what an E leaves as it was, there -/
def XFC (m m2 : MS) (a q r s : Nat) : Prop := (∀ k, k ≠ 441 → k ≠ 706 → m2.1 k = m.1 k) ∧ (∀ k, k ≠ 23 → ¬ (30 ≤ k ∧ k ≤ 32) → ¬ (39 ≤ k ∧ k ≤ 42) → m2.2.2.1 k = m.2.2.1 k) ∧ (∀ j, j < a → m2.2.2.1 23 j = m.2.2.1 23 j) ∧ (∀ k j, 30 ≤ k → k ≤ 32 → (j < q ∨ r ≤ j) → m2.2.2.1 k j = m.2.2.1 k j) ∧ (∀ j, j ≤ s → m2.2.2.1 40 j = m.2.2.1 40 j) ∧ ∀ j, j < s → m2.2.2.1 41 j = m.2.2.1 41 j
/-- and here -/
def XRF (w w2 : MS) (Q Q2 : Nat → Nat) : Prop := QRR Q w w2 ∧ QLE Q Q2 ∧ (Q2 75 = Q 75 ∧ Q2 77 = Q 77 ∧ Q2 83 = Q 83)
/-- a tree of roots (false), a row of them (true): those that stand last -/
def RTd (w : MS) (i : Nat) : Nat → Bool → Nat → Int → List Nat → Prop
  | 0, _, _, _, _ => False
  | f + 1, false, j, r, L => ∃ r0 : Nat, r = ((r0 : Nat) : Int) ∧ (i ≤ r0 ∧ r0 < j) ∧ ∃ L1, RTd w i f true r0 (A w 28 r0) L1 ∧ L = (if A w 23 r0 = 12 ∨ A w 23 r0 = 13 then r0 :: L1 else L1)
  | f + 1, true, j, r, L => (r = -1 ∧ L = []) ∨ ∃ (r0 : Nat) (L1 L2 : List Nat), r = ((r0 : Nat) : Int) ∧ RTd w i f false j r L1 ∧ RTd w i f true j (A w 29 r0) L2 ∧ L = L1 ++ L2
/-- rows at the end of all -/
def AGX (R : Nat → Nat → Int) (J : Nat → Int64) (w : MS) (Q Q2 : Nat → Nat) (lst : Bool) (L : List Nat) : Prop := (∀ k n, k ≠ 27 → k ≠ 29 → k ≠ 30 → k ≠ 34 → grp k ∈ [32, 39, 46, 56, 58] → Q (grp k) ≤ n → n < Q2 (grp k) → R k n = A w k n) ∧ (∀ n, Q 32 ≤ n → n < Q2 32 → R 23 n ≠ 12 → R 23 n ≠ 15 → R 27 n = A w 27 n) ∧ (∀ n, Q 32 ≤ n → n < Q2 32 → R 30 n = if lst = true ∧ n ∈ L then 1 else A w 30 n) ∧ ∀ n, Q 39 ≤ n → n < Q2 39 → J n = w.2.2.2 34 n
/-- places of funs at the end -/
def AGQ (P : Nat → Nat → Int) (m : MS) (q r : Nat) : Prop := ∀ k u, 30 ≤ k → k ≤ 32 → q ≤ u → u < r → P k u = A m k u
/-- calls at the end -/
def RQX (fof cvr : Int → Int → Int) (R : Nat → Nat → Int) (i j : Nat) : Prop := ∀ n, i ≤ n → n < j → (R 23 n = 12 → R 27 n = cvr (R 25 n) (R 26 n)) ∧ (R 23 n = 15 → R 27 n = fof (R 25 n) (R 26 n))
/-- a fun of the text -/
def FUX (C : Nat → Int) (P R : Nat → Nat → Int) (J : Nat → Int64) (u : Nat) : Prop := ∃ (ar e ad L c : Nat) (H : List Nat), P 30 u = ((ar : Nat) : Int) ∧ P 31 u = ((e : Nat) : Int) ∧ P 32 u = ((ad : Nat) : Int) ∧ C ad = ((L : Nat) : Int) ∧ ad + 1 + L < 24000 ∧ H.length = L ∧ (∀ i x : Nat, H[i]? = some x → C (ad + 1 + i) = ((x : Nat) : Int)) ∧ H.Nodup ∧ R 53 u = ((c : Nat) : Int) ∧ c < 100000 ∧ R 41 c = ((ar : Nat) : Int) ∧ R 54 u = ((L : Nat) : Int) ∧ ∃ g g2, ZRs C R J (CRs C R J g) 0 0 H [] g2 e ((c : Nat) : Int)
/-- all of what is known at the end -/
def FNd (w0 : MS) (fof cvr : Int → Int → Int) (C : Nat → Int) (P R : Nat → Nat → Int) (J : Nat → Int64) (m w : MS) (a b q r : Nat) (Q Q2 : Nat → Nat) (lst : Bool) (L : List Nat) : Prop := AGC C m a b ∧ AGQ P m q r ∧ GRS R w0 ∧ AGX R J w Q Q2 lst L ∧ RQX fof cvr R (Q 32) (Q2 32)
/-- names held at the end -/
def HNX (nm : Nat → Nat) (sc : SCT) (cm : Nat) (H : List Nat) : Prop := HPX nm sc H ∧ H.Nodup ∧ cm + H.length ≤ 40
/-- what the code of a stretch does -/
def CDX (w0 : MS) (nm : Nat → Nat) (fof cvr : Int → Int → Int) (lst g : Bool) (L : List Nat) (a b cm2 q r : Nat) (Q Q2 : Nat → Nat) (sc sc2 : SCT) (m2 w2 : MS) : Prop := ∀ C P R J H, FNd w0 fof cvr C P R J m2 w2 a b q r Q Q2 lst L → HNX nm sc2 cm2 H → (∀ u, q ≤ u → u < r → FUX C P R J u) ∧ ∀ y, (y = none ↔ g = false) → CRe C R J y b (Q2 32) H (Onm nm sc2) → CRe C R J y a (Q 32) H (Onm nm sc)
/-- names held, names that come; nothing is told of the levels of a fun's own names -/
def HDx (nm Nk K W : Nat → Nat) (p p2 : Nat) (sc sc2 : SCT) : Prop := HDo Nk K W p p2 sc sc2 ∧ ((false : Bool) = false → True ∧ NWd sc sc2)
/-- a stretch of both -/
def XTR (m0 w0 : MS) (K : Nat → Nat) (T : Nat) (nm Nk : Nat → Nat) (fof cvr : Int → Int → Int) (lst g : Bool) (L : List Nat) (lo hi a b cm cm2 q r : Nat) (Q Q2 : Nat → Nat) (sc sc2 : SCT) (m w m2 w2 : MS) : Prop := (lo ≤ hi ∧ a ≤ b ∧ cm ≤ cm2 ∧ q ≤ r) ∧ XCS m0 nm m2 b cm2 sc2 g ∧ (XRS w0 T w2 hi Q2 sc2 ∧ Q2 56 = r) ∧ tot sc2 ≤ tot sc + (hi - lo) ∧ (∃ W, HDx nm Nk K W lo hi sc sc2 ∧ m2.2.2.1 42 = wup (m.2.2.1 42) K W lo hi) ∧ XFC m m2 a q r (sc.length - 1) ∧ XRF w w2 Q Q2 ∧ (g = true → (hdS sc2).1 = (hdS sc).1) ∧ (∀ n, n ∈ L → Q 32 ≤ n ∧ n < Q2 32) ∧ CDX w0 nm fof cvr lst g L a b cm2 q r Q Q2 sc sc2 m2 w2
/-- an E -/
def XZ (m0 w0 : MS) (K : Nat → Nat) (T : Nat) (nm Nk : Nat → Nat) (fof cvr : Int → Int → Int) (lst g : Bool) (lo hi a cm q r : Nat) (Q : Nat → Nat) (sc : SCT) (m w m2 : MS) (_ : Unit) (w2 : MS) (rt : Int32) : Prop := ∃ (b cm2 : Nat) (Q2 : Nat → Nat) (sc2 : SCT) (rn f : Nat) (L : List Nat), rt = I (rn : Nat) ∧ (Q 32 ≤ rn ∧ rn < Q2 32) ∧ XTR m0 w0 K T nm Nk fof cvr lst g L lo hi a b cm cm2 q r Q Q2 sc sc2 m w m2 w2 ∧ (a < b ∧ lo < hi) ∧ RTd w2 (Q 32) f false (Q2 32) ((rn : Nat) : Int) L ∧ ∀ n, n ∈ L → A w2 30 n = 0
section
variable {m0 w0 m w m2 w2 m3 w3 v u : MS} {K nm Nk W W2 : Nat → Nat} {T a b c cm cm2 cm3 q r s lo mid hi i j f f2 n x k p σ : Nat} {Q Q2 Q3 Q4 : Nat → Nat} {sc sc2 sc3 t : SCT} {g lst : Bool} {L L1 L2 : List Nat} {fof cvr : Int → Int → Int} {C : Nat → Int} {P R : Nat → Nat → Int} {J : Nat → Int64} {H O : List Nat} {y : Option (Nat × Nat × Nat)}
theorem cr_1 (hO : O.Nodup ∧ H.Nodup) (hb : a + 2 < 24000 ∧ n + 2 < 100000 ∧ H.length + O.length ≤ 40) (h : ∃ d, LCs C R J d (CRs C R J d) y a n H O) : CRe C R J y a n H O := by
  obtain ⟨d, h⟩ := h
  exact ⟨d + 1, hO, hb, h⟩
theorem XFC_rf : XFC m m a q r σ := ⟨fun _ _ _ => rfl, fun _ _ _ _ => rfl, fun _ _ => rfl, fun _ _ _ _ _ => rfl, fun _ _ => rfl, fun _ _ => rfl⟩
theorem XFC_tr (h : XFC m m2 a q r σ) (k : XFC m2 m3 b r s σ) (hab : a ≤ b) (hq : q ≤ r) (hr : r ≤ s) : XFC m m3 a q s σ := ⟨fun j h1 h2 => (k.1 j h1 h2).trans (h.1 j h1 h2), fun j h1 h2 h3 => (k.2.1 j h1 h2 h3).trans (h.2.1 j h1 h2 h3), fun j hj => (k.2.2.1 j (by omega)).trans (h.2.2.1 j hj), fun l j h1 h2 h3 => (k.2.2.2.1 l j h1 h2 (by omega)).trans (h.2.2.2.1 l j h1 h2 (by omega)), fun j hj => (k.2.2.2.2.1 j hj).trans (h.2.2.2.2.1 j hj), fun j hj => (k.2.2.2.2.2 j hj).trans (h.2.2.2.2.2 j hj)⟩
theorem XFC_put {z : Int32} (h : XFC m m2 a q r σ) (hab : a ≤ b) : XFC m (ptc m2 b z) a q r σ := ⟨fun j h1 h2 => by rw [ptc_i h1]; exact h.1 j h1 h2, fun j h1 h2 h3 => by rw [ptc_r h1]; exact h.2.1 j h1 h2 h3, fun j hj => by rw [ptc_o (by omega)]; exact h.2.2.1 j hj, fun l j h1 h2 h3 => by rw [ptc_r (by omega)]; exact h.2.2.2.1 l j h1 h2 h3, fun j hj => by rw [ptc_r (by decide)]; exact h.2.2.2.2.1 j hj, fun j hj => by rw [ptc_r (by decide)]; exact h.2.2.2.2.2 j hj⟩
theorem XFC_P (h : CFP m m2 a σ) : XFC m m2 a q q σ := ⟨h.1, fun j h1 h2 h3 => h.2.1 j h1 (by omega) (by omega) (by omega), h.2.2.1, fun l j h1 h2 _ => by rw [h.2.1 l (by omega) (by omega) (by omega) (by omega)], fun j _ => by rw [h.2.1 40 (by decide) (by decide) (by decide) (by decide)], fun j hj => h.2.2.2 j (by omega)⟩
theorem XFR_rf : XRF w w Q Q := ⟨QRR_rf, QLE_rf, rfl, rfl, rfl⟩
theorem XFR_tr (h : XRF w w2 Q Q2) (k : XRF w2 w3 Q2 Q3) : XRF w w3 Q Q3 := ⟨QRR_tr h.1 k.1 h.2.1, QLE_tr h.2.1 k.2.1, k.2.2.1.trans h.2.2.1, k.2.2.2.1.trans h.2.2.2.1, k.2.2.2.2.trans h.2.2.2.2⟩
/-- rows of a stretch stay -/
def SAM (w v : MS) (Q Q2 : Nat → Nat) : Prop := (∀ k n, grp k ≠ 0 → k ≠ 29 → k ≠ 30 → Q (grp k) ≤ n → n < Q2 (grp k) → v.2.2.1 k n = w.2.2.1 k n) ∧ (∀ n, Q 39 ≤ n → n < Q2 39 → v.2.2.2 34 n = w.2.2.2 34 n)
theorem SAM_rf : SAM w w Q Q2 := ⟨fun _ _ _ _ _ _ _ => rfl, fun _ _ _ => rfl⟩
theorem SAM_q (h : QRR Q2 w v) : SAM w v Q Q2 := ⟨fun k n a _ _ _ b => h.2.1 k n a b, fun n _ b => h.2.2 34 n (Or.inr b)⟩
theorem SAM_tr (h : SAM w v Q Q2) (k : SAM v u Q Q2) : SAM w u Q Q2 := ⟨fun j n a b b2 c d => (k.1 j n a b b2 c d).trans (h.1 j n a b b2 c d), fun n a b => (k.2 n a b).trans (h.2 n a b)⟩
/-- what is known of all is known of a part -/
theorem FIN_sub {a3 b3 q3 r3 : Nat} {lst3 : Bool} {L3 : List Nat} (h : FNd w0 fof cvr C P R J m3 w3 a3 b3 q3 r3 Q3 Q4 lst3 L3) (ha : a3 ≤ a ∧ b ≤ b3) (hq : q3 ≤ q ∧ r ≤ r3) (h1 : QLE Q3 Q) (h2 : QLE Q2 Q4) (hc : ∀ j, a ≤ j → j < b → m3.2.2.1 23 j = m.2.2.1 23 j) (hp : ∀ k u, 30 ≤ k → k ≤ 32 → q ≤ u → u < r → m3.2.2.1 k u = m.2.2.1 k u) (hs : SAM w w3 Q Q2) (hl : ∀ n, Q 32 ≤ n → n < Q2 32 → (if lst3 = true ∧ n ∈ L3 then 1 else A w3 30 n) = (if lst = true ∧ n ∈ L then 1 else A w 30 n)) : FNd w0 fof cvr C P R J m w a b q r Q Q2 lst L := by
  obtain ⟨g1, g2, g3, ⟨g4, g5, g6, g7⟩, g8⟩ := h
  have hA : ∀ k n, grp k ≠ 0 → k ≠ 29 → k ≠ 30 → Q (grp k) ≤ n → n < Q2 (grp k) → A w3 k n = A w k n := fun k n x1 x2 x3 x4 x5 => congrArg Int32.toInt (hs.1 k n x1 x2 x3 x4 x5)
  have lo32 : ∀ n, Q 32 ≤ n → Q3 32 ≤ n := fun n z => Nat.le_trans (h1 32 (by decide)) z
  have hi32 : ∀ n, n < Q2 32 → n < Q4 32 := fun n z => Nat.lt_of_lt_of_le z (h2 32 (by decide))
  refine ⟨fun j z1 z2 => ?_, fun k u z1 z2 z3 z4 => ?_, g3, ⟨fun k n z1 z2 z3 z4 z5 z6 z7 => ?_, fun n z1 z2 z3 z4 => ?_, fun n z1 z2 => ?_, fun n z1 z2 => ?_⟩, fun n z1 z2 => g8 n (lo32 n z1) (hi32 n z2)⟩
  · rw [g1 j (by omega) (by omega)]
    exact congrArg Int32.toInt (hc j z1 z2)
  · rw [g2 k u z1 z2 (by omega) (by omega)]
    exact congrArg Int32.toInt (hp k u z1 z2 z3 z4)
  · have g0 : grp k ≠ 0 := fun z => by rw [z] at z5; revert z5; decide
    rw [g4 k n z1 z2 z3 z4 z5 (Nat.le_trans (h1 _ (grp_m g0)) z6) (Nat.lt_of_lt_of_le z7 (h2 _ (grp_m g0)))]
    exact hA k n g0 z2 z3 z6 z7
  · rw [g5 n (lo32 n z1) (hi32 n z2) z3 z4]
    exact hA 27 n (by decide) (by decide) (by decide) z1 z2
  · rw [g6 n (lo32 n z1) (hi32 n z2)]
    exact hl n z1 z2
  · rw [g7 n (Nat.le_trans (h1 39 (by decide)) z1) (Nat.lt_of_lt_of_le z2 (h2 39 (by decide)))]
    exact hs.2 n z1 z2
theorem HNX_mo (h : HDo Nk K W p x sc sc2) (hc : cm ≤ cm2) (k : HNX nm sc2 cm2 H) : HNX nm sc cm H := ⟨HPX_mo h k.1, k.2.1, by have := k.2.2; omega⟩
theorem XCS_len (h : XCS m0 nm m a cm sc g) : (Onm nm sc).length ≤ cm := by
  unfold Onm
  rw [List.length_map]
  exact h.1.2.2.2.2.2.2
theorem XRS_nd (hn : NMJ nm) (h : XRS w0 T w p Q sc) : (Onm nm sc).Nodup := by
  have ok := h.1.2.2.2.1.2.2.2
  unfold Onm
  cases sc with
  | nil => exact List.nodup_nil
  | cons e t =>
    show (e.1.map nm).Nodup
    exact List.pairwise_map.mpr (List.Pairwise.imp (fun h z => h (hn.1 _ _ z)) ok.1.1)
theorem wup_cat {g : Nat → Int32} (h1 : lo ≤ mid) (h2 : mid ≤ hi) : wup (wup g K W lo mid) K W2 mid hi = wup g K (mrw mid W W2) lo hi := mrw_wup h1 h2
theorem HDx_of (h : HDw false nm Nk K W lo hi sc sc2) : HDx nm Nk K W lo hi sc sc2 := ⟨h.1, fun o => ⟨trivial, (h.2 o).2⟩⟩
theorem HDx_tr {p p2 p3 : Nat} {a b c : SCT} (l1 : p ≤ p2) (l2 : p2 ≤ p3) (h : HDx nm Nk K W p p2 a b) (k : HDx nm Nk K W p2 p3 b c) : HDx nm Nk K W p p3 a c := ⟨HDo_tr l1 l2 h.1 k.1, fun o => ⟨trivial, NWX_tr (h.2 o).2 (k.2 o).2⟩⟩
theorem HDx_w {p p2 : Nat} {a b : SCT} (hw : ∀ j, p ≤ j → j < p2 → W2 j = W j) (h : HDx nm Nk K W p p2 a b) : HDx nm Nk K W2 p p2 a b := ⟨HDo_w hw h.1, h.2⟩
theorem HDx_gap {p p2 : Nat} (h : ∀ j, p ≤ j → j < p2 → K j ≠ 3) : HDx nm Nk K W p p2 sc sc := ⟨HDo_gap h, fun _ => ⟨trivial, NWX_rf⟩⟩
theorem HDx_cat (h1 : lo ≤ mid) (h2 : mid ≤ hi) (h : HDx nm Nk K W lo mid sc sc2) (k : HDx nm Nk K W2 mid hi sc2 sc3) : HDx nm Nk K (mrw mid W W2) lo hi sc sc3 := HDx_tr h1 h2 (HDx_w (fun j _ b => if_pos b) h) (HDx_w (fun j a _ => if_neg (by omega)) k)
/-- two stretches -/
theorem XTR_tr (h : XTR m0 w0 K T nm Nk fof cvr lst g L1 lo mid a b cm cm2 q r Q Q2 sc sc2 m w m2 w2) (k : XTR m0 w0 K T nm Nk fof cvr lst g L2 mid hi b c cm2 cm3 r s Q2 Q3 sc2 sc3 m2 w2 m3 w3) : XTR m0 w0 K T nm Nk fof cvr lst g (L1 ++ L2) lo hi a c cm cm3 q s Q Q3 sc sc3 m w m3 w3 := by
  obtain ⟨a1, a2, a3, a4, ⟨W, a5, a6⟩, a7, a8, a9, a10, a11⟩ := h
  obtain ⟨b1, b2, b3, b4, ⟨W2, b5, b6⟩, b7, b8, b9, b10, b11⟩ := k
  have ln : sc2.length = sc.length := NWX_len (a5.2 rfl).2
  rw [ln] at b7
  have q32 : Q 32 ≤ Q2 32 := a8.2.1 32 (by decide)
  have q32b : Q2 32 ≤ Q3 32 := b8.2.1 32 (by decide)
  refine ⟨⟨by omega, by omega, by omega, by omega⟩, b2, b3, by omega, ⟨mrw mid W W2, HDx_cat a1.1 b1.1 a5 b5, ?_⟩, XFC_tr a7 b7 a1.2.1 a1.2.2.2 b1.2.2.2, XFR_tr a8 b8, fun z => (b9 z).trans (a9 z), fun n hn => ?_, fun C P R J H fi hx => ?_⟩
  · rw [b6, a6, wup_cat a1.1 b1.1]
  · rcases List.mem_append.mp hn with z | z
    · have := a10 n z; omega
    · have := b10 n z; omega
  · have f1 : FNd w0 fof cvr C P R J m2 w2 a b q r Q Q2 lst L1 := by
      refine FIN_sub fi ⟨Nat.le_refl _, b1.2.1⟩ ⟨Nat.le_refl _, b1.2.2.2⟩ QLE_rf b8.2.1 (fun j _ z => b7.2.2.1 j z) (fun k u z1 z2 _ z4 => b7.2.2.2.1 k u z1 z2 (Or.inl z4)) (SAM_q b8.1) (fun n z1 z2 => ?_)
      have e : A w3 30 n = A w2 30 n := congrArg Int32.toInt (b8.1.2.1 30 n (by decide) z2)
      rw [e]
      by_cases z : lst = true ∧ n ∈ L1
      · rw [if_pos z, if_pos ⟨z.1, List.mem_append_left _ z.2⟩]
      · rw [if_neg z, if_neg (fun y => by
          rcases List.mem_append.mp y.2 with x | x
          · exact z ⟨y.1, x⟩
          · have := b10 n x; omega)]
    have f2 : FNd w0 fof cvr C P R J m3 w3 b c r s Q2 Q3 lst L2 := by
      refine FIN_sub fi ⟨a1.2.1, Nat.le_refl _⟩ ⟨a1.2.2.2, Nat.le_refl _⟩ a8.2.1 QLE_rf (fun _ _ _ => rfl) (fun _ _ _ _ _ _ => rfl) SAM_rf (fun n z1 z2 => ?_)
      by_cases z : lst = true ∧ n ∈ L2
      · rw [if_pos z, if_pos ⟨z.1, List.mem_append_right _ z.2⟩]
      · rw [if_neg z, if_neg (fun y => by
          rcases List.mem_append.mp y.2 with x | x
          · have := a10 n x; omega
          · exact z ⟨y.1, x⟩)]
    obtain ⟨d1, d2⟩ := a11 C P R J H f1 (HNX_mo b5.1 b1.2.2.1 hx)
    obtain ⟨e1, e2⟩ := b11 C P R J H f2 hx
    exact ⟨fun u z1 z2 => by
      by_cases z : u < r
      · exact d1 u z1 z
      · exact e1 u (by omega) z2, fun y hy hr => d2 y hy (e2 y hy hr)⟩
/-- what stands nowhere last -/
theorem XTR_nl (h : XTR m0 w0 K T nm Nk fof cvr false g L lo hi a b cm cm2 q r Q Q2 sc sc2 m w m2 w2) : XTR m0 w0 K T nm Nk fof cvr lst g [] lo hi a b cm cm2 q r Q Q2 sc sc2 m w m2 w2 := by
  obtain ⟨a1, a2, a3, a4, a5, a7, a8, a9, a10, a11⟩ := h
  refine ⟨a1, a2, a3, a4, a5, a7, a8, a9, fun n hn => (by cases hn), fun C P R J H fi hx => a11 C P R J H ?_ hx⟩
  refine FIN_sub fi ⟨Nat.le_refl _, Nat.le_refl _⟩ ⟨Nat.le_refl _, Nat.le_refl _⟩ QLE_rf QLE_rf (fun _ _ _ => rfl) (fun _ _ _ _ _ _ => rfl) SAM_rf (fun n z1 z2 => ?_)
  rw [if_neg (fun z => by cases z.2), if_neg (fun z => by cases z.1)]
end
