section
set_option maxRecDepth 100000
def CRe (C : Nat → Int) (R : Nat → Nat → Int) (J : Nat → Int64) (y : Option (Nat × Nat × Nat)) (a n : Nat) (H O : List Nat) : Prop := ∃ d, CRs C R J d y a n H O
def XCS (m0 : MS) (nm : Nat → Nat) (m : MS) (a cm : Nat) (sc : SCT) (g : Bool) : Prop := PCS m0 nm m a cm sc false ∧ decide (m.1 712 = 0) = !g
def XRS (w0 : MS) (T : Nat) (w : MS) (p : Nat) (Q : Nat → Nat) (sc : SCT) : Prop := PRd w0 T w p (Q 39) sc ∧ QMK w Q
def XFC (m m2 : MS) (a q r s : Nat) : Prop := (∀ k, k ≠ 441 → k ≠ 706 → m2.1 k = m.1 k) ∧ (∀ k, k ≠ 23 → ¬ (30 ≤ k ∧ k ≤ 32) → ¬ (39 ≤ k ∧ k ≤ 42) → m2.2.2.1 k = m.2.2.1 k) ∧ (∀ j, j < a → m2.2.2.1 23 j = m.2.2.1 23 j) ∧ (∀ k j, 30 ≤ k → k ≤ 32 → (j < q ∨ r ≤ j) → m2.2.2.1 k j = m.2.2.1 k j) ∧ (∀ j, j ≤ s → m2.2.2.1 40 j = m.2.2.1 40 j) ∧ ∀ j, j < s → m2.2.2.1 41 j = m.2.2.1 41 j
def XRF (w w2 : MS) (Q Q2 : Nat → Nat) : Prop := QRR Q w w2 ∧ QLE Q Q2 ∧ (Q2 75 = Q 75 ∧ Q2 77 = Q 77 ∧ Q2 83 = Q 83)
def RTd (w : MS) (i : Nat) : Nat → Bool → Nat → Int → List Nat → Prop
  | 0, _, _, _, _ => False
  | f + 1, false, j, r, L => ∃ r0 : Nat, r = ((r0 : Nat) : Int) ∧ (i ≤ r0 ∧ r0 < j) ∧ ∃ L1, RTd w i f true r0 (A w 28 r0) L1 ∧ L = (if A w 23 r0 = 12 ∨ A w 23 r0 = 13 then r0 :: L1 else L1)
  | f + 1, true, j, r, L => (r = -1 ∧ L = []) ∨ ∃ (r0 : Nat) (L1 L2 : List Nat), r = ((r0 : Nat) : Int) ∧ RTd w i f false j r L1 ∧ RTd w i f true j (A w 29 r0) L2 ∧ L = L1 ++ L2
def AGX (R : Nat → Nat → Int) (J : Nat → Int64) (w : MS) (Q Q2 : Nat → Nat) (lst : Bool) (L : List Nat) : Prop := (∀ k n, k ≠ 27 → k ≠ 29 → k ≠ 30 → k ≠ 34 → grp k ∈ [32, 39, 46, 56, 58] → Q (grp k) ≤ n → n < Q2 (grp k) → R k n = A w k n) ∧ (∀ n, Q 32 ≤ n → n < Q2 32 → R 23 n ≠ 12 → R 23 n ≠ 15 → R 27 n = A w 27 n) ∧ (∀ n, Q 32 ≤ n → n < Q2 32 → R 30 n = if lst = true ∧ n ∈ L then 1 else A w 30 n) ∧ ∀ n, Q 39 ≤ n → n < Q2 39 → J n = w.2.2.2 34 n
def AGQ (P : Nat → Nat → Int) (m : MS) (q r : Nat) : Prop := ∀ k u, 30 ≤ k → k ≤ 32 → q ≤ u → u < r → P k u = A m k u
def RQX (fof cvr : Int → Int → Int) (R : Nat → Nat → Int) (i j : Nat) : Prop := ∀ n, i ≤ n → n < j → (R 23 n = 12 → R 27 n = cvr (R 25 n) (R 26 n)) ∧ (R 23 n = 15 → R 27 n = fof (R 25 n) (R 26 n))
def FUX (C : Nat → Int) (P R : Nat → Nat → Int) (J : Nat → Int64) (u : Nat) : Prop := ∃ (ar e ad L c : Nat) (H : List Nat), P 30 u = ((ar : Nat) : Int) ∧ P 31 u = ((e : Nat) : Int) ∧ P 32 u = ((ad : Nat) : Int) ∧ C ad = ((L : Nat) : Int) ∧ ad + 1 + L < 24000 ∧ H.length = L ∧ (∀ i x : Nat, H[i]? = some x → C (ad + 1 + i) = ((x : Nat) : Int)) ∧ H.Nodup ∧ R 53 u = ((c : Nat) : Int) ∧ c < 100000 ∧ R 41 c = ((ar : Nat) : Int) ∧ R 54 u = ((L : Nat) : Int) ∧ ∃ g g2, ZRs C R J (CRs C R J g) 0 0 H [] g2 e ((c : Nat) : Int)
def FNd (w0 : MS) (fof cvr : Int → Int → Int) (C : Nat → Int) (P R : Nat → Nat → Int) (J : Nat → Int64) (m w : MS) (a b q r : Nat) (Q Q2 : Nat → Nat) (lst : Bool) (L : List Nat) : Prop := AGC C m a b ∧ AGQ P m q r ∧ GRS R w0 ∧ AGX R J w Q Q2 lst L ∧ RQX fof cvr R (Q 32) (Q2 32)
def HNX (nm : Nat → Nat) (sc : SCT) (cm : Nat) (H : List Nat) : Prop := HPX nm sc H ∧ H.Nodup ∧ cm + H.length ≤ 40
def CDX (w0 : MS) (nm : Nat → Nat) (fof cvr : Int → Int → Int) (lst g : Bool) (L : List Nat) (a b cm2 q r : Nat) (Q Q2 : Nat → Nat) (sc sc2 : SCT) (m2 w2 : MS) : Prop := ∀ C P R J H, FNd w0 fof cvr C P R J m2 w2 a b q r Q Q2 lst L → HNX nm sc2 cm2 H → (∀ u, q ≤ u → u < r → FUX C P R J u) ∧ ∀ y, (y = none ↔ g = false) → CRe C R J y b (Q2 32) H (Onm nm sc2) → CRe C R J y a (Q 32) H (Onm nm sc)
def HDx (nm Nk K W : Nat → Nat) (p p2 : Nat) (sc sc2 : SCT) : Prop := HDo Nk K W p p2 sc sc2 ∧ ((false : Bool) = false → True ∧ NWd sc sc2)
def XTR (m0 w0 : MS) (K : Nat → Nat) (T : Nat) (nm Nk : Nat → Nat) (fof cvr : Int → Int → Int) (lst g : Bool) (L : List Nat) (lo hi a b cm cm2 q r : Nat) (Q Q2 : Nat → Nat) (sc sc2 : SCT) (m w m2 w2 : MS) : Prop := (lo ≤ hi ∧ a ≤ b ∧ cm ≤ cm2 ∧ q ≤ r) ∧ XCS m0 nm m2 b cm2 sc2 g ∧ (XRS w0 T w2 hi Q2 sc2 ∧ Q2 56 = r) ∧ tot sc2 ≤ tot sc + (hi - lo) ∧ (∃ W, HDx nm Nk K W lo hi sc sc2 ∧ m2.2.2.1 42 = wup (m.2.2.1 42) K W lo hi) ∧ XFC m m2 a q r (sc.length - 1) ∧ XRF w w2 Q Q2 ∧ (g = true → (hdS sc2).1 = (hdS sc).1) ∧ (∀ n, n ∈ L → Q 32 ≤ n ∧ n < Q2 32) ∧ CDX w0 nm fof cvr lst g L a b cm2 q r Q Q2 sc sc2 m2 w2
def XZ (m0 w0 : MS) (K : Nat → Nat) (T : Nat) (nm Nk : Nat → Nat) (fof cvr : Int → Int → Int) (lst g : Bool) (lo hi a cm q r : Nat) (Q : Nat → Nat) (sc : SCT) (m w m2 : MS) (_ : Unit) (w2 : MS) (rt : Int32) : Prop := ∃ (b cm2 : Nat) (Q2 : Nat → Nat) (sc2 : SCT) (rn f : Nat) (L : List Nat), rt = I (rn : Nat) ∧ (Q 32 ≤ rn ∧ rn < Q2 32) ∧ XTR m0 w0 K T nm Nk fof cvr lst g L lo hi a b cm cm2 q r Q Q2 sc sc2 m w m2 w2 ∧ (a < b ∧ lo < hi) ∧ RTd w2 (Q 32) f false (Q2 32) ((rn : Nat) : Int) L ∧ ∀ n, n ∈ L → A w2 30 n = 0
section
variable {m0 w0 m w m2 w2 m3 w3 v u : MS} {K nm Nk W W2 : Nat → Nat} {T a b c cm cm2 cm3 q r s lo mid hi i j f f2 n x k p σ : Nat} {Q Q2 Q3 Q4 : Nat → Nat} {sc sc2 sc3 t : SCT} {g lst : Bool} {L L1 L2 : List Nat} {fof cvr : Int → Int → Int} {C : Nat → Int} {P R : Nat → Nat → Int} {J : Nat → Int64} {H O : List Nat} {y : Option (Nat × Nat × Nat)}
theorem cr_1 (hO : O.Nodup ∧ H.Nodup) (hb : a + 2 < 24000 ∧ n + 2 < 100000 ∧ H.length + O.length ≤ 40) (h : ∃ d, LCs C R J d (CRs C R J d) y a n H O) : CRe C R J y a n H O := by
  obtain ⟨d, h⟩ := h
  exact ⟨d + 1, hO, hb, h⟩
theorem XFC_rf : XFC m m a q r σ := ⟨fun _ _ _ => rfl, fun _ _ _ _ => rfl, fun _ _ => rfl, fun _ _ _ _ _ => rfl, fun _ _ => rfl, fun _ _ => rfl⟩
theorem XFC_tr (h : XFC m m2 a q r σ) (k : XFC m2 m3 b r s σ) (hab : a ≤ b) (hq : q ≤ r) (hr : r ≤ s) : XFC m m3 a q s σ := ⟨fun j h1 h2 => (k.1 j h1 h2).trans (h.1 j h1 h2), fun j h1 h2 h3 => (k.2.1 j h1 h2 h3).trans (h.2.1 j h1 h2 h3), fun j hj => (k.2.2.1 j (by omega)).trans (h.2.2.1 j hj), fun l j h1 h2 h3 => (k.2.2.2.1 l j h1 h2 (by omega)).trans (h.2.2.2.1 l j h1 h2 (by omega)), fun j hj => (k.2.2.2.2.1 j hj).trans (h.2.2.2.2.1 j hj), fun j hj => (k.2.2.2.2.2 j hj).trans (h.2.2.2.2.2 j hj)⟩
theorem XFC_put {z : Int32} (h : XFC m m2 a q r σ) (hab : a ≤ b) : XFC m (ptc m2 b z) a q r σ := ⟨fun j h1 h2 => by rw [ptc_i h1]; exact h.1 j h1 h2, fun j h1 h2 h3 => by rw [ptc_r h1]; exact h.2.1 j h1 h2 h3, fun j hj => by rw [ptc_o (by omega)]; exact h.2.2.1 j hj, fun l j h1 h2 h3 => by rw [ptc_r (by omega)]; exact h.2.2.2.1 l j h1 h2 h3, fun j hj => by rw [ptc_r (by decide)]; exact h.2.2.2.2.1 j hj, fun j hj => by rw [ptc_r (by decide)]; exact h.2.2.2.2.2 j hj⟩
theorem XFC_P (h : CFP m m2 a σ) : XFC m m2 a q q σ := ⟨h.1, fun j h1 h2 h3 => h.2.1 j h1 (by omega) (by omega) (by omega), h.2.2.1, fun l j h1 h2 _ => by rw [h.2.1 l (by omega) (by omega) (by omega) (by omega)], fun j _ => by rw [h.2.1 40 (by decide) (by decide) (by decide) (by decide)], fun j hj => h.2.2.2 j (by omega)⟩
theorem XFR_rf : XRF w w Q Q := ⟨QRR_rf, QLE_rf, rfl, rfl, rfl⟩
theorem XFR_tr (h : XRF w w2 Q Q2) (k : XRF w2 w3 Q2 Q3) : XRF w w3 Q Q3 := ⟨QRR_tr h.1 k.1 h.2.1, QLE_tr h.2.1 k.2.1, k.2.2.1.trans h.2.2.1, k.2.2.2.1.trans h.2.2.2.1, k.2.2.2.2.trans h.2.2.2.2⟩
def SAM (w v : MS) (Q Q2 : Nat → Nat) : Prop := (∀ k n, grp k ≠ 0 → k ≠ 29 → k ≠ 30 → Q (grp k) ≤ n → n < Q2 (grp k) → v.2.2.1 k n = w.2.2.1 k n) ∧ (∀ n, Q 39 ≤ n → n < Q2 39 → v.2.2.2 34 n = w.2.2.2 34 n)
theorem SAM_rf : SAM w w Q Q2 := ⟨fun _ _ _ _ _ _ _ => rfl, fun _ _ _ => rfl⟩
theorem SAM_q (h : QRR Q2 w v) : SAM w v Q Q2 := ⟨fun k n a _ _ _ b => h.2.1 k n a b, fun n _ b => h.2.2 34 n (Or.inr b)⟩
theorem SAM_tr (h : SAM w v Q Q2) (k : SAM v u Q Q2) : SAM w u Q Q2 := ⟨fun j n a b b2 c d => (k.1 j n a b b2 c d).trans (h.1 j n a b b2 c d), fun n a b => (k.2 n a b).trans (h.2 n a b)⟩
theorem FIN_sub {a3 b3 q3 r3 : Nat} {lst3 : Bool} {L3 : List Nat} (h : FNd w0 fof cvr C P R J m3 w3 a3 b3 q3 r3 Q3 Q4 lst3 L3) (ha : a3 ≤ a ∧ b ≤ b3) (hq : q3 ≤ q ∧ r ≤ r3) (h1 : QLE Q3 Q) (h2 : QLE Q2 Q4) (hc : ∀ j, a ≤ j → j < b → m3.2.2.1 23 j = m.2.2.1 23 j) (hp : ∀ k u, 30 ≤ k → k ≤ 32 → q ≤ u → u < r → m3.2.2.1 k u = m.2.2.1 k u) (hs : SAM w w3 Q Q2) (hl : ∀ n, Q 32 ≤ n → n < Q2 32 → (if lst3 = true ∧ n ∈ L3 then 1 else A w3 30 n) = (if lst = true ∧ n ∈ L then 1 else A w 30 n)) : FNd w0 fof cvr C P R J m w a b q r Q Q2 lst L := by
  obtain ⟨g1, g2, g3, ⟨g4, g5, g6, g7⟩, g8⟩ := h
  have hA : ∀ k n, grp k ≠ 0 → k ≠ 29 → k ≠ 30 → Q (grp k) ≤ n → n < Q2 (grp k) → A w3 k n = A w k n := fun k n x1 x2 x3 x4 x5 => congrArg Int32.toInt (hs.1 k n x1 x2 x3 x4 x5)
  have lo32 : ∀ n, Q 32 ≤ n → Q3 32 ≤ n := fun n z => Nat.le_trans (h1 32 (by decide)) z
  have hi32 : ∀ n, n < Q2 32 → n < Q4 32 := fun n z => Nat.lt_of_lt_of_le z (h2 32 (by decide))
  refine ⟨fun j z1 z2 => ?_, fun k u z1 z2 z3 z4 => ?_, g3, ⟨fun k n z1 z2 z3 z4 z5 z6 z7 => ?_, fun n z1 z2 z3 z4 => ?_, fun n z1 z2 => ?_, fun n z1 z2 => ?_⟩, fun n z1 z2 => g8 n (lo32 n z1) (hi32 n z2)⟩
  · rw [g1 j (by omega) (by omega)]
    exact congrArg Int32.toInt (hc j z1 z2)
  · rw [g2 k u z1 z2 (by omega) (by omega)]
    exact congrArg Int32.toInt (hp k u z1 z2 z3 z4)
  · have g0 : grp k ≠ 0 := fun z => by rw [z] at z5; revert z5; decide
    rw [g4 k n z1 z2 z3 z4 z5 (Nat.le_trans (h1 _ (grp_m g0)) z6) (Nat.lt_of_lt_of_le z7 (h2 _ (grp_m g0)))]
    exact hA k n g0 z2 z3 z6 z7
  · rw [g5 n (lo32 n z1) (hi32 n z2) z3 z4]
    exact hA 27 n (by decide) (by decide) (by decide) z1 z2
  · rw [g6 n (lo32 n z1) (hi32 n z2)]
    exact hl n z1 z2
  · rw [g7 n (Nat.le_trans (h1 39 (by decide)) z1) (Nat.lt_of_lt_of_le z2 (h2 39 (by decide)))]
    exact hs.2 n z1 z2
theorem HNX_mo (h : HDo Nk K W p x sc sc2) (hc : cm ≤ cm2) (k : HNX nm sc2 cm2 H) : HNX nm sc cm H := ⟨HPX_mo h k.1, k.2.1, by have := k.2.2; omega⟩
theorem XCS_len (h : XCS m0 nm m a cm sc g) : (Onm nm sc).length ≤ cm := by
  unfold Onm
  rw [List.length_map]
  exact h.1.2.2.2.2.2.2
theorem XRS_nd (hn : NMJ nm) (h : XRS w0 T w p Q sc) : (Onm nm sc).Nodup := by
  have ok := h.1.2.2.2.1.2.2.2
  unfold Onm
  cases sc with
  | nil => exact List.nodup_nil
  | cons e t =>
    show (e.1.map nm).Nodup
    exact List.pairwise_map.mpr (List.Pairwise.imp (fun h z => h (hn.1 _ _ z)) ok.1.1)
theorem wup_cat {g : Nat → Int32} (h1 : lo ≤ mid) (h2 : mid ≤ hi) : wup (wup g K W lo mid) K W2 mid hi = wup g K (mrw mid W W2) lo hi := mrw_wup h1 h2
theorem HDx_of (h : HDw false nm Nk K W lo hi sc sc2) : HDx nm Nk K W lo hi sc sc2 := ⟨h.1, fun o => ⟨trivial, (h.2 o).2⟩⟩
theorem HDx_tr {p p2 p3 : Nat} {a b c : SCT} (l1 : p ≤ p2) (l2 : p2 ≤ p3) (h : HDx nm Nk K W p p2 a b) (k : HDx nm Nk K W p2 p3 b c) : HDx nm Nk K W p p3 a c := ⟨HDo_tr l1 l2 h.1 k.1, fun o => ⟨trivial, NWX_tr (h.2 o).2 (k.2 o).2⟩⟩
theorem HDx_w {p p2 : Nat} {a b : SCT} (hw : ∀ j, p ≤ j → j < p2 → W2 j = W j) (h : HDx nm Nk K W p p2 a b) : HDx nm Nk K W2 p p2 a b := ⟨HDo_w hw h.1, h.2⟩
theorem HDx_gap {p p2 : Nat} (h : ∀ j, p ≤ j → j < p2 → K j ≠ 3) : HDx nm Nk K W p p2 sc sc := ⟨HDo_gap h, fun _ => ⟨trivial, NWX_rf⟩⟩
theorem HDx_cat (h1 : lo ≤ mid) (h2 : mid ≤ hi) (h : HDx nm Nk K W lo mid sc sc2) (k : HDx nm Nk K W2 mid hi sc2 sc3) : HDx nm Nk K (mrw mid W W2) lo hi sc sc3 := HDx_tr h1 h2 (HDx_w (fun j _ b => if_pos b) h) (HDx_w (fun j a _ => if_neg (by omega)) k)
theorem XTR_tr (h : XTR m0 w0 K T nm Nk fof cvr lst g L1 lo mid a b cm cm2 q r Q Q2 sc sc2 m w m2 w2) (k : XTR m0 w0 K T nm Nk fof cvr lst g L2 mid hi b c cm2 cm3 r s Q2 Q3 sc2 sc3 m2 w2 m3 w3) : XTR m0 w0 K T nm Nk fof cvr lst g (L1 ++ L2) lo hi a c cm cm3 q s Q Q3 sc sc3 m w m3 w3 := by
  obtain ⟨a1, a2, a3, a4, ⟨W, a5, a6⟩, a7, a8, a9, a10, a11⟩ := h
  obtain ⟨b1, b2, b3, b4, ⟨W2, b5, b6⟩, b7, b8, b9, b10, b11⟩ := k
  have ln : sc2.length = sc.length := NWX_len (a5.2 rfl).2
  rw [ln] at b7
  have q32 : Q 32 ≤ Q2 32 := a8.2.1 32 (by decide)
  have q32b : Q2 32 ≤ Q3 32 := b8.2.1 32 (by decide)
  refine ⟨⟨by omega, by omega, by omega, by omega⟩, b2, b3, by omega, ⟨mrw mid W W2, HDx_cat a1.1 b1.1 a5 b5, ?_⟩, XFC_tr a7 b7 a1.2.1 a1.2.2.2 b1.2.2.2, XFR_tr a8 b8, fun z => (b9 z).trans (a9 z), fun n hn => ?_, fun C P R J H fi hx => ?_⟩
  · rw [b6, a6, wup_cat a1.1 b1.1]
  · rcases List.mem_append.mp hn with z | z
    · have := a10 n z; omega
    · have := b10 n z; omega
  · have f1 : FNd w0 fof cvr C P R J m2 w2 a b q r Q Q2 lst L1 := by
      refine FIN_sub fi ⟨Nat.le_refl _, b1.2.1⟩ ⟨Nat.le_refl _, b1.2.2.2⟩ QLE_rf b8.2.1 (fun j _ z => b7.2.2.1 j z) (fun k u z1 z2 _ z4 => b7.2.2.2.1 k u z1 z2 (Or.inl z4)) (SAM_q b8.1) (fun n z1 z2 => ?_)
      have e : A w3 30 n = A w2 30 n := congrArg Int32.toInt (b8.1.2.1 30 n (by decide) z2)
      rw [e]
      by_cases z : lst = true ∧ n ∈ L1
      · rw [if_pos z, if_pos ⟨z.1, List.mem_append_left _ z.2⟩]
      · rw [if_neg z, if_neg (fun y => by
          rcases List.mem_append.mp y.2 with x | x
          · exact z ⟨y.1, x⟩
          · have := b10 n x; omega)]
    have f2 : FNd w0 fof cvr C P R J m3 w3 b c r s Q2 Q3 lst L2 := by
      refine FIN_sub fi ⟨a1.2.1, Nat.le_refl _⟩ ⟨a1.2.2.2, Nat.le_refl _⟩ a8.2.1 QLE_rf (fun _ _ _ => rfl) (fun _ _ _ _ _ _ => rfl) SAM_rf (fun n z1 z2 => ?_)
      by_cases z : lst = true ∧ n ∈ L2
      · rw [if_pos z, if_pos ⟨z.1, List.mem_append_right _ z.2⟩]
      · rw [if_neg z, if_neg (fun y => by
          rcases List.mem_append.mp y.2 with x | x
          · have := a10 n x; omega
          · exact z ⟨y.1, x⟩)]
    obtain ⟨d1, d2⟩ := a11 C P R J H f1 (HNX_mo b5.1 b1.2.2.1 hx)
    obtain ⟨e1, e2⟩ := b11 C P R J H f2 hx
    exact ⟨fun u z1 z2 => by
      by_cases z : u < r
      · exact d1 u z1 z
      · exact e1 u (by omega) z2, fun y hy hr => d2 y hy (e2 y hy hr)⟩
theorem XTR_nl (h : XTR m0 w0 K T nm Nk fof cvr false g L lo hi a b cm cm2 q r Q Q2 sc sc2 m w m2 w2) : XTR m0 w0 K T nm Nk fof cvr lst g [] lo hi a b cm cm2 q r Q Q2 sc sc2 m w m2 w2 := by
  obtain ⟨a1, a2, a3, a4, a5, a7, a8, a9, a10, a11⟩ := h
  refine ⟨a1, a2, a3, a4, a5, a7, a8, a9, fun n hn => (by cases hn), fun C P R J H fi hx => a11 C P R J H ?_ hx⟩
  refine FIN_sub fi ⟨Nat.le_refl _, Nat.le_refl _⟩ ⟨Nat.le_refl _, Nat.le_refl _⟩ QLE_rf QLE_rf (fun _ _ _ => rfl) (fun _ _ _ _ _ _ => rfl) SAM_rf (fun n z1 z2 => ?_)
  rw [if_neg (fun z => by cases z.2), if_neg (fun z => by cases z.1)]
end
end
section
set_option maxRecDepth 100000
def ptcs : MS → Nat → List Int32 → MS
  | m, _, [] => m
  | m, a, x :: l => ptcs (ptc m a x) (a + 1) l
def NIX : List Nat := [5, 9, 10, 11, 14, 17, 20, 39, 46, 56, 58, 65, 67, 75, 77, 83]
def NOD (w v : MS) (i : Nat) : Prop := (∀ k, k ∈ NIX → v.1 k = w.1 k) ∧ v.1 32 = I ((i + 1 : Nat) : Int) ∧ (∀ k q, k < 23 ∨ 31 < k ∨ q ≠ i → v.2.2.1 k q = w.2.2.1 k q) ∧ v.2.2.2 = w.2.2.2
section
variable {m0 w0 m w m2 w2 m3 w3 v u : MS} {K nm Nk W W2 : Nat → Nat} {N T a b c cm cm2 cm3 q r s lo mid hi i j f f2 n k p σ tk : Nat} {Q Q2 Q3 Q4 : Nat → Nat} {sc sc2 sc3 t : SCT} {e : List Nat × List Nat × Nat} {g lst : Bool} {L L1 L2 : List Nat} {fof cvr : Int → Int → Int} {C : Nat → Int} {P R : Nat → Nat → Int} {J : Nat → Int64} {H O : List Nat} {y : Option (Nat × Nat × Nat)} {x : Int32} {l : List Int32}
theorem XCS_put (h : XCS m0 nm m a cm sc g) (ha : a < 23990) : XCS m0 nm (ptc m a x) (a + 1) cm sc g := ⟨PCS_put h.1 ha, by rw [ptc_i (by decide)]; exact h.2⟩
theorem XCS_ps : ∀ {l : List Int32} {m : MS} {a : Nat}, XCS m0 nm m a cm sc g → a + l.length ≤ 23990 → XCS m0 nm (ptcs m a l) (a + l.length) cm sc g
  | [], _, _, h, _ => h
  | x :: l, m, a, h, hl => by
    have hl : a + (l.length + 1) ≤ 23990 := hl
    have := XCS_ps (l := l) (XCS_put (x := x) h (by omega)) (by omega)
    rw [show a + 1 + l.length = a + (x :: l).length by show _ = a + (l.length + 1); omega] at this
    exact this
theorem ptcs_r {k : Nat} (hk : k ≠ 23) : ∀ {l : List Int32} {m : MS} {a : Nat}, (ptcs m a l).2.2.1 k = m.2.2.1 k
  | [], _, _ => rfl
  | x :: l, m, a => (ptcs_r hk (l := l)).trans (ptc_r hk)
theorem ptcs_i {k : Nat} (hk : k ≠ 441) : ∀ {l : List Int32} {m : MS} {a : Nat}, (ptcs m a l).1 k = m.1 k
  | [], _, _ => rfl
  | x :: l, m, a => (ptcs_i hk (l := l)).trans (ptc_i hk)
theorem ptcs_o : ∀ {l : List Int32} {m : MS} {a j : Nat}, j < a ∨ a + l.length ≤ j → (ptcs m a l).2.2.1 23 j = m.2.2.1 23 j
  | [], _, _, _, _ => rfl
  | x :: l, m, a, j, h => by
    have h : j < a ∨ a + (l.length + 1) ≤ j := h
    exact (ptcs_o (l := l) (by omega)).trans (ptc_o (by omega))
theorem ptcs_at : ∀ {l : List Int32} {m : MS} {a k : Nat} {z : Int32}, l[k]? = some z → (ptcs m a l).2.2.1 23 (a + k) = z
  | [], _, _, _, _, h => by cases h
  | x :: l, m, a, 0, z, h => by
    injection h with h
    subst h
    exact (ptcs_o (l := l) (Or.inl (by omega))).trans ptc_n
  | x :: l, m, a, k + 1, z, h => by
    have : (ptcs (ptc m a x) (a + 1) l).2.2.1 23 (a + 1 + k) = z := ptcs_at h
    rw [show a + (k + 1) = a + 1 + k by omega]
    exact this
theorem XFC_ps (h : XFC m m2 a q r σ) (hab : a ≤ b) : XFC m (ptcs m2 b l) a q r σ := ⟨fun j h1 h2 => (ptcs_i h1).trans (h.1 j h1 h2), fun j h1 h2 h3 => (congrFun rfl _ |>.trans (ptcs_r h1)).trans (h.2.1 j h1 h2 h3), fun j hj => (ptcs_o (Or.inl (by omega))).trans (h.2.2.1 j hj), fun k j h1 h2 h3 => by rw [ptcs_r (by omega)]; exact h.2.2.2.1 k j h1 h2 h3, fun j hj => by rw [ptcs_r (by decide)]; exact h.2.2.2.2.1 j hj, fun j hj => by rw [ptcs_r (by decide)]; exact h.2.2.2.2.2 j hj⟩
theorem C_at {m2 : MS} (h : AGC C (ptcs m2 a l) a b) {k : Nat} {z : Int32} (hz : l[k]? = some z) (hb : a + k < b) : C (a + k) = z.toInt := by
  rw [h (a + k) (by omega) hb]
  exact congrArg Int32.toInt (ptcs_at hz)
theorem C_0 {m2 : MS} {z : Int32} (h : AGC C (ptcs m2 a (z :: l)) a b) (hb : a < b) : C a = z.toInt := C_at (k := 0) h rfl hb
theorem NOD_0 (h32 : w.1 32 = I (i : Nat)) {kd tk : Int32} : NOD w (nwD w i kd tk) i := ⟨fun k hk => nwD_i (fun z => by rw [z] at hk; revert hk; decide), nwD_n, fun k q h => by
  by_cases z : q = i
  · rw [nwD_r (by omega)]
  · exact nwD_o z, rfl⟩
theorem NOD_A {k : Nat} (h : NOD w v i) (hk : 23 ≤ k ∧ k ≤ 31) : NOD w (upA v k (upd (v.2.2.1 k) i x)) i := ⟨h.1, h.2.1, fun j q hq => by
  by_cases z : j = k
  · subst z
    rw [upA_at, upd_no (by omega)]
    exact h.2.2.1 j q hq
  · rw [upA_no z]
    exact h.2.2.1 j q hq, h.2.2.2⟩
theorem NOD_I {k : Nat} (h : NOD w v i) (hk : k ∉ NIX) (h32 : k ≠ 32) : NOD w (upI v k x) i := ⟨fun j hj => by
  rw [upI_ne (fun z : j = k => hk (z ▸ hj))]
  exact h.1 j hj, by rw [upI_ne (by omega)]; exact h.2.1, h.2.2.1, h.2.2.2⟩
theorem NOD_w {w1 : MS} (h : NOD w1 v i) (hi : ∀ k, k ∈ NIX → w1.1 k = w.1 k) (hr : w1.2.2.1 = w.2.2.1) (hj : w1.2.2.2 = w.2.2.2) : NOD w v i := ⟨fun k hk => (h.1 k hk).trans (hi k hk), h.2.1, fun k q z => by rw [h.2.2.1 k q z, hr], h.2.2.2.trans hj⟩
theorem XRS_n (h : XRS w0 T w p Q sc) (hi : ∀ k, k ∈ NIX → v.1 k = w.1 k) (hr : ∀ k, k < 23 ∨ 31 < k → v.2.2.1 k = w.2.2.1 k) (h69 : v.1 69 = I (n : Nat)) (hn : n ≤ T) (h32 : v.1 32 = I (i : Nat)) (hi4 : i ≤ 24000) : XRS w0 T v n (qst Q 32 i) sc := by
  obtain ⟨⟨h1, h2, h3, h4, h5, h6⟩, hq⟩ := h
  refine ⟨⟨⟨fun k hk => ?_, fun k hk => ?_⟩, ⟨h69, hn⟩, (hi 67 (by decide)).trans h3, RNs_e h4 (hi 65 (by decide)) (fun k a b => hr k (by omega)), HFl_fr h4.2.2.2 h5 (fun j _ => by rw [hr 62 (by omega)]), by rw [qst_no (by decide), hi 39 (by decide)]; exact h6⟩, fun k hk => ?_⟩
  · have : k ∈ NIX := by
      unfold TIN at hk
      unfold NIX
      simp only [List.mem_cons, List.not_mem_nil, or_false] at hk ⊢
      omega
    rw [hi k this]; exact h1.1 k hk
  · have : k < 23 := by unfold TRW at hk; simp only [List.mem_cons, List.not_mem_nil, or_false] at hk; omega
    rw [hr k (Or.inl this)]; exact h1.2 k hk
  · by_cases z : k = 32
    · subst z; rw [qst_at]; exact ⟨h32, hi4⟩
    · have : k ∈ NIX := by
        unfold MKs at hk
        unfold NIX
        simp only [List.mem_cons, List.not_mem_nil, or_false] at hk ⊢
        omega
      rw [qst_no z, hi k this]; exact hq k hk
theorem XRS_ad (h : XRS w0 T w p Q sc) (hl : p < T) : XRS w0 T (adv w p) (p + 1) Q sc := ⟨PRS_ad h.1 hl, QMK_I h.2 (by decide)⟩
theorem XRS_I {k : Nat} (h : XRS w0 T w p Q sc) (hk : k ∉ NIX) (h2 : k ≠ 32 ∧ k ≠ 69) : XRS w0 T (upI w k x) p Q sc := by
  obtain ⟨⟨h1, h3, h4, h5, h6, h7⟩, hq⟩ := h
  have e : ∀ j, j ∈ NIX → (upI w k x).1 j = w.1 j := fun j hj => upI_ne (fun z => hk (z ▸ hj))
  refine ⟨⟨⟨fun j hj => ?_, h1.2⟩, ⟨by rw [upI_ne (by omega)]; exact h3.1, h3.2⟩, (e 67 (by decide)).trans h4, RNs_e h5 (e 65 (by decide)) (fun _ _ _ => rfl), HFl_fr h5.2.2.2 h6 (fun _ _ => rfl), (e 39 (by decide)).trans h7.1, h7.2⟩, fun j hj => ?_⟩
  · have : j ∈ NIX := by
      unfold TIN at hj
      unfold NIX
      simp only [List.mem_cons, List.not_mem_nil, or_false] at hj ⊢
      omega
    rw [e j this]; exact h1.1 j hj
  · by_cases z : j = 32
    · subst z; rw [upI_ne (by omega)]; exact hq 32 (by decide)
    · have : j ∈ NIX := by
        unfold MKs at hj
        unfold NIX
        simp only [List.mem_cons, List.not_mem_nil, or_false] at hj ⊢
        omega
      rw [e j this]; exact hq j hj
theorem XRS_wp (c : CTZ m0 w0 K T nm Nk) (h : XRS w0 T w p Q sc) : WP w K T p := PRS_w c h.1
theorem QRR_N (h : NOD w v i) (hq : Q 32 ≤ i) : QRR Q w v := ⟨fun k a b c => by
  have : k < 23 ∨ 31 < k := by
    unfold grp at a
    by_cases z : 23 ≤ k ∧ k ≤ 31
    · rw [if_pos z] at a; cases a
    · omega
  funext q
  exact h.2.2.1 k q (by omega), fun k q a b => by
  by_cases z : 23 ≤ k ∧ k ≤ 31
  · have e : grp k = 32 := if_pos z
    rw [e] at b
    exact h.2.2.1 k q (by omega)
  · exact h.2.2.1 k q (by omega), fun k q _ => by rw [h.2.2.2]⟩
theorem XFR_N (h : NOD w v i) (hq : Q 32 = i) : XRF w v Q (qst Q 32 (i + 1)) := ⟨QRR_N h (by omega), QLE_st QLE_rf (by omega), rfl, rfl, rfl⟩
theorem XT_nod (hC : XCS m0 nm m a cm sc g) (hR : XRS w0 T w lo Q sc) (hq : Q 56 = q) (hl : lo ≤ hi ∧ hi ≤ T) (no3 : ∀ j, lo ≤ j → j < hi → K j ≠ 3) (hab : a ≤ b) (hm : XCS m0 nm m2 b cm sc g) (hx : XFC m m2 a q q (sc.length - 1)) (h42 : m2.2.2.1 42 = m.2.2.1 42) (hN : NOD w v i) (hi32 : Q 32 = i) (h16 : i < 16000) (h69 : v.1 69 = I (hi : Nat)) (hL : ∀ n, n ∈ L → n = i) (hcd : CDX w0 nm fof cvr lst g L a b cm q q Q (qst Q 32 (i + 1)) sc sc m2 v) : XTR m0 w0 K T nm Nk fof cvr lst g L lo hi a b cm cm q q Q (qst Q 32 (i + 1)) sc sc m w m2 v := by
  refine ⟨⟨hl.1, hab, Nat.le_refl _, Nat.le_refl _⟩, hm, ⟨?_, by rw [qst_no (by decide)]; exact hq⟩, by omega, ⟨fun _ => 0, HDx_gap no3, by rw [wup_0 no3]; exact h42⟩, hx, XFR_N hN hi32, fun _ => rfl, fun n hn => ?_, hcd⟩
  · exact XRS_n hR hN.1 (fun k hk => funext (fun j => hN.2.2.1 k j (by omega))) h69 hl.2 hN.2.1 (by omega)
  · rw [hL n hn, qst_at]; omega
theorem FIN_R {m2 : MS} {k : Nat} (h : FNd w0 fof cvr C P R J m2 v a b q r Q Q2 lst L) (hk : 23 ≤ k ∧ k ≤ 31) (h2 : k ≠ 27 ∧ k ≠ 29 ∧ k ≠ 30) (hi : Q 32 ≤ i ∧ i < Q2 32) : R k i = A v k i := by
  have e : grp k = 32 := if_pos hk
  exact h.2.2.2.1.1 k i h2.1 h2.2.1 h2.2.2 (by omega) (by rw [e]; decide) (by rw [e]; exact hi.1) (by rw [e]; exact hi.2)
theorem RTd_1 {x : Int} (h28 : A v 28 i = -1) (hk : A v 23 i ≠ 12 ∧ A v 23 i ≠ 13) (hx : x = ((i : Nat) : Int)) (hj : j ≤ i ∧ i < n) : RTd v j 2 false n x [] := ⟨i, hx, hj, [], Or.inl ⟨h28, rfl⟩, by rw [if_neg (by omega)]⟩
theorem RTd_c {x : Int} (h28 : A v 28 i = -1) (hk : A v 23 i = 12 ∨ A v 23 i = 13) (hx : x = ((i : Nat) : Int)) (hj : j ≤ i ∧ i < n) : RTd v j 2 false n x [i] := ⟨i, hx, hj, [], Or.inl ⟨h28, rfl⟩, by rw [if_pos hk]⟩
end
end
section
set_option maxRecDepth 100000
section
variable {α β : Type} {N n tk a cm : Nat} {m m0 : MS} {nm : Nat → Nat} {sc : SCT} {g : Bool} {S : SF_Cm_fun} {v2 : Int32} {R : MS → Unit → MS → β → Prop} {B : Option (MS × β)} {RA : MS → α → MS → β → Prop} {f : MS → Unit → Option (MS × α)}
theorem flt_n {k : Nat} (ht : tk ≤ 4002) (hk : k ≤ 15) : jm_Cm_fault N m (I (tk : Nat)) (I (k : Nat)) = none := by
  show bnd (hb_Cm_fault_0 N () m (I (tk : Nat)) (I (k : Nat))) (fun w r => ck (decide (1000000000 ≤ w.1 714)) (some (w, r))) = none
  unfold hb_Cm_fault_0
  have e : I (tk : Nat) * 16 + I (k : Nat) = I ((tk * 16 + k : Nat) : Int) := by
    rw [show (16 : Int32) = I 16 from rfl, I_mul, I_add]
    congr 1
  rw [e]
  show bnd (some (upI m 714 (if I ((tk * 16 + k : Nat) : Int) < m.1 714 then I ((tk * 16 + k : Nat) : Int) else m.1 714), ())) _ = none
  rw [bnd_s, upI_at]
  have z : ¬ (1000000000 ≤ (if I ((tk * 16 + k : Nat) : Int) < m.1 714 then I ((tk * 16 + k : Nat) : Int) else m.1 714)) := fun h => by
    have b1 : (1000000000 : Int32) = I 1000000000 := rfl
    by_cases y : I ((tk * 16 + k : Nat) : Int) < m.1 714
    · rw [if_pos y, b1, I_le (by decide) (by decide) (by omega) (by omega)] at h
      omega
    · rw [if_neg y] at h
      rw [I_of (m.1 714)] at h y
      have r1 := Int32.le_toInt (m.1 714)
      have r2 := Int32.toInt_lt (m.1 714)
      rw [b1, I_le (by decide) (by decide) (by omega) (by omega)] at h
      rw [I_lt (by omega) (by omega) (by omega) (by omega)] at y
      omega
  rw [decide_eq_false z]
  rfl
theorem l_flt {k : Nat} {x y : Int32} (hx : x = I (tk : Nat)) (hy : y = I (k : Nat)) (ht : tk ≤ 4002) (hk : k ≤ 15) : PP RA (bnd (jm_Cm_fault N m x y) f) B := by
  rw [hx, hy, flt_n ht hk]
  exact pp_nl
theorem l_ntg {x : Int32} (hg : decide (m.1 712 = 0) = !g) (hx : x = I (tk : Nat)) (ht : tk ≤ 4002) (h : g = false → PP RA (f m ()) B) : PP RA (bnd (jm_Cm_notInGuard N m x) f) B := by
  unfold jm_Cm_notInGuard jb_Cm_notInGuard_0 jb_Cm_notInGuard_14
  rw [hg]
  cases g with
  | false => exact h rfl
  | true =>
    show PP RA (bnd (br false _ (bnd (jm_Cm_fault N m x 7) _)) f) B
    rw [br_fq, hx, show (7 : Int32) = I ((7 : Nat) : Int) from rfl, flt_n ht (by decide)]
    exact pp_nl
theorem exd_1 (hn : n ≤ 8015) (h : m.2.2.1 16 n = I 1) (hh : PP R (bnd (jm_Co_put N m 1) (fun u24 r24 => ck (inb (I (n : Nat)) 8016) (bnd (jm_Cm_term N u24 0 (u24.2.2.1 18 n)) (fun u31 r31 => jb_Cm_expression_359 N S () u31)))) B) : PP R (jm_Cm_expression N S m (I (n : Nat)) v2) B := by
  unfold jm_Cm_expression jb_Cm_expression_0
  refine l_ck (fun _ => l_ck (fun _ => ?_))
  rw [i_nt2 (show n ≤ 100000 by omega), h, decide_eq_true (show (I 1 = (1 : Int32)) by decide), br_tq]
  exact hh
theorem exd_2 (hn : n ≤ 8015) (h : m.2.2.1 16 n = I 2) (hh : PP R (bnd (jm_Co_put N m 1) (fun u33 r33 => ck (inb (I (n : Nat)) 8016) (bnd (jm_Cm_term N u33 1 (u33.2.2.1 18 n)) (fun u40 r40 => jb_Cm_expression_359 N S () u40)))) B) : PP R (jm_Cm_expression N S m (I (n : Nat)) v2) B := by
  unfold jm_Cm_expression jb_Cm_expression_0
  refine l_ck (fun _ => l_ck (fun _ => ?_))
  rw [i_nt2 (show n ≤ 100000 by omega), h, decide_eq_false (show ¬ (I 2 = (1 : Int32)) by decide), br_fq, decide_eq_true (show (I 2 = (2 : Int32)) by decide), br_tq]
  exact hh
theorem exd_3 (hn : n ≤ 8015) (h : m.2.2.1 16 n = I 3) (hh : PP R (ck (inb (I (n : Nat)) 8016) (br (decide ((m.2.2.1 18 n) = 0)) (jb_Cm_expression_221 N S () m ((I (n : Nat))) ((m.2.2.1 17 n))) (ck (inb (I (n : Nat)) 8016) (bnd (hm_Cm_isBound N m (m.2.2.1 18 n) (m.2.2.1 17 n) 0) (fun u51 r51 => br (decide (r51 = 0)) (jb_Cm_expression_221 N S () u51 ((I (n : Nat))) ((m.2.2.1 17 n))) (jb_Cm_expression_227 N S () u51 ((I (n : Nat))))))))) B) : PP R (jm_Cm_expression N S m (I (n : Nat)) v2) B := by
  unfold jm_Cm_expression jb_Cm_expression_0
  refine l_ck (fun _ => l_ck (fun _ => ?_))
  rw [i_nt2 (show n ≤ 100000 by omega), h, decide_eq_false (show ¬ (I 3 = (1 : Int32)) by decide), br_fq, decide_eq_false (show ¬ (I 3 = (2 : Int32)) by decide), br_fq, decide_eq_true (show (I 3 = (3 : Int32)) by decide), br_tq]
  exact hh
theorem exd_4 (hn : n ≤ 8015) (h : m.2.2.1 16 n = I 4) (hh : PP R (bnd (jm_Cm_notInGuard N m (m.2.2.1 17 n)) (fun u52 r52 => bnd (jm_Co_put N u52 2) (fun u54 r54 => bnd (jm_Cm_string N u54 (I (n : Nat))) (fun u56 r56 => jb_Cm_expression_359 N S () u56)))) B) : PP R (jm_Cm_expression N S m (I (n : Nat)) v2) B := by
  unfold jm_Cm_expression jb_Cm_expression_0
  refine l_ck (fun _ => l_ck (fun _ => ?_))
  rw [i_nt2 (show n ≤ 100000 by omega), h, decide_eq_false (show ¬ (I 4 = (1 : Int32)) by decide), br_fq, decide_eq_false (show ¬ (I 4 = (2 : Int32)) by decide), br_fq, decide_eq_false (show ¬ (I 4 = (3 : Int32)) by decide), br_fq, decide_eq_true (show (I 4 = (4 : Int32)) by decide), br_tq]
  exact hh
theorem exd_5 (hn : n ≤ 8015) (h : m.2.2.1 16 n = I 5) (hh : PP R (ck (inb (I (n : Nat)) 8016) (bnd (S.2.2.2.2.2.2.2.2.2.2.1 m (m.2.2.1 18 n) v2) (fun u62 r62 => jb_Cm_expression_359 N S () u62))) B) : PP R (jm_Cm_expression N S m (I (n : Nat)) v2) B := by
  unfold jm_Cm_expression jb_Cm_expression_0
  refine l_ck (fun _ => l_ck (fun _ => ?_))
  rw [i_nt2 (show n ≤ 100000 by omega), h, decide_eq_false (show ¬ (I 5 = (1 : Int32)) by decide), br_fq, decide_eq_false (show ¬ (I 5 = (2 : Int32)) by decide), br_fq, decide_eq_false (show ¬ (I 5 = (3 : Int32)) by decide), br_fq, decide_eq_false (show ¬ (I 5 = (4 : Int32)) by decide), br_fq, decide_eq_true (show (I 5 = (5 : Int32)) by decide), br_tq]
  exact hh
theorem exd_6 (hn : n ≤ 8015) (h : m.2.2.1 16 n = I 6) (hh : PP R (ck (inb (I (n : Nat)) 8016) (bnd (S.2.2.2.2.2.2.2.2.2.1 m (m.2.2.1 18 n)) (fun u68 r68 => bnd (jm_Co_put N u68 4) (fun u70 r70 => ck (inb (I (n : Nat)) 8016) (bnd (jm_Co_put N u70 (u70.2.2.1 19 n)) (fun u78 r78 => jb_Cm_expression_359 N S () u78)))))) B) : PP R (jm_Cm_expression N S m (I (n : Nat)) v2) B := by
  unfold jm_Cm_expression jb_Cm_expression_0
  refine l_ck (fun _ => l_ck (fun _ => ?_))
  rw [i_nt2 (show n ≤ 100000 by omega), h, decide_eq_false (show ¬ (I 6 = (1 : Int32)) by decide), br_fq, decide_eq_false (show ¬ (I 6 = (2 : Int32)) by decide), br_fq, decide_eq_false (show ¬ (I 6 = (3 : Int32)) by decide), br_fq, decide_eq_false (show ¬ (I 6 = (4 : Int32)) by decide), br_fq, decide_eq_false (show ¬ (I 6 = (5 : Int32)) by decide), br_fq, decide_eq_true (show (I 6 = (6 : Int32)) by decide), br_tq]
  exact hh
theorem exd_7 (hn : n ≤ 8015) (h : m.2.2.1 16 n = I 7) (hh : PP R (bnd (S.2.2.2.2.2.2.2.2.1 m (I (n : Nat))) (fun u80 r80 => jb_Cm_expression_359 N S () u80)) B) : PP R (jm_Cm_expression N S m (I (n : Nat)) v2) B := by
  unfold jm_Cm_expression jb_Cm_expression_0
  refine l_ck (fun _ => l_ck (fun _ => ?_))
  rw [i_nt2 (show n ≤ 100000 by omega), h, decide_eq_false (show ¬ (I 7 = (1 : Int32)) by decide), br_fq, decide_eq_false (show ¬ (I 7 = (2 : Int32)) by decide), br_fq, decide_eq_false (show ¬ (I 7 = (3 : Int32)) by decide), br_fq, decide_eq_false (show ¬ (I 7 = (4 : Int32)) by decide), br_fq, decide_eq_false (show ¬ (I 7 = (5 : Int32)) by decide), br_fq, decide_eq_false (show ¬ (I 7 = (6 : Int32)) by decide), br_fq, decide_eq_true (show (I 7 = (7 : Int32)) by decide), br_tq]
  exact hh
theorem exd_8 (hn : n ≤ 8015) (h : m.2.2.1 16 n = I 8) (hh : PP R (bnd (S.2.2.2.2.1 m (I (n : Nat)) v2) (fun u81 r81 => jb_Cm_expression_359 N S () u81)) B) : PP R (jm_Cm_expression N S m (I (n : Nat)) v2) B := by
  unfold jm_Cm_expression jb_Cm_expression_0
  refine l_ck (fun _ => l_ck (fun _ => ?_))
  rw [i_nt2 (show n ≤ 100000 by omega), h, decide_eq_false (show ¬ (I 8 = (1 : Int32)) by decide), br_fq, decide_eq_false (show ¬ (I 8 = (2 : Int32)) by decide), br_fq, decide_eq_false (show ¬ (I 8 = (3 : Int32)) by decide), br_fq, decide_eq_false (show ¬ (I 8 = (4 : Int32)) by decide), br_fq, decide_eq_false (show ¬ (I 8 = (5 : Int32)) by decide), br_fq, decide_eq_false (show ¬ (I 8 = (6 : Int32)) by decide), br_fq, decide_eq_false (show ¬ (I 8 = (7 : Int32)) by decide), br_fq, decide_eq_true (show (I 8 = (8 : Int32)) by decide), br_tq]
  exact hh
theorem exd_9 (hn : n ≤ 8015) (h : m.2.2.1 16 n = I 9) (hh : PP R (bnd (S.2.2.2.2.1 m (I (n : Nat)) v2) (fun u82 r82 => jb_Cm_expression_359 N S () u82)) B) : PP R (jm_Cm_expression N S m (I (n : Nat)) v2) B := by
  unfold jm_Cm_expression jb_Cm_expression_0
  refine l_ck (fun _ => l_ck (fun _ => ?_))
  rw [i_nt2 (show n ≤ 100000 by omega), h, decide_eq_false (show ¬ (I 9 = (1 : Int32)) by decide), br_fq, decide_eq_false (show ¬ (I 9 = (2 : Int32)) by decide), br_fq, decide_eq_false (show ¬ (I 9 = (3 : Int32)) by decide), br_fq, decide_eq_false (show ¬ (I 9 = (4 : Int32)) by decide), br_fq, decide_eq_false (show ¬ (I 9 = (5 : Int32)) by decide), br_fq, decide_eq_false (show ¬ (I 9 = (6 : Int32)) by decide), br_fq, decide_eq_false (show ¬ (I 9 = (7 : Int32)) by decide), br_fq, decide_eq_false (show ¬ (I 9 = (8 : Int32)) by decide), br_fq, decide_eq_true (show (I 9 = (9 : Int32)) by decide), br_tq]
  exact hh
theorem exd_10 (hn : n ≤ 8015) (h : m.2.2.1 16 n = I 10) (hh : PP R (bnd (S.2.2.2.2.1 m (I (n : Nat)) v2) (fun u83 r83 => jb_Cm_expression_359 N S () u83)) B) : PP R (jm_Cm_expression N S m (I (n : Nat)) v2) B := by
  unfold jm_Cm_expression jb_Cm_expression_0
  refine l_ck (fun _ => l_ck (fun _ => ?_))
  rw [i_nt2 (show n ≤ 100000 by omega), h, decide_eq_false (show ¬ (I 10 = (1 : Int32)) by decide), br_fq, decide_eq_false (show ¬ (I 10 = (2 : Int32)) by decide), br_fq, decide_eq_false (show ¬ (I 10 = (3 : Int32)) by decide), br_fq, decide_eq_false (show ¬ (I 10 = (4 : Int32)) by decide), br_fq, decide_eq_false (show ¬ (I 10 = (5 : Int32)) by decide), br_fq, decide_eq_false (show ¬ (I 10 = (6 : Int32)) by decide), br_fq, decide_eq_false (show ¬ (I 10 = (7 : Int32)) by decide), br_fq, decide_eq_false (show ¬ (I 10 = (8 : Int32)) by decide), br_fq, decide_eq_false (show ¬ (I 10 = (9 : Int32)) by decide), br_fq, decide_eq_true (show (I 10 = (10 : Int32)) by decide), br_tq]
  exact hh
theorem exd_11 (hn : n ≤ 8015) (h : m.2.2.1 16 n = I 11) (hh : PP R (bnd (S.2.2.2.2.1 m (I (n : Nat)) v2) (fun u84 r84 => jb_Cm_expression_359 N S () u84)) B) : PP R (jm_Cm_expression N S m (I (n : Nat)) v2) B := by
  unfold jm_Cm_expression jb_Cm_expression_0
  refine l_ck (fun _ => l_ck (fun _ => ?_))
  rw [i_nt2 (show n ≤ 100000 by omega), h, decide_eq_false (show ¬ (I 11 = (1 : Int32)) by decide), br_fq, decide_eq_false (show ¬ (I 11 = (2 : Int32)) by decide), br_fq, decide_eq_false (show ¬ (I 11 = (3 : Int32)) by decide), br_fq, decide_eq_false (show ¬ (I 11 = (4 : Int32)) by decide), br_fq, decide_eq_false (show ¬ (I 11 = (5 : Int32)) by decide), br_fq, decide_eq_false (show ¬ (I 11 = (6 : Int32)) by decide), br_fq, decide_eq_false (show ¬ (I 11 = (7 : Int32)) by decide), br_fq, decide_eq_false (show ¬ (I 11 = (8 : Int32)) by decide), br_fq, decide_eq_false (show ¬ (I 11 = (9 : Int32)) by decide), br_fq, decide_eq_false (show ¬ (I 11 = (10 : Int32)) by decide), br_fq, decide_eq_true (show (I 11 = (11 : Int32)) by decide), br_tq]
  exact hh
theorem exd_12 (hn : n ≤ 8015) (h : m.2.2.1 16 n = I 12) (hh : PP R (bnd (S.2.2.2.2.1 m (I (n : Nat)) v2) (fun u85 r85 => jb_Cm_expression_359 N S () u85)) B) : PP R (jm_Cm_expression N S m (I (n : Nat)) v2) B := by
  unfold jm_Cm_expression jb_Cm_expression_0
  refine l_ck (fun _ => l_ck (fun _ => ?_))
  rw [i_nt2 (show n ≤ 100000 by omega), h, decide_eq_false (show ¬ (I 12 = (1 : Int32)) by decide), br_fq, decide_eq_false (show ¬ (I 12 = (2 : Int32)) by decide), br_fq, decide_eq_false (show ¬ (I 12 = (3 : Int32)) by decide), br_fq, decide_eq_false (show ¬ (I 12 = (4 : Int32)) by decide), br_fq, decide_eq_false (show ¬ (I 12 = (5 : Int32)) by decide), br_fq, decide_eq_false (show ¬ (I 12 = (6 : Int32)) by decide), br_fq, decide_eq_false (show ¬ (I 12 = (7 : Int32)) by decide), br_fq, decide_eq_false (show ¬ (I 12 = (8 : Int32)) by decide), br_fq, decide_eq_false (show ¬ (I 12 = (9 : Int32)) by decide), br_fq, decide_eq_false (show ¬ (I 12 = (10 : Int32)) by decide), br_fq, decide_eq_false (show ¬ (I 12 = (11 : Int32)) by decide), br_fq, decide_eq_true (show (I 12 = (12 : Int32)) by decide), br_tq]
  exact hh
theorem exd_13 (hn : n ≤ 8015) (h : m.2.2.1 16 n = I 13) (hh : PP R (bnd (S.2.2.2.2.1 m (I (n : Nat)) v2) (fun u86 r86 => jb_Cm_expression_359 N S () u86)) B) : PP R (jm_Cm_expression N S m (I (n : Nat)) v2) B := by
  unfold jm_Cm_expression jb_Cm_expression_0
  refine l_ck (fun _ => l_ck (fun _ => ?_))
  rw [i_nt2 (show n ≤ 100000 by omega), h, decide_eq_false (show ¬ (I 13 = (1 : Int32)) by decide), br_fq, decide_eq_false (show ¬ (I 13 = (2 : Int32)) by decide), br_fq, decide_eq_false (show ¬ (I 13 = (3 : Int32)) by decide), br_fq, decide_eq_false (show ¬ (I 13 = (4 : Int32)) by decide), br_fq, decide_eq_false (show ¬ (I 13 = (5 : Int32)) by decide), br_fq, decide_eq_false (show ¬ (I 13 = (6 : Int32)) by decide), br_fq, decide_eq_false (show ¬ (I 13 = (7 : Int32)) by decide), br_fq, decide_eq_false (show ¬ (I 13 = (8 : Int32)) by decide), br_fq, decide_eq_false (show ¬ (I 13 = (9 : Int32)) by decide), br_fq, decide_eq_false (show ¬ (I 13 = (10 : Int32)) by decide), br_fq, decide_eq_false (show ¬ (I 13 = (11 : Int32)) by decide), br_fq, decide_eq_false (show ¬ (I 13 = (12 : Int32)) by decide), br_fq, decide_eq_true (show (I 13 = (13 : Int32)) by decide), br_tq]
  exact hh
theorem exd_14 (hn : n ≤ 8015) (h : m.2.2.1 16 n = I 14) (hh : PP R (bnd (S.2.2.2.2.2.2.1 m (I (n : Nat)) v2) (fun u87 r87 => jb_Cm_expression_359 N S () u87)) B) : PP R (jm_Cm_expression N S m (I (n : Nat)) v2) B := by
  unfold jm_Cm_expression jb_Cm_expression_0
  refine l_ck (fun _ => l_ck (fun _ => ?_))
  rw [i_nt2 (show n ≤ 100000 by omega), h, decide_eq_false (show ¬ (I 14 = (1 : Int32)) by decide), br_fq, decide_eq_false (show ¬ (I 14 = (2 : Int32)) by decide), br_fq, decide_eq_false (show ¬ (I 14 = (3 : Int32)) by decide), br_fq, decide_eq_false (show ¬ (I 14 = (4 : Int32)) by decide), br_fq, decide_eq_false (show ¬ (I 14 = (5 : Int32)) by decide), br_fq, decide_eq_false (show ¬ (I 14 = (6 : Int32)) by decide), br_fq, decide_eq_false (show ¬ (I 14 = (7 : Int32)) by decide), br_fq, decide_eq_false (show ¬ (I 14 = (8 : Int32)) by decide), br_fq, decide_eq_false (show ¬ (I 14 = (9 : Int32)) by decide), br_fq, decide_eq_false (show ¬ (I 14 = (10 : Int32)) by decide), br_fq, decide_eq_false (show ¬ (I 14 = (11 : Int32)) by decide), br_fq, decide_eq_false (show ¬ (I 14 = (12 : Int32)) by decide), br_fq, decide_eq_false (show ¬ (I 14 = (13 : Int32)) by decide), br_fq, decide_eq_true (show (I 14 = (14 : Int32)) by decide), br_tq]
  exact hh
theorem exd_15 (hn : n ≤ 8015) (h : m.2.2.1 16 n = I 15) (hh : PP R (bnd (S.2.2.2.2.2.1 m (I (n : Nat)) v2) (fun u88 r88 => jb_Cm_expression_359 N S () u88)) B) : PP R (jm_Cm_expression N S m (I (n : Nat)) v2) B := by
  unfold jm_Cm_expression jb_Cm_expression_0
  refine l_ck (fun _ => l_ck (fun _ => ?_))
  rw [i_nt2 (show n ≤ 100000 by omega), h, decide_eq_false (show ¬ (I 15 = (1 : Int32)) by decide), br_fq, decide_eq_false (show ¬ (I 15 = (2 : Int32)) by decide), br_fq, decide_eq_false (show ¬ (I 15 = (3 : Int32)) by decide), br_fq, decide_eq_false (show ¬ (I 15 = (4 : Int32)) by decide), br_fq, decide_eq_false (show ¬ (I 15 = (5 : Int32)) by decide), br_fq, decide_eq_false (show ¬ (I 15 = (6 : Int32)) by decide), br_fq, decide_eq_false (show ¬ (I 15 = (7 : Int32)) by decide), br_fq, decide_eq_false (show ¬ (I 15 = (8 : Int32)) by decide), br_fq, decide_eq_false (show ¬ (I 15 = (9 : Int32)) by decide), br_fq, decide_eq_false (show ¬ (I 15 = (10 : Int32)) by decide), br_fq, decide_eq_false (show ¬ (I 15 = (11 : Int32)) by decide), br_fq, decide_eq_false (show ¬ (I 15 = (12 : Int32)) by decide), br_fq, decide_eq_false (show ¬ (I 15 = (13 : Int32)) by decide), br_fq, decide_eq_false (show ¬ (I 15 = (14 : Int32)) by decide), br_fq, decide_eq_true (show (I 15 = (15 : Int32)) by decide), br_tq]
  exact hh
theorem exd_16 (hn : n ≤ 8015) (h : m.2.2.1 16 n = I 16) (hh : PP R (bnd (S.2.2.2.2.1 m (I (n : Nat)) v2) (fun u89 r89 => jb_Cm_expression_359 N S () u89)) B) : PP R (jm_Cm_expression N S m (I (n : Nat)) v2) B := by
  unfold jm_Cm_expression jb_Cm_expression_0
  refine l_ck (fun _ => l_ck (fun _ => ?_))
  rw [i_nt2 (show n ≤ 100000 by omega), h, decide_eq_false (show ¬ (I 16 = (1 : Int32)) by decide), br_fq, decide_eq_false (show ¬ (I 16 = (2 : Int32)) by decide), br_fq, decide_eq_false (show ¬ (I 16 = (3 : Int32)) by decide), br_fq, decide_eq_false (show ¬ (I 16 = (4 : Int32)) by decide), br_fq, decide_eq_false (show ¬ (I 16 = (5 : Int32)) by decide), br_fq, decide_eq_false (show ¬ (I 16 = (6 : Int32)) by decide), br_fq, decide_eq_false (show ¬ (I 16 = (7 : Int32)) by decide), br_fq, decide_eq_false (show ¬ (I 16 = (8 : Int32)) by decide), br_fq, decide_eq_false (show ¬ (I 16 = (9 : Int32)) by decide), br_fq, decide_eq_false (show ¬ (I 16 = (10 : Int32)) by decide), br_fq, decide_eq_false (show ¬ (I 16 = (11 : Int32)) by decide), br_fq, decide_eq_false (show ¬ (I 16 = (12 : Int32)) by decide), br_fq, decide_eq_false (show ¬ (I 16 = (13 : Int32)) by decide), br_fq, decide_eq_false (show ¬ (I 16 = (14 : Int32)) by decide), br_fq, decide_eq_false (show ¬ (I 16 = (15 : Int32)) by decide), br_fq, decide_eq_true (show (I 16 = (16 : Int32)) by decide), br_tq]
  exact hh
theorem exd_17 (hn : n ≤ 8015) (h : m.2.2.1 16 n = I 17) (hh : PP R (bnd (S.2.2.2.2.1 m (I (n : Nat)) v2) (fun u90 r90 => jb_Cm_expression_359 N S () u90)) B) : PP R (jm_Cm_expression N S m (I (n : Nat)) v2) B := by
  unfold jm_Cm_expression jb_Cm_expression_0
  refine l_ck (fun _ => l_ck (fun _ => ?_))
  rw [i_nt2 (show n ≤ 100000 by omega), h, decide_eq_false (show ¬ (I 17 = (1 : Int32)) by decide), br_fq, decide_eq_false (show ¬ (I 17 = (2 : Int32)) by decide), br_fq, decide_eq_false (show ¬ (I 17 = (3 : Int32)) by decide), br_fq, decide_eq_false (show ¬ (I 17 = (4 : Int32)) by decide), br_fq, decide_eq_false (show ¬ (I 17 = (5 : Int32)) by decide), br_fq, decide_eq_false (show ¬ (I 17 = (6 : Int32)) by decide), br_fq, decide_eq_false (show ¬ (I 17 = (7 : Int32)) by decide), br_fq, decide_eq_false (show ¬ (I 17 = (8 : Int32)) by decide), br_fq, decide_eq_false (show ¬ (I 17 = (9 : Int32)) by decide), br_fq, decide_eq_false (show ¬ (I 17 = (10 : Int32)) by decide), br_fq, decide_eq_false (show ¬ (I 17 = (11 : Int32)) by decide), br_fq, decide_eq_false (show ¬ (I 17 = (12 : Int32)) by decide), br_fq, decide_eq_false (show ¬ (I 17 = (13 : Int32)) by decide), br_fq, decide_eq_false (show ¬ (I 17 = (14 : Int32)) by decide), br_fq, decide_eq_false (show ¬ (I 17 = (15 : Int32)) by decide), br_fq, decide_eq_false (show ¬ (I 17 = (16 : Int32)) by decide), br_fq, decide_eq_true (show (I 17 = (17 : Int32)) by decide), br_tq]
  exact hh
theorem exd_18 (hn : n ≤ 8015) (h : m.2.2.1 16 n = I 18) (hh : PP R (bnd (S.2.2.2.2.1 m (I (n : Nat)) v2) (fun u91 r91 => jb_Cm_expression_359 N S () u91)) B) : PP R (jm_Cm_expression N S m (I (n : Nat)) v2) B := by
  unfold jm_Cm_expression jb_Cm_expression_0
  refine l_ck (fun _ => l_ck (fun _ => ?_))
  rw [i_nt2 (show n ≤ 100000 by omega), h, decide_eq_false (show ¬ (I 18 = (1 : Int32)) by decide), br_fq, decide_eq_false (show ¬ (I 18 = (2 : Int32)) by decide), br_fq, decide_eq_false (show ¬ (I 18 = (3 : Int32)) by decide), br_fq, decide_eq_false (show ¬ (I 18 = (4 : Int32)) by decide), br_fq, decide_eq_false (show ¬ (I 18 = (5 : Int32)) by decide), br_fq, decide_eq_false (show ¬ (I 18 = (6 : Int32)) by decide), br_fq, decide_eq_false (show ¬ (I 18 = (7 : Int32)) by decide), br_fq, decide_eq_false (show ¬ (I 18 = (8 : Int32)) by decide), br_fq, decide_eq_false (show ¬ (I 18 = (9 : Int32)) by decide), br_fq, decide_eq_false (show ¬ (I 18 = (10 : Int32)) by decide), br_fq, decide_eq_false (show ¬ (I 18 = (11 : Int32)) by decide), br_fq, decide_eq_false (show ¬ (I 18 = (12 : Int32)) by decide), br_fq, decide_eq_false (show ¬ (I 18 = (13 : Int32)) by decide), br_fq, decide_eq_false (show ¬ (I 18 = (14 : Int32)) by decide), br_fq, decide_eq_false (show ¬ (I 18 = (15 : Int32)) by decide), br_fq, decide_eq_false (show ¬ (I 18 = (16 : Int32)) by decide), br_fq, decide_eq_false (show ¬ (I 18 = (17 : Int32)) by decide), br_fq, decide_eq_true (show (I 18 = (18 : Int32)) by decide), br_tq]
  exact hh
theorem exd_19 (hn : n ≤ 8015) (h : m.2.2.1 16 n = I 19) (hh : PP R (bnd (S.2.2.2.2.1 m (I (n : Nat)) v2) (fun u92 r92 => jb_Cm_expression_359 N S () u92)) B) : PP R (jm_Cm_expression N S m (I (n : Nat)) v2) B := by
  unfold jm_Cm_expression jb_Cm_expression_0
  refine l_ck (fun _ => l_ck (fun _ => ?_))
  rw [i_nt2 (show n ≤ 100000 by omega), h, decide_eq_false (show ¬ (I 19 = (1 : Int32)) by decide), br_fq, decide_eq_false (show ¬ (I 19 = (2 : Int32)) by decide), br_fq, decide_eq_false (show ¬ (I 19 = (3 : Int32)) by decide), br_fq, decide_eq_false (show ¬ (I 19 = (4 : Int32)) by decide), br_fq, decide_eq_false (show ¬ (I 19 = (5 : Int32)) by decide), br_fq, decide_eq_false (show ¬ (I 19 = (6 : Int32)) by decide), br_fq, decide_eq_false (show ¬ (I 19 = (7 : Int32)) by decide), br_fq, decide_eq_false (show ¬ (I 19 = (8 : Int32)) by decide), br_fq, decide_eq_false (show ¬ (I 19 = (9 : Int32)) by decide), br_fq, decide_eq_false (show ¬ (I 19 = (10 : Int32)) by decide), br_fq, decide_eq_false (show ¬ (I 19 = (11 : Int32)) by decide), br_fq, decide_eq_false (show ¬ (I 19 = (12 : Int32)) by decide), br_fq, decide_eq_false (show ¬ (I 19 = (13 : Int32)) by decide), br_fq, decide_eq_false (show ¬ (I 19 = (14 : Int32)) by decide), br_fq, decide_eq_false (show ¬ (I 19 = (15 : Int32)) by decide), br_fq, decide_eq_false (show ¬ (I 19 = (16 : Int32)) by decide), br_fq, decide_eq_false (show ¬ (I 19 = (17 : Int32)) by decide), br_fq, decide_eq_false (show ¬ (I 19 = (18 : Int32)) by decide), br_fq, decide_eq_true (show (I 19 = (19 : Int32)) by decide), br_tq]
  exact hh
theorem exd_20 (hn : n ≤ 8015) (h : m.2.2.1 16 n = I 20) (hh : PP R (bnd (S.2.2.2.2.1 m (I (n : Nat)) v2) (fun u93 r93 => jb_Cm_expression_359 N S () u93)) B) : PP R (jm_Cm_expression N S m (I (n : Nat)) v2) B := by
  unfold jm_Cm_expression jb_Cm_expression_0
  refine l_ck (fun _ => l_ck (fun _ => ?_))
  rw [i_nt2 (show n ≤ 100000 by omega), h, decide_eq_false (show ¬ (I 20 = (1 : Int32)) by decide), br_fq, decide_eq_false (show ¬ (I 20 = (2 : Int32)) by decide), br_fq, decide_eq_false (show ¬ (I 20 = (3 : Int32)) by decide), br_fq, decide_eq_false (show ¬ (I 20 = (4 : Int32)) by decide), br_fq, decide_eq_false (show ¬ (I 20 = (5 : Int32)) by decide), br_fq, decide_eq_false (show ¬ (I 20 = (6 : Int32)) by decide), br_fq, decide_eq_false (show ¬ (I 20 = (7 : Int32)) by decide), br_fq, decide_eq_false (show ¬ (I 20 = (8 : Int32)) by decide), br_fq, decide_eq_false (show ¬ (I 20 = (9 : Int32)) by decide), br_fq, decide_eq_false (show ¬ (I 20 = (10 : Int32)) by decide), br_fq, decide_eq_false (show ¬ (I 20 = (11 : Int32)) by decide), br_fq, decide_eq_false (show ¬ (I 20 = (12 : Int32)) by decide), br_fq, decide_eq_false (show ¬ (I 20 = (13 : Int32)) by decide), br_fq, decide_eq_false (show ¬ (I 20 = (14 : Int32)) by decide), br_fq, decide_eq_false (show ¬ (I 20 = (15 : Int32)) by decide), br_fq, decide_eq_false (show ¬ (I 20 = (16 : Int32)) by decide), br_fq, decide_eq_false (show ¬ (I 20 = (17 : Int32)) by decide), br_fq, decide_eq_false (show ¬ (I 20 = (18 : Int32)) by decide), br_fq, decide_eq_false (show ¬ (I 20 = (19 : Int32)) by decide), br_fq, decide_eq_true (show (I 20 = (20 : Int32)) by decide), br_tq]
  exact hh
theorem exd_21 (hn : n ≤ 8015) (h : m.2.2.1 16 n = I 21) (hh : PP R (bnd (S.2.2.2.2.1 m (I (n : Nat)) v2) (fun u94 r94 => jb_Cm_expression_359 N S () u94)) B) : PP R (jm_Cm_expression N S m (I (n : Nat)) v2) B := by
  unfold jm_Cm_expression jb_Cm_expression_0
  refine l_ck (fun _ => l_ck (fun _ => ?_))
  rw [i_nt2 (show n ≤ 100000 by omega), h, decide_eq_false (show ¬ (I 21 = (1 : Int32)) by decide), br_fq, decide_eq_false (show ¬ (I 21 = (2 : Int32)) by decide), br_fq, decide_eq_false (show ¬ (I 21 = (3 : Int32)) by decide), br_fq, decide_eq_false (show ¬ (I 21 = (4 : Int32)) by decide), br_fq, decide_eq_false (show ¬ (I 21 = (5 : Int32)) by decide), br_fq, decide_eq_false (show ¬ (I 21 = (6 : Int32)) by decide), br_fq, decide_eq_false (show ¬ (I 21 = (7 : Int32)) by decide), br_fq, decide_eq_false (show ¬ (I 21 = (8 : Int32)) by decide), br_fq, decide_eq_false (show ¬ (I 21 = (9 : Int32)) by decide), br_fq, decide_eq_false (show ¬ (I 21 = (10 : Int32)) by decide), br_fq, decide_eq_false (show ¬ (I 21 = (11 : Int32)) by decide), br_fq, decide_eq_false (show ¬ (I 21 = (12 : Int32)) by decide), br_fq, decide_eq_false (show ¬ (I 21 = (13 : Int32)) by decide), br_fq, decide_eq_false (show ¬ (I 21 = (14 : Int32)) by decide), br_fq, decide_eq_false (show ¬ (I 21 = (15 : Int32)) by decide), br_fq, decide_eq_false (show ¬ (I 21 = (16 : Int32)) by decide), br_fq, decide_eq_false (show ¬ (I 21 = (17 : Int32)) by decide), br_fq, decide_eq_false (show ¬ (I 21 = (18 : Int32)) by decide), br_fq, decide_eq_false (show ¬ (I 21 = (19 : Int32)) by decide), br_fq, decide_eq_false (show ¬ (I 21 = (20 : Int32)) by decide), br_fq, decide_eq_true (show (I 21 = (21 : Int32)) by decide), br_tq]
  exact hh
theorem exd_22 (hn : n ≤ 8015) (h : m.2.2.1 16 n = I 22) (hh : PP R (ck (inb (I (n : Nat)) 8016) (bnd (S.2.2.2.2.2.2.2.1 m (m.2.2.1 18 n)) (fun u100 r100 => jb_Cm_expression_359 N S () u100))) B) : PP R (jm_Cm_expression N S m (I (n : Nat)) v2) B := by
  unfold jm_Cm_expression jb_Cm_expression_0
  refine l_ck (fun _ => l_ck (fun _ => ?_))
  rw [i_nt2 (show n ≤ 100000 by omega), h, decide_eq_false (show ¬ (I 22 = (1 : Int32)) by decide), br_fq, decide_eq_false (show ¬ (I 22 = (2 : Int32)) by decide), br_fq, decide_eq_false (show ¬ (I 22 = (3 : Int32)) by decide), br_fq, decide_eq_false (show ¬ (I 22 = (4 : Int32)) by decide), br_fq, decide_eq_false (show ¬ (I 22 = (5 : Int32)) by decide), br_fq, decide_eq_false (show ¬ (I 22 = (6 : Int32)) by decide), br_fq, decide_eq_false (show ¬ (I 22 = (7 : Int32)) by decide), br_fq, decide_eq_false (show ¬ (I 22 = (8 : Int32)) by decide), br_fq, decide_eq_false (show ¬ (I 22 = (9 : Int32)) by decide), br_fq, decide_eq_false (show ¬ (I 22 = (10 : Int32)) by decide), br_fq, decide_eq_false (show ¬ (I 22 = (11 : Int32)) by decide), br_fq, decide_eq_false (show ¬ (I 22 = (12 : Int32)) by decide), br_fq, decide_eq_false (show ¬ (I 22 = (13 : Int32)) by decide), br_fq, decide_eq_false (show ¬ (I 22 = (14 : Int32)) by decide), br_fq, decide_eq_false (show ¬ (I 22 = (15 : Int32)) by decide), br_fq, decide_eq_false (show ¬ (I 22 = (16 : Int32)) by decide), br_fq, decide_eq_false (show ¬ (I 22 = (17 : Int32)) by decide), br_fq, decide_eq_false (show ¬ (I 22 = (18 : Int32)) by decide), br_fq, decide_eq_false (show ¬ (I 22 = (19 : Int32)) by decide), br_fq, decide_eq_false (show ¬ (I 22 = (20 : Int32)) by decide), br_fq, decide_eq_false (show ¬ (I 22 = (21 : Int32)) by decide), br_fq, decide_eq_true (show (I 22 = (22 : Int32)) by decide), br_tq]
  exact hh
theorem exd_25 (hn : n ≤ 8015) (h : m.2.2.1 16 n = I 25) (hh : PP R (bnd (S.2.2.2.2.1 m (I (n : Nat)) v2) (fun u101 r101 => jb_Cm_expression_359 N S () u101)) B) : PP R (jm_Cm_expression N S m (I (n : Nat)) v2) B := by
  unfold jm_Cm_expression jb_Cm_expression_0
  refine l_ck (fun _ => l_ck (fun _ => ?_))
  rw [i_nt2 (show n ≤ 100000 by omega), h, decide_eq_false (show ¬ (I 25 = (1 : Int32)) by decide), br_fq, decide_eq_false (show ¬ (I 25 = (2 : Int32)) by decide), br_fq, decide_eq_false (show ¬ (I 25 = (3 : Int32)) by decide), br_fq, decide_eq_false (show ¬ (I 25 = (4 : Int32)) by decide), br_fq, decide_eq_false (show ¬ (I 25 = (5 : Int32)) by decide), br_fq, decide_eq_false (show ¬ (I 25 = (6 : Int32)) by decide), br_fq, decide_eq_false (show ¬ (I 25 = (7 : Int32)) by decide), br_fq, decide_eq_false (show ¬ (I 25 = (8 : Int32)) by decide), br_fq, decide_eq_false (show ¬ (I 25 = (9 : Int32)) by decide), br_fq, decide_eq_false (show ¬ (I 25 = (10 : Int32)) by decide), br_fq, decide_eq_false (show ¬ (I 25 = (11 : Int32)) by decide), br_fq, decide_eq_false (show ¬ (I 25 = (12 : Int32)) by decide), br_fq, decide_eq_false (show ¬ (I 25 = (13 : Int32)) by decide), br_fq, decide_eq_false (show ¬ (I 25 = (14 : Int32)) by decide), br_fq, decide_eq_false (show ¬ (I 25 = (15 : Int32)) by decide), br_fq, decide_eq_false (show ¬ (I 25 = (16 : Int32)) by decide), br_fq, decide_eq_false (show ¬ (I 25 = (17 : Int32)) by decide), br_fq, decide_eq_false (show ¬ (I 25 = (18 : Int32)) by decide), br_fq, decide_eq_false (show ¬ (I 25 = (19 : Int32)) by decide), br_fq, decide_eq_false (show ¬ (I 25 = (20 : Int32)) by decide), br_fq, decide_eq_false (show ¬ (I 25 = (21 : Int32)) by decide), br_fq, decide_eq_false (show ¬ (I 25 = (22 : Int32)) by decide), br_fq]
  exact hh
theorem cmd_8 (hn : n ≤ 8015) (h : m.2.2.1 16 n = I 8) (hg : decide (m.1 712 = 0) = !g) (h17 : m.2.2.1 17 n = I (tk : Nat)) (ht : tk ≤ 4002) (hh : g = false → PP R (ck (inb (I (n : Nat)) 8016) (bnd (S.2.2.2.1 m (m.2.2.1 18 n) v2) (fun u42 r42 => bnd (jm_Cm_forget N u42 (m.1 706)) (fun u43 r43 => jb_Cm_compound_455 N S () u43)))) B) : PP R (jm_Cm_compound N S m (I (n : Nat)) v2) B := by
  unfold jm_Cm_compound jb_Cm_compound_0
  refine l_ck (fun _ => ?_)
  rw [i_nt2 (show n ≤ 100000 by omega), h, decide_eq_false (show ¬ (I 8 = (17 : Int32)) by decide), br_fq, decide_eq_false (show ¬ (I 8 = (18 : Int32)) by decide), br_fq]
  refine l_ck (fun _ => l_ck (fun _ => l_ntg hg h17 ht (fun hf => l_ck (fun _ => ?_))))
  rw [h, decide_eq_true (show (I 8 = (8 : Int32)) by decide), br_tq]
  exact hh hf
theorem cmd_9 (hn : n ≤ 8015) (h : m.2.2.1 16 n = I 9) (hg : decide (m.1 712 = 0) = !g) (h17 : m.2.2.1 17 n = I (tk : Nat)) (ht : tk ≤ 4002) (hh : g = false → PP R (ck (inb (I (n : Nat)) 8016) (bnd (S.2.2.2.2.2.2.2.2.2.2.1 m (m.2.2.1 18 n) 0) (fun u49 r49 => ck (inb (I (n : Nat)) 8016) (bnd (S.2.2.1 u49 (u49.2.2.1 19 n) (-1) 15 v2) (fun u55 r55 => bnd (jm_Co_put N u55 37) (fun u57 r57 => bnd (hm_Co_arrive N u57 r55) (fun u60 r60 => jb_Cm_compound_455 N S () u60))))))) B) : PP R (jm_Cm_compound N S m (I (n : Nat)) v2) B := by
  unfold jm_Cm_compound jb_Cm_compound_0
  refine l_ck (fun _ => ?_)
  rw [i_nt2 (show n ≤ 100000 by omega), h, decide_eq_false (show ¬ (I 9 = (17 : Int32)) by decide), br_fq, decide_eq_false (show ¬ (I 9 = (18 : Int32)) by decide), br_fq]
  refine l_ck (fun _ => l_ck (fun _ => l_ntg hg h17 ht (fun hf => l_ck (fun _ => ?_))))
  rw [h, decide_eq_false (show ¬ (I 9 = (8 : Int32)) by decide), br_fq, decide_eq_true (show (I 9 = (9 : Int32)) by decide), br_tq]
  exact hh hf
theorem cmd_10 (hn : n ≤ 8015) (h : m.2.2.1 16 n = I 10) (hg : decide (m.1 712 = 0) = !g) (h17 : m.2.2.1 17 n = I (tk : Nat)) (ht : tk ≤ 4002) (hh : g = false → PP R (ck (inb (I (n : Nat)) 8016) (bnd (S.2.2.1 m (m.2.2.1 19 n) (-1) 0 v2) (fun u67 r67 => bnd (jm_Co_put N u67 38) (fun u69 r69 => bnd (hm_Co_arrive N u69 r67) (fun u72 r72 => jb_Cm_compound_455 N S () u72))))) B) : PP R (jm_Cm_compound N S m (I (n : Nat)) v2) B := by
  unfold jm_Cm_compound jb_Cm_compound_0
  refine l_ck (fun _ => ?_)
  rw [i_nt2 (show n ≤ 100000 by omega), h, decide_eq_false (show ¬ (I 10 = (17 : Int32)) by decide), br_fq, decide_eq_false (show ¬ (I 10 = (18 : Int32)) by decide), br_fq]
  refine l_ck (fun _ => l_ck (fun _ => l_ntg hg h17 ht (fun hf => l_ck (fun _ => ?_))))
  rw [h, decide_eq_false (show ¬ (I 10 = (8 : Int32)) by decide), br_fq, decide_eq_false (show ¬ (I 10 = (9 : Int32)) by decide), br_fq, decide_eq_true (show (I 10 = (10 : Int32)) by decide), br_tq]
  exact hh hf
theorem cmd_11 (hn : n ≤ 8015) (h : m.2.2.1 16 n = I 11) (hg : decide (m.1 712 = 0) = !g) (h17 : m.2.2.1 17 n = I (tk : Nat)) (ht : tk ≤ 4002) (hh : g = false → PP R (bnd (S.2.1 m (I (n : Nat)) v2) (fun u74 r74 => jb_Cm_compound_455 N S () u74)) B) : PP R (jm_Cm_compound N S m (I (n : Nat)) v2) B := by
  unfold jm_Cm_compound jb_Cm_compound_0
  refine l_ck (fun _ => ?_)
  rw [i_nt2 (show n ≤ 100000 by omega), h, decide_eq_false (show ¬ (I 11 = (17 : Int32)) by decide), br_fq, decide_eq_false (show ¬ (I 11 = (18 : Int32)) by decide), br_fq]
  refine l_ck (fun _ => l_ck (fun _ => l_ntg hg h17 ht (fun hf => l_ck (fun _ => ?_))))
  rw [h, decide_eq_false (show ¬ (I 11 = (8 : Int32)) by decide), br_fq, decide_eq_false (show ¬ (I 11 = (9 : Int32)) by decide), br_fq, decide_eq_false (show ¬ (I 11 = (10 : Int32)) by decide), br_fq, decide_eq_true (show (I 11 = (11 : Int32)) by decide), br_tq]
  exact hh hf
theorem cmd_12 (hn : n ≤ 8015) (h : m.2.2.1 16 n = I 12) (hg : decide (m.1 712 = 0) = !g) (h17 : m.2.2.1 17 n = I (tk : Nat)) (ht : tk ≤ 4002) (hh : g = false → PP R (bnd (S.1 m (I (n : Nat))) (fun u75 r75 => jb_Cm_compound_455 N S () u75)) B) : PP R (jm_Cm_compound N S m (I (n : Nat)) v2) B := by
  unfold jm_Cm_compound jb_Cm_compound_0
  refine l_ck (fun _ => ?_)
  rw [i_nt2 (show n ≤ 100000 by omega), h, decide_eq_false (show ¬ (I 12 = (17 : Int32)) by decide), br_fq, decide_eq_false (show ¬ (I 12 = (18 : Int32)) by decide), br_fq]
  refine l_ck (fun _ => l_ck (fun _ => l_ntg hg h17 ht (fun hf => l_ck (fun _ => ?_))))
  rw [h, decide_eq_false (show ¬ (I 12 = (8 : Int32)) by decide), br_fq, decide_eq_false (show ¬ (I 12 = (9 : Int32)) by decide), br_fq, decide_eq_false (show ¬ (I 12 = (10 : Int32)) by decide), br_fq, decide_eq_false (show ¬ (I 12 = (11 : Int32)) by decide), br_fq, decide_eq_true (show (I 12 = (12 : Int32)) by decide), br_tq]
  exact hh hf
theorem cmd_13 (hn : n ≤ 8015) (h : m.2.2.1 16 n = I 13) (hg : decide (m.1 712 = 0) = !g) (h17 : m.2.2.1 17 n = I (tk : Nat)) (ht : tk ≤ 4002) (hh : g = false → PP R (bnd (jm_Cm_funOf N m (I (n : Nat))) (fun u76 r76 => jb_Cm_compound_455 N S () u76)) B) : PP R (jm_Cm_compound N S m (I (n : Nat)) v2) B := by
  unfold jm_Cm_compound jb_Cm_compound_0
  refine l_ck (fun _ => ?_)
  rw [i_nt2 (show n ≤ 100000 by omega), h, decide_eq_false (show ¬ (I 13 = (17 : Int32)) by decide), br_fq, decide_eq_false (show ¬ (I 13 = (18 : Int32)) by decide), br_fq]
  refine l_ck (fun _ => l_ck (fun _ => l_ntg hg h17 ht (fun hf => l_ck (fun _ => ?_))))
  rw [h, decide_eq_false (show ¬ (I 13 = (8 : Int32)) by decide), br_fq, decide_eq_false (show ¬ (I 13 = (9 : Int32)) by decide), br_fq, decide_eq_false (show ¬ (I 13 = (10 : Int32)) by decide), br_fq, decide_eq_false (show ¬ (I 13 = (11 : Int32)) by decide), br_fq, decide_eq_false (show ¬ (I 13 = (12 : Int32)) by decide), br_fq, decide_eq_true (show (I 13 = (13 : Int32)) by decide), br_tq]
  exact hh hf
theorem cmd_19 (hn : n ≤ 8015) (h : m.2.2.1 16 n = I 19) (hg : decide (m.1 712 = 0) = !g) (h17 : m.2.2.1 17 n = I (tk : Nat)) (ht : tk ≤ 4002) (hh : g = false → PP R (bnd (jm_Co_put N m 29) (fun u78 r78 => bnd (jm_Co_hook N u78 0) (fun u81 r81 => ck (inb (I (n : Nat)) 8016) (bnd (S.2.2.2.2.2.2.2.2.2.2.1 u81 (u81.2.2.1 18 n) 0) (fun u88 r88 => bnd (jm_Co_put N u88 30) (fun u90 r90 => bnd (jm_Cm_forget N u90 (m.1 706)) (fun u92 r92 => bnd (hm_Co_arrive N u92 r81) (fun u94 r94 => jb_Cm_compound_455 N S () u94)))))))) B) : PP R (jm_Cm_compound N S m (I (n : Nat)) v2) B := by
  unfold jm_Cm_compound jb_Cm_compound_0
  refine l_ck (fun _ => ?_)
  rw [i_nt2 (show n ≤ 100000 by omega), h, decide_eq_false (show ¬ (I 19 = (17 : Int32)) by decide), br_fq, decide_eq_false (show ¬ (I 19 = (18 : Int32)) by decide), br_fq]
  refine l_ck (fun _ => l_ck (fun _ => l_ntg hg h17 ht (fun hf => l_ck (fun _ => ?_))))
  rw [h, decide_eq_false (show ¬ (I 19 = (8 : Int32)) by decide), br_fq, decide_eq_false (show ¬ (I 19 = (9 : Int32)) by decide), br_fq, decide_eq_false (show ¬ (I 19 = (10 : Int32)) by decide), br_fq, decide_eq_false (show ¬ (I 19 = (11 : Int32)) by decide), br_fq, decide_eq_false (show ¬ (I 19 = (12 : Int32)) by decide), br_fq, decide_eq_false (show ¬ (I 19 = (13 : Int32)) by decide), br_fq, decide_eq_false (show ¬ (I 19 = (14 : Int32)) by decide), br_fq, decide_eq_false (show ¬ (I 19 = (15 : Int32)) by decide), br_fq, decide_eq_false (show ¬ (I 19 = (16 : Int32)) by decide), br_fq, decide_eq_false (show ¬ (I 19 = (17 : Int32)) by decide), br_fq, decide_eq_false (show ¬ (I 19 = (18 : Int32)) by decide), br_fq, decide_eq_true (show (I 19 = (19 : Int32)) by decide), br_tq]
  exact hh hf
theorem cmd_20 (hn : n ≤ 8015) (h : m.2.2.1 16 n = I 20) (hg : decide (m.1 712 = 0) = !g) (h17 : m.2.2.1 17 n = I (tk : Nat)) (ht : tk ≤ 4002) (hh : g = false → PP R (ck (inb (I (n : Nat)) 8016) (bnd (S.2.2.2.2.2.2.2.2.2.2.1 m (m.2.2.1 19 n) 0) (fun u101 r101 => bnd (jm_Co_put N u101 20) (fun u103 r103 => ck (inb (I (n : Nat)) 8016) (bnd (jr_Cm_pattern N u103 (u103.2.2.1 18 n)) (fun u110 r110 => bnd (jm_Co_put N u110 8) (fun u112 r112 => jb_Cm_compound_455 N S () u112))))))) B) : PP R (jm_Cm_compound N S m (I (n : Nat)) v2) B := by
  unfold jm_Cm_compound jb_Cm_compound_0
  refine l_ck (fun _ => ?_)
  rw [i_nt2 (show n ≤ 100000 by omega), h, decide_eq_false (show ¬ (I 20 = (17 : Int32)) by decide), br_fq, decide_eq_false (show ¬ (I 20 = (18 : Int32)) by decide), br_fq]
  refine l_ck (fun _ => l_ck (fun _ => l_ntg hg h17 ht (fun hf => l_ck (fun _ => ?_))))
  rw [h, decide_eq_false (show ¬ (I 20 = (8 : Int32)) by decide), br_fq, decide_eq_false (show ¬ (I 20 = (9 : Int32)) by decide), br_fq, decide_eq_false (show ¬ (I 20 = (10 : Int32)) by decide), br_fq, decide_eq_false (show ¬ (I 20 = (11 : Int32)) by decide), br_fq, decide_eq_false (show ¬ (I 20 = (12 : Int32)) by decide), br_fq, decide_eq_false (show ¬ (I 20 = (13 : Int32)) by decide), br_fq, decide_eq_false (show ¬ (I 20 = (14 : Int32)) by decide), br_fq, decide_eq_false (show ¬ (I 20 = (15 : Int32)) by decide), br_fq, decide_eq_false (show ¬ (I 20 = (16 : Int32)) by decide), br_fq, decide_eq_false (show ¬ (I 20 = (17 : Int32)) by decide), br_fq, decide_eq_false (show ¬ (I 20 = (18 : Int32)) by decide), br_fq, decide_eq_false (show ¬ (I 20 = (19 : Int32)) by decide), br_fq, decide_eq_true (show (I 20 = (20 : Int32)) by decide), br_tq]
  exact hh hf
theorem cmd_21 (hn : n ≤ 8015) (h : m.2.2.1 16 n = I 21) (hg : decide (m.1 712 = 0) = !g) (h17 : m.2.2.1 17 n = I (tk : Nat)) (ht : tk ≤ 4002) (hh : g = false → PP R (ck (inb (I (n : Nat)) 8016) (bnd (S.2.2.2.2.2.2.2.2.2.2.1 m (m.2.2.1 18 n) 0) (fun u119 r119 => ck (inb (I (n : Nat)) 8016) (bnd (S.2.2.2.2.2.2.2.2.2.2.1 u119 (u119.2.2.1 19 n) 0) (fun u125 r125 => bnd (jm_Co_put N u125 17) (fun u127 r127 => jb_Cm_compound_455 N S () u127)))))) B) : PP R (jm_Cm_compound N S m (I (n : Nat)) v2) B := by
  unfold jm_Cm_compound jb_Cm_compound_0
  refine l_ck (fun _ => ?_)
  rw [i_nt2 (show n ≤ 100000 by omega), h, decide_eq_false (show ¬ (I 21 = (17 : Int32)) by decide), br_fq, decide_eq_false (show ¬ (I 21 = (18 : Int32)) by decide), br_fq]
  refine l_ck (fun _ => l_ck (fun _ => l_ntg hg h17 ht (fun hf => l_ck (fun _ => ?_))))
  rw [h, decide_eq_false (show ¬ (I 21 = (8 : Int32)) by decide), br_fq, decide_eq_false (show ¬ (I 21 = (9 : Int32)) by decide), br_fq, decide_eq_false (show ¬ (I 21 = (10 : Int32)) by decide), br_fq, decide_eq_false (show ¬ (I 21 = (11 : Int32)) by decide), br_fq, decide_eq_false (show ¬ (I 21 = (12 : Int32)) by decide), br_fq, decide_eq_false (show ¬ (I 21 = (13 : Int32)) by decide), br_fq, decide_eq_false (show ¬ (I 21 = (14 : Int32)) by decide), br_fq, decide_eq_false (show ¬ (I 21 = (15 : Int32)) by decide), br_fq, decide_eq_false (show ¬ (I 21 = (16 : Int32)) by decide), br_fq, decide_eq_false (show ¬ (I 21 = (17 : Int32)) by decide), br_fq, decide_eq_false (show ¬ (I 21 = (18 : Int32)) by decide), br_fq, decide_eq_false (show ¬ (I 21 = (19 : Int32)) by decide), br_fq, decide_eq_false (show ¬ (I 21 = (20 : Int32)) by decide), br_fq, decide_eq_true (show (I 21 = (21 : Int32)) by decide), br_tq]
  exact hh hf
theorem cmd_17 (hn : n ≤ 8015) (h : m.2.2.1 16 n = I 17) (hh : PP R (jb_Cm_compound_33 N S () m (I (n : Nat))) B) : PP R (jm_Cm_compound N S m (I (n : Nat)) v2) B := by
  unfold jm_Cm_compound jb_Cm_compound_0
  refine l_ck (fun _ => ?_)
  rw [i_nt2 (show n ≤ 100000 by omega), h, decide_eq_true (show (I 17 = (17 : Int32)) by decide), br_tq]
  exact hh
theorem cmd_18 (hn : n ≤ 8015) (h : m.2.2.1 16 n = I 18) (hh : PP R (jb_Cm_compound_33 N S () m (I (n : Nat))) B) : PP R (jm_Cm_compound N S m (I (n : Nat)) v2) B := by
  unfold jm_Cm_compound jb_Cm_compound_0
  refine l_ck (fun _ => ?_)
  rw [i_nt2 (show n ≤ 100000 by omega), h, decide_eq_false (show ¬ (I 18 = (17 : Int32)) by decide), br_fq, decide_eq_true (show (I 18 = (18 : Int32)) by decide), br_tq]
  exact l_ck (fun _ => hh)
end
end
section
set_option maxRecDepth 100000
section
variable {α β : Type} {m0 w0 m w m2 w2 m3 w3 v u : MS} {K nm Nk W W2 : Nat → Nat} {N T a b c cm cm2 cm3 q r s lo mid hi i j f f2 n k p σ tk x : Nat} {Q Q2 Q3 Q4 : Nat → Nat} {sc sc2 sc3 t : SCT} {e : List Nat × List Nat × Nat} {g lst : Bool} {L L1 L2 : List Nat} {fof cvr : Int → Int → Int} {C : Nat → Int} {P R : Nat → Nat → Int} {J : Nat → Int64} {H O : List Nat} {y : Option (Nat × Nat × Nat)} {S : SF_Cm_fun} {S2 : SG_M_behind} {v2 : Int32} {i1 : Int}
theorem LKP_t (hn : NMJ nm) (h : LKt sc2 x i1) (gh : HPX nm sc2 H) : LKP H (Onm nm sc2) ((nm x : Nat) : Int) i1 := by
  refine ⟨nm x, rfl, ?_⟩
  cases sc2 with
  | nil => exact h.elim
  | cons e3 t3 =>
    rcases h with ⟨k, i1, i2⟩ | ⟨i0, ⟨k, i1, i2⟩ | i1⟩
    · exact Or.inl ⟨k, i1, by show (e3.1.map nm)[k]? = _; rw [List.getElem?_map, i2]; rfl⟩
    · refine Or.inr ⟨k, i1, ?_, ?_⟩
      · intro z
        obtain ⟨y, hy, he⟩ := List.mem_map.mp z
        exact i0 (by rw [← hn.1 _ _ he]; exact hy)
      · obtain ⟨l, hl⟩ := gh.1
        have hl : (e3.2.1.map nm) ++ l = H := hl
        have i3 : (e3.2.1.map nm)[k]? = some (nm x) := by rw [List.getElem?_map, i2]; rfl
        rw [← hl, List.getElem?_append_left (List.getElem?_eq_some_iff.mp i3).1]
        exact i3
    · exfalso
      have h1 := gh.1.length_le
      have h2 := gh.2
      have h3 : (e3.2.1.map nm).length = e3.2.1.length := List.length_map _
      have h1 : (e3.2.1.map nm).length ≤ H.length := h1
      omega
theorem XB (hn : NMJ nm) (hC : XCS m0 nm m a cm sc g) (hR : XRS w0 T w p Q sc) (hx : HNX nm sc cm H) (hi : i < 16000) : ((Onm nm sc).Nodup ∧ H.Nodup) ∧ (a + 2 < 24000 ∧ i + 2 < 100000 ∧ H.length + (Onm nm sc).length ≤ 40) := by
  have := XCS_len hC
  have := hC.1.2.2.1.2.2
  have := hx.2.2
  exact ⟨⟨XRS_nd hn hR, hx.2.1⟩, by omega, by omega, by omega⟩
theorem XCS_fr (h : XCS m0 nm m a cm sc g) : FRC m0 m := h.1.1
theorem tkd_6 (c : CTZ m0 w0 K T nm Nk) (h : XRS w0 T w p Q sc) : inb (w.1 69) 4002 = true ∧ (w.1 69).toNatClampNeg = p ∧ w.2.2.1 6 p = I (srK (K p) : Nat) := WP_i (XRS_wp c h)
theorem XRS_7 (h : XRS w0 T w p Q sc) : w.2.2.1 7 = w0.2.2.1 7 := h.1.1.2 7 (by decide)
theorem XRS_q (h : XRS w0 T w p Q sc) : w.1 32 = I (Q 32 : Nat) ∧ Q 32 ≤ 24000 := h.2 32 (by decide)
theorem al_num (c : CTZ m0 w0 K T nm Nk) (hR : XRS w0 T w lo Q sc) (hk : K lo = 1 ∨ K lo = 2) {A' : Option (MS × α)} {RR : MS → α → MS → Int32 → Prop} (hh : ∀ v, Q 32 < 16000 → lo < T → NOD w v (Q 32) → v.1 69 = I ((lo + 1 : Nat) : Int) → A v 23 (Q 32) = 1 → A v 25 (Q 32) = ((K lo - 1 : Nat) : Int) → A v 26 (Q 32) = A w0 7 lo → A v 28 (Q 32) = -1 → PP RR A' (some (v, I (Q 32 : Nat)))) : PP RR A' (km_M_alone N S2 w (I (lo : Nat))) := by
  have hw := XRS_wp c hR
  have hl : lo < T := c.2.1.1.lt hR.1.2.1.2 (by omega) (by omega)
  have t4 := c.2.1.1.1
  obtain ⟨a, b, -⟩ := tkd_6 c hR
  obtain ⟨n1, n2⟩ := XRS_q hR
  have h69 := hR.1.2.1.1
  have s4 : decide (w.2.2.1 6 lo = 4) = decide (K lo = 1) := srt_dc hw srK_4
  have s1 : decide (w.2.2.1 6 lo = 1) = decide (K lo = 2) := srt_dc hw srK_1
  have e28 : PP RR A' (kb_M_alone_28 N S2 () w (I (lo : Nat))) := by
    unfold kb_M_alone_28
    refine r_nod n1 n2 rfl (nsh (by omega)) (fun h16 => ?_)
    have d0 : NOD w (nwD w (Q 32) 1 (I (lo : Nat))) (Q 32) := NOD_0 n1
    have d1 := nwD_at (w := w) (i := Q 32) (k := 1) (t := I (lo : Nat))
    have d2 : (nwD w (Q 32) 1 (I (lo : Nat))).1 69 = I (lo : Nat) := by rw [nwD_i (by decide)]; exact h69
    have d3 : (nwD w (Q 32) 1 (I (lo : Nat))).2.2.1 6 lo = w.2.2.1 6 lo := by rw [nwD_r (by decide)]
    have d4 : (nwD w (Q 32) 1 (I (lo : Nat))).2.2.1 7 lo = w0.2.2.1 7 lo := by rw [nwD_r (by decide), XRS_7 hR]
    generalize nwD w (Q 32) 1 (I (lo : Nat)) = u at d0 d1 d2 d3 d4
    rw [d2, i_nt (p := lo) (by omega), d3, s4]
    refine r_ck (fun _ => ?_)
    have go : ∀ z : Int32, z.toInt = ((K lo - 1 : Nat) : Int) → PP RR A' (kb_M_alone_58 N S2 () u (I (Q 32 : Nat)) 25 (I (Q 32 : Nat)) z) := fun z hz => by
      unfold kb_M_alone_58
      refine r_ck (fun _ => r_ck (fun _ => r_lt ?_))
      rw [i_nt2 (p := Q 32) (by omega)]
      have e69 : (upA u 25 (upd (u.2.2.1 25) (Q 32) z)).1 69 = I (lo : Nat) := d2
      have e7 : (upA u 25 (upd (u.2.2.1 25) (Q 32) z)).2.2.1 7 lo = w0.2.2.1 7 lo := d4
      rw [e69, i_nt (p := lo) (by omega), e7]
      refine r_ck (fun _ => r_ck (fun _ => r_lt (r_lt ?_)))
      unfold kb_M_alone_361
      have d5 : NOD w (upA u 25 (upd (u.2.2.1 25) (Q 32) z)) (Q 32) := NOD_A d0 (by decide)
      have d6 : NOD w (upA (upA u 25 (upd (u.2.2.1 25) (Q 32) z)) 26 (upd ((upA u 25 (upd (u.2.2.1 25) (Q 32) z)).2.2.1 26) (Q 32) (w0.2.2.1 7 lo))) (Q 32) := NOD_A d5 (by decide)
      refine hh _ h16 hl (NOD_I d6 (by decide) (by decide)) (by rw [upI_at]; show u.1 69 + 1 = _; rw [d2, i_suc]) ?_ ?_ ?_ ?_
      · show ((upA (upA u 25 _) 26 _).2.2.1 23 (Q 32)).toInt = 1
        rw [upA_no (by decide), upA_no (by decide), d1.1]; rfl
      · show ((upA (upA u 25 _) 26 _).2.2.1 25 (Q 32)).toInt = _
        rw [upA_no (by decide), upA_at, upd_at]; exact hz
      · show ((upA (upA u 25 _) 26 _).2.2.1 26 (Q 32)).toInt = _
        rw [upA_at, upd_at]; rfl
      · show ((upA (upA u 25 _) 26 _).2.2.1 28 (Q 32)).toInt = _
        rw [upA_no (by decide), upA_no (by decide), d1.2.2.2.2.2.1]; rfl
    rcases hk with hk | hk
    · rw [decide_eq_true hk, br_tq]
      exact go 0 (by rw [hk]; rfl)
    · rw [decide_eq_false (by omega), br_fq]
      exact go 1 (by rw [hk]; rfl)
  unfold km_M_alone kb_M_alone_0
  rw [b, s4]
  refine r_ck (fun _ => ?_)
  rcases hk with hk | hk
  · rw [decide_eq_true hk, br_tq]; exact e28
  · rw [decide_eq_false (by omega), br_fq, s1, decide_eq_true hk, br_tq]
    exact r_ck (fun _ => e28)
theorem xl_num (c : CTZ m0 w0 K T nm Nk) (cv : CTV m0 w0 K T) (hC : XCS m0 nm m a cm sc g) (hR : XRS w0 T w lo Q sc) (hq : Q 56 = q) (hn : n ≤ 8015) (hlf : LFc m0 n lo) (hk : K lo = 1 ∨ K lo = 2) : PP (XZ m0 w0 K T nm Nk fof cvr lst g lo (lo + 1) a cm q q Q sc m w) (jm_Cm_expression N S m (I (n : Nat)) v2) (km_M_alone N S2 w (I (lo : Nat))) := by
  obtain ⟨l16, -, -, l17, l18⟩ := lf_7 c hlf hR.1.2.1.2
  have fr := XCS_fr hC
  refine al_num c hR hk (fun v h16 hl hN h69 r23 r25 r26 r28 => ?_)
  have e18 : A m0 18 n = A w0 7 lo := by
    rw [l18]
    exact congrArg Int32.toInt ((cv lo hl).2.1 hk)
  have fin : ∀ z : Int32, z.toInt = ((K lo - 1 : Nat) : Int) → PP (XZ m0 w0 K T nm Nk fof cvr lst g lo (lo + 1) a cm q q Q sc m w) (bnd (jm_Co_put N m 1) (fun u24 r24 => ck (inb (I (n : Nat)) 8016) (bnd (jm_Cm_term N u24 z (u24.2.2.1 18 n)) (fun u31 r31 => jb_Cm_expression_359 N S () u31)))) (some (v, I (Q 32 : Nat))) := fun z hz => by
    refine l_put hC.1.2.2.1.1 hC.1.2.2.1.2.2 (fun ha => l_ck (fun _ => ?_))
    have h1 := XCS_put (x := 1) hC ha
    have e1 : (ptc m a 1).2.2.1 18 n = m0.2.2.1 18 n := by rw [ptc_r (by decide), fr.2 18 (by decide)]
    rw [e1]
    unfold jm_Cm_term jb_Cm_term_0
    rw [bnd_as2]
    refine l_put h1.1.2.2.1.1 h1.1.2.2.1.2.2 (fun ha1 => ?_)
    have h2 := XCS_put (x := z) h1 ha1
    rw [bnd_as2]
    refine l_put h2.1.2.2.1.1 h2.1.2.2.1.2.2 (fun ha2 => ?_)
    rw [bnd_s]
    have h3 := XCS_put (x := m0.2.2.1 18 n) h2 ha2
    have em : ptc (ptc (ptc m a 1) (a + 1) z) (a + 1 + 1) (m0.2.2.1 18 n) = ptcs m a [1, z, m0.2.2.1 18 n] := rfl
    rw [em] at h3 ⊢
    refine pp_end ⟨a + 3, cm, qst Q 32 (Q 32 + 1), sc, Q 32, 2, [], rfl, ⟨Nat.le_refl _, by rw [qst_at]; omega⟩, XT_nod hC hR hq ⟨by omega, hl⟩ (fun j j1 j2 => ?_) (by omega) h3 (XFC_ps XFC_rf (Nat.le_refl _)) (ptcs_r (by decide)) hN rfl h16 h69 (fun n hn => by cases hn) (fun C P R J H fi hx => ⟨fun u u1 u2 => by omega, fun y hy hr => ?_⟩), ⟨by omega, by omega⟩, RTd_1 r28 (by rw [r23]; decide) rfl ⟨Nat.le_refl _, by rw [qst_at]; omega⟩, fun n hn => by cases hn⟩
    · rw [show j = lo by omega]; omega
    · have gc := fi.1
      have ro : ∀ k, 23 ≤ k ∧ k ≤ 31 → k ≠ 27 ∧ k ≠ 29 ∧ k ≠ 30 → R k (Q 32) = A v k (Q 32) := fun k k1 k2 => FIN_R fi k1 k2 ⟨Nat.le_refl _, by rw [qst_at]; omega⟩
      have c0 : C a = 1 := C_0 gc (by omega)
      have c1 : C (a + 1) = z.toInt := C_at (k := 1) gc rfl (by omega)
      have c2 : C (a + 2) = (m0.2.2.1 18 n).toInt := C_at (k := 2) gc rfl (by omega)
      obtain ⟨b1, b2⟩ := XB c.2.2.1 hC hR hx h16
      obtain ⟨d, hd⟩ := hr
      rw [qst_at] at hd
      refine cr_1 b1 b2 ⟨d, Or.inl ⟨(ro 23 (by decide) (by decide)).trans r23, ?_, c0, ?_, ?_, hd⟩⟩
      · rw [ro 25 (by decide) (by decide), r25]
        rcases hk with hk | hk
        · left; rw [hk]; rfl
        · right; left; rw [hk]; rfl
      · rw [c1, hz, ro 25 (by decide) (by decide), r25]
      · rw [c2, ro 26 (by decide) (by decide), r26]; exact e18
  rcases hk with hk | hk
  · exact exd_1 hn (tre fr (by decide) (v := 1) (l16.trans (by rw [hk]; rfl))) (fin 0 (by rw [hk]; rfl))
  · exact exd_2 hn (tre fr (by decide) (v := 2) (l16.trans (by rw [hk]; rfl))) (fin 1 (by rw [hk]; rfl))
end
end
section
set_option maxRecDepth 100000
def RULd (w v : MS) : Prop := (∀ k, k ≠ 71 → k ≠ 72 → v.1 k = w.1 k) ∧ v.2 = w.2
section
variable {α β : Type} {m0 w0 m w m2 w2 m3 w3 v u : MS} {K nm Nk W W2 : Nat → Nat} {N T a b c cm cm2 cm3 q r s lo mid hi i j f f2 n k p σ tk x : Nat} {Q Q2 Q3 Q4 : Nat → Nat} {sc sc2 sc3 t : SCT} {e : List Nat × List Nat × Nat} {g lst : Bool} {L L1 L2 : List Nat} {fof cvr : Int → Int → Int} {C : Nat → Int} {P R : Nat → Nat → Int} {J : Nat → Int64} {H O : List Nat} {y : Option (Nat × Nat × Nat)} {S : SF_Cm_fun} {S2 : SG_M_behind} {v2 : Int32} {i1 : Int} {A' : Option (MS × α)} {RR : MS → α → MS → β → Prop} {F : MS → Option (MS × β)}
theorem RUL_rf : RULd w w := ⟨fun _ _ _ => rfl, rfl⟩
theorem RUL_x (h : RULd w v) (hR : XRS w0 T w p Q sc) : XRS w0 T v p Q sc := by
  have e := XRS_n (v := v) (n := p) (i := Q 32) hR (fun k hk => h.1 k (by rintro rfl; revert hk; decide) (by rintro rfl; revert hk; decide)) (fun k _ => by rw [show v.2.2.1 = w.2.2.1 by rw [h.2]]) (by rw [h.1 69 (by decide) (by decide)]; exact hR.1.2.1.1) hR.1.2.1.2 (by rw [h.1 32 (by decide) (by decide)]; exact (XRS_q hR).1) (XRS_q hR).2
  have eq : qst Q 32 (Q 32) = Q := funext (fun j => by
    by_cases z : j = 32
    · rw [z, qst_at]
    · rw [qst_no z])
  rw [eq] at e
  exact e
theorem r_rul {kk tt : Int32} {G : MS → Unit → Option (MS × β)} (h : ∀ v, RULd w v → PP RR A' (G v ())) : PP RR A' (bnd (fm_M_rule N w kk tt) G) := by
  have h31 : PP RR A' (bnd (fb_M_rule_31 N () w kk tt) G) := by
    unfold fb_M_rule_31 fb_M_rule_41
    rw [lt_e, lt_e, bnd_s]
    exact h _ ⟨fun k h1 h2 => by rw [upI_ne h1, upI_ne h2], rfl⟩
  have h41 : PP RR A' (bnd (fb_M_rule_41 N () w) G) := by
    unfold fb_M_rule_41
    rw [bnd_s]
    exact h _ RUL_rf
  show PP RR A' (bnd (fb_M_rule_0 N () w kk tt) G)
  unfold fb_M_rule_0
  rw [bnd_br, bnd_br, bnd_br, bnd_br]
  exact r_br (fun _ => h31) (fun _ => r_br (fun _ => h31) (fun _ => r_br (fun _ => r_br (fun _ => h41) (fun _ => h31)) (fun _ => h41)))
theorem r_gd {b : Bool} {kk tt : Int32} (h : ∀ v, RULd w v → PP RR A' (F v)) : PP RR A' (br b (F w) (bnd (fm_M_rule N w kk tt) (fun u _ => F u))) := r_br (fun _ => h w RUL_rf) (fun _ => r_rul h)
theorem NOD_r (h : NOD v u i) (k : RULd w v) : NOD w u i := NOD_w h (fun j hj => k.1 j (by rintro rfl; revert hj; decide) (by rintro rfl; revert hj; decide)) (by rw [k.2]) (by rw [k.2])
theorem al_str (c : CTZ m0 w0 K T nm Nk) (hR : XRS w0 T w lo Q sc) (hk : K lo = 4) {RR : MS → α → MS → Int32 → Prop} (hh : ∀ v, Q 32 < 16000 → lo < T → NOD w v (Q 32) → v.1 69 = I ((lo + 1 : Nat) : Int) → A v 23 (Q 32) = 2 → A v 25 (Q 32) = A w0 7 lo → A v 28 (Q 32) = -1 → PP RR A' (some (v, I (Q 32 : Nat)))) : PP RR A' (km_M_alone N S2 w (I (lo : Nat))) := by
  have hw := XRS_wp c hR
  have hl : lo < T := c.2.1.1.lt hR.1.2.1.2 (by omega) (by omega)
  have t4 := c.2.1.1.1
  obtain ⟨a, b, -⟩ := tkd_6 c hR
  have s4 : decide (w.2.2.1 6 lo = 4) = decide (K lo = 1) := srt_dc hw srK_4
  have s1 : decide (w.2.2.1 6 lo = 1) = decide (K lo = 2) := srt_dc hw srK_1
  have s5 : decide (w.2.2.1 6 lo = 5) = decide (K lo = 4) := srt_dc hw srK_5
  unfold km_M_alone kb_M_alone_0
  rw [b, s4, s1, s5]
  refine r_ck (fun _ => ?_)
  rw [decide_eq_false (by omega), br_fq]
  refine r_ck (fun _ => ?_)
  rw [decide_eq_false (by omega), br_fq]
  refine r_ck (fun _ => ?_)
  rw [decide_eq_true hk, br_tq]
  refine r_gd (F := fun u => kb_M_alone_114 N S2 () u (I (lo : Nat))) (fun w1 hr => ?_)
  have hR1 := RUL_x hr hR
  obtain ⟨n1, n2⟩ := XRS_q hR1
  show PP RR A' (kb_M_alone_114 N S2 () w1 (I (lo : Nat)))
  unfold kb_M_alone_114
  refine r_nod n1 n2 rfl (nsh (by omega)) (fun h16 => ?_)
  have d0 : NOD w1 (nwD w1 (Q 32) 2 (I (lo : Nat))) (Q 32) := NOD_0 n1
  have d1 := nwD_at (w := w1) (i := Q 32) (k := 2) (t := I (lo : Nat))
  have d2 : (nwD w1 (Q 32) 2 (I (lo : Nat))).1 69 = I (lo : Nat) := by rw [nwD_i (by decide)]; exact hR1.1.2.1.1
  have d4 : (nwD w1 (Q 32) 2 (I (lo : Nat))).2.2.1 7 lo = w0.2.2.1 7 lo := by rw [nwD_r (by decide), XRS_7 hR1]
  generalize nwD w1 (Q 32) 2 (I (lo : Nat)) = u at d0 d1 d2 d4
  rw [d2, i_nt (p := lo) (by omega), i_nt2 (p := Q 32) (by omega), d4]
  refine r_ck (fun _ => r_ck (fun _ => r_lt (r_lt ?_)))
  unfold kb_M_alone_361
  have d5 : NOD w1 (upA u 25 (upd (u.2.2.1 25) (Q 32) (w0.2.2.1 7 lo))) (Q 32) := NOD_A d0 (by decide)
  refine hh _ h16 hl (NOD_r (NOD_I d5 (by decide) (by decide)) hr) (by rw [upI_at]; show u.1 69 + 1 = _; rw [d2, i_suc]) ?_ ?_ ?_
  · show ((upA u 25 _).2.2.1 23 (Q 32)).toInt = 2
    rw [upA_no (by decide), d1.1]; rfl
  · show ((upA u 25 _).2.2.1 25 (Q 32)).toInt = _
    rw [upA_at, upd_at]; rfl
  · show ((upA u 25 _).2.2.1 28 (Q 32)).toInt = _
    rw [upA_no (by decide), d1.2.2.2.2.2.1]; rfl
theorem xl_str (c : CTZ m0 w0 K T nm Nk) (cv : CTV m0 w0 K T) (hC : XCS m0 nm m a cm sc g) (hR : XRS w0 T w lo Q sc) (hq : Q 56 = q) (hn : n ≤ 8015) (hlf : LFc m0 n lo) (hk : K lo = 4) : PP (XZ m0 w0 K T nm Nk fof cvr lst g lo (lo + 1) a cm q q Q sc m w) (jm_Cm_expression N S m (I (n : Nat)) v2) (km_M_alone N S2 w (I (lo : Nat))) := by
  obtain ⟨l16, -, -, l17, l18⟩ := lf_7 c hlf hR.1.2.1.2
  have fr := XCS_fr hC
  have t4 := c.2.1.1.1
  refine al_str c hR hk (fun v h16 hl hN h69 r23 r25 r28 => ?_)
  obtain ⟨fr0, s0, b, l, s1, s2, s3, s4, s5, s6, s7, s8, s9⟩ := (cv lo hl).2.2 hk
  refine exd_4 hn (tre fr (by decide) (v := 4) (l16.trans (by rw [hk]; rfl))) ?_
  refine l_ntg (tk := lo) hC.2 (tre fr (by decide) l17) (by omega) (fun hg => ?_)
  refine l_put hC.1.2.2.1.1 hC.1.2.2.1.2.2 (fun ha => ?_)
  have h1 := XCS_put (x := 2) hC ha
  have e18 : A m0 18 n = ((fr0 : Nat) : Int) := by
    rw [l18]
    show (m0.2.2.1 7 lo).toInt = _
    rw [s1]
    exact I_ti (by omega) (by omega)
  refine l_bnd (pk_mo (cs_p h1.1 (by omega) e18 s6 s7 s8 s9) (fun m2 _ h => ?_))
  obtain ⟨p1, p2, p3, p4, p5⟩ := h
  have hm2 : XCS m0 nm m2 (a + 1 + 1 + l) cm sc g := ⟨p1, by rw [p2.1 712 (by decide) (by decide)]; exact h1.2⟩
  unfold jb_Cm_expression_359
  have fx : XFC m m2 a q q (sc.length - 1) := XFC_tr (XFC_put XFC_rf (Nat.le_refl a)) (XFC_P p2) (by omega) (Nat.le_refl _) (Nat.le_refl _)
  refine pp_end ⟨a + 1 + 1 + l, cm, qst Q 32 (Q 32 + 1), sc, Q 32, 2, [], rfl, ⟨Nat.le_refl _, by rw [qst_at]; omega⟩, XT_nod hC hR hq ⟨by omega, hl⟩ (fun j j1 j2 => ?_) (by omega) hm2 fx ?_ hN rfl h16 h69 (fun n hn => by cases hn) (fun C P R J H fi hx => ⟨fun u u1 u2 => by omega, fun y hy hr => ?_⟩), ⟨by omega, by omega⟩, RTd_1 r28 (by rw [r23]; decide) rfl ⟨Nat.le_refl _, by rw [qst_at]; omega⟩, fun n hn => by cases hn⟩
  · rw [show j = lo by omega]; omega
  · rw [p3, ptc_r (by decide)]
  · have gc := fi.1
    have ro : ∀ k, 23 ≤ k ∧ k ≤ 31 → k ≠ 27 ∧ k ≠ 29 ∧ k ≠ 30 → R k (Q 32) = A v k (Q 32) := fun k k1 k2 => FIN_R fi k1 k2 ⟨Nat.le_refl _, by rw [qst_at]; omega⟩
    obtain ⟨b1, b2⟩ := XB c.2.2.1 hC hR hx h16
    obtain ⟨d, hd⟩ := hr
    rw [qst_at] at hd
    have gr := fi.2.2.1
    have c0 : C a = 2 := by
      rw [gc a (Nat.le_refl _) (by omega)]
      show (m2.2.2.1 23 a).toInt = 2
      rw [p2.2.2.1 a (by omega), ptc_n]; rfl
    refine cr_1 b1 b2 ⟨d, Or.inr (Or.inl ⟨(ro 23 (by decide) (by decide)).trans r23, c0, l, ⟨s0, b, ?_, ?_, ?_, ?_, fun k hk => ?_⟩, ?_⟩)⟩
    · rw [ro 25 (by decide) (by decide), r25]
      show (w0.2.2.1 7 lo).toInt = _
      rw [s2]
      exact I_ti (by omega) (by omega)
    · rw [gr 19 s0 (by decide)]; exact s4
    · rw [gr 19 (s0 + 1) (by decide)]; exact s5
    · rw [gc (a + 1) (by omega) (by omega)]; exact p4
    · rw [gc (a + 1 + 1 + k) (by omega) (by omega), p5 k hk, gr 18 (b + k) (by decide)]
    · rw [show a + 2 + l = a + 1 + 1 + l by omega]; exact hd
theorem XCS_hld (h : XCS m0 nm m a cm sc g) : XCS m0 nm m a cm (hld x sc) g := by
  obtain ⟨⟨h1, h2, h3, h4, h5, h6, h7⟩, h8⟩ := h
  refine ⟨⟨h1, CNs_hld h2, h3, h4, by rw [hld_len]; exact h5, h6, ?_⟩, h8⟩
  have : (hdS (hld x sc)).1 = (hdS sc).1 := by
    cases sc with
    | nil => rfl
    | cons e t =>
      unfold hld
      split
      · rfl
      · split <;> rfl
  rw [this]; exact h7
end
end
section
set_option maxRecDepth 100000
section
variable {α β : Type} {m0 w0 m w m2 w2 m3 w3 v u : MS} {K nm Nk W W2 : Nat → Nat} {N T a b c cm cm2 cm3 q r s lo mid hi i j f f2 n k p σ tk x : Nat} {Q Q2 Q3 Q4 : Nat → Nat} {sc sc2 sc3 t : SCT} {e : List Nat × List Nat × Nat} {g lst : Bool} {L L1 L2 : List Nat} {fof cvr : Int → Int → Int} {C : Nat → Int} {P R : Nat → Nat → Int} {J : Nat → Int64} {H O : List Nat} {y : Option (Nat × Nat × Nat)} {S : SF_Cm_fun} {S2 : SG_M_behind} {v2 : Int32} {i1 : Int} {A' : Option (MS × α)} {RR : MS → α → MS → β → Prop} {F : MS → Option (MS × β)}
def ANq (w0 : MS) (T : Nat) (x lo : Nat) (Q : Nat → Nat) (sc : SCT) (w v : MS) : Prop := XRS w0 T v (lo + 1) (qst Q 32 (Q 32 + 1)) (hld x sc) ∧ XRF w v Q (qst Q 32 (Q 32 + 1)) ∧ A v 23 (Q 32) = 3 ∧ A v 28 (Q 32) = -1 ∧ LKt (hld x sc) x (A v 25 (Q 32))
theorem al_nam (c : CTZ m0 w0 K T nm Nk) (hR : XRS w0 T w lo Q (e :: t)) (hk : K lo = 3) (h0 : nm (Nk lo) ≠ 0) (hf : fnb (Nk lo) (e :: t) = true) {RR : MS → α → MS → Int32 → Prop} (hh : ∀ v, Q 32 < 16000 → lo < T → ANq w0 T (Nk lo) lo Q (e :: t) w v → PP RR A' (some (v, I (Q 32 : Nat)))) : PP RR A' (km_M_alone N S2 w (I (lo : Nat))) := by
  have hw := XRS_wp c hR
  have hl : lo < T := c.2.1.1.lt hR.1.2.1.2 (by omega) (by omega)
  have t4 := c.2.1.1.1
  obtain ⟨-, c7, cx, cu⟩ := c.2.2.2 lo hl hk
  obtain ⟨a, b, -⟩ := tkd_6 c hR
  obtain ⟨n1, n2⟩ := XRS_q hR
  have s4 : decide (w.2.2.1 6 lo = 4) = decide (K lo = 1) := srt_dc hw srK_4
  have s1 : decide (w.2.2.1 6 lo = 1) = decide (K lo = 2) := srt_dc hw srK_1
  have s5 : decide (w.2.2.1 6 lo = 5) = decide (K lo = 4) := srt_dc hw srK_5
  have s2 : decide (w.2.2.1 6 lo = 2) = decide (K lo = 3) := srt_dc hw srK_2
  unfold km_M_alone kb_M_alone_0
  rw [b, s4, s1, s5, s2]
  refine r_ck (fun _ => ?_)
  rw [decide_eq_false (by omega), br_fq]
  refine r_ck (fun _ => ?_)
  rw [decide_eq_false (by omega), br_fq]
  refine r_ck (fun _ => ?_)
  rw [decide_eq_false (by omega), br_fq]
  refine r_ck (fun _ => ?_)
  rw [decide_eq_true hk, br_tq]
  refine r_nod n1 n2 rfl (nsh (by omega)) (fun h16 => ?_)
  have d0 : NOD w (nwD w (Q 32) 3 (I (lo : Nat))) (Q 32) := NOD_0 n1
  have d1 := nwD_at (w := w) (i := Q 32) (k := 3) (t := I (lo : Nat))
  have d2 : (nwD w (Q 32) 3 (I (lo : Nat))).1 69 = I (lo : Nat) := by rw [nwD_i (by decide)]; exact hR.1.2.1.1
  have d4 : (nwD w (Q 32) 3 (I (lo : Nat))).2.2.1 7 lo = I (Nk lo : Nat) := by rw [nwD_r (by decide), XRS_7 hR]; exact c7
  have d6 : XRS w0 T (nwD w (Q 32) 3 (I (lo : Nat))) lo (qst Q 32 (Q 32 + 1)) (e :: t) := XRS_n hR d0.1 (fun k hk => funext (fun j => d0.2.2.1 k j (by omega))) d2 hR.1.2.1.2 d0.2.1 (by omega)
  generalize nwD w (Q 32) 3 (I (lo : Nat)) = u at d0 d1 d2 d4 d6
  have hu : UND u (Nk lo) ↔ nm (Nk lo) = 0 := by
    rw [← cu]
    unfold UND
    rw [d6.1.1.2 16 (by decide), d6.1.1.2 15 (by decide)]
  rw [d2]
  cases hx : fm_M_isUnderscore N u (I (lo : Nat)) with
  | none => exact pp_nr
  | some z =>
    obtain ⟨z1, z2⟩ := z
    obtain ⟨rfl, q⟩ := und_p (N := N) cx (by omega) d4 z1 z2 hx
    rcases q with ⟨q1, q2⟩ | ⟨q1, q2⟩
    · exact absurd (hu.mp q2) h0
    subst q1
    have hn := d6.1.2.2.2.1
    have h65 : z1.1 65 = I (t.length : Nat) := hn.1
    rw [bnd_s, show decide ((0 : Int32) = 0) = true from rfl, br_tq, d2, i_nt (p := lo) (by omega), d4, h65]
    refine r_ck (fun _ => ?_)
    cases hy : fr_M_found N z1 (I (t.length : Nat)) (I (Nk lo : Nat)) with
    | none => exact pp_nr
    | some y =>
      obtain ⟨y1, y2⟩ := y
      have fd := fnx_d (N := N) cx 30 (e :: t) z1 hn.2.2.1 d6.1.2.2.2.2.1 hn.2.2.2 (fun z => by cases z) hn.2.1.2 y1 y2 hy
      have f9 := yv9_fr_M_found (u0 := z1) Kv9_rf y1 y2 hy
      rw [bnd_s]
      rcases fd with ⟨e1, e2, e3⟩ | ⟨e1, e2, e3, e4, e5, e6, i, e7, e8⟩
      · rw [hf] at e3; cases e3
      unfold kb_M_alone_201 kb_M_alone_213 kb_M_alone_361
      rw [decide_eq_false e1, br_fq, i_nt2 (p := Q 32) (by omega)]
      refine r_ck (fun _ => r_lt (r_lt ?_))
      have y69 : (upA y1 25 (upd (y1.2.2.1 25) (Q 32) y2)).1 69 + 1 = I ((lo + 1 : Nat) : Int) := by
        show y1.1 69 + 1 = _
        rw [e3.1 69, d2, i_suc]
      rw [y69]
      have rn : RNs y1 (hld (Nk lo) (e :: t)) := ⟨by rw [hld_len, e3.1 65]; exact hn.1, by rw [hld_len]; exact hn.2.1, e5, hld_ok hn.2.2.2⟩
      have iN : ∀ k, (upI (upA y1 25 (upd (y1.2.2.1 25) (Q 32) y2)) 69 (I ((lo + 1 : Nat) : Int))).1 k = if k = 69 then I ((lo + 1 : Nat) : Int) else z1.1 k := fun k => by
        by_cases z : k = 69
        · subst z; rw [upI_at, if_pos rfl]
        · rw [upI_ne z, if_neg z]; exact e3.1 k
      have rN : ∀ k, k ≠ 25 → (k < 61 ∨ 64 ≤ k) → (upI (upA y1 25 (upd (y1.2.2.1 25) (Q 32) y2)) 69 (I ((lo + 1 : Nat) : Int))).2.2.1 k = z1.2.2.1 k := fun k k1 k2 => by
        show (upA y1 25 _).2.2.1 k = _
        rw [upA_no k1]; exact e3.2 k k2
      refine hh _ h16 hl ⟨⟨⟨⟨fun k hk => ?_, fun k hk => ?_⟩, ⟨by rw [iN, if_pos rfl], hl⟩, by rw [iN]; exact d6.1.2.2.1, RNs_e rn (upI_ne (by decide)) (fun k k1 k2 => upA_no (by omega)), HFl_fr rn.2.2.2 e6 (fun j _ => rfl), by rw [iN]; exact d6.1.2.2.2.2.2⟩, fun k hk => ?_⟩, ⟨?_, ?_⟩, ?_, ?_, ?_⟩
      · have : k ≠ 69 := by rintro rfl; revert hk; decide
        rw [iN, if_neg this]; exact d6.1.1.1 k hk
      · have : k < 23 := by unfold TRW at hk; simp only [List.mem_cons, List.not_mem_nil, or_false] at hk; omega
        rw [rN k (by omega) (by omega)]; exact d6.1.1.2 k hk
      · have : k ≠ 69 := by rintro rfl; revert hk; decide
        rw [iN, if_neg this]; exact d6.2 k hk
      · have cs : ∀ k, grp k = 0 → k < 23 ∨ 31 < k := fun k a => by
          unfold grp at a
          by_cases z : 23 ≤ k ∧ k ≤ 31
          · rw [if_pos z] at a; cases a
          · omega
        refine ⟨fun k a1 a2 a3 => ?_, fun k q a1 a2 => ?_, fun k q a1 => ?_⟩
        · have := cs k a1
          rw [rN k (by omega) (by omega)]
          exact funext (fun j => d0.2.2.1 k j (by omega))
        · have g32 : 23 ≤ k → k ≤ 31 → q < Q 32 := fun z1 z2 => by
            have e : grp k = 32 := if_pos ⟨z1, z2⟩
            rw [e] at a2; exact a2
          have n61 : ¬ (61 ≤ k ∧ k ≤ 63) := fun z => by
            apply a1
            unfold grp
            rw [if_neg (by omega), if_neg (by omega), if_neg (by omega), if_neg (by omega), if_neg (by omega), if_neg (by omega), if_neg (by omega), if_neg (by omega)]
          by_cases z : k = 25
          · subst z
            have := g32 (by decide) (by decide)
            show (upA y1 25 _).2.2.1 25 q = _
            rw [upA_at, upd_no (by omega), e3.2 25 (by decide)]
            exact d0.2.2.1 25 q (by omega)
          · rw [rN k z (by omega)]
            exact d0.2.2.1 k q (by omega)
        · show y1.2.2.2 k q = _
          rw [f9.1, d0.2.2.2]
      · exact ⟨QLE_st QLE_rf (by omega), rfl, rfl, rfl⟩
      · show ((upA y1 25 _).2.2.1 23 (Q 32)).toInt = 3
        rw [upA_no (by decide), e3.2 23 (by decide), d1.1]; rfl
      · show ((upA y1 25 _).2.2.1 28 (Q 32)).toInt = _
        rw [upA_no (by decide), e3.2 28 (by decide), d1.2.2.2.2.2.1]; rfl
      · have : A (upI (upA y1 25 (upd (y1.2.2.1 25) (Q 32) y2)) 69 (I ((lo + 1 : Nat) : Int))) 25 (Q 32) = y2.toInt := by
          show ((upA y1 25 _).2.2.1 25 (Q 32)).toInt = _
          rw [upA_at, upd_at]
        rw [this, e7]
        exact LKt_ti (hld_ok hn.2.2.2) e8
theorem xl_nam (c : CTZ m0 w0 K T nm Nk) (hC : XCS m0 nm m a cm sc g) (hR : XRS w0 T w lo Q sc) (hq : Q 56 = q) (hn : n ≤ 8015) (hlf : LFc m0 n lo) (hk : K lo = 3) : PP (XZ m0 w0 K T nm Nk fof cvr lst g lo (lo + 1) a cm q q Q sc m w) (jm_Cm_expression N S m (I (n : Nat)) v2) (km_M_alone N S2 w (I (lo : Nat))) := by
  obtain ⟨l16, -, -, l17, l18⟩ := lf_7 c hlf hR.1.2.1.2
  have fr := XCS_fr hC
  have t4 := c.2.1.1.1
  have hl : lo < T := c.2.1.1.lt hR.1.2.1.2 (by omega) (by omega)
  obtain ⟨c7, -, cx, cu⟩ := c.2.2.2 lo hl hk
  obtain ⟨e, t, rfl⟩ := PRS_ne hR.1
  have ok := hR.1.2.2.2.1.2.2.2
  have tl : t.length + 1 ≤ 27 := hR.1.2.2.2.1.2.1.2
  have e18 : m.2.2.1 18 n = I (nm (Nk lo) : Nat) := by
    rw [tre fr (by decide) l18]
    show I (m0.2.2.1 7 lo).toInt = _
    rw [← I_of, c7]
  have e17 : m.2.2.1 17 n = I (lo : Nat) := tre fr (by decide) l17
  have nb := c.2.2.1.2 (Nk lo)
  refine exd_3 hn (tre fr (by decide) (v := 3) (l16.trans (by rw [hk]; rfl))) (l_ck (fun _ => ?_))
  have flt : ∀ (u : MS), PP (XZ m0 w0 K T nm Nk fof cvr lst g lo (lo + 1) a cm q q Q (e :: t) m w) (jb_Cm_expression_221 N S () u (I (n : Nat)) (I (lo : Nat))) (km_M_alone N S2 w (I (lo : Nat))) := fun u => by
    unfold jb_Cm_expression_221
    exact l_flt (tk := lo) (k := 5) rfl rfl (by omega) (by decide)
  rw [e18, e17]
  by_cases z0 : nm (Nk lo) = 0
  · rw [z0, show decide (I ((0 : Nat) : Int) = (0 : Int32)) = true from rfl, br_tq]
    exact flt m
  rw [decide_eq_false (fun z => z0 (by
    have := (I_eq (x := ((nm (Nk lo) : Nat) : Int)) (y := 0) (by omega) (by omega) (by decide) (by decide)).mp z
    omega)), br_fq]
  refine l_ck (fun _ => l_bnd (pk_mo (isB_all c.2.2.1 hC.1.2.1 ok cx (by omega)) (fun v r h => ?_)))
  rcases h with ⟨h1, h2, h3⟩ | ⟨h1, h2, h3⟩
  · rw [h1, show decide ((0 : Int32) = 0) = true from rfl, br_tq]
    exact flt v
  rw [h1, show decide ((1 : Int32) = 0) = false from rfl, br_fq]
  refine al_nam c hR hk z0 h2 (fun w2 h16 _ hA => ?_)
  obtain ⟨a1, a2, a3, a4, a5⟩ := hA
  unfold jb_Cm_expression_227 jb_Cm_expression_359
  have hv : XCS m0 nm v a cm (e :: t) g := by
    rw [h3]
    exact ⟨PCS_42 hC.1, hC.2⟩
  refine l_put hv.1.2.2.1.1 hv.1.2.2.1.2.2 (fun ha => l_ck (fun _ => ?_))
  have hv1 := XCS_put (x := 3) hv ha
  have ev : (ptc v a 3).2.2.1 18 (I (n : Nat)).toNatClampNeg = I (nm (Nk lo) : Nat) := by
    rw [i_nt2 (show n ≤ 100000 by omega), ptc_r (by decide), h3, upA_no (by decide)]; exact e18
  rw [ev]
  refine l_put hv1.1.2.2.1.1 hv1.1.2.2.1.2.2 (fun ha1 => ?_)
  have hv2 := XCS_hld (x := Nk lo) (XCS_put (x := I (nm (Nk lo) : Nat)) hv1 ha1)
  have em : ptc (ptc v a 3) (a + 1) (I (nm (Nk lo) : Nat)) = ptcs v a [3, I (nm (Nk lo) : Nat)] := rfl
  rw [em] at hv2 ⊢
  have lv : rfL false (Nk lo) (e :: t) = lvx (Nk lo) (e :: t) := (rf_y h2).2.2
  have fx : XFC m (ptcs v a [3, I (nm (Nk lo) : Nat)]) a q q ((e :: t).length - 1) := by
    refine XFC_ps ?_ (Nat.le_refl _)
    rw [h3]
    exact ⟨fun _ _ _ => rfl, fun k _ _ k3 => upA_no (by omega), fun j _ => by rw [upA_no (by decide)], fun k j k1 k2 _ => by rw [upA_no (by omega)], fun j _ => by rw [upA_no (by decide)], fun j _ => by rw [upA_no (by decide)]⟩
  have oe : (hdS (hld (Nk lo) (e :: t))).1 = e.1 := by
    unfold hld
    split
    · rfl
    · split <;> rfl
  have on : Onm nm (hld (Nk lo) (e :: t)) = Onm nm (e :: t) := by unfold Onm; rw [oe]; rfl
  refine pp_end ⟨a + 2, cm, qst Q 32 (Q 32 + 1), hld (Nk lo) (e :: t), Q 32, 2, [], rfl, ⟨Nat.le_refl _, by rw [qst_at]; omega⟩, ⟨⟨by omega, by omega, Nat.le_refl _, Nat.le_refl _⟩, hv2, ⟨a1, by rw [qst_no (by decide)]; exact hq⟩, by rw [tot_hld]; omega, ⟨fun _ => lvx (Nk lo) (e :: t), ?_, ?_⟩, fx, a2, fun _ => oe, fun n hn => (by cases hn), fun C P R J H fi hx => ⟨fun u u1 u2 => by omega, fun y hy hr => ?_⟩⟩, ⟨by omega, by omega⟩, RTd_1 a4 (by rw [a3]; decide) rfl ⟨Nat.le_refl _, by rw [qst_at]; omega⟩, fun n hn => by cases hn⟩
  · have := rfP_dw (Nk := Nk) (K := K) (W := fun _ => lvx (Nk lo) (e :: t)) (p := lo) (own := false) (nm := nm) ok rfl hk z0 lv.symm (by omega)
    rw [(rf_y h2).1] at this
    exact HDx_of this
  · rw [ptcs_r (by decide), h3, upA_at, wup_1 hk]
  · have gc := fi.1
    have ro : ∀ k, 23 ≤ k ∧ k ≤ 31 → k ≠ 27 ∧ k ≠ 29 ∧ k ≠ 30 → R k (Q 32) = A w2 k (Q 32) := fun k k1 k2 => FIN_R fi k1 k2 ⟨Nat.le_refl _, by rw [qst_at]; omega⟩
    have c0 : C a = 3 := C_0 gc (by omega)
    have c1 : C (a + 1) = ((nm (Nk lo) : Nat) : Int) := (C_at (k := 1) gc rfl (by omega)).trans (I_ti (by omega) (by omega))
    obtain ⟨b1, b2⟩ := XB c.2.2.1 hC hR (HNX_mo (cm := cm) (rfP_dw (Nk := Nk) (K := K) (W := fun _ => lvx (Nk lo) (e :: t)) (p := lo) (own := false) (nm := nm) ok rfl hk z0 lv.symm (by omega)).1 (Nat.le_refl _) (by rw [(rf_y h2).1]; exact hx)) h16
    obtain ⟨d, hd⟩ := hr
    rw [qst_at, on] at hd
    refine cr_1 b1 b2 ⟨d, Or.inr (Or.inr (Or.inl ⟨(ro 23 (by decide) (by decide)).trans a3, c0, ?_, hd⟩))⟩
    rw [c1, ro 25 (by decide) (by decide), ← on]
    exact LKP_t c.2.2.1 a5 hx.1
theorem xl_all (c : CTZ m0 w0 K T nm Nk) (cv : CTV m0 w0 K T) (hC : XCS m0 nm m a cm sc g) (hR : XRS w0 T w lo Q sc) (hq : Q 56 = q) (hn : n ≤ 8015) (hlf : LFc m0 n lo) : PP (XZ m0 w0 K T nm Nk fof cvr lst g lo (lo + 1) a cm q q Q sc m w) (jm_Cm_expression N S m (I (n : Nat)) v2) (km_M_alone N S2 w (I (lo : Nat))) := by
  obtain ⟨-, k1, k4, -⟩ := lf_7 c hlf hR.1.2.1.2
  by_cases z : K lo = 1 ∨ K lo = 2
  · exact xl_num c cv hC hR hq hn hlf z
  by_cases z3 : K lo = 3
  · exact xl_nam c hC hR hq hn hlf z3
  · exact xl_str c cv hC hR hq hn hlf (by omega)
end
end
section
set_option maxRecDepth 100000
def NEC (k : Nat) : Prop := rkK k = 0 ∧ k ≠ 20 ∧ k ≠ 30 ∧ k ≠ 36
def lsI (lst : Bool) : Int32 := if lst then 1 else 0
def HXE (N : Nat) (m0 w0 : MS) (K : Nat → Nat) (T : Nat) (nm Nk : Nat → Nat) (fof cvr : Int → Int → Int) (f : Nat) : Prop := ∀ (D d o n lo hi xa xb q r : Nat) (m w : MS) (a cm : Nat) (Q : Nat → Nat) (sc : SCT) (g lst : Bool), XPcK m0 f o 3 n lo hi xa xb q r → xb ≤ 8015 → r ≤ 400 → (NEC (K hi) ∧ hi ≤ T) → XCS m0 nm m a cm sc g → XRS w0 T w lo Q sc → Q 56 = q → (tot sc + (hi - lo) ≤ 4000 ∧ sc.length ≤ o + 1) → PP (XZ m0 w0 K T nm Nk fof cvr lst g lo hi a cm q r Q sc m w) ((jrc_Cm_fun N D).2.2.2.2.2.2.2.2.2.2.1 m (I (n : Nat)) (lsI lst)) ((krc_M_behind N d).2.2.2.2.2.2.2.2.2.2.2.2.2.1 w)
section
variable {α β : Type} {m0 w0 m w m2 w2 m3 w3 v u mS wS : MS} {K nm Nk W W2 : Nat → Nat} {N T a a0 b c cm cm0 cm2 cm3 q q0 r s lo lo0 mid hi i j f f2 n k p σ tk x : Nat} {Q Q0 Q2 Q3 Q4 : Nat → Nat} {sc sc0 sc2 sc3 t : SCT} {e : List Nat × List Nat × Nat} {g lst l2 : Bool} {L L1 L2 : List Nat} {fof cvr : Int → Int → Int} {C : Nat → Int} {P R : Nat → Nat → Int} {J : Nat → Int64} {H O : List Nat} {y : Option (Nat × Nat × Nat)} {z : Unit} {rt : Int32}
theorem xp_hd {cl o xa xb : Nat} (h : XPcK m0 f o cl n lo hi xa xb q r) : (xa < n ∧ n ≤ xb) ∧ lo < hi ∧ xb + 1 + 2 * lo ≤ xa + 2 * hi ∧ q ≤ r ∧ 5 * r + lo + 1 ≤ 5 * q + hi := XP_bdK _ _ _ _ _ _ _ _ _ _ h
theorem XTR_rf (hC : XCS m0 nm m a cm sc g) (hR : XRS w0 T w lo Q sc) (hq : Q 56 = q) : XTR m0 w0 K T nm Nk fof cvr lst g [] lo lo a a cm cm q q Q Q sc sc m w m w := ⟨⟨Nat.le_refl _, Nat.le_refl _, Nat.le_refl _, Nat.le_refl _⟩, hC, ⟨hR, hq⟩, by omega, ⟨fun _ => 0, HDx_gap (fun j a b => by omega), by rw [wup_0 (fun j a b => by omega)]⟩, XFC_rf, XFR_rf, fun _ => rfl, fun n hn => (by cases hn), fun C P R J H fi hx => ⟨fun u u1 u2 => by omega, fun y _ h => h⟩⟩
theorem XTR_len (h : XTR m0 w0 K T nm Nk fof cvr lst g L lo mid a b cm cm2 q r Q Q2 sc sc2 m w m2 w2) : sc2.length = sc.length := by
  obtain ⟨W, a5, -⟩ := h.2.2.2.2.1
  exact NWX_len (a5.2 rfl).2
theorem XTR_mv (h : XTR m0 w0 K T nm Nk fof cvr lst g L lo mid a b cm cm2 q r Q Q2 sc sc2 m w m2 w2) (hX : XRS w0 T v hi Q2 sc2) (hv : v.2 = w2.2) (hl : mid ≤ hi) (gap : ∀ j, mid ≤ j → j < hi → K j ≠ 3) : XTR m0 w0 K T nm Nk fof cvr lst g L lo hi a b cm cm2 q r Q Q2 sc sc2 m w m2 v := by
  obtain ⟨a1, a2, a3, a4, ⟨W, a5, a6⟩, a7, a8, a9, a10, a11⟩ := h
  obtain ⟨v1, vr⟩ := v
  have hv : vr = w2.2 := hv
  subst hv
  refine ⟨⟨by omega, a1.2⟩, a2, ⟨hX, a3.2⟩, by omega, ⟨W, HDx_tr a1.1 hl a5 (HDx_gap gap), ?_⟩, a7, ⟨QRR_e a8.1 rfl rfl, a8.2⟩, a9, a10, a11⟩
  rw [a6, ← wup_tr (p := lo) (q := mid) (p2 := hi) a1.1 hl, wup_0 (p := mid) gap]
theorem XTR_ad (h : XTR m0 w0 K T nm Nk fof cvr lst g L lo mid a b cm cm2 q r Q Q2 sc sc2 m w m2 w2) (hl : mid < T) (hk : K mid ≠ 3) : XTR m0 w0 K T nm Nk fof cvr lst g L lo (mid + 1) a b cm cm2 q r Q Q2 sc sc2 m w m2 (adv w2 mid) := XTR_mv h (XRS_ad h.2.2.1.1 hl) rfl (Nat.le_succ _) (fun j a b => by rw [show j = mid by omega]; exact hk)
theorem XTR_I {k : Nat} {x : Int32} (h : XTR m0 w0 K T nm Nk fof cvr lst g L lo mid a b cm cm2 q r Q Q2 sc sc2 m w m2 w2) (hk : k ∉ NIX) (h2 : k ≠ 32 ∧ k ≠ 69) : XTR m0 w0 K T nm Nk fof cvr lst g L lo mid a b cm cm2 q r Q Q2 sc sc2 m w m2 (upI w2 k x) := XTR_mv h (XRS_I h.2.2.1.1 hk h2) rfl (Nat.le_refl _) (fun j a b => by omega)
theorem XZ_tr (hz : XZ m0 w0 K T nm Nk fof cvr false g mid hi b cm2 r s Q2 sc2 m2 w2 m3 z w3 rt) (h : XTR m0 w0 K T nm Nk fof cvr lst g [] lo mid a b cm cm2 q r Q Q2 sc sc2 m w m2 w2) : ∃ c cm3 Q3 sc3, XTR m0 w0 K T nm Nk fof cvr lst g [] lo hi a c cm cm3 q s Q Q3 sc sc3 m w m3 w3 := by
  obtain ⟨c, cm3, Q3, sc3, rn, f, L, z1, z2, z3, z4, z5, z6⟩ := hz
  exact ⟨c, cm3, Q3, sc3, XTR_tr h (XTR_nl z3)⟩
theorem RT_mo (w : MS) (i : Nat) : ∀ (f : Nat) (bb : Bool) (j : Nat) (r : Int) (L : List Nat), RTd w i f bb j r L → RTd w i (f + 1) bb j r L
  | 0, _, _, _, _, h => h.elim
  | f + 1, false, j, r, L, h => by
    obtain ⟨r0, h1, h2, L1, h3, h4⟩ := h
    exact ⟨r0, h1, h2, L1, RT_mo w i f true _ _ _ h3, h4⟩
  | f + 1, true, j, r, L, h => by
    rcases h with h | ⟨r0, L1, L2, h1, h2, h3, h4⟩
    · exact Or.inl h
    · exact Or.inr ⟨r0, L1, L2, h1, RT_mo w i f false _ _ _ h2, RT_mo w i f true _ _ _ h3, h4⟩
theorem RT_le {bb : Bool} {x : Int} (h : RTd w i f bb j x L) (hf : f ≤ f2) : RTd w i f2 bb j x L := by
  obtain ⟨k, rfl⟩ := Nat.le.dest hf
  induction k with
  | zero => exact h
  | succ k ih => exact RT_mo _ _ _ _ _ _ _ (ih (by omega))
theorem RT_w {i2 : Nat} (hi2 : i2 ≤ i) : ∀ (f : Nat) (bb : Bool) (j j2 : Nat) (r : Int) (L : List Nat), j ≤ j2 → RTd w i f bb j r L → RTd w i2 f bb j2 r L
  | 0, _, _, _, _, _, _, h => h.elim
  | f + 1, false, j, j2, r, L, hj, h => by
    obtain ⟨r0, h1, h2, L1, h3, h4⟩ := h
    exact ⟨r0, h1, ⟨by omega, by omega⟩, L1, RT_w hi2 f true _ _ _ _ (Nat.le_refl _) h3, h4⟩
  | f + 1, true, j, j2, r, L, hj, h => by
    rcases h with h | ⟨r0, L1, L2, h1, h2, h3, h4⟩
    · exact Or.inl h
    · exact Or.inr ⟨r0, L1, L2, h1, RT_w hi2 f false _ _ _ _ hj h2, RT_w hi2 f true _ _ _ _ hj h3, h4⟩
theorem RT_fr : ∀ (f : Nat), (∀ (jj j : Nat) (r : Int) (L : List Nat), j ≤ jj → (∀ n, i ≤ n → n < jj → A v 23 n = A w 23 n ∧ A v 28 n = A w 28 n ∧ A v 29 n = A w 29 n) → RTd w i f true j r L → RTd v i f true j r L) ∧ (∀ (j r0 : Nat) (L : List Nat), (∀ n, i ≤ n → n ≤ r0 → A v 23 n = A w 23 n ∧ A v 28 n = A w 28 n) → (∀ n, i ≤ n → n < r0 → A v 29 n = A w 29 n) → RTd w i f false j ((r0 : Nat) : Int) L → RTd v i f false j ((r0 : Nat) : Int) L)
  | 0 => ⟨fun _ _ _ _ _ _ h => h.elim, fun _ _ _ _ _ h => h.elim⟩
  | f + 1 => by
    obtain ⟨ih1, ih2⟩ := RT_fr f
    refine ⟨fun jj j r L hj hr h => ?_, fun j r0 L h1 h2 h => ?_⟩
    · rcases h with h | ⟨r0, L1, L2, h1, h2, h3, h4⟩
      · exact Or.inl h
      · have hb : i ≤ r0 ∧ r0 < j := by
          rw [h1] at h2
          cases f with
          | zero => exact h2.elim
          | succ f =>
            obtain ⟨r1, g1, g2, -⟩ := h2
            omega
        refine Or.inr ⟨r0, L1, L2, h1, ?_, ?_, h4⟩
        · rw [h1] at h2 ⊢
          exact ih2 j r0 L1 (fun n n1 n2 => ⟨(hr n n1 (by omega)).1, (hr n n1 (by omega)).2.1⟩) (fun n n1 n2 => (hr n n1 (by omega)).2.2) h2
        · rw [(hr r0 hb.1 (by omega)).2.2]
          exact ih1 jj j _ L2 hj hr h3
    · obtain ⟨r1, g1, g2, L1, g3, g4⟩ := h
      have e : r1 = r0 := by omega
      subst e
      refine ⟨r1, rfl, g2, L1, ?_, ?_⟩
      · rw [(h1 r1 g2.1 (Nat.le_refl _)).2]
        exact ih1 r1 r1 _ L1 (Nat.le_refl _) (fun n n1 n2 => ⟨(h1 n n1 (by omega)).1, (h1 n n1 (by omega)).2, h2 n n1 n2⟩) g3
      · rw [(h1 r1 g2.1 (Nat.le_refl _)).1]
        exact g4
theorem RT_in : ∀ (f : Nat) (bb : Bool) (j : Nat) (r : Int) (L : List Nat), RTd w i f bb j r L → ∀ n, n ∈ L → (i ≤ n ∧ n < j) ∧ (A w 23 n = 12 ∨ A w 23 n = 13)
  | 0, _, _, _, _, h => h.elim
  | f + 1, false, j, r, L, h => by
    obtain ⟨r0, h1, h2, L1, h3, h4⟩ := h
    intro n hn
    by_cases z : A w 23 r0 = 12 ∨ A w 23 r0 = 13
    · rw [h4, if_pos z] at hn
      rcases List.mem_cons.mp hn with y | y
      · rw [y]; exact ⟨h2, z⟩
      · have := RT_in f true _ _ _ h3 n y
        exact ⟨⟨this.1.1, by omega⟩, this.2⟩
    · rw [h4, if_neg z] at hn
      have := RT_in f true _ _ _ h3 n hn
      exact ⟨⟨this.1.1, by omega⟩, this.2⟩
  | f + 1, true, j, r, L, h => by
    rcases h with ⟨-, h⟩ | ⟨r0, L1, L2, h1, h2, h3, h4⟩
    · intro n hn
      rw [h] at hn
      cases hn
    · intro n hn
      rw [h4] at hn
      rcases List.mem_append.mp hn with y | y
      · exact RT_in f false _ _ _ h2 n y
      · exact RT_in f true _ _ _ h3 n y
end
end
section
set_option maxRecDepth 100000
section
variable {α β : Type} {m0 w0 m w m2 w2 m3 w3 v u mS wS : MS} {K nm Nk W W2 : Nat → Nat} {N T D d o a a0 b c cm cm0 cm2 cm3 q q0 r s lo lo0 mid hi i j f f2 n k kk p σ tk x xa xb : Nat} {Q Q0 Q2 Q3 Q4 : Nat → Nat} {sc sc0 sc2 sc3 t : SCT} {e : List Nat × List Nat × Nat} {g lst l2 : Bool} {L L1 L2 : List Nat} {fof cvr : Int → Int → Int} {C : Nat → Int} {P R : Nat → Nat → Int} {J : Nat → Int64} {H O : List Nat} {y : Option (Nat × Nat × Nat)} {z : Unit} {rt v1 v2 v3 v5 : Int32} {fc : MS → Unit → Option (MS × α)} {RR : MS → α → MS → Int32 → Prop} {RU : MS → α → MS → β → Prop} {A' : Option (MS × α)}
theorem NEC_k : NEC 26 ∧ NEC 27 ∧ NEC 28 ∧ NEC 21 ∧ NEC 23 ∧ NEC 25 ∧ NEC 29 ∧ NEC 38 ∧ NEC 15 ∧ NEC 11 ∧ NEC 5 := by
  unfold NEC
  decide
theorem row_0 {S : SF_Cm_fun} {M : Nat} {B : Option (MS × β)} (h : PP RU (fc m ()) B) : PP RU (bnd (jg_Cm_row N S M m (I ((0 : Nat) : Int))) fc) B := by
  cases M with
  | zero => exact pp_nl
  | succ M =>
    show PP RU (bnd (jb_Cm_row_2 N S (jg_Cm_row N S M) m (I ((0 : Nat) : Int))) fc) B
    unfold jb_Cm_row_2
    rw [show decide (I ((0 : Nat) : Int) = (0 : Int32)) = true from rfl, br_tq, bnd_s]
    exact h
theorem row_s {S : SF_Cm_fun} {M : Nat} {B : Option (MS × β)} (hn : 1 ≤ n ∧ n ≤ 8015) (h : ∀ M, PP RU (bnd (S.2.2.2.2.2.2.2.2.2.2.1 m (I (n : Nat)) (lsI false)) (fun u1 _ => bnd (jg_Cm_row N S M u1 (u1.2.2.1 21 n)) fc)) B) : PP RU (bnd (jg_Cm_row N S M m (I (n : Nat))) fc) B := by
  cases M with
  | zero => exact pp_nl
  | succ M =>
    show PP RU (bnd (jb_Cm_row_2 N S (jg_Cm_row N S M) m (I (n : Nat))) fc) B
    unfold jb_Cm_row_2
    rw [decide_eq_false (fun z => by
      have := (I_eq (x := ((n : Nat) : Int)) (y := 0) (by omega) (by omega) (by decide) (by decide)).mp z
      omega), br_fq, bnd_as2]
    have h := h M
    intro m9 z9 w9 r9 e1 e2
    refine h m9 z9 w9 r9 ?_ e2
    rw [← e1]
    refine congrArg _ (funext (fun u1 => funext (fun _ => ?_)))
    rw [bnd_ck, i_nt2 (show n ≤ 100000 by omega), i_inb (show n < 8016 by omega) (by decide), ck_t]
theorem r_92 {S : SG_M_behind} {G : MS → Int32 → Int32 → Int32 → Int32 → Int32 → Int32 → Option (MS × Int32)} (hw : WP w K T p) (h0 : w.1 67 = 0) (h1 : K p = 26 → PP RR A' (G (adv w p) v1 v2 v3 (I ((j + 1 : Nat) : Int)) v5 1)) (h2 : K p ≠ 26 → PP RR A' (G w v1 v2 v3 (I ((j + 1 : Nat) : Int)) v5 0)) : PP RR A' (br (decide (I (j : Nat) + 1 = (8 : Int32))) (bnd (fm_M_isSign N w 6) (fun u9 r9 => br (decide (r9 = 0)) (kb_M_row_92 N S G u9 v1 v2 v3 (I (j : Nat) + 1) v5) (bnd (km_M_wrong N u9 2) (fun u10 _ => kb_M_row_92 N S G u10 v1 v2 v3 (I (j : Nat) + 1) v5)))) (kb_M_row_92 N S G w v1 v2 v3 (I (j : Nat) + 1) v5)) := by
  have e92 : PP RR A' (kb_M_row_92 N S G w v1 v2 v3 (I (j : Nat) + 1) v5) := by
    unfold kb_M_row_92
    rw [tkS_e (k := 26) (s := 6) hw h0 (by decide) rfl, i_suc]
    by_cases z : K p = 26
    · rw [if_pos z]; exact h1 z
    · rw [if_neg z]; exact h2 z
  refine r_br (fun _ => ?_) (fun _ => e92)
  rw [isS_e (k := 26) (s := 6) hw (by decide) rfl, bnd_s]
  by_cases z : K p = 26
  · rw [if_pos z, show decide ((1 : Int32) = 0) = false from rfl, br_fq]
    exact pp_nr
  · rw [if_neg z, show decide ((0 : Int32) = 0) = true from rfl, br_tq]
    exact e92
theorem row_x (c : CTZ m0 w0 K T nm Nk) (IH : HXE N m0 w0 K T nm Nk fof cvr f) (hxb : xb ≤ 8015) (hr4 : r ≤ 400) (hcl : (NEC (K hi) ∧ hi ≤ T) ∧ K hi ≠ 26) (htot : tot sc0 + (hi - lo0) ≤ 4000 ∧ sc0.length ≤ o + 1)
    (hend : ∀ M2 m2 w2 b cm2 Q2 sc2, XTR m0 w0 K T nm Nk fof cvr lst g [] lo0 hi a0 b cm0 cm2 q0 r Q0 Q2 sc0 sc2 mS wS m2 w2 → PP RR (fc m2 ()) (kg_M_row N (krc_M_behind N d) M2 w2 v1 v2 v3 (I (kk : Nat)) v5 0)) :
    ∀ (k n lo xa q M1 M2 j : Nat) (m w : MS) (a cm : Nat) (Q : Nat → Nat) (sc : SCT), RWcK m0 1 26 (XPcK m0 f o 3) k n lo hi xa xb q r → XTR m0 w0 K T nm Nk fof cvr lst g [] lo0 lo a0 a cm0 cm q0 q Q0 Q sc0 sc mS wS m w → j + k = kk → PP RR (bnd (jg_Cm_row N (jrc_Cm_fun N D) M1 m (I (n : Nat))) fc) (kg_M_row N (krc_M_behind N d) M2 w v1 v2 v3 (I (j : Nat)) v5 1)
  | 0, _, _, _, _, _, _, _, _, _, _, _, _, _, h, _, _ => h.elim
  | k + 1, n, lo, xa, q, M1, 0, j, m, w, a, cm, Q, sc, _, _, _ => pp_nr
  | k + 1, n, lo, xa, q, M1, M2 + 1, j, m, w, a, cm, Q, sc, h, ht, hj => by
    obtain ⟨mid, c1, s1, hE, h⟩ := h
    have hd := xp_hd hE
    have hdm : mid ≤ hi ∧ c1 ≤ xb ∧ s1 ≤ r := by
      rcases h with ⟨-, -, rfl, rfl, rfl⟩ | ⟨-, n2, -, h3⟩
      · exact ⟨Nat.le_refl _, Nat.le_refl _, Nat.le_refl _⟩
      · have := (RW_hdK (XP_bdK _ _ _) h3).1
        unfold HDc at this
        omega
    have hcm : NEC (K mid) ∧ mid ≤ T := by
      rcases h with ⟨-, -, rfl, -⟩ | ⟨⟨-, h2⟩, -⟩
      · exact hcl.1
      · have := hcl.1.2
        exact ⟨by rw [kA c (by omega) (h2 rfl)]; exact NEC_k.1, by omega⟩
    refine row_s ⟨by omega, by omega⟩ (fun M => ?_)
    show PP RR _ (kb_M_row_50 N (krc_M_behind N d) (kg_M_row N (krc_M_behind N d) M2) w v1 v2 v3 (I (j : Nat)) v5 1)
    unfold kb_M_row_50
    have h67 := ht.2.2.1.1.1.2.2.1
    rw [show decide ((1 : Int32) = 0) = false from rfl, br_fq, decide_eq_true h67, br_tq]
    have t1 := ht.2.2.2.1
    have l1 := ht.1.1
    have ttl := XTR_len ht
    refine pp_bb (pp_mo (IH D d o n lo mid xa c1 q s1 m w a cm Q sc g false hE (by omega) (by omega) hcm ht.2.1 ht.2.2.1.1 ht.2.2.1.2 (by omega)) (fun m2 z2 w2 rt hz => ?_))
    obtain ⟨b2, cm2, Q2, sc2, ht2⟩ := XZ_tr hz ht
    have hR2 := ht2.2.2.1.1
    have hw2 := XRS_wp c hR2
    refine r_92 hw2 hR2.1.2.2.1 (fun z => ?_) (fun z => ?_)
    · rcases h with ⟨rfl, h21, rfl, rfl, rfl⟩ | ⟨⟨h1, h2⟩, n2, h21, h3⟩
      · exact absurd z hcl.2
      · rw [tre (XCS_fr ht2.2.1) (by decide) h21]
        have hl : mid < T := c.2.1.1.lt hR2.1.2.1.2 (by omega) (by omega)
        exact row_x c IH hxb hr4 hcl htot hend k n2 (mid + 1) c1 s1 M M2 (j + 1) m2 (adv w2 mid) b2 cm2 Q2 sc2 h3 (XTR_ad ht2 hl (by omega)) (by omega)
    · rcases h with ⟨rfl, h21, rfl, rfl, rfl⟩ | ⟨⟨h1, h2⟩, n2, h21, h3⟩
      · rw [tre (XCS_fr ht2.2.1) (by decide) (v := ((0 : Nat) : Int)) h21]
        refine row_0 ?_
        rw [show j + 1 = kk by omega]
        exact hend M2 m2 w2 b2 cm2 Q2 sc2 ht2
      · exact absurd (kA c hR2.1.2.1.2 (h2 rfl)) z
theorem r_63 {S : SG_M_behind} {G : MS → Int32 → Int32 → Option (MS × Unit)} {RU : MS → α → MS → β → Prop} {F : MS → Unit → Option (MS × β)} (hw : WP w K T p) (h0 : w.1 67 = 0) (h1 : K p = 26 → PP RU A' (bnd (G (adv w p) (I ((j + 1 : Nat) : Int)) 1) F)) (h2 : K p ≠ 26 → PP RU A' (bnd (G w (I ((j + 1 : Nat) : Int)) 0) F)) : PP RU A' (bnd (br (decide (I (j : Nat) + 1 = (6 : Int32))) (bnd (fm_M_isSign N w 6) (fun u9 r9 => br (decide (r9 = 0)) (kb_M_arguments_63 N S G u9 (I (j : Nat) + 1)) (bnd (km_M_wrong N u9 2) (fun u10 _ => kb_M_arguments_63 N S G u10 (I (j : Nat) + 1))))) (kb_M_arguments_63 N S G w (I (j : Nat) + 1))) F) := by
  have e92 : PP RU A' (bnd (kb_M_arguments_63 N S G w (I (j : Nat) + 1)) F) := by
    unfold kb_M_arguments_63
    rw [tkS_e (k := 26) (s := 6) hw h0 (by decide) rfl, i_suc]
    by_cases z : K p = 26
    · rw [if_pos z]; exact h1 z
    · rw [if_neg z]; exact h2 z
  rw [bnd_br]
  refine r_br (fun _ => ?_) (fun _ => e92)
  rw [isS_e (k := 26) (s := 6) hw (by decide) rfl, bnd_s]
  by_cases z : K p = 26
  · rw [if_pos z, show decide ((1 : Int32) = 0) = false from rfl, br_fq]
    exact pp_nr
  · rw [if_neg z, show decide ((0 : Int32) = 0) = true from rfl, br_tq]
    exact e92
theorem arg_x {F : MS → Unit → Option (MS × β)} (c : CTZ m0 w0 K T nm Nk) (IH : HXE N m0 w0 K T nm Nk fof cvr f) (hxb : xb ≤ 8015) (hr4 : r ≤ 400) (hcl : (NEC (K hi) ∧ hi ≤ T) ∧ K hi ≠ 26) (htot : tot sc0 + (hi - lo0) ≤ 4000 ∧ sc0.length ≤ o + 1)
    (hend : ∀ M2 m2 w2 b cm2 Q2 sc2, XTR m0 w0 K T nm Nk fof cvr lst g [] lo0 hi a0 b cm0 cm2 q0 r Q0 Q2 sc0 sc2 mS wS m2 w2 → PP RU (fc m2 ()) (bnd (kg_M_arguments N (krc_M_behind N d) M2 w2 (I (kk : Nat)) 0) F)) :
    ∀ (k n lo xa q M1 M2 j : Nat) (m w : MS) (a cm : Nat) (Q : Nat → Nat) (sc : SCT), RWcK m0 1 26 (XPcK m0 f o 3) k n lo hi xa xb q r → XTR m0 w0 K T nm Nk fof cvr lst g [] lo0 lo a0 a cm0 cm q0 q Q0 Q sc0 sc mS wS m w → j + k = kk → PP RU (bnd (jg_Cm_row N (jrc_Cm_fun N D) M1 m (I (n : Nat))) fc) (bnd (kg_M_arguments N (krc_M_behind N d) M2 w (I (j : Nat)) 1) F)
  | 0, _, _, _, _, _, _, _, _, _, _, _, _, _, h, _, _ => h.elim
  | k + 1, n, lo, xa, q, M1, 0, j, m, w, a, cm, Q, sc, _, _, _ => pp_nr
  | k + 1, n, lo, xa, q, M1, M2 + 1, j, m, w, a, cm, Q, sc, h, ht, hj => by
    obtain ⟨mid, c1, s1, hE, h⟩ := h
    have hd := xp_hd hE
    have hdm : mid ≤ hi ∧ c1 ≤ xb ∧ s1 ≤ r := by
      rcases h with ⟨-, -, rfl, rfl, rfl⟩ | ⟨-, n2, -, h3⟩
      · exact ⟨Nat.le_refl _, Nat.le_refl _, Nat.le_refl _⟩
      · have := (RW_hdK (XP_bdK _ _ _) h3).1
        unfold HDc at this
        omega
    have hcm : NEC (K mid) ∧ mid ≤ T := by
      rcases h with ⟨-, -, rfl, -⟩ | ⟨⟨-, h2⟩, -⟩
      · exact hcl.1
      · have := hcl.1.2
        exact ⟨by rw [kA c (by omega) (h2 rfl)]; exact NEC_k.1, by omega⟩
    refine row_s ⟨by omega, by omega⟩ (fun M => ?_)
    show PP RU _ (bnd (kb_M_arguments_24 N (krc_M_behind N d) (kg_M_arguments N (krc_M_behind N d) M2) w (I (j : Nat)) 1) F)
    unfold kb_M_arguments_24
    have h67 := ht.2.2.1.1.1.2.2.1
    rw [show decide ((1 : Int32) = 0) = false from rfl, br_fq, decide_eq_true h67, br_tq, bnd_as2]
    have t1 := ht.2.2.2.1
    have l1 := ht.1.1
    have ttl := XTR_len ht
    refine pp_bb (pp_mo (IH D d o n lo mid xa c1 q s1 m w a cm Q sc g false hE (by omega) (by omega) hcm ht.2.1 ht.2.2.1.1 ht.2.2.1.2 (by omega)) (fun m2 z2 w2 rt hz => ?_))
    obtain ⟨b2, cm2, Q2, sc2, ht2⟩ := XZ_tr hz ht
    have hR2 := ht2.2.2.1.1
    have hw2 := XRS_wp c hR2
    refine r_63 hw2 hR2.1.2.2.1 (fun z => ?_) (fun z => ?_)
    · rcases h with ⟨rfl, h21, rfl, rfl, rfl⟩ | ⟨⟨h1, h2⟩, n2, h21, h3⟩
      · exact absurd z hcl.2
      · rw [tre (XCS_fr ht2.2.1) (by decide) h21]
        have hl : mid < T := c.2.1.1.lt hR2.1.2.1.2 (by omega) (by omega)
        exact arg_x c IH hxb hr4 hcl htot hend k n2 (mid + 1) c1 s1 M M2 (j + 1) m2 (adv w2 mid) b2 cm2 Q2 sc2 h3 (XTR_ad ht2 hl (by omega)) (by omega)
    · rcases h with ⟨rfl, h21, rfl, rfl, rfl⟩ | ⟨⟨h1, h2⟩, n2, h21, h3⟩
      · rw [tre (XCS_fr ht2.2.1) (by decide) (v := ((0 : Nat) : Int)) h21]
        refine row_0 ?_
        rw [show j + 1 = kk by omega]
        exact hend M2 m2 w2 b2 cm2 Q2 sc2 ht2
      · exact absurd (kA c hR2.1.2.1.2 (h2 rfl)) z
end
end
section
set_option maxRecDepth 100000
def BGk (v : Int) : Prop := v = 1 ∨ v = 2 ∨ v = 3 ∨ v = 4 ∨ v = 7 ∨ v = 8 ∨ v = 9 ∨ v = 12 ∨ v = 13 ∨ v = 14 ∨ v = 17 ∨ v = 20 ∨ v = 22 ∨ v = 24 ∨ v = 34
section
variable {u : MS} {f o cl n lo hi a b q r : Nat}
theorem pa_beg (h : PAcK u f n lo hi a b q r) : BGk (A u 6 lo) := by
  unfold BGk
  cases f with
  | zero => exact h.elim
  | succ f =>
    obtain ⟨-, -, -, h⟩ := h
    rcases h with ⟨h, -⟩ | ⟨-, m, -, -, -, -, -, h⟩ | ⟨-, m, c, -, -, -, h, -⟩ | ⟨-, k, m, c, -, -, h, -⟩ | ⟨-, k, m, mid, c, s, -, -, h, -⟩
    · have := h.2.1; omega
    · omega
    · omega
    · have := h.2.1; omega
    · have := h.2.1; omega
theorem xp_beg : ∀ {f o cl n lo hi a b q r : Nat}, XPcK u f o cl n lo hi a b q r → BGk (A u 6 lo)
  | 0, _, _, _, _, _, _, _, _, _, h => h.elim
  | f + 1, o, cl, n, lo, hi, a, b, q, r, h => by
    obtain ⟨-, -, -, h4⟩ := h
    rcases h4 with ⟨h4, -⟩ | ⟨h4, m, c, h5, h6, h7, hk, -⟩ | ⟨h4, h5, hk⟩ | ⟨h4, h5, hk⟩ | ⟨h4, k, m, c, h5, h6, h7, hk, -⟩ | ⟨h4, x, mid, c, s, k, m, c2, h5, h6, h7, h8, h9, hk, -⟩ | ⟨h4, k, m, c, h5, h6, h7, hk, -⟩ | ⟨h4, k, m, m1, c1, s1, h5, h6, h7⟩ | ⟨h4, k, m, ph, c, h5, h6, h7, h8, h9, h10, h11, h12, hk, -⟩ | h4 | ⟨h4, h5, k, m, a2, c, h6, h7, h8, h9, h10, h11, hk, -⟩ | ⟨h4, h5, x, mid, c, s, k, m, h6, h7, -⟩ | ⟨h4, h5, m, c, h6, h7, h8, h9, h10⟩ | ⟨h4, h5, m, c, h6, h7, h8, hk⟩ | ⟨h4, h5, x, y, mid, c, c2, h6, h7, -⟩ | ⟨h4, h5, x, y, mid, c, c2, s, h6, h7, -⟩ | ⟨h4, h5, j, m, c, h6, h7, -⟩
    · have := h4.2.1; unfold BGk; omega
    · unfold BGk; omega
    · obtain ⟨-, -, -, -, -, ⟨-, h, -⟩, -⟩ := h5; unfold BGk; omega
    · obtain ⟨-, -, -, -, -, -, -, ⟨-, h, -⟩, -⟩ := h5; unfold BGk; omega
    · unfold BGk; omega
    · unfold BGk; omega
    · unfold BGk; omega
    · unfold BGk
      rcases h7 with ⟨-, -, -, -, -, -, hk, -⟩ | ⟨x, m2, c2, s2, kb, mb, c3, -, -, -, -, -, -, hk, -⟩
      · omega
      · omega
    · unfold BGk; omega
    · have := h4.2.1.2.1; unfold BGk; omega
    · unfold BGk; omega
    · exact xp_beg h7
    · unfold BGk
      rcases h4 with h4 | h4
      · have := h9 h4; omega
      · have := h10 h4; omega
    · unfold BGk; omega
    · exact pa_beg h7
    · exact xp_beg h7
    · cases j with
      | zero => exact absurd h7.2.2.2.2.2 (by decide)
      | succ j =>
        obtain ⟨-, n2, x2, c2, q2, S2, g2, h, -⟩ := h7
        rcases h with ⟨⟨m1, h, -⟩, -⟩ | ⟨-, h, -⟩
        · exact xp_beg h
        · cases h
theorem rw_beg {d z k : Nat} (h : RWcK u d z (XPcK u f o cl) k n lo hi a b q r) : BGk (A u 6 lo) := by
  cases k with
  | zero => exact h.elim
  | succ k =>
    obtain ⟨m, c, s, h, -⟩ := h
    exact xp_beg h
theorem BG_ne {v : Int} (h : BGk v) : v ≠ 21 ∧ v ≠ 23 ∧ v ≠ 25 ∧ v ≠ 5 ∧ v ≠ 11 := by
  unfold BGk at h
  omega
end
end
section
set_option maxRecDepth 100000
section
variable {α β : Type} {m0 w0 m w m2 w2 m3 w3 v u mS wS : MS} {K nm Nk W W2 : Nat → Nat} {N T D d o a a0 b c cm cm0 cm2 cm3 q q0 r s lo lo0 mid hi i j f f2 n k kk p σ tk x xa xb : Nat} {Q Q0 Q2 Q3 Q4 : Nat → Nat} {sc sc0 sc2 sc3 t : SCT} {e : List Nat × List Nat × Nat} {g lst l2 : Bool} {L L1 L2 : List Nat} {fof cvr : Int → Int → Int} {C : Nat → Int} {P R : Nat → Nat → Int} {J : Nat → Int64} {H O : List Nat} {y : Option (Nat × Nat × Nat)} {z : Unit} {rt v1 v2 v3 v5 : Int32} {fc : MS → Unit → Option (MS × α)} {RR : MS → α → MS → Int32 → Prop} {RU : MS → α → MS → β → Prop} {A' : Option (MS × α)} {l : List Int32}
theorem XZ_n (h : XTR m0 w0 K T nm Nk fof cvr lst g [] lo mid a b cm cm2 q r Q Q2 sc sc2 m w m2 w2) (k : XTR m0 w0 K T nm Nk fof cvr lst g L mid hi b c cm2 cm2 r r Q2 (qst Q2 32 (Q2 32 + 1)) sc2 sc2 m2 w2 m3 v) (hac : a < c) (hlh : lo < hi) (r28 : A v 28 (Q2 32) = -1) (hL : (L = [] ∧ A v 23 (Q2 32) ≠ 12 ∧ A v 23 (Q2 32) ≠ 13) ∨ (L = [Q2 32] ∧ (A v 23 (Q2 32) = 12 ∨ A v 23 (Q2 32) = 13) ∧ A v 30 (Q2 32) = 0)) : XZ m0 w0 K T nm Nk fof cvr lst g lo hi a cm q r Q sc m w m3 () v (I (Q2 32 : Nat)) := by
  have q32 : Q 32 ≤ Q2 32 := h.2.2.2.2.2.2.1.2.1 32 (by decide)
  refine ⟨c, cm2, qst Q2 32 (Q2 32 + 1), sc2, Q2 32, 2, L, rfl, ⟨q32, by rw [qst_at]; omega⟩, XTR_tr h k, ⟨hac, hlh⟩, ?_, fun n hn => ?_⟩
  · rcases hL with ⟨rfl, h1, h2⟩ | ⟨rfl, h1, -⟩
    · exact RTd_1 r28 ⟨h1, h2⟩ rfl ⟨q32, by rw [qst_at]; omega⟩
    · exact RTd_c r28 h1 rfl ⟨q32, by rw [qst_at]; omega⟩
  · rcases hL with ⟨rfl, h1, h2⟩ | ⟨rfl, h1, h2⟩
    · cases hn
    · rw [List.mem_singleton.mp hn]; exact h2
theorem adv_n {p : Nat} (h : NOD (adv w p) v i) : NOD w v i := NOD_w h (fun k hk => upI_ne (by rintro rfl; revert hk; decide)) rfl rfl
theorem r_n2 {kd : Int32} {t : Nat} {x25 x26 : Int32} {G : MS → Int32 → Option (MS × β)} (n1 : w.1 32 = I (i : Nat)) (n2 : i ≤ 24000) (hk : vp_nar .byte (kd.toInt8.toInt32) = kd) (ht : t ≤ 4002) (hh : ∀ v, i < 16000 → NOD w v i → v.1 69 = w.1 69 → v.1 73 = w.1 73 → A v 23 i = kd.toInt → A v 24 i = ((t : Nat) : Int) → A v 25 i = x25.toInt → A v 26 i = x26.toInt → A v 27 i = -1 → A v 28 i = -1 → A v 30 i = 0 → PP RU A' (G v (I (i : Nat)))) : PP RU A' (bnd (fm_M_node N w kd (I (t : Nat))) (fun u1 r1 => ck (inb r1 (ln 25)) (lt (upA u1 25 (upd (u1.2.2.1 25) r1.toNatClampNeg x25)) (fun w2 => ck (inb r1 (ln 26)) (lt (upA w2 26 (upd (w2.2.2.1 26) r1.toNatClampNeg x26)) (fun w3 => G w3 r1)))))) := by
  refine r_nod n1 n2 hk (nsh ht) (fun h16 => ?_)
  have d0 : NOD w (nwD w i kd (I (t : Nat))) i := NOD_0 n1
  obtain ⟨d1, d2, d3, d4, d5, d6, d7, d8⟩ := nwD_at (w := w) (i := i) (k := kd) (t := I (t : Nat))
  have d9 : (nwD w i kd (I (t : Nat))).1 69 = w.1 69 := nwD_i (by decide)
  have d10 : (nwD w i kd (I (t : Nat))).1 73 = w.1 73 := nwD_i (by decide)
  generalize nwD w i kd (I (t : Nat)) = u at d0 d1 d2 d3 d4 d5 d6 d7 d8 d9 d10
  rw [i_nt2 (p := i) (by omega)]
  refine r_ck (fun _ => r_lt (r_ck (fun _ => r_lt ?_)))
  have rr : ∀ k, k ≠ 25 → k ≠ 26 → A (upA (upA u 25 (upd (u.2.2.1 25) i x25)) 26 (upd ((upA u 25 (upd (u.2.2.1 25) i x25)).2.2.1 26) i x26)) k i = A u k i := fun k h1 h2 => by
    show ((upA (upA u 25 _) 26 _).2.2.1 k i).toInt = _
    rw [upA_no h2, upA_no h1]
    rfl
  refine hh _ h16 (NOD_A (NOD_A d0 (by decide)) (by decide)) d9 d10 ((rr 23 (by decide) (by decide)).trans (by rw [show A u 23 i = (u.2.2.1 23 i).toInt from rfl, d1])) ((rr 24 (by decide) (by decide)).trans (by rw [show A u 24 i = (u.2.2.1 24 i).toInt from rfl, d2]; exact I_ti (by omega) (by omega))) ?_ ?_ ((rr 27 (by decide) (by decide)).trans (by rw [show A u 27 i = (u.2.2.1 27 i).toInt from rfl, d5]; rfl)) ((rr 28 (by decide) (by decide)).trans (by rw [show A u 28 i = (u.2.2.1 28 i).toInt from rfl, d6]; rfl)) ((rr 30 (by decide) (by decide)).trans (by rw [show A u 30 i = (u.2.2.1 30 i).toInt from rfl, d8]; rfl))
  · show ((upA (upA u 25 _) 26 _).2.2.1 25 i).toInt = _
    rw [upA_no (by decide), upA_at, upd_at]
  · show ((upA (upA u 25 _) 26 _).2.2.1 26 i).toInt = _
    rw [upA_at, upd_at]
theorem al_row {S : SG_M_behind} (c : CTZ m0 w0 K T nm Nk) (hR : XRS w0 T w lo Q sc) (hk : K lo = 22 ∨ K lo = 24) (h : PP RR A' (bnd (S.2.2.2.2.2.2.2.1 w (I (lo : Nat))) (fun u6 r6 => some (u6, r6)))) : PP RR A' (km_M_alone N S w (I (lo : Nat))) := by
  have hw := XRS_wp c hR
  obtain ⟨a, b, -⟩ := tkd_6 c hR
  have s4 : decide (w.2.2.1 6 lo = 4) = decide (K lo = 1) := srt_dc hw srK_4
  have s1 : decide (w.2.2.1 6 lo = 1) = decide (K lo = 2) := srt_dc hw srK_1
  have s5 : decide (w.2.2.1 6 lo = 5) = decide (K lo = 4) := srt_dc hw srK_5
  have s2 : decide (w.2.2.1 6 lo = 2) = decide (K lo = 3) := srt_dc hw srK_2
  unfold km_M_alone kb_M_alone_0 kb_M_alone_270 kb_M_alone_361
  rw [b, s4, s1, s5, s2]
  refine r_ck (fun _ => ?_)
  rw [decide_eq_false (by omega), br_fq]
  refine r_ck (fun _ => ?_)
  rw [decide_eq_false (by omega), br_fq]
  refine r_ck (fun _ => ?_)
  rw [decide_eq_false (by omega), br_fq]
  refine r_ck (fun _ => ?_)
  rw [decide_eq_false (by omega), br_fq, tkS_e (k := 20) (s := 0) hw hR.1.2.2.1 (by decide) rfl, if_neg (by omega), bnd_s, show decide ((0 : Int32) = 0) = true from rfl, br_tq, isS_e (k := 22) (s := 2) hw (by decide) rfl, bnd_s]
  rcases hk with hk | hk
  · rw [if_pos hk, show decide ((1 : Int32) = 0) = false from rfl, br_fq]
    exact h
  · rw [if_neg (by omega), show decide ((0 : Int32) = 0) = true from rfl, br_tq, isS_e (k := 24) (s := 4) hw (by decide) rfl, bnd_s, if_pos hk, show decide ((1 : Int32) = 0) = false from rfl, br_fq]
    exact h
theorem tup_n {S : SG_M_behind} {G : MS → Int32 → Int32 → Int32 → Int32 → Int32 → Int32 → Option (MS × Int32)} (c : CTZ m0 w0 K T nm Nk) (ht : XTR m0 w0 K T nm Nk fof cvr lst g [] lo mid a b cm cm2 q r Q Q2 sc sc2 m w m2 w2) (k23 : K mid = 23) (hlo : lo < mid) (hkk : kk ≤ 8) : PP (XZ m0 w0 K T nm Nk fof cvr lst g lo (mid + 1) a cm q r Q sc m w) (bnd (jm_Co_put N m2 4) (fun u70 _ => bnd (jm_Co_put N u70 (I (kk : Nat))) (fun u78 _ => some (u78, ())))) (kb_M_row_125 N S G w2 (I (lo : Nat)) 1 3 (I (kk : Nat)) 0) := by
  have hR := ht.2.2.1.1
  have hC := ht.2.1
  have t4 := c.2.1.1.1
  have hl : mid < T := c.2.1.1.lt hR.1.2.1.2 (by omega) (by omega)
  unfold kb_M_row_125
  refine need_k (XRS_wp c hR) hR.1.2.2.1 (k := 23) (by decide) rfl (fun _ => ?_)
  rw [show decide ((1 : Int32) = 0) = false from rfl, br_fq]
  unfold kb_M_row_140
  have hA := XRS_ad hR hl
  obtain ⟨n1, n2⟩ := XRS_q hA
  refine r_n2 n1 n2 rfl (by omega) (fun v h16 hN h69 _ r23 r24 r25 r26 r27 r28 r30 => ?_)
  have h69 : v.1 69 = I ((mid + 1 : Nat) : Int) := h69.trans upI_at
  refine l_put hC.1.2.2.1.1 hC.1.2.2.1.2.2 (fun ha => ?_)
  have h1 := XCS_put (x := 4) hC ha
  refine l_put h1.1.2.2.1.1 h1.1.2.2.1.2.2 (fun ha1 => ?_)
  have h2 := XCS_put (x := I (kk : Nat)) h1 ha1
  have em : ptc (ptc m2 b 4) (b + 1) (I (kk : Nat)) = ptcs m2 b [4, I (kk : Nat)] := rfl
  rw [em] at h2 ⊢
  have l1 := ht.1
  have r23 : A v 23 (Q2 32) = 4 := r23
  refine pp_end (XZ_n (L := []) (c := b + 2) ht (XT_nod hC hR ht.2.2.1.2 ⟨by omega, hl⟩ (fun j j1 j2 => ?_) (by omega) h2 (XFC_ps XFC_rf (Nat.le_refl _)) (ptcs_r (by decide)) (adv_n hN) rfl h16 h69 (fun n hn => by cases hn) (fun C P R J H fi hx => ⟨fun u u1 u2 => by omega, fun y hy hr => ?_⟩)) (by omega) (by omega) r28 (Or.inl ⟨rfl, by rw [r23]; decide⟩))
  · rw [show j = mid by omega]; omega
  · have gc := fi.1
    have ro : ∀ k, 23 ≤ k ∧ k ≤ 31 → k ≠ 27 ∧ k ≠ 29 ∧ k ≠ 30 → R k (Q2 32) = A v k (Q2 32) := fun k k1 k2 => FIN_R fi k1 k2 ⟨Nat.le_refl _, by rw [qst_at]; omega⟩
    have c0 : C b = 4 := C_0 gc (by omega)
    have c1 : C (b + 1) = (I (kk : Nat)).toInt := C_at (k := 1) gc rfl (by omega)
    obtain ⟨b1, b2⟩ := XB c.2.2.1 hC hR hx h16
    obtain ⟨d, hd⟩ := hr
    rw [qst_at] at hd
    exact cr_1 b1 b2 ⟨d, Or.inr (Or.inr (Or.inr (Or.inl ⟨(ro 23 (by decide) (by decide)).trans r23, c0, by rw [c1, ro 25 (by decide) (by decide), r25], hd⟩)))⟩
theorem x_tup (c : CTZ m0 w0 K T nm Nk) (IH : HXE N m0 w0 K T nm Nk fof cvr f) (hC : XCS m0 nm m a cm sc g) (hR : XRS w0 T w lo Q sc) (hq : Q 56 = q) (hn : n ≤ 8015) (h16 : A m0 16 n = 6) (hT : TUcK m0 (XPcK m0 f (o + 1) 3) n lo hi xa q r) (hr4 : r ≤ 400) (hlh : lo + 2 ≤ hi) (hiT : hi ≤ T) (htot : tot sc + (hi - lo) ≤ 4000 ∧ sc.length ≤ o + 1) : PP (XZ m0 w0 K T nm Nk fof cvr lst g lo hi a cm q r Q sc m w) (jm_Cm_expression N (jrc_Cm_fun N D) m (I (n : Nat)) v2) (km_M_alone N (krc_M_behind N d) w (I (lo : Nat))) := by
  obtain ⟨k, m1, c1, h18, h19, ⟨hk8, h6, h6b⟩, hE, hc1⟩ := hT
  have fr := XCS_fr hC
  have t4 := c.2.1.1.1
  have k22 : K lo = 22 := kA c (by omega : lo ≤ T) h6
  have k23 : K (hi - 1) = 23 := kA c (by omega : hi - 1 ≤ T) h6b
  have hw := XRS_wp c hR
  have hl : lo < T := by omega
  refine exd_6 hn (tre fr (by decide) h16) (l_ck (fun _ => ?_))
  rw [tre fr (by decide) h18]
  cases D with
  | zero => exact pp_nl
  | succ D =>
  refine al_row c hR (Or.inl k22) ?_
  cases d with
  | zero => exact pp_nr
  | succ d =>
  show PP _ (bnd (jg_Cm_row N (jrc_Cm_fun N D) N m (I (m1 : Nat))) _) (bnd (kb_M_row_0 N (krc_M_behind N d) (kg_M_row N (krc_M_behind N d) N) w (I (lo : Nat))) _)
  unfold kb_M_row_0 kb_M_row_15
  rw [isS_e (k := 22) (s := 2) hw (by decide) rfl, if_pos k22, bnd_s, show decide ((1 : Int32) = 0) = false from rfl, br_fq]
  have e1 : w.1 69 + 1 = I ((lo + 1 : Nat) : Int) := by rw [hR.1.2.1.1, i_suc]
  rw [lt_e, e1]
  have ht := XTR_ad (K := K) (nm := nm) (Nk := Nk) (fof := fof) (cvr := cvr) (lst := lst) (mid := lo) (XTR_rf hC hR hq) hl (by omega)
  have hA := ht.2.2.1.1
  have hwA := XRS_wp c hA
  have ea : upI w 69 (I ((lo + 1 : Nat) : Int)) = adv w lo := rfl
  rw [ea, decide_eq_true hA.1.2.2.1, br_tq, isS_e (k := 23) (s := 3) hwA (by decide) rfl, bnd_s]
  have cl : ∀ (m2 w2 : MS) (b cm2 : Nat) (Q2 : Nat → Nat) (sc2 : SCT) (G : MS → Int32 → Int32 → Int32 → Int32 → Int32 → Int32 → Option (MS × Int32)), XTR m0 w0 K T nm Nk fof cvr lst g [] lo (hi - 1) a b cm cm2 q r Q Q2 sc sc2 m w m2 w2 → PP (XZ m0 w0 K T nm Nk fof cvr lst g lo hi a cm q r Q sc m w) (bnd (jm_Co_put N m2 4) (fun u70 r70 => ck (inb (I (n : Nat)) 8016) (bnd (jm_Co_put N u70 (u70.2.2.1 19 n)) (fun u78 r78 => jb_Cm_expression_359 N (jrc_Cm_fun N (D + 1)) () u78)))) (bnd (kb_M_row_125 N (krc_M_behind N d) G w2 (I (lo : Nat)) 1 3 (I (k : Nat)) 0) (fun u6 r6 => some (u6, r6))) := fun m2 w2 b cm2 Q2 sc2 G ht2 => by
    have tn := tup_n (N := N) (S := krc_M_behind N d) (G := G) c ht2 k23 (by omega) hk8
    rw [show hi - 1 + 1 = hi by omega] at tn
    have hC2 := ht2.2.1
    have e19 : ∀ x, (ptc m2 b x).2.2.1 19 n = I (k : Nat) := fun x => by rw [ptc_r (by decide)]; exact tre (XCS_fr hC2) (by decide) h19
    refine pp_rb (pp_mo (R := XZ m0 w0 K T nm Nk fof cvr lst g lo hi a cm q r Q sc m w) ?_ (fun m3 z v r h => pk_some h))
    intro m9 z9 w9 r9 x1 x2
    refine tn m9 z9 w9 r9 ?_ x2
    rw [← x1, putd_e hC2.1.2.2.1.1 hC2.1.2.2.1.2.2]
    by_cases zz : b < 23990
    · rw [if_pos zz, bnd_s, bnd_s, i_inb (show n < 8016 by omega) (by decide), ck_t, e19]
      rfl
    · rw [if_neg zz]; rfl
  rcases hE with ⟨rfl, rfl, h1, h2, h3⟩ | ⟨h1, hE⟩
  · subst h3
    rw [if_pos (by rw [h1]; exact k23), show decide ((1 : Int32) = 0) = false from rfl, br_fq]
    refine row_0 ?_
    have ht2 := ht
    rw [h1] at ht2
    exact cl m (adv w lo) a cm Q sc _ ht2
  · have hd := RW_hdK (XP_bdK _ _ _) hE
    have hx := hd.1
    unfold HDc at hx
    have k23n : K (lo + 1) ≠ 23 := fun z => by
      have b := (BG_ne (rw_beg hE)).2.1
      have y : (m0.2.2.1 6 (lo + 1)).toInt = 23 := by
        rw [c.1.2 (lo + 1) (by omega), z]
        rfl
      exact b y
    rw [if_neg k23n, show decide ((0 : Int32) = 0) = true from rfl, br_tq]
    refine pp_rb (pp_mo (R := XZ m0 w0 K T nm Nk fof cvr lst g lo hi a cm q r Q sc m w) ?_ (fun m3 z v r h => pk_some h))
    refine row_x (xb := c1) (hi := hi - 1) (kk := k) c IH (by omega) hr4 ⟨⟨by rw [k23]; exact NEC_k.2.2.2.2.1, by omega⟩, by omega⟩ (by omega) (fun M2 m2 w2 b cm2 Q2 sc2 ht2 => ?_) k m1 (lo + 1) xa q N N 0 m (adv w lo) a cm Q sc hE ht (by omega)
    cases M2 with
    | zero => exact pp_nr
    | succ M2 =>
      show PP _ _ (kb_M_row_50 N (krc_M_behind N d) (kg_M_row N (krc_M_behind N d) M2) w2 (I (lo : Nat)) 1 3 (I (k : Nat)) 0 0)
      unfold kb_M_row_50 kb_M_row_103
      rw [show decide ((0 : Int32) = 0) = true from rfl, br_tq, show decide ((1 : Int32) = 0) = false from rfl, br_fq]
      have := cl m2 w2 b cm2 Q2 sc2 (kg_M_row N (krc_M_behind N d) M2) ht2
      intro m9 z9 w9 r9 x1 x2
      exact this m9 z9 w9 r9 x1 (by rw [x2]; rfl)
end
end
section
set_option maxRecDepth 100000
section
variable {α β : Type} {m0 w0 m w m2 w2 m3 w3 v u mS wS : MS} {K nm Nk W W2 : Nat → Nat} {N T D d o a a0 b c cm cm0 cm2 cm3 q q0 r s lo lo0 mid hi i j f f2 n k kk p σ tk x xa xb : Nat} {Q Q0 Q2 Q3 Q4 : Nat → Nat} {sc sc0 sc2 sc3 t : SCT} {e : List Nat × List Nat × Nat} {g lst l2 : Bool} {L L1 L2 : List Nat} {fof cvr : Int → Int → Int} {C : Nat → Int} {P R : Nat → Nat → Int} {J : Nat → Int64} {H O : List Nat} {y : Option (Nat × Nat × Nat)} {z : Unit} {rt v1 v2 v3 v5 : Int32} {fc : MS → Unit → Option (MS × α)} {RR : MS → α → MS → Int32 → Prop} {RU : MS → α → MS → β → Prop} {A' : Option (MS × α)} {l : List Int32}
theorem lst_n {S : SG_M_behind} {G : MS → Int32 → Int32 → Int32 → Int32 → Int32 → Int32 → Option (MS × Int32)} (c : CTZ m0 w0 K T nm Nk) (ht : XTR m0 w0 K T nm Nk fof cvr lst g [] lo mid a b cm cm2 q r Q Q2 sc sc2 m w m2 w2) (k25 : K mid = 25) (hlo : lo < mid) (hkk : kk ≤ 8) {tl : Nat} (htl : tl ≤ 1) (hl1 : 1 ≤ l.length) (hw : XCS m0 nm (ptcs m2 b l) (b + l.length) cm2 sc2 g) (hll : (tl = 1 ∧ 1 ≤ kk ∧ l = [5, I (kk : Nat)]) ∨ (tl = 0 ∧ kk = 0 ∧ l = [1, 6, 0]) ∨ (tl = 0 ∧ 1 ≤ kk ∧ l = [1, 6, 0, 5, I (kk : Nat)])) : PP (XZ m0 w0 K T nm Nk fof cvr lst g lo (mid + 1) a cm q r Q sc m w) (some (ptcs m2 b l, ())) (kb_M_row_125 N S G w2 (I (lo : Nat)) 0 5 (I (kk : Nat)) (I (tl : Nat))) := by
  have hR := ht.2.2.1.1
  have hC := ht.2.1
  have t4 := c.2.1.1.1
  have hl : mid < T := c.2.1.1.lt hR.1.2.1.2 (by omega) (by omega)
  unfold kb_M_row_125
  refine need_k (XRS_wp c hR) hR.1.2.2.1 (k := 25) (by decide) rfl (fun _ => ?_)
  rw [show decide ((0 : Int32) = 0) = true from rfl, br_tq]
  unfold kb_M_row_140
  have hA := XRS_ad hR hl
  obtain ⟨n1, n2⟩ := XRS_q hA
  refine r_n2 n1 n2 rfl (by omega) (fun v h16 hN h69 _ r23 r24 r25 r26 r27 r28 r30 => ?_)
  have h69 : v.1 69 = I ((mid + 1 : Nat) : Int) := h69.trans upI_at
  have l1 := ht.1
  have r23 : A v 23 (Q2 32) = 5 := r23
  have i25 : A v 25 (Q2 32) = ((kk : Nat) : Int) := r25.trans (I_ti (by omega) (by omega))
  have i26 : A v 26 (Q2 32) = ((tl : Nat) : Int) := r26.trans (I_ti (by omega) (by omega))
  refine pp_end (XZ_n (L := []) (c := b + l.length) ht (XT_nod hC hR ht.2.2.1.2 ⟨by omega, hl⟩ (fun j j1 j2 => ?_) (by omega) hw (XFC_ps XFC_rf (Nat.le_refl _)) (ptcs_r (by decide)) (adv_n hN) rfl h16 h69 (fun n hn => by cases hn) (fun C P R J H fi hx => ⟨fun u u1 u2 => by omega, fun y hy hr => ?_⟩)) (by omega) (by omega) r28 (Or.inl ⟨rfl, by rw [r23]; decide⟩))
  · rw [show j = mid by omega]; omega
  · have gc := fi.1
    have ro : ∀ k, 23 ≤ k ∧ k ≤ 31 → k ≠ 27 ∧ k ≠ 29 ∧ k ≠ 30 → R k (Q2 32) = A v k (Q2 32) := fun k k1 k2 => FIN_R fi k1 k2 ⟨Nat.le_refl _, by rw [qst_at]; omega⟩
    have ki : (I (kk : Nat)).toInt = ((kk : Nat) : Int) := I_ti (by omega) (by omega)
    have R23 := (ro 23 (by decide) (by decide)).trans r23
    have R25 := (ro 25 (by decide) (by decide)).trans i25
    have R26 := (ro 26 (by decide) (by decide)).trans i26
    obtain ⟨b1, b2⟩ := XB c.2.2.1 hC hR hx h16
    obtain ⟨d, hd⟩ := hr
    rw [qst_at] at hd
    rcases hll with ⟨h1, h2, rfl⟩ | ⟨h1, h2, rfl⟩ | ⟨h1, h2, rfl⟩
    · have c0 : C b = 5 := C_0 gc (by omega)
      have c1 : C (b + 1) = (I (kk : Nat)).toInt := C_at (k := 1) gc rfl (Nat.lt_of_lt_of_eq (by omega : b + 1 < b + 2) rfl)
      exact cr_1 b1 b2 ⟨d, Or.inr (Or.inr (Or.inr (Or.inr (Or.inl ⟨R23, by rw [R26, h1]; rfl, by rw [R25]; omega, c0, by rw [c1, R25, ki], hd⟩))))⟩
    · have c0 : C b = 1 := C_0 gc (by omega)
      have c1 : C (b + 1) = 6 := C_at (k := 1) gc rfl (Nat.lt_of_lt_of_eq (by omega : b + 1 < b + 3) rfl)
      have c2 : C (b + 2) = 0 := C_at (k := 2) gc rfl (Nat.lt_of_lt_of_eq (by omega : b + 2 < b + 3) rfl)
      exact cr_1 b1 b2 ⟨d, Or.inr (Or.inr (Or.inr (Or.inr (Or.inr (Or.inl ⟨R23, by rw [R26, h1]; rfl, c0, c1, c2, Or.inl ⟨by rw [R25, h2]; rfl, hd⟩⟩)))))⟩
    · have c0 : C b = 1 := C_0 gc (by omega)
      have c1 : C (b + 1) = 6 := C_at (k := 1) gc rfl (Nat.lt_of_lt_of_eq (by omega : b + 1 < b + 5) rfl)
      have c2 : C (b + 2) = 0 := C_at (k := 2) gc rfl (Nat.lt_of_lt_of_eq (by omega : b + 2 < b + 5) rfl)
      have c3 : C (b + 3) = 5 := C_at (k := 3) gc rfl (Nat.lt_of_lt_of_eq (by omega : b + 3 < b + 5) rfl)
      have c4 : C (b + 4) = (I (kk : Nat)).toInt := C_at (k := 4) gc rfl (Nat.lt_of_lt_of_eq (by omega : b + 4 < b + 5) rfl)
      exact cr_1 b1 b2 ⟨d, Or.inr (Or.inr (Or.inr (Or.inr (Or.inr (Or.inl ⟨R23, by rw [R26, h1]; rfl, c0, c1, c2, Or.inr ⟨by rw [R25]; omega, c3, by rw [c4, R25, ki], hd⟩⟩)))))⟩
theorem l_57 {S : SF_Cm_fun} {B : Option (MS × β)} {RU : MS → Unit → MS → β → Prop} (hC : XCS m0 nm m a cm sc g) (hn : n ≤ 8015) (h19 : A m0 19 n = ((kk : Nat) : Int)) (hkk : kk ≤ 8) (h0 : kk = 0 → PP RU (some (m, ())) B) (h1 : 1 ≤ kk → XCS m0 nm (ptcs m a [5, I (kk : Nat)]) (a + 2) cm sc g → PP RU (some (ptcs m a [5, I (kk : Nat)], ())) B) : PP RU (jb_Cm_list_57 N S () m (I (n : Nat))) B := by
  unfold jb_Cm_list_57 jb_Cm_list_93
  rw [i_nt2 (show n ≤ 100000 by omega), tre (XCS_fr hC) (by decide) h19]
  refine l_ck (fun _ => ?_)
  rw [show (0 : Int32) = I ((0 : Nat) : Int) from rfl, decI (by omega) (by omega) (by omega) (by omega)]
  by_cases z : kk = 0
  · rw [decide_eq_true (by omega), br_tq]
    exact h0 z
  · rw [decide_eq_false (by omega), br_fq]
    refine l_put hC.1.2.2.1.1 hC.1.2.2.1.2.2 (fun ha => l_ck (fun _ => ?_))
    have x1 := XCS_put (x := 5) hC ha
    have e19 : (ptc m a 5).2.2.1 19 n = I (kk : Nat) := tre (XCS_fr x1) (by decide) h19
    rw [e19]
    refine l_put x1.1.2.2.1.1 x1.1.2.2.1.2.2 (fun ha1 => ?_)
    exact h1 (by omega) (XCS_put (x := I (kk : Nat)) x1 ha1)
theorem l_nil {S : SF_Cm_fun} {B : Option (MS × β)} {RU : MS → Unit → MS → β → Prop} (hC : XCS m0 nm m a cm sc g) (hn : n ≤ 8015) (h19 : A m0 19 n = ((kk : Nat) : Int)) (hkk : kk ≤ 8) (hh : ∀ l : List Int32, XCS m0 nm (ptcs m a l) (a + l.length) cm sc g → ((kk = 0 ∧ l = [1, 6, 0]) ∨ (1 ≤ kk ∧ l = [1, 6, 0, 5, I (kk : Nat)])) → PP RU (some (ptcs m a l, ())) B) : PP RU (bnd (jm_Co_put N m 1) (fun u29 r29 => bnd (jm_Cm_term N u29 6 0) (fun u31 r31 => jb_Cm_list_57 N S () u31 (I (n : Nat))))) B := by
  refine l_put hC.1.2.2.1.1 hC.1.2.2.1.2.2 (fun ha => ?_)
  have h1 := XCS_put (x := 1) hC ha
  unfold jm_Cm_term jb_Cm_term_0
  rw [bnd_as2]
  refine l_put h1.1.2.2.1.1 h1.1.2.2.1.2.2 (fun ha1 => ?_)
  have h2 := XCS_put (x := 6) h1 ha1
  rw [bnd_as2]
  refine l_put h2.1.2.2.1.1 h2.1.2.2.1.2.2 (fun ha2 => ?_)
  rw [bnd_s]
  have h3 := XCS_put (x := 0) h2 ha2
  exact l_57 h3 hn h19 hkk (fun z => hh [1, 6, 0] h3 (Or.inl ⟨z, rfl⟩)) (fun z hx => hh [1, 6, 0, 5, I (kk : Nat)] hx (Or.inr ⟨z, rfl⟩))
theorem l_id {X : Option (MS × Unit)} {B : Option (MS × β)} {RU : MS → Unit → MS → β → Prop} (h : PP RU X B) : PP RU (bnd X (fun u _ => some (u, ()))) B := by
  cases X with
  | none => exact pp_nl
  | some X => exact h
theorem r_id {X : Option (MS × β)} (h : PP RU A' X) : PP RU A' (bnd X (fun u r => some (u, r))) := by
  cases X with
  | none => exact pp_nr
  | some X => exact h
theorem lst_t {G : MS → Int32 → Int32 → Int32 → Int32 → Int32 → Int32 → Option (MS × Int32)} (c : CTZ m0 w0 K T nm Nk) (IH : HXE N m0 w0 K T nm Nk fof cvr f) (ht : XTR m0 w0 K T nm Nk fof cvr lst g [] lo mid a b cm cm2 q s Q Q2 sc sc2 m w m2 w2) (hn : n ≤ 8015) (h19 : A m0 19 n = ((k : Nat) : Int)) (hk8 : k ≤ 8) (hlo : lo < mid) (k25 : K (hi - 1) = 25) (hr4 : r ≤ 400) (hiT : hi ≤ T) (hlh : lo + 2 ≤ hi) (htot : tot sc + (hi - lo) ≤ 4000 ∧ sc.length ≤ o + 1) {c1 : Nat} (hT : (A m0 20 n = 0 ∧ hi = mid + 1 ∧ s = r ∧ c1 < n) ∨ ((1 ≤ k ∧ A m0 6 mid = 29) ∧ ∃ x c2 : Nat, A m0 20 n = ((x : Nat) : Int) ∧ XPcK m0 f o 3 x (mid + 1) (hi - 1) c1 c2 s r ∧ c2 < n)) : PP (XZ m0 w0 K T nm Nk fof cvr lst g lo hi a cm q r Q sc m w) (ck (inb (I (n : Nat)) 8016) (br (decide ((m2.2.2.1 20 n) = 0)) (bnd (jm_Co_put N m2 1) (fun u29 r29 => bnd (jm_Cm_term N u29 6 0) (fun u31 r31 => jb_Cm_list_57 N (jrc_Cm_fun N D) () u31 (I (n : Nat))))) (ck (inb (I (n : Nat)) 8016) (bnd ((jrc_Cm_fun N D).2.2.2.2.2.2.2.2.2.2.1 m2 (m2.2.2.1 20 n) 0) (fun u37 r37 => jb_Cm_list_57 N (jrc_Cm_fun N D) () u37 (I (n : Nat))))))) (kb_M_row_103 N (krc_M_behind N d) G w2 (I (lo : Nat)) 0 5 (I (k : Nat)) 0) := by
  have hC2 := ht.2.1
  have hR2 := ht.2.2.1.1
  have t4 := c.2.1.1.1
  have hw2 := XRS_wp c hR2
  unfold kb_M_row_103
  rw [show decide ((0 : Int32) = 0) = true from rfl, br_tq, tkS_e (k := 29) (s := 9) hw2 hR2.1.2.2.1 (by decide) rfl]
  refine l_ck (fun _ => ?_)
  rcases hT with ⟨h20, rfl, rfl, -⟩ | ⟨⟨h1, h29⟩, x, c2, h20, hE, hc2⟩
  · have k25 : K mid = 25 := k25
    rw [if_neg (by omega), bnd_s, show decide ((0 : Int32) = 0) = true from rfl, br_tq, tre (XCS_fr hC2) (by decide) h20, show decide (I 0 = (0 : Int32)) = true from rfl, br_tq]
    refine l_nil hC2 hn h19 hk8 (fun l hx hl => ?_)
    refine lst_n (tl := 0) c ht k25 hlo hk8 (by decide) (by rcases hl with ⟨-, rfl⟩ | ⟨-, rfl⟩ <;> exact Nat.succ_le_succ (Nat.zero_le _)) hx ?_
    rcases hl with ⟨h1, h2⟩ | ⟨h1, h2⟩
    · exact Or.inr (Or.inl ⟨rfl, h1, h2⟩)
    · exact Or.inr (Or.inr ⟨rfl, h1, h2⟩)
  · have hd := xp_hd hE
    have k29 : K mid = 29 := kA c (by omega) h29
    have hl : mid < T := by omega
    rw [if_pos k29, bnd_s, show decide ((1 : Int32) = 0) = false from rfl, br_fq, tre (XCS_fr hC2) (by decide) h20, decide_eq_false (fun z => by
      have := (I_eq (x := ((x : Nat) : Int)) (y := 0) (by omega) (by omega) (by decide) (by decide)).mp z
      omega), br_fq]
    refine l_ck (fun _ => ?_)
    have hA := XTR_ad ht hl (by omega)
    have t1 := hA.2.2.2.1
    have ttl := XTR_len hA
    refine pp_bb (pp_mo (IH D d o x (mid + 1) (hi - 1) c1 c2 s r m2 (adv w2 mid) b cm2 Q2 sc2 g false hE (by omega) hr4 ⟨by rw [k25]; exact NEC_k.2.2.2.2.2.1, by omega⟩ hC2 hA.2.2.1.1 hA.2.2.1.2 (by omega)) (fun m3 z3 w3 rt hz => ?_))
    obtain ⟨b3, cm3, Q3, sc3, ht3⟩ := XZ_tr hz hA
    refine l_57 ht3.2.1 hn h19 hk8 (fun z => by omega) (fun _ hx => ?_)
    have := lst_n (N := N) (S := krc_M_behind N d) (G := G) (tl := 1) (kk := k) (l := [5, I (k : Nat)]) c ht3 k25 (by omega) hk8 (by decide) (by show 1 ≤ 2; omega) hx (Or.inl ⟨rfl, h1, rfl⟩)
    rw [show hi - 1 + 1 = hi by omega] at this
    exact this
theorem x_lst (c : CTZ m0 w0 K T nm Nk) (IH : HXE N m0 w0 K T nm Nk fof cvr f) (hC : XCS m0 nm m a cm sc g) (hR : XRS w0 T w lo Q sc) (hq : Q 56 = q) (hn : n ≤ 8015) (h16 : A m0 16 n = 7) (hT : TLcK m0 (XPcK m0 f (o + 1) 3) n lo hi xa q r) (hr4 : r ≤ 400) (hiT : hi ≤ T) (htot : tot sc + (hi - lo) ≤ 4000 ∧ sc.length ≤ o + 1) : PP (XZ m0 w0 K T nm Nk fof cvr lst g lo hi a cm q r Q sc m w) (jm_Cm_expression N (jrc_Cm_fun N D) m (I (n : Nat)) v2) (km_M_alone N (krc_M_behind N d) w (I (lo : Nat))) := by
  obtain ⟨k, m1, mid, c1, s1, h18, h19, ⟨hk8, h6, h6b⟩, hE, hT⟩ := hT
  have fr := XCS_fr hC
  have t4 := c.2.1.1.1
  have bd : lo < mid ∧ mid < hi ∧ c1 ≤ n ∧ s1 ≤ r := by
    have h1 := OR_hdK (XP_bdK _ _ _) hE
    rcases hT with ⟨-, h2, h3, h4⟩ | ⟨-, x, c2, -, hx, h2⟩
    · omega
    · have := xp_hd hx
      omega
  have k24 : K lo = 24 := kA c (by omega : lo ≤ T) h6
  have k25 : K (hi - 1) = 25 := kA c (by omega : hi - 1 ≤ T) h6b
  have hw := XRS_wp c hR
  have hl : lo < T := by omega
  refine exd_7 hn (tre fr (by decide) h16) (l_id ?_)
  cases D with
  | zero => exact pp_nl
  | succ D =>
  refine al_row c hR (Or.inr k24) (r_id ?_)
  cases d with
  | zero => exact pp_nr
  | succ d =>
  show PP _ (jb_Cm_list_0 N (jrc_Cm_fun N D) () m (I (n : Nat))) (kb_M_row_0 N (krc_M_behind N d) (kg_M_row N (krc_M_behind N d) N) w (I (lo : Nat)))
  unfold jb_Cm_list_0 kb_M_row_0 kb_M_row_15
  refine l_ck (fun _ => ?_)
  rw [i_nt2 (show n ≤ 100000 by omega), tre fr (by decide) h18, isS_e (k := 22) (s := 2) hw (by decide) rfl, if_neg (by omega), bnd_s, show decide ((0 : Int32) = 0) = true from rfl, br_tq]
  have e1 : w.1 69 + 1 = I ((lo + 1 : Nat) : Int) := by rw [hR.1.2.1.1, i_suc]
  rw [lt_e, e1]
  have ht := XTR_ad (K := K) (nm := nm) (Nk := Nk) (fof := fof) (cvr := cvr) (lst := lst) (mid := lo) (XTR_rf hC hR hq) hl (by omega)
  have hA := ht.2.2.1.1
  have hwA := XRS_wp c hA
  have ea : upI w 69 (I ((lo + 1 : Nat) : Int)) = adv w lo := rfl
  rw [ea, decide_eq_true hA.1.2.2.1, br_tq, isS_e (k := 25) (s := 5) hwA (by decide) rfl, bnd_s]
  cases D with
  | zero => exact pp_nl
  | succ D =>
  show PP _ (bnd (jg_Cm_row N (jrc_Cm_fun N D) N m (I (m1 : Nat))) _) _
  rcases hE with ⟨rfl, rfl, h1, h2, h3⟩ | ⟨h1, hE⟩
  · subst h3
    subst h1
    rcases hT with ⟨h20, hh, hs, h4⟩ | ⟨⟨h, -⟩, -⟩
    · have k25' : K (lo + 1) = 25 := by rw [show lo + 1 = hi - 1 by omega]; exact k25
      rw [if_pos k25', show decide ((1 : Int32) = 0) = false from rfl, br_fq]
      refine row_0 ?_
      have := lst_t (N := N) (D := D + 1) (d := d) (G := kg_M_row N (krc_M_behind N d) N) (k := 0) (n := n) (r := r) (hi := hi) (c1 := c1) (o := o) c IH ht hn h19 (by omega) (by omega) k25 hr4 hiT (by omega) htot (Or.inl ⟨h20, hh, hs, h4⟩)
      unfold kb_M_row_103 at this
      rw [show decide ((0 : Int32) = 0) = true from rfl, br_tq, tkS_e (k := 29) (s := 9) hwA hA.1.2.2.1 (by decide) rfl, if_neg (by omega), bnd_s, show decide ((0 : Int32) = 0) = true from rfl, br_tq] at this
      exact this
    · omega
  · have hd := RW_hdK (XP_bdK _ _ _) hE
    have k25n : K (lo + 1) ≠ 25 := fun z => by
      have b := (BG_ne (rw_beg hE)).2.2.1
      have y : (m0.2.2.1 6 (lo + 1)).toInt = 25 := by
        rw [c.1.2 (lo + 1) (by omega), z]
        rfl
      exact b y
    have ncl : NEC (K mid) ∧ K mid ≠ 26 := by
      rcases hT with ⟨-, hh, -, -⟩ | ⟨⟨-, h29⟩, -⟩
      · rw [show mid = hi - 1 by omega, k25]
        exact ⟨NEC_k.2.2.2.2.2.1, by decide⟩
      · have : K mid = 29 := kA c (by omega) h29
        rw [this]
        exact ⟨NEC_k.2.2.2.2.2.2.1, by decide⟩
    rw [if_neg k25n, show decide ((0 : Int32) = 0) = true from rfl, br_tq]
    have htt : tot sc + (mid - lo) ≤ 4000 ∧ c1 ≤ 8015 ∧ s1 ≤ 400 ∧ mid ≤ T := by
      clear hT
      omega
    refine row_x (xb := c1) (hi := mid) (r := s1) (kk := k) c IH htt.2.1 htt.2.2.1 ⟨⟨ncl.1, htt.2.2.2⟩, ncl.2⟩ ⟨htt.1, by have := htot.2; omega⟩ (fun M2 m2 w2 b cm2 Q2 sc2 ht2 => ?_) k m1 (lo + 1) xa q N N 0 m (adv w lo) a cm Q sc hE ht (Nat.zero_add k)
    cases M2 with
    | zero => exact pp_nr
    | succ M2 =>
      show PP _ _ (kb_M_row_50 N (krc_M_behind N d) (kg_M_row N (krc_M_behind N d) M2) w2 (I (lo : Nat)) 0 5 (I (k : Nat)) 0 0)
      unfold kb_M_row_50
      rw [show decide ((0 : Int32) = 0) = true from rfl, br_tq]
      exact lst_t (N := N) (D := D + 1) (d := d) (G := kg_M_row N (krc_M_behind N d) M2) (k := k) (n := n) (r := r) (hi := hi) (c1 := c1) (o := o + 1) c IH ht2 hn h19 hk8 bd.1 k25 hr4 hiT (by clear hT; omega) ⟨htot.1, by have := htot.2; omega⟩ hT
end
end
section
set_option maxRecDepth 100000
def CVX (N : Nat) (m0 w0 : MS) (K : Nat → Nat) (T : Nat) (idc fof cvr : Int → Int → Int) : Prop := (∀ m α k, FRC m0 m → PK (fun v r => v = m ∧ r = I (idc α k)) (hm_Cm_predefinedOf N m (I α) (I k))) ∧ (∀ m α k, FRC m0 m → PK (fun v r => v = m ∧ r = I (fof α k)) (hm_Co_seek N m (I α) (I k))) ∧ ∀ α k, (∃ p, p < T ∧ K p = 2 ∧ α = A w0 7 p) → (-1 ≤ fof α k ∧ fof α k < 2000) ∧ (0 ≤ k → k ≤ 6 → (idc α k = -1 ∨ (0 ≤ idc α k ∧ idc α k < 30)) ∧ (idc α k ≠ -1 → 2000 ≤ cvr α k ∧ PDs (cvr α k - 2000) (if idc α k = 2 ∨ idc α k = 3 ∨ idc α k = 4 ∨ idc α k = 29 ∨ idc α k = 15 then 40 else 39) (idc α k)) ∧ (idc α k = -1 → fof α k ≠ -1 → cvr α k = fof α k))
section
variable {α β : Type} {m0 w0 m w m2 w2 m3 w3 v u mS wS : MS} {K nm Nk W W2 : Nat → Nat} {N T D d o a a0 b c cm cm0 cm2 cm3 q q0 r s lo lo0 mid hi i j f f2 n k kk p σ tk x xa xb : Nat} {Q Q0 Q2 Q3 Q4 : Nat → Nat} {sc sc0 sc2 sc3 t : SCT} {e : List Nat × List Nat × Nat} {g lst l2 : Bool} {L L1 L2 : List Nat} {idc fof cvr : Int → Int → Int} {C : Nat → Int} {P R : Nat → Nat → Int} {J : Nat → Int64} {H O : List Nat} {y : Option (Nat × Nat × Nat)} {z : Unit} {rt v1 v2 v3 v5 : Int32} {fc : MS → Unit → Option (MS × α)} {RR : MS → α → MS → Int32 → Prop} {RU : MS → α → MS → β → Prop} {A' : Option (MS × α)} {l : List Int32}
theorem XZ_in (h : XTR m0 w0 K T nm Nk fof cvr lst g [] lo mid a a cm cm q q Q Q sc sc m w m u) (hz : XZ m0 w0 K T nm Nk fof cvr lst g mid hi a cm q r Q sc m u m2 z w2 rt) : XZ m0 w0 K T nm Nk fof cvr lst g lo hi a cm q r Q sc m w m2 z w2 rt := by
  obtain ⟨c, cm3, Q3, sc3, rn, f, L, z1, z2, z3, z4, z5, z6⟩ := hz
  have := h.1
  exact ⟨c, cm3, Q3, sc3, rn, f, L, z1, z2, XTR_tr h z3, ⟨z4.1, by omega⟩, z5, z6⟩
theorem XZ_out (hz : XZ m0 w0 K T nm Nk fof cvr lst g lo mid a cm q r Q sc m w m2 z w2 rt) (hX : ∀ Q2 sc2, XRS w0 T w2 mid Q2 sc2 → XRS w0 T v hi Q2 sc2) (hv : v.2 = w2.2) (hl : mid ≤ hi) (gap : ∀ j, mid ≤ j → j < hi → K j ≠ 3) : XZ m0 w0 K T nm Nk fof cvr lst g lo hi a cm q r Q sc m w m2 z v rt := by
  obtain ⟨c, cm3, Q3, sc3, rn, f, L, z1, z2, z3, z4, z5, z6⟩ := hz
  have hx := XTR_mv z3 (hX _ _ z3.2.2.1.1) hv hl gap
  obtain ⟨v1, vr⟩ := v
  have hv : vr = w2.2 := hv
  subst hv
  exact ⟨c, cm3, Q3, sc3, rn, f, L, z1, z2, hx, ⟨z4.1, by omega⟩, (RT_fr (w := w2) (v := (v1, w2.2)) f).2 _ rn L (fun _ _ _ => ⟨rfl, rfl⟩) (fun _ _ _ => rfl) z5, z6⟩
theorem XZ_pr (hz : XZ m0 w0 K T nm Nk fof cvr lst g lo mid a cm q r Q sc m w m2 z w2 rt) : ∃ Q2 sc2, XRS w0 T w2 mid Q2 sc2 := by
  obtain ⟨c, cm3, Q3, sc3, rn, f, L, z1, z2, z3, z4⟩ := hz
  exact ⟨Q3, sc3, z3.2.2.1.1⟩
theorem al_par {S : SG_M_behind} (c : CTZ m0 w0 K T nm Nk) (hR : XRS w0 T w lo Q sc) (hk : K lo = 20) (h : PP RR A' (bnd (S.2.2.2.2.2.2.2.2.2.2.2.2.2.1 (adv w lo)) (fun u23 r23 => bnd (km_M_needSign N u23 1) (fun u24 _ => some (u24, r23))))) : PP RR A' (km_M_alone N S w (I (lo : Nat))) := by
  have hw := XRS_wp c hR
  obtain ⟨a, b, -⟩ := tkd_6 c hR
  have s4 : decide (w.2.2.1 6 lo = 4) = decide (K lo = 1) := srt_dc hw srK_4
  have s1 : decide (w.2.2.1 6 lo = 1) = decide (K lo = 2) := srt_dc hw srK_1
  have s5 : decide (w.2.2.1 6 lo = 5) = decide (K lo = 4) := srt_dc hw srK_5
  have s2 : decide (w.2.2.1 6 lo = 2) = decide (K lo = 3) := srt_dc hw srK_2
  unfold km_M_alone kb_M_alone_0 kb_M_alone_361
  rw [b, s4, s1, s5, s2]
  refine r_ck (fun _ => ?_)
  rw [decide_eq_false (by omega), br_fq]
  refine r_ck (fun _ => ?_)
  rw [decide_eq_false (by omega), br_fq]
  refine r_ck (fun _ => ?_)
  rw [decide_eq_false (by omega), br_fq]
  refine r_ck (fun _ => ?_)
  rw [decide_eq_false (by omega), br_fq, tkS_e (k := 20) (s := 0) hw hR.1.2.2.1 (by decide) rfl, if_pos hk, bnd_s, show decide ((1 : Int32) = 0) = false from rfl, br_fq]
  exact h
theorem pk_ndS {s' : Int32} {PP' : MS → Unit → Prop} (c : CTZ m0 w0 K T nm Nk) (hX : XRS w0 T w p Q sc) (hk : 20 ≤ k ∧ k ≤ 44) (hs : s' = I (svK k : Nat)) (h : K p = k → PP' (adv w p) ()) : PK PP' (km_M_needSign N w s') := by
  unfold km_M_needSign kb_M_needSign_0 kb_M_needSign_13
  rw [tkS_e (XRS_wp c hX) hX.1.2.2.1 hk hs]
  by_cases z : K p = k
  · rw [if_pos z]
    exact pk_some (h z)
  · rw [if_neg z]
    exact pk_none
theorem pk_ndW {s' : Int32} {PP' : MS → Unit → Prop} (c : CTZ m0 w0 K T nm Nk) (hX : XRS w0 T w p Q sc) (hk : 5 ≤ k ∧ k ≤ 19) (hs : s' = I (svK k : Nat)) (h : K p = k → PP' (adv w p) ()) : PK PP' (km_M_needWord N w s') := by
  unfold km_M_needWord kb_M_needWord_0 kb_M_needWord_13
  rw [tkW_e (XRS_wp c hX) hX.1.2.2.1 hk hs]
  by_cases z : K p = k
  · rw [if_pos z]
    exact pk_some (h z)
  · rw [if_neg z]
    exact pk_none
theorem x_grp (c : CTZ m0 w0 K T nm Nk) (IH : HXE N m0 w0 K T nm Nk fof cvr f) (hC : XCS m0 nm m a cm sc g) (hR : XRS w0 T w lo Q sc) (hq : Q 56 = q) (hn : n ≤ 8015) (h16 : A m0 16 n = 5) (h18 : A m0 18 n = ((x : Nat) : Int)) (hE : XPcK m0 f (o + 1) 3 x (lo + 1) (hi - 1) xa xb q r) (hxb : xb ≤ 8015) (h6 : A m0 6 lo = 20) (h6b : A m0 6 (hi - 1) = 21) (hr4 : r ≤ 400) (hiT : hi ≤ T) (htot : tot sc + (hi - lo) ≤ 4000 ∧ sc.length ≤ o + 1) : PP (XZ m0 w0 K T nm Nk fof cvr lst g lo hi a cm q r Q sc m w) (jm_Cm_expression N (jrc_Cm_fun N D) m (I (n : Nat)) (lsI lst)) (km_M_alone N (krc_M_behind N d) w (I (lo : Nat))) := by
  have fr := XCS_fr hC
  have t4 := c.2.1.1.1
  have hd := xp_hd hE
  have k20 : K lo = 20 := kA c (by omega : lo ≤ T) h6
  have k21 : K (hi - 1) = 21 := kA c (by omega : hi - 1 ≤ T) h6b
  refine exd_5 hn (tre fr (by decide) h16) (l_ck (fun _ => l_id ?_))
  rw [tre fr (by decide) h18]
  refine al_par c hR k20 ?_
  have ht := XTR_ad (K := K) (nm := nm) (Nk := Nk) (fof := fof) (cvr := cvr) (lst := lst) (mid := lo) (XTR_rf hC hR hq) (by omega) (by omega)
  refine pp_rb (pp_mo (IH D d (o + 1) x (lo + 1) (hi - 1) xa xb q r m (adv w lo) a cm Q sc g lst hE hxb hr4 ⟨by rw [k21]; exact NEC_k.2.2.2.1, by omega⟩ hC ht.2.2.1.1 hq (by omega)) (fun m2 z2 w2 rt hz => ?_))
  obtain ⟨Q2, sc2, hX⟩ := XZ_pr hz
  refine pk_bnd (pk_ndS c hX (k := 21) (by decide) rfl (fun _ => ?_))
  have ho := XZ_out (v := adv w2 (hi - 1)) (hi := hi) (XZ_in ht hz) (fun Q2 sc2 h => by
    have := XRS_ad h (show hi - 1 < T by omega)
    rw [show hi - 1 + 1 = hi by omega] at this
    exact this) rfl (by omega) (fun j a b => by rw [show j = hi - 1 by omega]; omega)
  exact pk_some ho
theorem r_ckb {bb : Bool} {X : Option (MS × Int32)} {F0 : MS → Int32 → Option (MS × β)} (h : PP RU A' (bnd X F0)) : PP RU A' (bnd X (fun u r => ck bb (F0 u r))) := by
  cases X with
  | none => exact pp_nr
  | some X =>
    show PP RU A' (ck bb (F0 X.1 X.2))
    cases bb with
    | false => exact pp_nr
    | true => exact h
theorem al_wrd {S : SG_M_behind} (c : CTZ m0 w0 K T nm Nk) (hR : XRS w0 T w lo Q sc) (hk : K lo = 7 ∨ K lo = 8 ∨ K lo = 12 ∨ K lo = 13 ∨ K lo = 17) (h : ∀ u x, XRS w0 T u lo Q sc → u.2 = w.2 → PP RR A' (bnd (br (decide (K lo = 12)) (S.2.2.2.2.2.2.1 u (I (lo : Nat))) (S.2.2.2.2.2.1 u (I (lo : Nat)))) (fun u4 r4 => some (upI u4 73 x, r4)))) : PP RR A' (km_M_alone N S w (I (lo : Nat))) := by
  have hw := XRS_wp c hR
  obtain ⟨a, b, h6⟩ := tkd_6 c hR
  have s4 : decide (w.2.2.1 6 lo = 4) = decide (K lo = 1) := srt_dc hw srK_4
  have s1 : decide (w.2.2.1 6 lo = 1) = decide (K lo = 2) := srt_dc hw srK_1
  have s5 : decide (w.2.2.1 6 lo = 5) = decide (K lo = 4) := srt_dc hw srK_5
  have s2 : decide (w.2.2.1 6 lo = 2) = decide (K lo = 3) := srt_dc hw srK_2
  have s3 : decide (w.2.2.1 6 lo = 3) = true := decide_eq_true (by rw [h6]; exact (srK_3 _ (by omega)).mpr (by omega))
  unfold km_M_alone kb_M_alone_0
  rw [b, s4, s1, s5, s2]
  refine r_ck (fun _ => ?_)
  rw [decide_eq_false (by omega), br_fq]
  refine r_ck (fun _ => ?_)
  rw [decide_eq_false (by omega), br_fq]
  refine r_ck (fun _ => ?_)
  rw [decide_eq_false (by omega), br_fq]
  refine r_ck (fun _ => ?_)
  rw [decide_eq_false (by omega), br_fq, tkS_e (k := 20) (s := 0) hw hR.1.2.2.1 (by decide) rfl, if_neg (by omega), bnd_s, show decide ((0 : Int32) = 0) = true from rfl, br_tq, isS_e (k := 22) (s := 2) hw (by decide) rfl, bnd_s, if_neg (by omega), show decide ((0 : Int32) = 0) = true from rfl, br_tq, isS_e (k := 24) (s := 4) hw (by decide) rfl, bnd_s, if_neg (by omega), show decide ((0 : Int32) = 0) = true from rfl, br_tq, b, s3, br_tq]
  refine r_ck (fun _ => ?_)
  have e315 : ∀ v, RULd w v → PP RR A' (kb_M_alone_315 N S () v (I (lo : Nat))) := fun v hv => by
    have hX := RUL_x hv hR
    have hX0 := XRS_I (k := 73) (x := 0) hX (by decide) (by decide)
    have h0 := h (upI v 73 0) (v.1 73) hX0 hv.2
    unfold kb_M_alone_315
    rw [lt_e, isV_e (k := 12) (s := 7) (XRS_wp c hX0) (by decide) rfl, bnd_s]
    by_cases z : K lo = 12
    · rw [if_pos z, show decide ((1 : Int32) = 0) = false from rfl, br_fq]
      rw [decide_eq_true z, br_tq] at h0
      exact r_ckb h0
    · rw [if_neg z, show decide ((0 : Int32) = 0) = true from rfl, br_tq]
      rw [decide_eq_false z, br_fq] at h0
      exact r_ckb h0
  refine r_br (fun _ => e315 w RUL_rf) (fun _ => ?_)
  rw [isV_e (k := 14) (s := 9) hw (by decide) rfl, bnd_s, if_neg (by omega), show decide ((0 : Int32) = 0) = true from rfl, br_tq]
  exact r_rul (fun v hv => e315 v hv)
theorem l_seek {f0 : MS → Int32 → Option (MS × α)} {B : Option (MS × β)} {α' k' : Int} (cx : CVX N m0 w0 K T idc fof cvr) (fr : FRC m0 m) (h : PP RU (f0 m (I (fof α' k'))) B) : PP RU (bnd (hm_Co_seek N m (I α') (I k')) f0) B := l_bnd (pk_mo (cx.2.1 m α' k' fr) (fun v r h2 => by rw [h2.1, h2.2]; exact h))
theorem x_fof (c : CTZ m0 w0 K T nm Nk) (cv : CTV m0 w0 K T) (cx : CVX N m0 w0 K T idc fof cvr) (hC : XCS m0 nm m a cm sc g) (hR : XRS w0 T w lo Q sc) (hq : Q 56 = q) (hn : n ≤ 8015) (h16 : A m0 16 n = 13) (h6 : A m0 6 lo = 12 ∧ A m0 6 (lo + 1) = 2 ∧ A m0 6 (lo + 2) = 37 ∧ A m0 6 (lo + 3) = 1 ∧ A m0 17 n = ((lo : Nat) : Int) ∧ A m0 18 n = A m0 7 (lo + 1) ∧ A m0 19 n = A m0 7 (lo + 3)) (hiT : lo + 4 ≤ T) : PP (XZ m0 w0 K T nm Nk fof cvr lst g lo (lo + 4) a cm q q Q sc m w) (jm_Cm_expression N (jrc_Cm_fun N D) m (I (n : Nat)) v2) (km_M_alone N (krc_M_behind N d) w (I (lo : Nat))) := by
  have fr := XCS_fr hC
  have t4 := c.2.1.1.1
  obtain ⟨a0, a1, a2, a3, h17, h18, h19⟩ := h6
  have k0 : K lo = 12 := kA c (by omega : lo ≤ T) a0
  have k1 : K (lo + 1) = 2 := kA c (by omega) a1
  have k2 : K (lo + 2) = 37 := kA c (by omega) a2
  have k3 : K (lo + 3) = 1 := kA c (by omega) a3
  have e18 : A m0 18 n = A w0 7 (lo + 1) := h18.trans (congrArg Int32.toInt ((cv (lo + 1) (by omega)).2.1 (Or.inr k1)))
  have e19 : A m0 19 n = A w0 7 (lo + 3) := h19.trans (congrArg Int32.toInt ((cv (lo + 3) (by omega)).2.1 (Or.inl k3)))
  refine exd_13 hn (tre fr (by decide) h16) (l_id ?_)
  cases D with
  | zero => exact pp_nl
  | succ D =>
  show PP _ (jm_Cm_compound N (jrc_Cm_fun N D) m (I (n : Nat)) v2) _
  refine cmd_13 (tk := lo) hn (tre fr (by decide) h16) hC.2 (tre fr (by decide) h17) (by omega) (fun hg => l_id ?_)
  unfold jm_Cm_funOf jb_Cm_funOf_0
  rw [i_nt2 (show n ≤ 100000 by omega), tre fr (by decide) e18, tre fr (by decide) e19]
  refine l_ck (fun _ => l_ck (fun _ => l_seek cx fr ?_))
  obtain ⟨f1, -⟩ := cx.2.2 (A w0 7 (lo + 1)) (A w0 7 (lo + 3)) ⟨lo + 1, by omega, k1, rfl⟩
  by_cases zf : fof (A w0 7 (lo + 1)) (A w0 7 (lo + 3)) = -1
  · rw [zf, show decide (I (-1) = (-1 : Int32)) = true from rfl, br_tq, tre fr (by decide) h17]
    refine l_ck (fun _ => ?_)
    exact l_flt (tk := lo + 1) (k := 6) (by rw [i_suc]) rfl (by omega) (by decide)
  rw [decide_eq_false (fun z => zf (by
    have := (I_eq (x := fof (A w0 7 (lo + 1)) (A w0 7 (lo + 3))) (y := -1) (by omega) (by omega) (by decide) (by decide)).mp (z.trans rfl)
    exact this)), br_fq]
  unfold jb_Cm_funOf_48
  refine l_put hC.1.2.2.1.1 hC.1.2.2.1.2.2 (fun ha => ?_)
  have h1 := XCS_put (x := 7) hC ha
  refine l_put h1.1.2.2.1.1 h1.1.2.2.1.2.2 (fun ha1 => ?_)
  have h2 := XCS_put (x := I (fof (A w0 7 (lo + 1)) (A w0 7 (lo + 3)))) h1 ha1
  have em : ptc (ptc m a 7) (a + 1) (I (fof (A w0 7 (lo + 1)) (A w0 7 (lo + 3)))) = ptcs m a [7, I (fof (A w0 7 (lo + 1)) (A w0 7 (lo + 3)))] := rfl
  rw [em] at h2 ⊢
  refine al_wrd c hR (by omega) (fun u x hX hu => ?_)
  rw [decide_eq_true k0, br_tq]
  cases d with
  | zero => exact pp_nr
  | succ d =>
  show PP _ _ (bnd (kb_M_fun_0 N (krc_M_behind N d) (kg_M_fun N (krc_M_behind N d) N) u (I (lo : Nat))) _)
  unfold kb_M_fun_0
  have hA := XRS_ad hX (show lo < T by omega)
  have hwA := XRS_wp c hA
  obtain ⟨-, b1, -⟩ := tkd_6 c hA
  have e1 : u.1 69 + 1 = I ((lo + 1 : Nat) : Int) := by rw [hX.1.2.1.1, i_suc]
  have s1 : decide ((adv u lo).2.2.1 6 (lo + 1) = 1) = decide (K (lo + 1) = 2) := srt_dc hwA srK_1
  rw [e1, lt_e, show upI u 69 (I ((lo + 1 : Nat) : Int)) = adv u lo from rfl, b1, s1, decide_eq_true k1, br_tq, bnd_ck]
  refine r_ck (fun _ => ?_)
  have hB := XRS_ad hA (show lo + 1 < T by omega)
  have hwB := XRS_wp c hB
  have e2 : (adv u lo).1 69 = I ((lo + 1 : Nat) : Int) := upI_at
  rw [e2, i_suc, lt_e, show upI (adv u lo) 69 (I ((lo + 1 + 1 : Nat) : Int)) = adv (adv u lo) (lo + 1) from rfl, bnd_as2]
  refine need_k hwB hB.1.2.2.1 (k := 37) (by decide) rfl (fun _ => ?_)
  have hD := XRS_ad hB (show lo + 1 + 1 < T by omega)
  have hwD := XRS_wp c hD
  obtain ⟨-, b3, -⟩ := tkd_6 c hD
  have s4 : decide ((adv (adv (adv u lo) (lo + 1)) (lo + 1 + 1)).2.2.1 6 (lo + 1 + 1 + 1) = 4) = decide (K (lo + 1 + 1 + 1) = 1) := srt_dc hwD srK_4
  have x7 : (adv (adv (adv u lo) (lo + 1)) (lo + 1 + 1)).2.2.1 7 = w0.2.2.1 7 := XRS_7 hD
  have hu2 : (adv (adv (adv u lo) (lo + 1)) (lo + 1 + 1)).2 = w.2 := hu
  generalize adv (adv (adv u lo) (lo + 1)) (lo + 1 + 1) = V at hD hwD b3 s4 x7 hu2
  rw [decide_eq_true hD.1.2.2.1, br_tq, b3, s4, decide_eq_true (show K (lo + 1 + 1 + 1) = 1 from k3), br_tq, bnd_ck]
  refine r_ck (fun _ => ?_)
  unfold kb_M_fun_69
  rw [bnd_as2]
  obtain ⟨n1, n2⟩ := XRS_q hD
  refine r_nod n1 n2 rfl (nsh (by omega)) (fun h16 => ?_)
  have d0 : NOD V (nwD V (Q 32) 15 (I ((lo + 1 : Nat) : Int))) (Q 32) := NOD_0 n1
  obtain ⟨d1, d2, d3, d4, d5, d6, d7, d8⟩ := nwD_at (w := V) (i := Q 32) (k := 15) (t := I ((lo + 1 : Nat) : Int))
  have d9 : (nwD V (Q 32) 15 (I ((lo + 1 : Nat) : Int))).1 69 = I ((lo + 1 + 1 + 1 : Nat) : Int) := by rw [nwD_i (by decide)]; exact hD.1.2.1.1
  have d10 : (nwD V (Q 32) 15 (I ((lo + 1 : Nat) : Int))).2.2.1 7 = w0.2.2.1 7 := by rw [nwD_r (by decide), x7]
  generalize nwD V (Q 32) 15 (I ((lo + 1 : Nat) : Int)) = U at d0 d1 d2 d3 d4 d5 d6 d7 d8 d9 d10
  rw [i_nt2 (p := Q 32) (by omega), i_nt (p := lo + 1) (by omega), d10, bnd_ck, bnd_ck]
  refine r_ck (fun _ => r_ck (fun _ => ?_))
  rw [lt_e]
  have f9 : ∀ gg, (upA U 25 gg).1 69 = I ((lo + 1 + 1 + 1 : Nat) : Int) := fun _ => d9
  have f7 : ∀ gg, (upA U 25 gg).2.2.1 7 = w0.2.2.1 7 := fun _ => by rw [upA_no (by decide)]; exact d10
  rw [f9, f7, i_nt (p := lo + 1 + 1 + 1) (by omega), bnd_ck, bnd_ck]
  refine r_ck (fun _ => r_ck (fun _ => ?_))
  rw [lt_e]
  have f92 : ∀ gg g2, (upA (upA U 25 gg) 26 g2).1 69 + 1 = I ((lo + 4 : Nat) : Int) := fun _ _ => by
    show U.1 69 + 1 = _
    rw [d9, i_suc]
  rw [f92, lt_e, bnd_s]
  have hN : NOD V (upA (upA U 25 (upd (U.2.2.1 25) (Q 32) (w0.2.2.1 7 (lo + 1)))) 26 (upd ((upA U 25 (upd (U.2.2.1 25) (Q 32) (w0.2.2.1 7 (lo + 1)))).2.2.1 26) (Q 32) (w0.2.2.1 7 (lo + 1 + 1 + 1)))) (Q 32) := NOD_A (NOD_A d0 (by decide)) (by decide)
  have r25 : A (upA (upA U 25 (upd (U.2.2.1 25) (Q 32) (w0.2.2.1 7 (lo + 1)))) 26 (upd ((upA U 25 (upd (U.2.2.1 25) (Q 32) (w0.2.2.1 7 (lo + 1)))).2.2.1 26) (Q 32) (w0.2.2.1 7 (lo + 1 + 1 + 1)))) 25 (Q 32) = A w0 7 (lo + 1) := by
    show ((upA (upA U 25 _) 26 _).2.2.1 25 (Q 32)).toInt = _
    rw [upA_no (by decide), upA_at, upd_at]; rfl
  have r26 : A (upA (upA U 25 (upd (U.2.2.1 25) (Q 32) (w0.2.2.1 7 (lo + 1)))) 26 (upd ((upA U 25 (upd (U.2.2.1 25) (Q 32) (w0.2.2.1 7 (lo + 1)))).2.2.1 26) (Q 32) (w0.2.2.1 7 (lo + 1 + 1 + 1)))) 26 (Q 32) = A w0 7 (lo + 3) := by
    show ((upA (upA U 25 _) 26 _).2.2.1 26 (Q 32)).toInt = _
    rw [upA_at, upd_at]; rfl
  have r23 : A (upA (upA U 25 (upd (U.2.2.1 25) (Q 32) (w0.2.2.1 7 (lo + 1)))) 26 (upd ((upA U 25 (upd (U.2.2.1 25) (Q 32) (w0.2.2.1 7 (lo + 1)))).2.2.1 26) (Q 32) (w0.2.2.1 7 (lo + 1 + 1 + 1)))) 23 (Q 32) = 15 := by
    show ((upA (upA U 25 _) 26 _).2.2.1 23 (Q 32)).toInt = _
    rw [upA_no (by decide), upA_no (by decide), d1]; rfl
  have r28 : A (upA (upA U 25 (upd (U.2.2.1 25) (Q 32) (w0.2.2.1 7 (lo + 1)))) 26 (upd ((upA U 25 (upd (U.2.2.1 25) (Q 32) (w0.2.2.1 7 (lo + 1)))).2.2.1 26) (Q 32) (w0.2.2.1 7 (lo + 1 + 1 + 1)))) 28 (Q 32) = -1 := by
    show ((upA (upA U 25 _) 26 _).2.2.1 28 (Q 32)).toInt = _
    rw [upA_no (by decide), upA_no (by decide), d6]; rfl
  generalize upA (upA U 25 (upd (U.2.2.1 25) (Q 32) (w0.2.2.1 7 (lo + 1)))) 26 (upd ((upA U 25 (upd (U.2.2.1 25) (Q 32) (w0.2.2.1 7 (lo + 1)))).2.2.1 26) (Q 32) (w0.2.2.1 7 (lo + 1 + 1 + 1))) = v at hN r25 r26 r23 r28
  have ht0 : XTR m0 w0 K T nm Nk fof cvr lst g [] lo (lo + 1 + 1 + 1) a a cm cm q q Q Q sc sc m w m V := XTR_mv (XTR_rf hC hR hq) hD hu2 (by omega) (fun j j1 j2 => by
    rcases (by omega : j = lo ∨ j = lo + 1 ∨ j = lo + 2) with z | z | z
    · rw [z]; omega
    · rw [z]; omega
    · rw [z]; omega)
  have hN2 : NOD V (upI (upI v 69 (I ((lo + 4 : Nat) : Int))) 73 x) (Q 32) := NOD_I (NOD_I hN (by decide) (by decide)) (by decide) (by decide)
  refine pp_end (XZ_n (L := []) (c := a + 2) ht0 (XT_nod hC hD hq ⟨by omega, hiT⟩ (fun j j1 j2 => ?_) (by omega) h2 (XFC_ps XFC_rf (Nat.le_refl _)) (ptcs_r (by decide)) hN2 rfl h16 (by rw [upI_ne (by decide), upI_at]) (fun n hn => by cases hn) (fun C P R J H fi hx => ⟨fun u u1 u2 => by omega, fun y hy hr => ?_⟩)) (by omega) (by omega) r28 (Or.inl ⟨rfl, by show A v 23 (Q 32) ≠ 12 ∧ A v 23 (Q 32) ≠ 13; rw [r23]; decide⟩))
  · rw [show j = lo + 3 by omega]; omega
  · have gc := fi.1
    have ro : ∀ k, 23 ≤ k ∧ k ≤ 31 → k ≠ 27 ∧ k ≠ 29 ∧ k ≠ 30 → R k (Q 32) = A v k (Q 32) := fun k k1 k2 => FIN_R fi k1 k2 ⟨Nat.le_refl _, by rw [qst_at]; omega⟩
    have R23 := (ro 23 (by decide) (by decide)).trans r23
    have c0 : C a = 7 := C_0 gc (by omega)
    have c1 : C (a + 1) = fof (A w0 7 (lo + 1)) (A w0 7 (lo + 3)) := (C_at (k := 1) gc rfl (by omega)).trans (I_ti (by omega) (by omega))
    have r27 := (fi.2.2.2.2 (Q 32) (Nat.le_refl _) (by rw [qst_at]; omega)).2 R23
    obtain ⟨b1, b2⟩ := XB c.2.2.1 hC hD hx h16
    obtain ⟨d, hd⟩ := hr
    rw [qst_at] at hd
    refine cr_1 b1 b2 ⟨d, Or.inr (Or.inr (Or.inr (Or.inr (Or.inr (Or.inr (Or.inr (Or.inr (Or.inr (Or.inr (Or.inr (Or.inr (Or.inr (Or.inr (Or.inr (Or.inl ⟨R23, c0, ?_, hd⟩)))))))))))))))⟩
    rw [c1, r27, ro 25 (by decide) (by decide), ro 26 (by decide) (by decide), r25, r26]
end
end
section
set_option maxRecDepth 100000
section
variable {α β : Type} {m0 w0 m w m2 w2 m3 w3 v u mS wS : MS} {K nm Nk W W2 : Nat → Nat} {N T D d o a a0 b c cm cm0 cm2 cm3 q q0 r s lo lo0 mid hi i j f f2 n k kk p σ tk x xa xb M : Nat} {Q Q0 Q2 Q3 Q4 : Nat → Nat} {sc sc0 sc2 sc3 t : SCT} {e : List Nat × List Nat × Nat} {g lst l2 : Bool} {L L1 L2 : List Nat} {idc fof cvr : Int → Int → Int} {C : Nat → Int} {P R : Nat → Nat → Int} {J : Nat → Int64} {H O : List Nat} {y : Option (Nat × Nat × Nat)} {z : Unit} {rt v1 v2 v3 v5 : Int32} {fc : MS → Unit → Option (MS × α)} {RR : MS → α → MS → Int32 → Prop} {RU : MS → α → MS → β → Prop} {A' : Option (MS × α)} {l : List Int32}
theorem svK_0 : ∀ k, k < 46 → 20 ≤ k → k ≤ 44 → k ≠ 20 → ¬ (I (svK k : Nat) = (0 : Int32)) := by decide +kernel
theorem r_opn {ix ix2 : Int32} {X Y : Option (MS × β)} (h : TWK w K T) (hp : p ≤ T) (hx : K p = 20 → PP RU A' X) (hy : K p ≠ 20 → PP RU A' Y) : PP RU A' (ck (inb ix (ln 6)) (br (decide (w.2.2.1 6 p = 6)) (ck (inb ix2 (ln 7)) (br (decide (w.2.2.1 7 p = 0)) X Y)) Y)) := by
  have k46 := h.1.k46 hp
  refine r_ck (fun _ => ?_)
  rw [h.2.1 p hp]
  by_cases z : 20 ≤ K p ∧ K p ≤ 44
  · have hl : p < T := h.1.lt hp (by omega) (by omega)
    rw [decide_eq_true ((srK_6 _ k46).mpr z), br_tq, h.2.2 p hl (by omega)]
    refine r_ck (fun _ => ?_)
    by_cases y : K p = 20
    · rw [y, show decide (I (svK 20 : Nat) = (0 : Int32)) = true from rfl, br_tq]
      exact hx y
    · rw [decide_eq_false (svK_0 _ k46 z.1 z.2 y), br_fq]
      exact hy y
  · rw [decide_eq_false (fun y => z ((srK_6 _ k46).mp y)), br_fq]
    exact hy (by omega)
theorem args_x {F : MS → Unit → Option (MS × β)} (c : CTZ m0 w0 K T nm Nk) (IH : HXE N m0 w0 K T nm Nk fof cvr f) (hxb : xb ≤ 8015) (hr4 : r ≤ 400) (hk6 : k ≤ 6) (hE : ORcK m0 1 26 (XPcK m0 f o 3) k n (lo + 1) (hi - 1) xa xb q r) (k20 : K lo = 20) (k21 : K (hi - 1) = 21) (hlh : lo + 2 ≤ hi) (hiT : hi ≤ T) (htot : tot sc0 + (hi - lo0) ≤ 4000 ∧ sc0.length ≤ o + 1) (ht : XTR m0 w0 K T nm Nk fof cvr lst g [] lo0 lo a0 a cm0 cm q0 q Q0 Q sc0 sc mS wS m w)
    (hend : ∀ m2 w2 b cm2 Q2 sc2, XTR m0 w0 K T nm Nk fof cvr lst g [] lo0 hi a0 b cm0 cm2 q0 r Q0 Q2 sc0 sc2 mS wS m2 w2 → w2.1 84 = I (k : Nat) → PP RU (fc m2 ()) (F w2 ())) :
    PP RU (bnd ((jrc_Cm_fun N D).2.2.2.2.2.2.2.2.2.1 m (I (n : Nat))) fc) (bnd ((krc_M_behind N d).2.2.2.2.2.2.2.2.2.1 w) F) := by
  cases D with
  | zero => exact pp_nl
  | succ D =>
  cases d with
  | zero => exact pp_nr
  | succ d =>
  show PP RU (bnd (jg_Cm_row N (jrc_Cm_fun N D) N m (I (n : Nat))) fc) (bnd (kb_M_arguments_0 N (krc_M_behind N d) (kg_M_arguments N (krc_M_behind N d) N) w) F)
  unfold kb_M_arguments_0
  have hR := ht.2.2.1.1
  have l1 := ht.1
  rw [bnd_as2]
  refine need_k (XRS_wp c hR) hR.1.2.2.1 (k := 20) (by decide) rfl (fun _ => ?_)
  have hA := XTR_ad ht (show lo < T by omega) (by omega)
  have hRA := hA.2.2.1.1
  have hwA := XRS_wp c hRA
  rw [decide_eq_true hRA.1.2.2.1, br_tq, isS_e (k := 21) (s := 1) hwA (by decide) rfl, bnd_s]
  have e73 : ∀ (m2 w2 : MS) (b cm2 : Nat) (Q2 : Nat → Nat) (sc2 : SCT) (G : MS → Int32 → Int32 → Option (MS × Unit)), XTR m0 w0 K T nm Nk fof cvr lst g [] lo0 (hi - 1) a0 b cm0 cm2 q0 r Q0 Q2 sc0 sc2 mS wS m2 w2 → PP RU (fc m2 ()) (bnd (kb_M_arguments_73 N (krc_M_behind N d) G w2 (I (k : Nat))) F) := fun m2 w2 b cm2 Q2 sc2 G h => by
    have hR2 := h.2.2.1.1
    unfold kb_M_arguments_73
    rw [bnd_as2]
    refine need_k (XRS_wp c hR2) hR2.1.2.2.1 (k := 21) (by decide) rfl (fun _ => ?_)
    rw [lt_e, bnd_s]
    have h2 := XTR_ad h (show hi - 1 < T by omega) (by omega)
    rw [show hi - 1 + 1 = hi by omega] at h2
    exact hend m2 _ b cm2 Q2 sc2 (XTR_I (k := 84) (x := I (k : Nat)) h2 (by decide) (by decide)) upI_at
  rcases hE with ⟨rfl, rfl, h1, h2, h3⟩ | ⟨h1, hE⟩
  · subst h3
    rw [if_pos (by rw [h1]; exact k21), show decide ((1 : Int32) = 0) = false from rfl, br_fq]
    rw [h1] at hA
    exact row_0 (e73 m (adv w lo) a cm Q sc _ hA)
  · have hd := RW_hdK (XP_bdK _ _ _) hE
    have k21n : K (lo + 1) ≠ 21 := fun z => by
      have b := (BG_ne (rw_beg hE)).1
      have y : (m0.2.2.1 6 (lo + 1)).toInt = 21 := by
        rw [c.1.2 (lo + 1) (by omega), z]
        rfl
      exact b y
    rw [if_neg k21n, show decide ((0 : Int32) = 0) = true from rfl, br_tq]
    refine arg_x (xb := xb) (hi := hi - 1) (kk := k) c IH hxb hr4 ⟨⟨by rw [k21]; exact NEC_k.2.2.2.1, by omega⟩, by omega⟩ (by omega) (fun M2 m2 w2 b cm2 Q2 sc2 ht2 => ?_) k n (lo + 1) xa q N N 0 m (adv w lo) a cm Q sc hE hA (Nat.zero_add k)
    cases M2 with
    | zero => exact pp_nr
    | succ M2 =>
      show PP RU _ (bnd (kb_M_arguments_24 N (krc_M_behind N d) (kg_M_arguments N (krc_M_behind N d) M2) w2 (I (k : Nat)) 0) F)
      unfold kb_M_arguments_24
      rw [show decide ((0 : Int32) = 0) = true from rfl, br_tq]
      exact e73 m2 w2 b cm2 Q2 sc2 _ ht2
theorem pk_ln (cv : CTV m0 w0 K T) (fr : FRC m0 m) (hl : lo < T) : (m.2.2.1 8 lo).toInt = A w0 8 lo := by
  rw [fr.2 8 (by decide)]
  exact congrArg Int32.toInt (cv lo hl).1
theorem call_w {F : MS → Int32 → Option (MS × Int32)} {S : SF_Cm_fun} {fc : MS → Unit → Option (MS × Unit)} {RR : MS → Unit → MS → Int32 → Prop} (c : CTZ m0 w0 K T nm Nk) (cv : CTV m0 w0 K T) (cx : CVX N m0 w0 K T idc fof cvr) (k2 : K lo = 2) (hlo : lo < mid) (hkk : k ≤ 6) (ht : XTR m0 w0 K T nm Nk fof cvr lst g [] lo mid a b cm cm2 q r Q Q2 sc sc2 m w m2 w2) (hmT : mid ≤ T) (h84 : w2.1 84 = I (k : Nat)) (hid : idc (A w0 7 lo) ((k : Nat) : Int) = -1 → fof (A w0 7 lo) ((k : Nat) : Int) ≠ -1 ∧ g = false)
    (hh : ∀ m3 v, XZ m0 w0 K T nm Nk fof cvr lst g lo mid a cm q r Q sc m w m3 () v (I (Q2 32 : Nat)) → PP RR (fc m3 ()) (F v (I (Q2 32 : Nat)))) :
    PP RR (bnd (br (decide (I (idc (A w0 7 lo) ((k : Nat) : Int)) = (-1))) (br (decide (lsI lst = 0)) (jb_Cm_call_198 N S () m2 (I (lo : Nat)) (I (k : Nat)) (I (fof (A w0 7 lo) ((k : Nat) : Int))) 25) (jb_Cm_call_198 N S () m2 (I (lo : Nat)) (I (k : Nat)) (I (fof (A w0 7 lo) ((k : Nat) : Int))) 26)) (br (decide (I (idc (A w0 7 lo) ((k : Nat) : Int)) = 2)) (jb_Cm_call_147 N S () m2 (I (idc (A w0 7 lo) ((k : Nat) : Int)))) (br (decide (I (idc (A w0 7 lo) ((k : Nat) : Int)) = 3)) (jb_Cm_call_147 N S () m2 (I (idc (A w0 7 lo) ((k : Nat) : Int)))) (br (decide (I (idc (A w0 7 lo) ((k : Nat) : Int)) = 4)) (jb_Cm_call_147 N S () m2 (I (idc (A w0 7 lo) ((k : Nat) : Int)))) (br (decide (I (idc (A w0 7 lo) ((k : Nat) : Int)) = 29)) (jb_Cm_call_147 N S () m2 (I (idc (A w0 7 lo) ((k : Nat) : Int)))) (br (decide (I (idc (A w0 7 lo) ((k : Nat) : Int)) = 15)) (jb_Cm_call_147 N S () m2 (I (idc (A w0 7 lo) ((k : Nat) : Int)))) (jb_Cm_call_152 N S () m2 (I (idc (A w0 7 lo) ((k : Nat) : Int))) 0))))))) fc) (bnd (fm_M_node N w2 12 (I (lo : Nat))) (fun u10 r10 => ck (inb (I (lo : Nat)) (ln 7)) (ck (inb r10 (ln 25)) (lt (upA u10 25 (upd (u10.2.2.1 25) r10.toNatClampNeg (u10.2.2.1 7 (I (lo : Nat)).toNatClampNeg))) (fun w11 => ck (inb r10 (ln 26)) (lt (upA w11 26 (upd (w11.2.2.1 26) r10.toNatClampNeg (w11.1 84))) (fun w12 => br (decide ((w12.1 73) = 0)) (ck (isK 27 4) (ck (inb r10 (ln 27)) (lt (upA w12 27 (upd (w12.2.2.1 27) r10.toNatClampNeg 0)) (fun w7 => F w7 r10)))) (ck (isK 27 4) (ck (inb r10 (ln 27)) (lt (upA w12 27 (upd (w12.2.2.1 27) r10.toNatClampNeg 1)) (fun w7 => F w7 r10))))))))))) := by
  have hC := ht.2.1
  have hR := ht.2.2.1.1
  have t4 := c.2.1.1.1
  have l1 := ht.1
  obtain ⟨cf, cp⟩ := cx.2.2 (A w0 7 lo) ((k : Nat) : Int) ⟨lo, by omega, k2, rfl⟩
  obtain ⟨ci, cd, ce⟩ := cp (by omega) (by omega)
  obtain ⟨n1, n2⟩ := XRS_q hR
  have node : ∀ (m3 : MS) (l : List Int32), m3 = ptcs m2 b l → 1 ≤ l.length → XCS m0 nm m3 (b + l.length) cm2 sc2 g → ((idc (A w0 7 lo) ((k : Nat) : Int) ≠ -1 ∧ l = [if idc (A w0 7 lo) ((k : Nat) : Int) = 2 ∨ idc (A w0 7 lo) ((k : Nat) : Int) = 3 ∨ idc (A w0 7 lo) ((k : Nat) : Int) = 4 ∨ idc (A w0 7 lo) ((k : Nat) : Int) = 29 ∨ idc (A w0 7 lo) ((k : Nat) : Int) = 15 then 40 else 39, I (idc (A w0 7 lo) ((k : Nat) : Int))]) ∨ (idc (A w0 7 lo) ((k : Nat) : Int) = -1 ∧ ∃ xl : Int32, xl.toInt = A w0 8 lo ∧ l = [if lst then 26 else 25, I (fof (A w0 7 lo) ((k : Nat) : Int)), I (k : Nat), xl])) → PP RR (fc m3 ()) (bnd (fm_M_node N w2 12 (I (lo : Nat))) (fun u10 r10 => ck (inb (I (lo : Nat)) (ln 7)) (ck (inb r10 (ln 25)) (lt (upA u10 25 (upd (u10.2.2.1 25) r10.toNatClampNeg (u10.2.2.1 7 (I (lo : Nat)).toNatClampNeg))) (fun w11 => ck (inb r10 (ln 26)) (lt (upA w11 26 (upd (w11.2.2.1 26) r10.toNatClampNeg (w11.1 84))) (fun w12 => br (decide ((w12.1 73) = 0)) (ck (isK 27 4) (ck (inb r10 (ln 27)) (lt (upA w12 27 (upd (w12.2.2.1 27) r10.toNatClampNeg 0)) (fun w7 => F w7 r10)))) (ck (isK 27 4) (ck (inb r10 (ln 27)) (lt (upA w12 27 (upd (w12.2.2.1 27) r10.toNatClampNeg 1)) (fun w7 => F w7 r10))))))))))) := fun m3 l em hl1 hm3 hll => by
    refine r_nod n1 n2 rfl (nsh (by omega)) (fun h16 => ?_)
    have d0 : NOD w2 (nwD w2 (Q2 32) 12 (I (lo : Nat))) (Q2 32) := NOD_0 n1
    obtain ⟨d1, d2, d3, d4, d5, d6, d7, d8⟩ := nwD_at (w := w2) (i := Q2 32) (k := 12) (t := I (lo : Nat))
    have d9 : (nwD w2 (Q2 32) 12 (I (lo : Nat))).1 69 = I (mid : Nat) := by rw [nwD_i (by decide)]; exact hR.1.2.1.1
    have d84 : (nwD w2 (Q2 32) 12 (I (lo : Nat))).1 84 = I (k : Nat) := by rw [nwD_i (by decide)]; exact h84
    have d10 : (nwD w2 (Q2 32) 12 (I (lo : Nat))).2.2.1 7 = w0.2.2.1 7 := by rw [nwD_r (by decide)]; exact XRS_7 hR
    generalize nwD w2 (Q2 32) 12 (I (lo : Nat)) = U at d0 d1 d2 d3 d4 d5 d6 d7 d8 d9 d10 d84
    rw [i_nt2 (p := Q2 32) (by omega), i_nt (p := lo) (by omega), d10]
    refine r_ck (fun _ => r_ck (fun _ => r_lt (r_ck (fun _ => r_lt ?_))))
    have e84 : (upA U 25 (upd (U.2.2.1 25) (Q2 32) (w0.2.2.1 7 lo))).1 84 = I (k : Nat) := d84
    rw [e84]
    have hN : NOD w2 (upA (upA U 25 (upd (U.2.2.1 25) (Q2 32) (w0.2.2.1 7 lo))) 26 (upd ((upA U 25 (upd (U.2.2.1 25) (Q2 32) (w0.2.2.1 7 lo))).2.2.1 26) (Q2 32) (I (k : Nat)))) (Q2 32) := NOD_A (NOD_A d0 (by decide)) (by decide)
    have rr : ∀ k', k' ≠ 25 → k' ≠ 26 → (upA (upA U 25 (upd (U.2.2.1 25) (Q2 32) (w0.2.2.1 7 lo))) 26 (upd ((upA U 25 (upd (U.2.2.1 25) (Q2 32) (w0.2.2.1 7 lo))).2.2.1 26) (Q2 32) (I (k : Nat)))).2.2.1 k' = U.2.2.1 k' := fun k' h1 h2 => by rw [upA_no h2, upA_no h1]
    have r25 : (upA (upA U 25 (upd (U.2.2.1 25) (Q2 32) (w0.2.2.1 7 lo))) 26 (upd ((upA U 25 (upd (U.2.2.1 25) (Q2 32) (w0.2.2.1 7 lo))).2.2.1 26) (Q2 32) (I (k : Nat)))).2.2.1 25 (Q2 32) = w0.2.2.1 7 lo := by rw [upA_no (by decide), upA_at, upd_at]
    have r26 : (upA (upA U 25 (upd (U.2.2.1 25) (Q2 32) (w0.2.2.1 7 lo))) 26 (upd ((upA U 25 (upd (U.2.2.1 25) (Q2 32) (w0.2.2.1 7 lo))).2.2.1 26) (Q2 32) (I (k : Nat)))).2.2.1 26 (Q2 32) = I (k : Nat) := by rw [upA_at, upd_at]
    have r69 : (upA (upA U 25 (upd (U.2.2.1 25) (Q2 32) (w0.2.2.1 7 lo))) 26 (upd ((upA U 25 (upd (U.2.2.1 25) (Q2 32) (w0.2.2.1 7 lo))).2.2.1 26) (Q2 32) (I (k : Nat)))).1 69 = I (mid : Nat) := d9
    generalize upA (upA U 25 (upd (U.2.2.1 25) (Q2 32) (w0.2.2.1 7 lo))) 26 (upd ((upA U 25 (upd (U.2.2.1 25) (Q2 32) (w0.2.2.1 7 lo))).2.2.1 26) (Q2 32) (I (k : Nat))) = V at hN rr r25 r26 r69
    have fin : ∀ z : Int32, PP RR (fc m3 ()) (ck (isK 27 4) (ck (inb (I (Q2 32 : Nat)) (ln 27)) (lt (upA V 27 (upd (V.2.2.1 27) (Q2 32) z)) (fun w7 => F w7 (I (Q2 32 : Nat)))))) := fun z => by
      refine r_ck (fun _ => r_ck (fun _ => r_lt ?_))
      have hN2 : NOD w2 (upA V 27 (upd (V.2.2.1 27) (Q2 32) z)) (Q2 32) := NOD_A hN (by decide)
      have vr : ∀ k', k' ≠ 27 → A (upA V 27 (upd (V.2.2.1 27) (Q2 32) z)) k' (Q2 32) = (V.2.2.1 k' (Q2 32)).toInt := fun k' h1 => by
        show ((upA V 27 _).2.2.1 k' (Q2 32)).toInt = _
        rw [upA_no h1]
      have v69 : (upA V 27 (upd (V.2.2.1 27) (Q2 32) z)).1 69 = I (mid : Nat) := r69
      generalize upA V 27 (upd (V.2.2.1 27) (Q2 32) z) = v at hN2 vr v69
      have a23 : A v 23 (Q2 32) = 12 := by rw [vr 23 (by decide), rr 23 (by decide) (by decide), d1]; rfl
      have a24 : A v 24 (Q2 32) = ((lo : Nat) : Int) := by rw [vr 24 (by decide), rr 24 (by decide) (by decide), d2]; exact I_ti (by omega) (by omega)
      have a25 : A v 25 (Q2 32) = A w0 7 lo := by rw [vr 25 (by decide), r25]; rfl
      have a26 : A v 26 (Q2 32) = ((k : Nat) : Int) := by rw [vr 26 (by decide), r26]; exact I_ti (by omega) (by omega)
      have a28 : A v 28 (Q2 32) = -1 := by rw [vr 28 (by decide), rr 28 (by decide) (by decide), d6]; rfl
      have a30 : A v 30 (Q2 32) = 0 := by rw [vr 30 (by decide), rr 30 (by decide) (by decide), d8]; rfl
      have gx : XFC m2 m3 b r r (sc2.length - 1) := by rw [em]; exact XFC_ps XFC_rf (Nat.le_refl _)
      have g42 : m3.2.2.1 42 = m2.2.2.1 42 := by rw [em]; exact ptcs_r (by decide)
      refine hh m3 v (XZ_n (L := [Q2 32]) (c := b + l.length) ht (XT_nod hC hR ht.2.2.1.2 ⟨Nat.le_refl _, hmT⟩ (fun j j1 j2 => by omega) (by omega) hm3 gx g42 hN2 rfl h16 v69 (fun n hn => List.mem_singleton.mp hn) (fun C P R J H fi hx => ⟨fun u u1 u2 => by omega, fun y hy hr => ?_⟩)) (by omega) hlo a28 (Or.inr ⟨rfl, Or.inl a23, a30⟩))
      have gc : AGC C (ptcs m2 b l) b (b + l.length) := by have := fi.1; rw [em] at this; exact this
      have ro : ∀ k, 23 ≤ k ∧ k ≤ 31 → k ≠ 27 ∧ k ≠ 29 ∧ k ≠ 30 → R k (Q2 32) = A v k (Q2 32) := fun k k1 k2 => FIN_R fi k1 k2 ⟨Nat.le_refl _, by rw [qst_at]; omega⟩
      have R23 := (ro 23 (by decide) (by decide)).trans a23
      have R24 := (ro 24 (by decide) (by decide)).trans a24
      have R25 := (ro 25 (by decide) (by decide)).trans a25
      have R26 := (ro 26 (by decide) (by decide)).trans a26
      have R27 := (fi.2.2.2.2 (Q2 32) (Nat.le_refl _) (by rw [qst_at]; omega)).1 R23
      rw [R25, R26] at R27
      have R30 := fi.2.2.2.1.2.2.1 (Q2 32) (Nat.le_refl _) (by rw [qst_at]; omega)
      rw [a30] at R30
      have gr := fi.2.2.1
      obtain ⟨b1, b2⟩ := XB c.2.2.1 hC hR hx h16
      obtain ⟨d, hd⟩ := hr
      rw [qst_at] at hd
      rcases hll with ⟨z1, rfl⟩ | ⟨z1, xl, z2, rfl⟩
      · have c0 := C_0 gc (show b < b + 2 by omega)
        have c1 : C (b + 1) = (I (idc (A w0 7 lo) ((k : Nat) : Int))).toInt := C_at (k := 1) gc rfl (show b + 1 < b + 2 by omega)
        obtain ⟨w1, w2'⟩ := cd z1
        refine cr_1 b1 b2 ⟨d, Or.inr (Or.inr (Or.inr (Or.inr (Or.inr (Or.inr (Or.inr (Or.inr (Or.inr (Or.inr (Or.inr (Or.inl ⟨R23, by rw [R27]; exact w1, ?_, hd⟩)))))))))))⟩
        rw [R27, c0, c1, I_ti (by omega) (by omega)]
        have : (if idc (A w0 7 lo) ((k : Nat) : Int) = 2 ∨ idc (A w0 7 lo) ((k : Nat) : Int) = 3 ∨ idc (A w0 7 lo) ((k : Nat) : Int) = 4 ∨ idc (A w0 7 lo) ((k : Nat) : Int) = 29 ∨ idc (A w0 7 lo) ((k : Nat) : Int) = 15 then (40 : Int32) else 39).toInt = (if idc (A w0 7 lo) ((k : Nat) : Int) = 2 ∨ idc (A w0 7 lo) ((k : Nat) : Int) = 3 ∨ idc (A w0 7 lo) ((k : Nat) : Int) = 4 ∨ idc (A w0 7 lo) ((k : Nat) : Int) = 29 ∨ idc (A w0 7 lo) ((k : Nat) : Int) = 15 then (40 : Int) else 39) := by split <;> rfl
        rw [this]
        exact w2'
      · obtain ⟨w1, w2'⟩ := hid z1
        have w3' := ce z1 w1
        have hyn : y = none := hy.mpr w2'
        have c0 := C_0 gc (show b < b + 4 by omega)
        have c1 : C (b + 1) = (I (fof (A w0 7 lo) ((k : Nat) : Int))).toInt := C_at (k := 1) gc rfl (show b + 1 < b + 4 by omega)
        have c2 : C (b + 2) = (I (k : Nat)).toInt := C_at (k := 2) gc rfl (show b + 2 < b + 4 by omega)
        have c3 : C (b + 3) = xl.toInt := C_at (k := 3) gc rfl (show b + 3 < b + 4 by omega)
        have cb := hm3.1.2.2.1.2.2
        have cb : b + 4 ≤ 23990 := cb
        refine cr_1 b1 b2 ⟨d, Or.inr (Or.inr (Or.inr (Or.inr (Or.inr (Or.inr (Or.inr (Or.inr (Or.inr (Or.inr (Or.inr (Or.inr (Or.inl ⟨R23, hyn, ?_, ?_, ?_, ⟨lo, R24, ?_⟩, ?_⟩))))))))))))⟩
        · rw [R27, w3']; omega
        · rw [R27, w3', c1, I_ti (by omega) (by omega)]
        · rw [c2, R26, I_ti (by omega) (by omega)]
        · rw [c3, z2, gr 8 lo (by decide)]
        · cases lst with
          | true =>
            refine Or.inl ⟨by rw [R30, if_pos ⟨rfl, List.mem_singleton.mpr rfl⟩], c0, by omega⟩
          | false =>
            refine Or.inr ⟨by rw [R30, if_neg (fun z => by cases z.1)], c0, hd⟩
    exact r_br (fun _ => fin 0) (fun _ => fin 1)
  have two : ∀ t1 : Int32, idc (A w0 7 lo) ((k : Nat) : Int) ≠ -1 → t1 = (if idc (A w0 7 lo) ((k : Nat) : Int) = 2 ∨ idc (A w0 7 lo) ((k : Nat) : Int) = 3 ∨ idc (A w0 7 lo) ((k : Nat) : Int) = 4 ∨ idc (A w0 7 lo) ((k : Nat) : Int) = 29 ∨ idc (A w0 7 lo) ((k : Nat) : Int) = 15 then 40 else 39) → ∀ B, (∀ (m3 : MS) (l : List Int32), m3 = ptcs m2 b l → 1 ≤ l.length → XCS m0 nm m3 (b + l.length) cm2 sc2 g → l = [t1, I (idc (A w0 7 lo) ((k : Nat) : Int))] → PP RR (fc m3 ()) B) → PP RR (bnd (jb_Cm_call_170 N S () m2 (I (idc (A w0 7 lo) ((k : Nat) : Int))) t1) fc) B := fun t1 z1 z2 B hB => by
    unfold jb_Cm_call_170
    rw [bnd_as2]
    refine l_put hC.1.2.2.1.1 hC.1.2.2.1.2.2 (fun ha => ?_)
    have h1 := XCS_put (x := t1) hC ha
    rw [bnd_as2]
    refine l_put h1.1.2.2.1.1 h1.1.2.2.1.2.2 (fun ha1 => ?_)
    have h2 := XCS_put (x := I (idc (A w0 7 lo) ((k : Nat) : Int))) h1 ha1
    rw [bnd_s]
    exact hB _ [t1, I (idc (A w0 7 lo) ((k : Nat) : Int))] rfl (Nat.succ_le_succ (Nat.zero_le _)) h2 rfl
  have four : ∀ t1 : Int32, idc (A w0 7 lo) ((k : Nat) : Int) = -1 → t1 = (if lst then 26 else 25) → ∀ B, (∀ (m3 : MS) (l : List Int32), m3 = ptcs m2 b l → 1 ≤ l.length → XCS m0 nm m3 (b + l.length) cm2 sc2 g → (∃ xl : Int32, xl.toInt = A w0 8 lo ∧ l = [if lst then 26 else 25, I (fof (A w0 7 lo) ((k : Nat) : Int)), I (k : Nat), xl]) → PP RR (fc m3 ()) B) → PP RR (bnd (jb_Cm_call_198 N S () m2 (I (lo : Nat)) (I (k : Nat)) (I (fof (A w0 7 lo) ((k : Nat) : Int))) t1) fc) B := fun t1 z1 z2 B hB => by
    unfold jb_Cm_call_198
    rw [bnd_as2]
    refine l_put hC.1.2.2.1.1 hC.1.2.2.1.2.2 (fun ha => ?_)
    have h1 := XCS_put (x := t1) hC ha
    rw [bnd_as2]
    refine l_put h1.1.2.2.1.1 h1.1.2.2.1.2.2 (fun ha1 => ?_)
    have h2 := XCS_put (x := I (fof (A w0 7 lo) ((k : Nat) : Int))) h1 ha1
    rw [bnd_as2]
    refine l_put h2.1.2.2.1.1 h2.1.2.2.1.2.2 (fun ha2 => ?_)
    have h3 := XCS_put (x := I (k : Nat)) h2 ha2
    rw [bnd_ck]
    refine l_ck (fun _ => ?_)
    have el := pk_ln cv (XCS_fr h3) (show lo < T by omega)
    rw [i_nt (p := lo) (by omega)]
    generalize ((ptc (ptc (ptc m2 b t1) (b + 1) (I (fof (A w0 7 lo) ((k : Nat) : Int)))) (b + 1 + 1) (I (k : Nat))).2.2.1 8 lo) = xl at el
    rw [bnd_as2]
    refine l_put h3.1.2.2.1.1 h3.1.2.2.1.2.2 (fun ha3 => ?_)
    have h4 := XCS_put (x := xl) h3 ha3
    rw [bnd_s]
    exact hB _ [t1, I (fof (A w0 7 lo) ((k : Nat) : Int)), I (k : Nat), xl] rfl (Nat.succ_le_succ (Nat.zero_le _)) h4 ⟨xl, el, by rw [z2]⟩
  have idn : ∀ j : Int, (0 ≤ j ∧ j < 100) → decide (I (idc (A w0 7 lo) ((k : Nat) : Int)) = I j) = decide (idc (A w0 7 lo) ((k : Nat) : Int) = j) := fun j hj => decide_eq_decide.mpr (I_eq (by omega) (by omega) (by omega) (by omega))
  have id1 : decide (I (idc (A w0 7 lo) ((k : Nat) : Int)) = (-1 : Int32)) = decide (idc (A w0 7 lo) ((k : Nat) : Int) = -1) := decide_eq_decide.mpr (I_eq (y := -1) (by omega) (by omega) (by decide) (by decide))
  rw [id1]
  by_cases z : idc (A w0 7 lo) ((k : Nat) : Int) = -1
  · rw [decide_eq_true z, br_tq]
    cases lst with
    | false =>
      rw [show decide (lsI false = 0) = true from rfl, br_tq]
      exact four 25 z rfl _ (fun m3 l e1 e2 e3 e4 => node m3 l e1 e2 e3 (Or.inr ⟨z, e4⟩))
    | true =>
      rw [show decide (lsI true = 0) = false from rfl, br_fq]
      exact four 26 z rfl _ (fun m3 l e1 e2 e3 e4 => node m3 l e1 e2 e3 (Or.inr ⟨z, e4⟩))
  rw [decide_eq_false z, br_fq]
  have e40 : idc (A w0 7 lo) ((k : Nat) : Int) = 2 ∨ idc (A w0 7 lo) ((k : Nat) : Int) = 3 ∨ idc (A w0 7 lo) ((k : Nat) : Int) = 4 ∨ idc (A w0 7 lo) ((k : Nat) : Int) = 29 ∨ idc (A w0 7 lo) ((k : Nat) : Int) = 15 → PP RR (bnd (jb_Cm_call_147 N S () m2 (I (idc (A w0 7 lo) ((k : Nat) : Int)))) fc) _ := fun y => by
    unfold jb_Cm_call_147 jb_Cm_call_152
    rw [show decide ((1 : Int32) = 0) = false from rfl, br_fq]
    exact two 40 z (by rw [if_pos y]) _ (fun m3 l e1 e2 e3 e4 => node m3 l e1 e2 e3 (Or.inl ⟨z, by rw [e4, if_pos y]⟩))
  rw [show (2 : Int32) = I 2 from rfl, show (3 : Int32) = I 3 from rfl, show (4 : Int32) = I 4 from rfl, show (29 : Int32) = I 29 from rfl, show (15 : Int32) = I 15 from rfl, idn 2 (by decide), idn 3 (by decide), idn 4 (by decide), idn 29 (by decide), idn 15 (by decide)]
  by_cases y2 : idc (A w0 7 lo) ((k : Nat) : Int) = 2
  · rw [decide_eq_true y2, br_tq]; exact e40 (by omega)
  rw [decide_eq_false y2, br_fq]
  by_cases y3 : idc (A w0 7 lo) ((k : Nat) : Int) = 3
  · rw [decide_eq_true y3, br_tq]; exact e40 (by omega)
  rw [decide_eq_false y3, br_fq]
  by_cases y4 : idc (A w0 7 lo) ((k : Nat) : Int) = 4
  · rw [decide_eq_true y4, br_tq]; exact e40 (by omega)
  rw [decide_eq_false y4, br_fq]
  by_cases y29 : idc (A w0 7 lo) ((k : Nat) : Int) = 29
  · rw [decide_eq_true y29, br_tq]; exact e40 (by omega)
  rw [decide_eq_false y29, br_fq]
  by_cases y15 : idc (A w0 7 lo) ((k : Nat) : Int) = 15
  · rw [decide_eq_true y15, br_tq]; exact e40 (by omega)
  rw [decide_eq_false y15, br_fq]
  unfold jb_Cm_call_152
  rw [show decide ((0 : Int32) = 0) = true from rfl, br_tq]
  have no : ¬ (idc (A w0 7 lo) ((k : Nat) : Int) = 2 ∨ idc (A w0 7 lo) ((k : Nat) : Int) = 3 ∨ idc (A w0 7 lo) ((k : Nat) : Int) = 4 ∨ idc (A w0 7 lo) ((k : Nat) : Int) = 29 ∨ idc (A w0 7 lo) ((k : Nat) : Int) = 15) := by omega
  exact two 39 z (by rw [if_neg no]) _ (fun m3 l e1 e2 e3 e4 => node m3 l e1 e2 e3 (Or.inl ⟨z, by rw [e4, if_neg no]⟩))
end
end
section
set_option maxRecDepth 100000
section
variable {α β : Type} {m0 w0 m w m2 w2 m3 w3 v u mS wS : MS} {K nm Nk W W2 : Nat → Nat} {N T D d o a a0 b c cm cm0 cm2 cm3 q q0 r s lo lo0 mid hi i j f f2 n k kk p σ tk x xa xb M m1 : Nat} {Q Q0 Q2 Q3 Q4 : Nat → Nat} {sc sc0 sc2 sc3 t : SCT} {e : List Nat × List Nat × Nat} {g lst l2 : Bool} {L L1 L2 : List Nat} {idc fof cvr : Int → Int → Int} {z : Unit} {rt v1 v2 v3 v5 : Int32} {fc : MS → Unit → Option (MS × Unit)} {RR : MS → Unit → MS → Int32 → Prop} {A' : Option (MS × Unit)} {B' : Option (MS × Int32)}
theorem pp_lx (h : PP RR (fc m ()) B') : PP (fun m z w r => PK (fun v q => RR v q w r) (fc m z)) (some (m, ())) B' := by
  intro m9 z9 w9 r9 e1 e2 v q e3
  injection e1 with e1
  injection e1 with e4 e5
  subst e4
  exact h v q w9 r9 e3 e2
theorem x_call (c : CTZ m0 w0 K T nm Nk) (cv : CTV m0 w0 K T) (cx : CVX N m0 w0 K T idc fof cvr) (IH : HXE N m0 w0 K T nm Nk fof cvr f) (hC : XCS m0 nm m a cm sc g) (hR : XRS w0 T w lo Q sc) (hq : Q 56 = q) (hn : n ≤ 8015) (h16 : A m0 16 n = 14) (h17 : A m0 17 n = ((lo : Nat) : Int)) (h19 : A m0 19 n = ((m1 : Nat) : Int)) (h20 : A m0 20 n = ((k : Nat) : Int)) (hk6 : k ≤ 6) (hE : ORcK m0 1 26 (XPcK m0 f o 3) k m1 (lo + 2) (hi - 1) xa xb q r) (hxb : xb ≤ 8015) (h6 : A m0 6 lo = 2 ∧ A m0 6 (lo + 1) = 20 ∧ A m0 6 (hi - 1) = 21 ∧ A m0 18 n = A m0 7 lo) (hlh : lo + 3 ≤ hi) (hr4 : r ≤ 400) (hiT : hi ≤ T) (htot : tot sc + (hi - lo) ≤ 4000 ∧ sc.length ≤ o + 1) (hh : ∀ m2 w2 rt, XZ m0 w0 K T nm Nk fof cvr lst g lo hi a cm q r Q sc m w m2 () w2 rt → PP RR (fc m2 ()) (kg_M_primary N (krc_M_behind N d) N w2 (I (lo : Nat)) rt)) : PP RR (bnd (jm_Cm_expression N (jrc_Cm_fun N D) m (I (n : Nat)) (lsI lst)) fc) (km_M_primary N (krc_M_behind N d) w) := by
  have fr := XCS_fr hC
  have t4 := c.2.1.1.1
  obtain ⟨a0, a1, a2, a3⟩ := h6
  have k0 : K lo = 2 := kA c (by omega : lo ≤ T) a0
  have k1 : K (lo + 1) = 20 := kA c (by omega) a1
  have k2 : K (hi - 1) = 21 := kA c (by omega) a2
  have e18 : A m0 18 n = A w0 7 lo := a3.trans (congrArg Int32.toInt ((cv lo (by omega)).2.1 (Or.inr k0)))
  have hw := XRS_wp c hR
  refine pp_lb ?_
  refine exd_14 hn (tre fr (by decide) h16) (l_id ?_)
  cases D with
  | zero => exact pp_nl
  | succ D =>
  show PP _ (jb_Cm_call_0 N (jrc_Cm_fun N D) () m (I (n : Nat)) (lsI lst)) _
  unfold jb_Cm_call_0
  rw [i_nt2 (show n ≤ 100000 by omega), tre fr (by decide) e18, tre fr (by decide) h20, tre fr (by decide) h17]
  refine l_ck (fun _ => l_ck (fun _ => l_ck (fun _ => l_bnd (pk_mo (cx.1 m (A w0 7 lo) ((k : Nat) : Int) fr) (fun v r h2 => ?_)))))
  rw [h2.1, h2.2]
  refine l_ck (fun _ => ?_)
  rw [tre fr (by decide) e18]
  refine l_seek cx fr ?_
  obtain ⟨cf, cp⟩ := cx.2.2 (A w0 7 lo) ((k : Nat) : Int) ⟨lo, by omega, k0, rfl⟩
  obtain ⟨ci, -, -⟩ := cp (by omega) (by omega)
  have e96 : (idc (A w0 7 lo) ((k : Nat) : Int) = -1 → fof (A w0 7 lo) ((k : Nat) : Int) ≠ -1 ∧ g = false) → PP (fun m z w r => PK (fun v q => RR v q w r) (fc m z)) (jb_Cm_call_96 N (jrc_Cm_fun N D) () m (I (n : Nat)) (lsI lst) (I (lo : Nat)) (I (k : Nat)) (I (idc (A w0 7 lo) ((k : Nat) : Int))) (I (fof (A w0 7 lo) ((k : Nat) : Int)))) (km_M_primary N (krc_M_behind N d) w) := fun hid => by
    unfold jb_Cm_call_96
    refine l_ck (fun _ => ?_)
    rw [i_nt2 (show n ≤ 100000 by omega), tre fr (by decide) h19]
    unfold km_M_primary kb_M_primary_0
    have h69 := hR.1.2.1.1
    obtain ⟨-, b1, -⟩ := tkd_6 c hR
    have s1 : decide (w.2.2.1 6 lo = 1) = decide (K lo = 2) := srt_dc hw srK_1
    rw [decide_eq_true hR.1.2.2.1, br_tq, b1, s1, decide_eq_true k0, br_tq, h69, i_suc, i_nt (p := lo + 1) (by omega)]
    refine r_ck (fun _ => r_opn hw.1 (by omega) (fun _ => r_lt ?_) (fun z => absurd k1 z))
    have ht := XTR_ad (K := K) (nm := nm) (Nk := Nk) (fof := fof) (cvr := cvr) (lst := lst) (mid := lo) (XTR_rf hC hR hq) (by omega) (by omega)
    refine args_x (n := m1) (k := k) (hi := hi) (lo := lo + 1) (lo0 := lo) c IH hxb hr4 hk6 (by rw [show lo + 1 + 1 = lo + 2 by omega]; exact hE) k1 k2 (by omega) hiT htot ht (fun m2 w2 b cm2 Q2 sc2 ht2 h84 => ?_)
    have := call_w (N := N) (S := jrc_Cm_fun N D) (F := fun w7 r10 => kg_M_primary N (krc_M_behind N d) N w7 (I (lo : Nat)) r10) (fc := fun u _ => some (u, ())) (RR := fun m z w r => PK (fun v q => RR v q w r) (fc m z)) c cv cx k0 (show lo < hi by omega) hk6 ht2 hiT h84 hid (fun m3 v hz => pp_lx (hh m3 v _ hz))
    rw [i_nt (p := lo) (by omega)] at this
    intro m9 z9 w9 r9 x1 x2
    refine this m9 z9 w9 r9 ?_ x2
    rw [x1]
    rfl
  have e91 : (idc (A w0 7 lo) ((k : Nat) : Int) = -1 → fof (A w0 7 lo) ((k : Nat) : Int) ≠ -1) → PP (fun m z w r => PK (fun v q => RR v q w r) (fc m z)) (jb_Cm_call_91 N (jrc_Cm_fun N D) () m (I (n : Nat)) (lsI lst) (I (lo : Nat)) (I (k : Nat)) (I (idc (A w0 7 lo) ((k : Nat) : Int))) (I (fof (A w0 7 lo) ((k : Nat) : Int)))) (km_M_primary N (krc_M_behind N d) w) := fun hid => by
    unfold jb_Cm_call_91
    exact l_ntg (tk := lo) hC.2 rfl (by omega) (fun hg => e96 (fun z => ⟨hid z, hg⟩))
  have e77 : (idc (A w0 7 lo) ((k : Nat) : Int) = -1 → fof (A w0 7 lo) ((k : Nat) : Int) ≠ -1) → PP (fun m z w r => PK (fun v q => RR v q w r) (fc m z)) (jb_Cm_call_77 N (jrc_Cm_fun N D) () m (I (n : Nat)) (lsI lst) (I (lo : Nat)) (I (k : Nat)) (I (idc (A w0 7 lo) ((k : Nat) : Int))) (I (fof (A w0 7 lo) ((k : Nat) : Int)))) (km_M_primary N (krc_M_behind N d) w) := fun hid => by
    unfold jb_Cm_call_77
    rw [show (17 : Int32) = I 17 from rfl, show (28 : Int32) = I 28 from rfl, decide_eq_decide.mpr (I_lt (x := idc (A w0 7 lo) ((k : Nat) : Int)) (y := 17) (by omega) (by omega) (by decide) (by decide)), decide_eq_decide.mpr (I_le (x := idc (A w0 7 lo) ((k : Nat) : Int)) (y := 28) (by omega) (by omega) (by decide) (by decide))]
    by_cases z1 : idc (A w0 7 lo) ((k : Nat) : Int) < 17
    · rw [decide_eq_true z1, br_tq]; exact e91 hid
    rw [decide_eq_false z1, br_fq]
    by_cases z2 : idc (A w0 7 lo) ((k : Nat) : Int) ≤ 28
    · rw [decide_eq_true z2, br_tq]; exact e96 (fun z => by omega)
    · rw [decide_eq_false z2, br_fq]; exact e91 hid
  have id1 : decide (I (idc (A w0 7 lo) ((k : Nat) : Int)) = (-1 : Int32)) = decide (idc (A w0 7 lo) ((k : Nat) : Int) = -1) := decide_eq_decide.mpr (I_eq (y := -1) (by omega) (by omega) (by decide) (by decide))
  have id2 : decide (I (fof (A w0 7 lo) ((k : Nat) : Int)) = (-1 : Int32)) = decide (fof (A w0 7 lo) ((k : Nat) : Int) = -1) := decide_eq_decide.mpr (I_eq (y := -1) (by omega) (by omega) (by decide) (by decide))
  rw [id1, id2]
  by_cases z1 : idc (A w0 7 lo) ((k : Nat) : Int) = -1
  · rw [decide_eq_true z1, br_tq]
    by_cases z2 : fof (A w0 7 lo) ((k : Nat) : Int) = -1
    · rw [decide_eq_true z2, br_tq]
      exact l_flt (tk := lo) (k := 6) rfl rfl (by omega) (by decide)
    · rw [decide_eq_false z2, br_fq]
      exact e77 (fun _ => z2)
  · rw [decide_eq_false z1, br_fq]
    exact e77 (fun z => absurd z z1)
theorem pr_al (c : CTZ m0 w0 K T nm Nk) (hR : XRS w0 T w lo Q sc) (hl : lo < T) (hnc : ¬ (K lo = 2 ∧ K (lo + 1) = 20)) {X : Option (MS × Unit)} (hX : ∀ d, PP (XZ m0 w0 K T nm Nk fof cvr lst g lo hi a cm q r Q sc m w) X (km_M_alone N (krc_M_behind N d) w (I (lo : Nat)))) (hh : ∀ m2 w2 rt, XZ m0 w0 K T nm Nk fof cvr lst g lo hi a cm q r Q sc m w m2 () w2 rt → PP RR (fc m2 ()) (kg_M_primary N (krc_M_behind N d) N w2 (I (lo : Nat)) rt)) : PP RR (bnd X fc) (km_M_primary N (krc_M_behind N d) w) := by
  have t4 := c.2.1.1.1
  have hw := XRS_wp c hR
  have h69 := hR.1.2.1.1
  obtain ⟨-, b1, -⟩ := tkd_6 c hR
  have s1 : decide (w.2.2.1 6 lo = 1) = decide (K lo = 2) := srt_dc hw srK_1
  unfold km_M_primary kb_M_primary_0
  rw [decide_eq_true hR.1.2.2.1, br_tq, b1, s1, h69, i_suc, i_nt (p := lo + 1) (by omega)]
  have e122 : PP RR (bnd X fc) (kb_M_primary_122 N (krc_M_behind N d) (kg_M_primary N (krc_M_behind N d) N) w (I (lo : Nat))) := by
    unfold kb_M_primary_122
    cases d with
    | zero => exact pp_nr
    | succ d =>
      exact pp_bb (pp_mo (hX d) (fun m2 z w2 rt h => hh m2 w2 rt h))
  refine r_ck (fun _ => ?_)
  by_cases z : K lo = 2
  · rw [decide_eq_true z, br_tq]
    exact r_opn hw.1 (by omega) (fun y => absurd ⟨z, y⟩ hnc) (fun _ => e122)
  · rw [decide_eq_false z, br_fq]
    exact e122
end
end
section
set_option maxRecDepth 100000
def HX0 (N : Nat) (m0 w0 : MS) (K : Nat → Nat) (T : Nat) (nm Nk : Nat → Nat) (fof cvr : Int → Int → Int) (f : Nat) : Prop := ∀ (D d o n lo hi xa xb q r : Nat) (m w : MS) (a cm : Nat) (Q : Nat → Nat) (sc : SCT) (g lst : Bool) (RR : MS → Unit → MS → Int32 → Prop) (fc : MS → Unit → Option (MS × Unit)), XPcK m0 f o 0 n lo hi xa xb q r → xb ≤ 8015 → r ≤ 400 → hi ≤ T → XCS m0 nm m a cm sc g → XRS w0 T w lo Q sc → Q 56 = q → (tot sc + (hi - lo) ≤ 4000 ∧ sc.length ≤ o + 1) → (∀ m2 w2 rt, XZ m0 w0 K T nm Nk fof cvr lst g lo hi a cm q r Q sc m w m2 () w2 rt → PP RR (fc m2 ()) (kg_M_primary N (krc_M_behind N d) N w2 (I (lo : Nat)) rt)) → PP RR (bnd ((jrc_Cm_fun N D).2.2.2.2.2.2.2.2.2.2.1 m (I (n : Nat)) (lsI lst)) fc) (km_M_primary N (krc_M_behind N d) w)
section
variable {α β : Type} {m0 w0 m w m2 w2 m3 w3 v u mS wS : MS} {K nm Nk W W2 : Nat → Nat} {N T D d o a a0 b c cm cm0 cm2 cm3 q q0 r s lo lo0 mid hi i j f f2 n k kk p σ tk x xa xb M m1 : Nat} {Q Q0 Q2 Q3 Q4 : Nat → Nat} {sc sc0 sc2 sc3 t : SCT} {e : List Nat × List Nat × Nat} {g lst l2 : Bool} {L L1 L2 : List Nat} {idc fof cvr : Int → Int → Int} {z : Unit} {rt v1 v2 v3 v5 : Int32} {fc : MS → Unit → Option (MS × Unit)} {RR : MS → Unit → MS → Int32 → Prop} {A' : Option (MS × Unit)} {B' : Option (MS × Int32)}
theorem app_w {S : SF_Cm_fun} {G : MS → Int32 → Int32 → Int32 → Option (MS × Unit)} {GR : MS → Int32 → Int32 → Option (MS × Int32)} {tl : Bool} (c : CTZ m0 w0 K T nm Nk) (cv : CTV m0 w0 K T) (hg : g = false) (hlo : lo < mid) (hmT : mid ≤ T) (hkk : kk ≤ 6) (hn : n ≤ 8015) (h19 : A m0 19 n = ((kk : Nat) : Int)) (h21 : A m0 21 n = ((m1 : Nat) : Int)) (ht : XTR m0 w0 K T nm Nk fof cvr lst g [] lo mid a b cm cm2 q r Q Q2 sc sc2 m w m2 w2) (h84 : w2.1 84 = I (kk : Nat))
    (hh : ∀ m3 v, XTR m0 w0 K T nm Nk fof cvr lst g (if tl then [Q2 32] else []) mid mid b (b + 3) cm2 cm2 r r Q2 (qst Q2 32 (Q2 32 + 1)) sc2 sc2 m2 w2 m3 v → A v 23 (Q2 32) = 13 → A v 28 (Q2 32) = -1 → A v 30 (Q2 32) = 0 → PP RR (G m3 v2 (I (lo : Nat)) (I (m1 : Nat))) (GR v (I (lo : Nat)) (I (Q2 32 : Nat)))) :
    PP RR (jb_Cm_apply_87 N S G m2 v2 (I (lo : Nat)) (I (n : Nat)) (if lst && tl then 28 else 27)) (bnd (fm_M_node N w2 13 (I (lo : Nat))) (fun u2 r2 => ck (inb r2 (ln 26)) (lt (upA u2 26 (upd (u2.2.2.1 26) r2.toNatClampNeg (u2.1 84))) (fun w3 => GR w3 (I (lo : Nat)) r2)))) := by
  have hC := ht.2.1
  have hR := ht.2.2.1.1
  have t4 := c.2.1.1.1
  have l1 := ht.1
  obtain ⟨n1, n2⟩ := XRS_q hR
  unfold jb_Cm_apply_87
  refine l_put hC.1.2.2.1.1 hC.1.2.2.1.2.2 (fun ha => l_ck (fun _ => ?_))
  have h1 := XCS_put (x := if lst && tl then 28 else 27) hC ha
  rw [i_nt2 (show n ≤ 100000 by omega), tre (XCS_fr h1) (by decide) h19]
  refine l_put h1.1.2.2.1.1 h1.1.2.2.1.2.2 (fun ha1 => l_ck (fun _ => ?_))
  have h2 := XCS_put (x := I (kk : Nat)) h1 ha1
  have el := pk_ln cv (XCS_fr h2) (show lo < T by omega)
  rw [i_nt (p := lo) (by omega)]
  generalize ((ptc (ptc m2 b (if lst && tl then 28 else 27)) (b + 1) (I (kk : Nat))).2.2.1 8 lo) = xl at el
  refine l_put h2.1.2.2.1.1 h2.1.2.2.1.2.2 (fun ha2 => l_ck (fun _ => ?_))
  have h3 := XCS_put (x := xl) h2 ha2
  rw [tre (XCS_fr h3) (by decide) h21]
  have em : ptc (ptc (ptc m2 b (if lst && tl then 28 else 27)) (b + 1) (I (kk : Nat))) (b + 1 + 1) xl = ptcs m2 b [if lst && tl then 28 else 27, I (kk : Nat), xl] := rfl
  rw [em] at h3 ⊢
  refine r_nod n1 n2 rfl (nsh (by omega)) (fun h16 => ?_)
  have d0 : NOD w2 (nwD w2 (Q2 32) 13 (I (lo : Nat))) (Q2 32) := NOD_0 n1
  obtain ⟨d1, d2, d3, d4, d5, d6, d7, d8⟩ := nwD_at (w := w2) (i := Q2 32) (k := 13) (t := I (lo : Nat))
  have d9 : (nwD w2 (Q2 32) 13 (I (lo : Nat))).1 69 = I (mid : Nat) := by rw [nwD_i (by decide)]; exact hR.1.2.1.1
  have d84 : (nwD w2 (Q2 32) 13 (I (lo : Nat))).1 84 = I (kk : Nat) := by rw [nwD_i (by decide)]; exact h84
  generalize nwD w2 (Q2 32) 13 (I (lo : Nat)) = U at d0 d1 d2 d3 d4 d5 d6 d7 d8 d9 d84
  rw [i_nt2 (p := Q2 32) (by omega), d84]
  refine r_ck (fun _ => r_lt ?_)
  have hN : NOD w2 (upA U 26 (upd (U.2.2.1 26) (Q2 32) (I (kk : Nat)))) (Q2 32) := NOD_A d0 (by decide)
  have vr : ∀ k', k' ≠ 26 → A (upA U 26 (upd (U.2.2.1 26) (Q2 32) (I (kk : Nat)))) k' (Q2 32) = (U.2.2.1 k' (Q2 32)).toInt := fun k' h1 => by
    show ((upA U 26 _).2.2.1 k' (Q2 32)).toInt = _
    rw [upA_no h1]
  have a26 : A (upA U 26 (upd (U.2.2.1 26) (Q2 32) (I (kk : Nat)))) 26 (Q2 32) = ((kk : Nat) : Int) := by
    show ((upA U 26 _).2.2.1 26 (Q2 32)).toInt = _
    rw [upA_at, upd_at]
    exact I_ti (by omega) (by omega)
  have v69 : (upA U 26 (upd (U.2.2.1 26) (Q2 32) (I (kk : Nat)))).1 69 = I (mid : Nat) := d9
  generalize upA U 26 (upd (U.2.2.1 26) (Q2 32) (I (kk : Nat))) = v at hN vr a26 v69
  have a23 : A v 23 (Q2 32) = 13 := by rw [vr 23 (by decide), d1]; rfl
  have a24 : A v 24 (Q2 32) = ((lo : Nat) : Int) := by rw [vr 24 (by decide), d2]; exact I_ti (by omega) (by omega)
  have a28 : A v 28 (Q2 32) = -1 := by rw [vr 28 (by decide), d6]; rfl
  have a30 : A v 30 (Q2 32) = 0 := by rw [vr 30 (by decide), d8]; rfl
  refine hh _ v (XT_nod hC hR ht.2.2.1.2 ⟨Nat.le_refl _, hmT⟩ (fun j j1 j2 => by omega) (by omega) h3 (XFC_ps XFC_rf (Nat.le_refl _)) (ptcs_r (by decide)) hN rfl h16 v69 (fun n hn => by
    cases tl with
    | false => cases hn
    | true => exact List.mem_singleton.mp hn) (fun C P R J H fi hx => ⟨fun u u1 u2 => by omega, fun y hy hr => ?_⟩)) a23 a28 a30
  have gc := fi.1
  have ro : ∀ k, 23 ≤ k ∧ k ≤ 31 → k ≠ 27 ∧ k ≠ 29 ∧ k ≠ 30 → R k (Q2 32) = A v k (Q2 32) := fun k k1 k2 => FIN_R fi k1 k2 ⟨Nat.le_refl _, by rw [qst_at]; omega⟩
  have R23 := (ro 23 (by decide) (by decide)).trans a23
  have R24 := (ro 24 (by decide) (by decide)).trans a24
  have R26 := (ro 26 (by decide) (by decide)).trans a26
  have R30 := fi.2.2.2.1.2.2.1 (Q2 32) (Nat.le_refl _) (by rw [qst_at]; omega)
  rw [a30] at R30
  have gr := fi.2.2.1
  obtain ⟨b1, b2⟩ := XB c.2.2.1 hC hR hx h16
  obtain ⟨d, hd⟩ := hr
  rw [qst_at] at hd
  have c0 := C_0 gc (show b < b + 3 by omega)
  have c1 : C (b + 1) = (I (kk : Nat)).toInt := C_at (k := 1) gc rfl (show b + 1 < b + 3 by omega)
  have c2 : C (b + 2) = xl.toInt := C_at (k := 2) gc rfl (show b + 2 < b + 3 by omega)
  refine cr_1 b1 b2 ⟨d, Or.inr (Or.inr (Or.inr (Or.inr (Or.inr (Or.inr (Or.inr (Or.inr (Or.inr (Or.inr (Or.inr (Or.inr (Or.inr (Or.inl ⟨R23, hy.mpr hg, ?_, ⟨lo, R24, ?_⟩, ?_⟩)))))))))))))⟩
  · rw [c1, R26, I_ti (by omega) (by omega)]
  · rw [c2, el, gr 8 lo (by decide)]
  · cases lst with
    | true =>
      cases tl with
      | true => exact Or.inl ⟨by rw [R30, if_pos ⟨rfl, List.mem_singleton.mpr rfl⟩], c0, by omega⟩
      | false => exact Or.inr ⟨by rw [R30, if_neg (fun z => by cases z.2)], c0, hd⟩
    | false => exact Or.inr ⟨by rw [R30, if_neg (fun z => by cases z.1)], c0, hd⟩
theorem app_x (c : CTZ m0 w0 K T nm Nk) (cv : CTV m0 w0 K T) (IH : HXE N m0 w0 K T nm Nk fof cvr f) (hg : g = false) (hxb : xb ≤ 8015) (hr4 : r ≤ 400) (hiT : hi ≤ T) (htot : tot sc + (hi - lo) ≤ 4000 ∧ sc.length ≤ o + 1)
    (hend' : ∀ M2 m3 v rt, XZ m0 w0 K T nm Nk fof cvr lst g lo hi a cm q0 r Q sc m w m3 () v rt → PP RR (some (m3, ())) (kg_M_primary N (krc_M_behind N d) M2 v (I (lo : Nat)) rt)) :
    ∀ (k n p xa s M1 M2 : Nat) (m2 w2 : MS) (b cm2 : Nat) (Q2 : Nat → Nat) (sc2 : SCT) (rt : Int32), RWcK m0 0 0 (AGcK m0 (XPcK m0 f o 3)) k n p hi xa xb s r → XTR m0 w0 K T nm Nk fof cvr lst g [] lo p a b cm cm2 q0 s Q Q2 sc sc2 m w m2 w2 → lo < p → PP RR (jg_Cm_apply N (jrc_Cm_fun N D) M1 m2 (lsI lst) (I (lo : Nat)) (I (n : Nat))) (kg_M_primary N (krc_M_behind N d) M2 w2 (I (lo : Nat)) rt)
  | 0, _, _, _, _, _, _, _, _, _, _, _, _, _, h, _, _ => h.elim
  | k + 1, n, p, xa, s, 0, M2, m2, w2, b, cm2, Q2, sc2, rt, _, _, _ => pp_nl
  | k + 1, n, p, xa, s, M1 + 1, 0, m2, w2, b, cm2, Q2, sc2, rt, _, _, _ => pp_nr
  | k + 1, n, p, xa, s, M1 + 1, M2 + 1, m2, w2, b, cm2, Q2, sc2, rt, h, ht, hlp => by
    obtain ⟨mid, c1, s1, ⟨hd, h16, k1, mm, c2, h18, h19, ⟨hk6, h6, h6b⟩, hE, hc2⟩, h⟩ := h
    unfold HDc at hd
    have t4 := c.2.1.1.1
    have hdm : mid ≤ hi ∧ c1 ≤ xb ∧ s1 ≤ r := by
      rcases h with ⟨-, -, rfl, rfl, rfl⟩ | ⟨-, n2, -, h3⟩
      · exact ⟨Nat.le_refl _, Nat.le_refl _, Nat.le_refl _⟩
      · have := (RW_hdK (fun n lo hi a b q r z => z.1) h3).1
        unfold HDc at this
        omega
    have hbd := OR_hdK (XP_bdK _ _ _) hE
    have k20 : K p = 20 := kA c (by omega) h6
    have k21 : K (mid - 1) = 21 := kA c (by omega) h6b
    have hC := ht.2.1
    have hR := ht.2.2.1.1
    have hw2 := XRS_wp c hR
    show PP RR (jb_Cm_apply_40 N (jrc_Cm_fun N D) (jg_Cm_apply N (jrc_Cm_fun N D) M1) m2 (lsI lst) (I (lo : Nat)) (I (n : Nat))) (kb_M_primary_128 N (krc_M_behind N d) (kg_M_primary N (krc_M_behind N d) M2) w2 (I (lo : Nat)) rt)
    unfold jb_Cm_apply_40 kb_M_primary_128
    rw [decide_eq_false (fun z => by
      have := (I_eq (x := ((n : Nat) : Int)) (y := 0) (by omega) (by omega) (by decide) (by decide)).mp z
      omega), br_fq]
    refine l_ck (fun _ => ?_)
    rw [i_nt2 (show n ≤ 100000 by omega), tre (XCS_fr hC) (by decide) h18, decide_eq_true hR.1.2.2.1, br_tq, isS_e (k := 20) (s := 0) hw2 (by decide) rfl, if_pos k20, bnd_s, show decide ((1 : Int32) = 0) = false from rfl, br_fq]
    refine r_gd (F := fun u => kb_M_primary_157 N (krc_M_behind N d) (kg_M_primary N (krc_M_behind N d) M2) u (I (lo : Nat))) (fun w3 hw3 => ?_)
    show PP RR _ (kb_M_primary_157 N (krc_M_behind N d) (kg_M_primary N (krc_M_behind N d) M2) w3 (I (lo : Nat)))
    unfold kb_M_primary_157
    have ht3 := XTR_mv ht (RUL_x hw3 hR) hw3.2 (Nat.le_refl _) (fun j a b => by omega)
    have l1 := ht.1
    refine args_x (n := mm) (k := k1) (hi := mid) (lo := p) (lo0 := lo) (xb := c2) c IH (by omega) (by omega) hk6 hE k20 k21 (by omega) (by omega) (by omega) ht3 (fun m4 w4 b4 cm4 Q4 sc4 ht4 h84 => ?_)
    have h21e : ∃ nx : Nat, A m0 21 n = ((nx : Nat) : Int) ∧ ((k = 0 ∧ nx = 0) ∨ (1 ≤ k ∧ 1 ≤ nx ∧ nx ≤ 8015)) := by
      rcases h with ⟨rfl, h21, -⟩ | ⟨⟨h1, -⟩, n2, h21, h3⟩
      · exact ⟨0, h21, Or.inl ⟨rfl, rfl⟩⟩
      · have := (RW_hdK (fun n lo hi a b q r z => z.1) h3).1
        unfold HDc at this
        exact ⟨n2, h21, Or.inr ⟨h1, by omega, by omega⟩⟩
    obtain ⟨nx, h21, hnx⟩ := h21e
    have e21 : m4.2.2.1 21 n = I (nx : Nat) := tre (XCS_fr ht4.2.1) (by decide) h21
    have last : k = 0 → PP RR (jb_Cm_apply_87 N (jrc_Cm_fun N D) (jg_Cm_apply N (jrc_Cm_fun N D) M1) m4 (lsI lst) (I (lo : Nat)) (I (n : Nat)) (if lst && true then 28 else 27)) (bnd (fm_M_node N w4 13 (I (lo : Nat))) (fun u2 r2 => ck (inb r2 (ln 26)) (lt (upA u2 26 (upd (u2.2.2.1 26) r2.toNatClampNeg (u2.1 84))) (fun w3 => kg_M_primary N (krc_M_behind N d) M2 w3 (I (lo : Nat)) r2)))) := fun hk0 => by
      subst hk0
      rcases h with ⟨-, -, rfl, rfl, rfl⟩ | ⟨⟨h1, -⟩, -⟩
      · refine app_w (tl := true) (m1 := nx) c cv hg (by omega) hiT hk6 (by omega) h19 h21 ht4 h84 (fun m5 v hx x23 x28 x30 => ?_)
        have nx0 : nx = 0 := by omega
        rw [nx0]
        have hz := XZ_n ht4 hx (by have := ht4.1; omega) (by omega) x28 (Or.inr ⟨rfl, Or.inr x23, x30⟩)
        cases M1 with
        | zero => exact pp_nl
        | succ M1 =>
          show PP RR (jb_Cm_apply_40 N (jrc_Cm_fun N D) (jg_Cm_apply N (jrc_Cm_fun N D) M1) m5 (lsI lst) (I (lo : Nat)) (I ((0 : Nat) : Int))) _
          unfold jb_Cm_apply_40
          rw [show decide (I ((0 : Nat) : Int) = (0 : Int32)) = true from rfl, br_tq]
          exact hend' M2 m5 v _ hz
      · omega
    have more : 1 ≤ k → PP RR (jb_Cm_apply_87 N (jrc_Cm_fun N D) (jg_Cm_apply N (jrc_Cm_fun N D) M1) m4 (lsI lst) (I (lo : Nat)) (I (n : Nat)) 27) (bnd (fm_M_node N w4 13 (I (lo : Nat))) (fun u2 r2 => ck (inb r2 (ln 26)) (lt (upA u2 26 (upd (u2.2.2.1 26) r2.toNatClampNeg (u2.1 84))) (fun w3 => kg_M_primary N (krc_M_behind N d) M2 w3 (I (lo : Nat)) r2)))) := fun hk1 => by
      have e27 : (if lst && false then (28 : Int32) else 27) = 27 := by cases lst <;> rfl
      rcases h with ⟨rfl, -⟩ | ⟨-, n2, h21', h3⟩
      · omega
      · have en : n2 = nx := by omega
        subst en
        have := app_w (N := N) (RR := RR) (S := jrc_Cm_fun N D) (G := jg_Cm_apply N (jrc_Cm_fun N D) M1) (GR := kg_M_primary N (krc_M_behind N d) M2) (v2 := lsI lst) (tl := false) (m1 := n2) c cv hg (show lo < mid by omega) (by omega) hk6 (by omega) h19 h21 ht4 h84 (fun m5 v hx x23 x28 x30 => app_x c cv IH hg hxb hr4 hiT htot hend' k n2 mid c1 s1 M1 M2 m5 v (b4 + 3) cm4 _ sc4 _ h3 (XTR_tr ht4 hx) (by omega))
        rw [e27] at this
        exact this
    cases lst with
    | false =>
      rw [show decide (lsI false = 0) = true from rfl, br_tq]
      unfold jb_Cm_apply_85
      by_cases zk : k = 0
      · exact last zk
      · exact more (by omega)
    | true =>
      rw [show decide (lsI true = 0) = false from rfl, br_fq, e21]
      refine l_ck (fun _ => ?_)
      by_cases zk : k = 0
      · have nx0 : nx = 0 := by omega
        rw [nx0, show decide (I ((0 : Nat) : Int) = (0 : Int32)) = true from rfl, br_tq]
        exact last zk
      · rw [decide_eq_false (fun z => by
          have := (I_eq (x := ((nx : Nat) : Int)) (y := 0) (by omega) (by omega) (by decide) (by decide)).mp z
          omega), br_fq]
        unfold jb_Cm_apply_85
        exact more (by omega)
theorem x_app (c : CTZ m0 w0 K T nm Nk) (cv : CTV m0 w0 K T) (I0 : HX0 N m0 w0 K T nm Nk fof cvr f) (IH : HXE N m0 w0 K T nm Nk fof cvr f) (hC : XCS m0 nm m a cm sc g) (hR : XRS w0 T w lo Q sc) (hq : Q 56 = q) (hn : n ≤ 8015) (h16 : A m0 16 n = 15) (h17 : A m0 17 n = ((lo : Nat) : Int)) (h18 : A m0 18 n = ((x : Nat) : Int)) (h19 : A m0 19 n = ((m1 : Nat) : Int)) {c1 : Nat} (hx : XPcK m0 f o 0 x lo mid xa c1 q s) (hE : RWcK m0 0 0 (AGcK m0 (XPcK m0 f (o + 1) 3)) k m1 mid hi i xb s r) (hci : c1 ≤ 8015) (hxb : xb ≤ 8015) (hr4 : r ≤ 400) (hiT : hi ≤ T) (htot : tot sc + (hi - lo) ≤ 4000 ∧ sc.length ≤ o + 1) (hh : ∀ M m2 w2 rt, XZ m0 w0 K T nm Nk fof cvr lst g lo hi a cm q r Q sc m w m2 () w2 rt → PP RR (fc m2 ()) (kg_M_primary N (krc_M_behind N d) M w2 (I (lo : Nat)) rt)) : PP RR (bnd (jm_Cm_expression N (jrc_Cm_fun N D) m (I (n : Nat)) (lsI lst)) fc) (km_M_primary N (krc_M_behind N d) w) := by
  have fr := XCS_fr hC
  have t4 := c.2.1.1.1
  have hd := xp_hd hx
  have hd2 := (RW_hdK (fun n lo hi a b q r z => z.1) hE).1
  unfold HDc at hd2
  refine pp_lb ?_
  refine exd_15 hn (tre fr (by decide) h16) (l_id ?_)
  cases D with
  | zero => exact pp_nl
  | succ D =>
  show PP _ (jb_Cm_apply_0 N (jrc_Cm_fun N D) (jg_Cm_apply N (jrc_Cm_fun N D) N) m (I (n : Nat)) (lsI lst)) _
  unfold jb_Cm_apply_0
  rw [i_nt2 (show n ≤ 100000 by omega), tre fr (by decide) h17]
  refine l_ck (fun _ => l_ntg (tk := lo) hC.2 rfl (by omega) (fun hg => l_ck (fun _ => ?_)))
  rw [tre fr (by decide) h18]
  refine I0 D d o x lo mid xa c1 q s m w a cm Q sc g false (fun m z w r => PK (fun v q => RR v q w r) (fc m z)) _ hx hci (by omega) (by omega) hC hR hq (by omega) (fun m2 w2 rt hz => ?_)
  obtain ⟨b2, cm2, Q2, sc2, ht⟩ := XZ_tr (lst := lst) hz (XTR_rf hC hR hq)
  refine l_ck (fun _ => ?_)
  rw [tre (XCS_fr ht.2.1) (by decide) h19]
  exact app_x (RR := fun m z w r => PK (fun v q => RR v q w r) (fc m z)) c cv IH hg hxb hr4 hiT ⟨htot.1, by have := htot.2; omega⟩ (fun M2 m3 v rt hz2 => pp_lx (hh M2 m3 v rt hz2)) k m1 mid i s N N m2 w2 b2 cm2 Q2 sc2 rt hE ht (by omega)
end
end
section
set_option maxRecDepth 100000
def wkG (N : Nat) (S : SG_M_behind) (M : Nat) (v1 : Int32) (lv : Nat) (u12 : MS) (r12 : Int32) : Option (MS × Int32) := if lv = 0 then some (u12, r12) else br (decide (I (lv : Nat) = 3)) (br (decide ((u12.1 83) ≤ v1)) (kb_M_worked_189 N S (kg_M_worked N S M) u12 v1 r12 1 (I (lv : Nat))) (ck (inb ((u12.1 83) - 1) (ln 79)) (br (decide ((u12.2.2.1 79 ((u12.1 83) - 1).toNatClampNeg) = 3)) (bnd (km_M_wrong N u12 2) (fun u13 _ => kb_M_worked_189 N S (kg_M_worked N S M) u13 v1 r12 1 (I (lv : Nat)))) (kb_M_worked_189 N S (kg_M_worked N S M) u12 v1 r12 1 (I (lv : Nat)))))) (kb_M_worked_189 N S (kg_M_worked N S M) u12 v1 r12 1 (I (lv : Nat)))
def HXU (N : Nat) (m0 w0 : MS) (K : Nat → Nat) (T : Nat) (nm Nk : Nat → Nat) (fof cvr : Int → Int → Int) (f : Nat) : Prop := ∀ (D d M o n lo hi xa xb q r b0 : Nat) (m w : MS) (a cm : Nat) (Q : Nat → Nat) (sc : SCT) (g lst : Bool) (RR : MS → Unit → MS → Int32 → Prop) (fc : MS → Unit → Option (MS × Unit)), XPcK m0 f o 1 n lo hi xa xb q r → xb ≤ 8015 → r ≤ 400 → (K hi ≠ 20 ∧ hi ≤ T) → XCS m0 nm m a cm sc g → XRS w0 T w lo Q sc → Q 56 = q → (tot sc + (hi - lo) ≤ 4000 ∧ sc.length ≤ o + 1) → b0 ≤ Q 83 → (∀ M M' m2 w2 rt, XZ m0 w0 K T nm Nk fof cvr lst g lo hi a cm q r Q sc m w m2 () w2 rt → PP RR (fc m2 ()) (bnd (gg_M_reduce N M' w2 (I (b0 : Nat)) (I (rkK (K hi) : Nat)) rt 1) (wkG N (krc_M_behind N d) M (I (b0 : Nat)) (rkK (K hi))))) → PP RR (bnd ((jrc_Cm_fun N D).2.2.2.2.2.2.2.2.2.2.1 m (I (n : Nat)) (lsI lst)) fc) ((kg_M_worked N (krc_M_behind N d) M).2 w (I (b0 : Nat)))
section
variable {α β : Type} {m0 w0 m w m2 w2 m3 w3 v u w1 : MS} {K nm Nk W W2 : Nat → Nat} {N T D d o a a0 b b0 c cm cm0 cm2 cm3 q q0 r s lo lo0 mid hi i j f f2 n k kk p σ tk x xa xb M m1 lv : Nat} {Q Q0 Q2 Q3 Q4 : Nat → Nat} {sc sc0 sc2 sc3 t : SCT} {e : List Nat × List Nat × Nat} {g lst l2 : Bool} {L L1 L2 : List Nat} {idc fof cvr : Int → Int → Int} {z : Unit} {rt v1 v2 v3 v5 : Int32} {fc : MS → Unit → Option (MS × Unit)} {RR : MS → Unit → MS → Int32 → Prop} {A' : Option (MS × Unit)} {B' : Option (MS × Int32)} {RU : MS → α → MS → β → Prop} {AA : Option (MS × α)}
theorem wkg_e {S : SG_M_behind} {RR : MS → α → MS → Int32 → Prop} {r : Int32} (hw : WP w K T p) (h67 : w.1 67 = 0) (h : ∀ M, PP RR AA (bnd (gg_M_reduce N N w v1 (I (rkK (K p) : Nat)) r 1) (wkG N S M v1 (rkK (K p))))) : PP RR AA (br (decide ((w.1 67) = 0)) (bnd (fm_M_level N w) (fun u15 r15 => kb_M_worked_129 N S (kg_M_worked N S M) u15 v1 r r15)) (kb_M_worked_129 N S (kg_M_worked N S M) w v1 r 0)) := by
  have k46 := hw.1.1.k46 hw.2.2
  have rk6 : rkK (K p) ≤ 6 := by
    have : ∀ k, k < 46 → rkK k ≤ 6 := by decide
    exact this _ k46
  rw [decide_eq_true h67, br_tq, lvl_m hw, bnd_s]
  unfold kb_M_worked_129 kb_M_worked_141
  rw [show (0 : Int32) = I ((0 : Nat) : Int) from rfl, decI (by omega) (by omega) (by omega) (by omega)]
  by_cases z : rkK (K p) = 0
  · rw [decide_eq_true (by omega), br_tq, show decide (I ((0 : Nat) : Int) = I ((0 : Nat) : Int)) = true from decide_eq_true rfl, br_tq]
    unfold kb_M_worked_331
    cases M with
    | zero => exact pp_nr
    | succ M =>
      show PP RR AA (kb_M_worked_9 N S (kg_M_worked N S M) w v1 r 0)
      unfold kb_M_worked_9 kb_M_worked_334
      rw [show decide ((0 : Int32) = 0) = true from rfl, br_tq, decide_eq_true h67, br_tq]
      have := h 0
      rw [z] at this
      exact this
  · rw [decide_eq_false (by omega), br_fq, show decide ((1 : Int32) = I ((0 : Nat) : Int)) = false from rfl, br_fq]
    have := h M
    unfold wkG at this
    rw [show (fun (u12 : MS) (r12 : Int32) => if rkK (K p) = 0 then some (u12, r12) else _) = (fun (u12 : MS) (r12 : Int32) => _) from funext (fun u => funext (fun r => if_neg z))] at this
    exact this
theorem redd_7 {RR : MS → α → MS → Int32 → Prop} {r : Int32} {f : MS → Int32 → Option (MS × Int32)} {tok : Nat} (hR : TWK w K T) (htk : tok ≤ T) (ht : p < 3000) (h83 : w.1 83 = I ((p + 1 : Nat) : Int)) (hb : b0 ≤ p) (h79 : w.2.2.1 79 p = 7) (h80 : w.2.2.1 80 p = I (tok : Nat)) (hlv : lv ≤ 6) (hk : K tok = 14 ∨ K tok = 34) (hG : ∀ M' x, PP RR AA (bnd (fm_M_node N (upI (upI w 83 (I (p : Nat))) 70 x) (if K tok = 14 then 7 else 8) (I (tok : Nat))) (fun u r => bnd (gg_M_reduce N M' u (I (b0 : Nat)) (I (lv : Nat)) r 1) f))) : PP RR AA (bnd (gg_M_reduce N M w (I (b0 : Nat)) (I (lv : Nat)) r 1) f) := by
  have t4 := hR.1.1
  cases M with
  | zero => exact pp_nr
  | succ M =>
    show PP RR AA (bnd (fb_M_reduce_6 N (gg_M_reduce N M) w (I (b0 : Nat)) (I (lv : Nat)) r 1) f)
    unfold fb_M_reduce_6 fb_M_reduce_56 fb_M_reduce_61
    rw [show decide ((1 : Int32) = 0) = false from rfl, br_fq, h83, decI (by omega) (by omega) (by omega) (by omega), decide_eq_false (by omega), br_fq, I_sn, bnd_ck]
    refine r_ck (fun _ => ?_)
    rw [bnd_lt]
    refine r_lt ?_
    rw [tnI (n := p) rfl (by omega), h79, show (7 : Int32) = I ((7 : Nat) : Int) from rfl, decide_eq_true ((I_lt (by omega) (by omega) (by omega) (by omega)).mpr (by omega)), br_tq, br_fq, bnd_lt]
    refine r_lt ?_
    rw [show decide (I ((7 : Nat) : Int) = I ((7 : Nat) : Int)) = true from decide_eq_true rfl, br_tq, bnd_lt]
    refine r_lt ?_
    have e70 : (upI w 83 (I (p : Nat))).1 70 = w.1 70 := upI_ne (by decide)
    rw [e70]
    have hG := fun M' => hG M' (w.1 70 - 1)
    have e83 : (upI (upI w 83 (I (p : Nat))) 70 (w.1 70 - 1)).1 83 = I (p : Nat) := by rw [upI_ne (by decide), upI_at]
    have e80 : (upI (upI w 83 (I (p : Nat))) 70 (w.1 70 - 1)).2.2.1 80 p = I (tok : Nat) := h80
    have e6 : (upI (upI w 83 (I (p : Nat))) 70 (w.1 70 - 1)).2.2.1 6 tok = I (srK (K tok) : Nat) := hR.2.1 tok htk
    generalize upI (upI w 83 (I (p : Nat))) 70 (w.1 70 - 1) = w9 at hG e83 e80 e6 ⊢
    rw [e83, tnI (n := p) rfl (by omega), e80, i_nt (p := tok) (by omega), e6]
    rw [bnd_ck]
    refine r_ck (fun _ => ?_)
    rw [bnd_ck]
    refine r_ck (fun _ => ?_)
    have go : ∀ t1 : Int32, t1 = (if K tok = 14 then 7 else 8) → PP RR AA (bnd (fb_M_reduce_121 N (gg_M_reduce N M) w9 (I (b0 : Nat)) (I (lv : Nat)) 1 t1) f) := fun t1 h1 => by
      unfold fb_M_reduce_121 fb_M_reduce_255
      rw [bnd_ck]
      refine r_ck (fun _ => ?_)
      rw [bnd_as2, e83, tnI (n := p) rfl (by omega), e80, h1]
      exact hG M
    rcases hk with hk | hk
    · rw [hk, show decide (I (srK 14 : Nat) = (3 : Int32)) = true from rfl, br_tq]
      exact go 7 (by rw [if_pos hk])
    · rw [hk, show decide (I (srK 34 : Nat) = (3 : Int32)) = false from rfl, br_fq]
      exact go 8 (by rw [if_neg (by omega)])
theorem PRS_x {pi : Nat} (h : PRd w0 T w p pi sc) (hi : ∀ k, k ∈ [5, 9, 10, 11, 14, 17, 20, 39, 65, 67] → v.1 k = w.1 k) (hr : ∀ k, k < 23 ∨ (59 ≤ k ∧ k ≤ 64) → v.2.2.1 k = w.2.2.1 k) (h69 : v.1 69 = I (p : Nat)) : PRd w0 T v p pi sc := by
  obtain ⟨h1, h2, h3, h4, h5, h6⟩ := h
  refine ⟨⟨fun k hk => ?_, fun k hk => ?_⟩, ⟨h69, h2.2⟩, (hi 67 (by decide)).trans h3, RNs_e h4 (hi 65 (by decide)) (fun k a b => hr k (by omega)), HFl_fr h4.2.2.2 h5 (fun j _ => by rw [hr 62 (by omega)]), (hi 39 (by decide)).trans h6.1, h6.2⟩
  · have : k ∈ [5, 9, 10, 11, 14, 17, 20, 39, 65, 67] := by
      unfold TIN at hk
      simp only [List.mem_cons, List.not_mem_nil, or_false] at hk ⊢
      omega
    rw [hi k this]; exact h1.1 k hk
  · have : k < 23 := by unfold TRW at hk; simp only [List.mem_cons, List.not_mem_nil, or_false] at hk; omega
    rw [hr k (Or.inl this)]; exact h1.2 k hk
theorem XTR_83 (h : XTR m0 w0 K T nm Nk fof cvr lst g L mid hi a b cm cm2 q r (qst Q 83 (p + 1)) Q2 sc sc2 m w1 m2 w2) (hp : Q 83 = p) (hQ : QRR Q w w1) (hlm : lo ≤ mid) (gap : ∀ j, lo ≤ j → j < mid → K j ≠ 3) : XTR m0 w0 K T nm Nk fof cvr lst g L lo hi a b cm cm2 q r Q (qst Q2 83 p) sc sc2 m w m2 (upI w2 83 (I (p : Nat))) := by
  obtain ⟨a1, a2, a3, a4, ⟨W, a5, a6⟩, a7, a8, a9, a10, a11⟩ := h
  have hq2 : p + 1 ≤ Q2 83 := by have := a8.2.1 83 (by decide); rw [qst_at] at this; exact this
  have p24 : p ≤ 24000 := by have := (a3.1.2 83 (by decide)).2; omega
  have e1 : ∀ j, j ≠ 83 → qst Q 83 (p + 1) j = Q j := fun j hj => qst_no hj
  have e2 : ∀ j, j ≠ 83 → qst Q2 83 p j = Q2 j := fun j hj => qst_no hj
  refine ⟨⟨by omega, a1.2⟩, a2, ⟨⟨?_, QMK_st a3.1.2 p24⟩, by rw [e2 56 (by decide)]; exact a3.2⟩, by omega, ⟨W, HDx_tr hlm a1.1 (HDx_gap gap) a5, ?_⟩, a7, ⟨?_, fun k hk => ?_, ?_⟩, a9, fun n hn => ?_, fun C P R J H fi hx => ?_⟩
  · have := a3.1.1
    rw [e2 39 (by decide)]
    exact PRS_x this (fun k hk => upI_ne (by rintro rfl; revert hk; decide)) (fun _ _ => rfl) (by rw [upI_ne (by decide)]; exact this.2.1.1)
  · rw [a6, ← wup_tr (p := lo) (q := mid) (p2 := hi) hlm a1.1, wup_0 (p := lo) gap]
  · exact QRR_I (QRR_tr (Q2 := qst Q 83 (p + 1)) hQ a8.1 (QLE_st QLE_rf (by omega)))
  · by_cases z : k = 83
    · rw [z, qst_at]; omega
    · rw [e2 k z]
      have := a8.2.1 k hk
      rw [e1 k z] at this
      exact this
  · rw [e2 75 (by decide), e2 77 (by decide), qst_at, a8.2.2.1, a8.2.2.2.1, e1 75 (by decide), e1 77 (by decide)]
    exact ⟨rfl, rfl, hp.symm⟩
  · have := a10 n hn
    rw [e1 32 (by decide)] at this
    rw [e2 32 (by decide)]
    exact this
  · obtain ⟨g1, g2, g3, ⟨g4, g5, g6, g7⟩, g8⟩ := fi
    rw [e2 32 (by decide)] at g5 g6 g8
    rw [e2 39 (by decide)] at g7
    have in83 : ∀ k, grp k ∈ [32, 39, 46, 56, 58] → grp k ≠ 83 := fun k hk z => by rw [z] at hk; revert hk; decide
    have := a11 C P R J H ⟨g1, g2, g3, ⟨fun k n z1 z2 z3 z4 z5 z6 z7 => g4 k n z1 z2 z3 z4 z5 (by rw [e1 _ (in83 k z5)] at z6; exact z6) (by rw [e2 _ (in83 k z5)]; exact z7), by rw [e1 32 (by decide)]; exact g5, by rw [e1 32 (by decide)]; exact g6, by rw [e1 39 (by decide)]; exact g7⟩, by rw [e1 32 (by decide)]; exact g8⟩ hx
    rw [e1 32 (by decide)] at this
    rw [e2 32 (by decide)]
    exact this
end
end
section
set_option maxRecDepth 100000
section
variable {α β : Type} {m0 w0 m w m2 w2 m3 w3 v u w1 : MS} {K nm Nk W W2 : Nat → Nat} {N T D d o a a0 b b0 c cm cm0 cm2 cm3 q q0 r s lo lo0 mid hi i j f f2 n k kk p σ tk x xa xb M m1 lv : Nat} {Q Q0 Q2 Q3 Q4 : Nat → Nat} {sc sc0 sc2 sc3 t : SCT} {e : List Nat × List Nat × Nat} {g lst l2 : Bool} {L L1 L2 : List Nat} {idc fof cvr : Int → Int → Int} {z : Unit} {rt v1 v2 v3 v5 : Int32} {fc : MS → Unit → Option (MS × Unit)} {RR : MS → Unit → MS → Int32 → Prop} {A' : Option (MS × Unit)} {B' : Option (MS × Int32)}
theorem pp_rx {W0 : MS → Int32 → Option (MS × Int32)} {r : Int32} (h : PP RR A' (W0 w r)) : PP (fun m z w r => PK (fun v q => RR m z v q) (W0 w r)) A' (some (w, r)) := by
  intro m9 z9 w9 r9 e1 e2 v q e3
  injection e2 with e2
  injection e2 with e4 e5
  subst e4
  subst e5
  exact h m9 z9 v q e1 e3
theorem xp_beg0 : ∀ {f o n lo hi a b q r : Nat} {u : MS}, XPcK u f o 0 n lo hi a b q r → A u 6 lo ≠ 14 ∧ A u 6 lo ≠ 34 ∧ A u 6 lo ≠ 9
  | 0, _, _, _, _, _, _, _, _, _, h => h.elim
  | f + 1, o, n, lo, hi, a, b, q, r, u, h => by
    obtain ⟨-, -, -, h4⟩ := h
    rcases h4 with ⟨h4, -⟩ | ⟨h4, m, c, h5, h6, h7, hk, -⟩ | ⟨h4, h5, hk⟩ | ⟨h4, h5, hk⟩ | ⟨h4, k, m, c, h5, h6, h7, hk, -⟩ | ⟨h4, x, mid, c, s, k, m, c2, h5, h6, h7, h8, h9, hk, -⟩ | ⟨h4, k, m, c, h5, h6, h7, hk, -⟩ | ⟨h4, k, m, m1, c1, s1, h5, h6, h7⟩ | ⟨h4, k, m, ph, c, h5, h6, h7, h8, h9, h10, h11, h12, hk, -⟩ | h4 | ⟨h4, h5, k, m, a2, c, h6, h7, h8, h9, h10, h11, hk, -⟩ | ⟨h4, h5, -⟩ | ⟨h4, h5, -⟩ | ⟨h4, h5, -⟩ | ⟨h4, h5, -⟩ | ⟨h4, h5, -⟩ | ⟨h4, h5, -⟩
    · have := h4.2.1; omega
    · omega
    · obtain ⟨-, -, -, -, -, ⟨-, h, -⟩, -⟩ := h5; omega
    · obtain ⟨-, -, -, -, -, -, -, ⟨-, h, -⟩, -⟩ := h5; omega
    · omega
    · omega
    · omega
    · rcases h7 with ⟨-, -, -, -, -, -, hk, -⟩ | ⟨x, m2, c2, s2, kb, mb, c3, -, -, -, -, -, -, hk, -⟩
      · omega
      · omega
    · omega
    · have := h4.2.1.2.1; omega
    · omega
    · omega
    · omega
    · omega
    · omega
    · omega
    · omega
theorem xp_0 {u : MS} {q r hi lo n f : Nat} (h : XPcK u f o 1 n lo hi a b q r) (n15 : A u 16 n ≠ 15) (n17 : A u 16 n ≠ 17) (n18 : A u 16 n ≠ 18) : XPcK u f o 0 n lo hi a b q r := by
  cases f with
  | zero => exact h.elim
  | succ f =>
    obtain ⟨h1, h2, h3, h4⟩ := h
    refine ⟨h1, h2, h3, ?_⟩
    rcases h4 with h | h | h | h | h | h | h | h | h | h | h | h | h | h | h | h | h
    · exact Or.inl h
    · exact Or.inr (Or.inl h)
    · exact Or.inr (Or.inr (Or.inl h))
    · exact Or.inr (Or.inr (Or.inr (Or.inl h)))
    · exact Or.inr (Or.inr (Or.inr (Or.inr (Or.inl h))))
    · exact Or.inr (Or.inr (Or.inr (Or.inr (Or.inr (Or.inl h)))))
    · exact Or.inr (Or.inr (Or.inr (Or.inr (Or.inr (Or.inr (Or.inl h))))))
    · exact Or.inr (Or.inr (Or.inr (Or.inr (Or.inr (Or.inr (Or.inr (Or.inl h)))))))
    · exact Or.inr (Or.inr (Or.inr (Or.inr (Or.inr (Or.inr (Or.inr (Or.inr (Or.inl h))))))))
    · exact Or.inr (Or.inr (Or.inr (Or.inr (Or.inr (Or.inr (Or.inr (Or.inr (Or.inr (Or.inl h)))))))))
    · exact Or.inr (Or.inr (Or.inr (Or.inr (Or.inr (Or.inr (Or.inr (Or.inr (Or.inr (Or.inr (Or.inl h))))))))))
    · exact absurd h.1 n15
    · rcases h.1 with z | z
      · exact absurd z n17
      · exact absurd z n18
    · exact absurd h.2.1 (by decide)
    · exact absurd h.2.1 (by decide)
    · exact absurd h.2.1 (by decide)
    · exact absurd h.2.1 (by decide)
theorem w2_prim {S : SG_M_behind} {v1 : Int32} (c : CTZ m0 w0 K T nm Nk) (hR : XRS w0 T w lo Q sc) (k14 : K lo ≠ 14) (k34 : K lo ≠ 34) (h : ∀ M, PP RR A' (kb_M_worked_109 N S (kg_M_worked N S M) w v1)) : PP RR A' ((kg_M_worked N S M).2 w v1) := by
  cases M with
  | zero => exact pp_nr
  | succ M =>
    have hw := XRS_wp c hR
    show PP RR A' (kb_M_worked_20 N S (kg_M_worked N S M) w v1)
    unfold kb_M_worked_20
    rw [decide_eq_true hR.1.2.2.1, br_tq, isS_e (k := 34) (s := 19) hw (by decide) rfl, if_neg k34, bnd_s, show decide ((0 : Int32) = 0) = true from rfl, br_tq, isV_e (k := 14) (s := 9) hw (by decide) rfl, if_neg k14, bnd_s, show decide ((0 : Int32) = 0) = true from rfl, br_tq]
    exact h M
theorem w2_sign {S : SG_M_behind} {v1 : Int32} (c : CTZ m0 w0 K T nm Nk) (hR : XRS w0 T w lo Q sc) (hp : Q 83 = p) (hk : K lo = 14 ∨ K lo = 34) (h : ∀ M u, p < 3000 → XRS w0 T u (lo + 1) (qst Q 83 (p + 1)) sc → QRR Q w u → u.2.2.1 79 p = 7 → u.2.2.1 80 p = I (lo : Nat) → PP RR A' ((kg_M_worked N S M).2 u v1)) : PP RR A' ((kg_M_worked N S M).2 w v1) := by
  have t4 := c.2.1.1.1
  have hl : lo < T := c.2.1.1.lt hR.1.2.1.2 (by omega) (by omega)
  have h83 : w.1 83 = I (p : Nat) ∧ p ≤ 24000 := by have := hR.2 83 (by decide); rw [hp] at this; exact this
  cases M with
  | zero => exact pp_nr
  | succ M =>
    have hw := XRS_wp c hR
    have e45 : PP RR A' (kb_M_worked_45 N S (kg_M_worked N S M) w v1) := by
      unfold kb_M_worked_45 kb_M_worked_102
      rw [h83.1, i_nt2 (p := p) (by omega)]
      refine r_ck (fun zp => r_lt ?_)
      have hp3 : p < 3000 := by
        have := (I_inb (n := ln 79) (x := ((p : Nat) : Int)) (by omega) (by omega)).mp zp
        have l79 : ln 79 = 3000 := rfl
        omega
      have e1 : ∀ gg, (upA w 79 gg).1 83 = I (p : Nat) := fun _ => h83.1
      have e2 : ∀ gg, (upA w 79 gg).1 69 = I (lo : Nat) := fun _ => hR.1.2.1.1
      rw [e1, e2, i_nt2 (p := p) (by omega), nsh (by omega)]
      refine r_ck (fun _ => r_lt (r_lt (r_lt ?_)))
      have e3 : (upA (upA w 79 (upd (w.2.2.1 79) p (vp_nar .byte 7))) 80 (upd ((upA w 79 (upd (w.2.2.1 79) p (vp_nar .byte 7))).2.2.1 80) p (I (lo : Nat)))).1 83 + 1 = I ((p + 1 : Nat) : Int) := by
        show w.1 83 + 1 = _
        rw [h83.1, i_suc]
      rw [e3]
      have hQ : QRR Q w (upI (upA (upA w 79 (upd (w.2.2.1 79) p (vp_nar .byte 7))) 80 (upd ((upA w 79 (upd (w.2.2.1 79) p (vp_nar .byte 7))).2.2.1 80) p (I (lo : Nat)))) 83 (I ((p + 1 : Nat) : Int))) := QRR_I (QRR_A (QRR_A QRR_rf (by decide) (by show Q 83 ≤ p; omega)) (by decide) (by show Q 83 ≤ p; omega))
      have r79 : (upI (upA (upA w 79 (upd (w.2.2.1 79) p (vp_nar .byte 7))) 80 (upd ((upA w 79 (upd (w.2.2.1 79) p (vp_nar .byte 7))).2.2.1 80) p (I (lo : Nat)))) 83 (I ((p + 1 : Nat) : Int))).2.2.1 79 p = 7 := by
        show (upA (upA w 79 _) 80 _).2.2.1 79 p = 7
        rw [upA_no (by decide), upA_at, upd_at]; rfl
      have r80 : (upI (upA (upA w 79 (upd (w.2.2.1 79) p (vp_nar .byte 7))) 80 (upd ((upA w 79 (upd (w.2.2.1 79) p (vp_nar .byte 7))).2.2.1 80) p (I (lo : Nat)))) 83 (I ((p + 1 : Nat) : Int))).2.2.1 80 p = I (lo : Nat) := by
        show (upA (upA w 79 _) 80 _).2.2.1 80 p = _
        rw [upA_at, upd_at]
      have hX : XRS w0 T (upI (upA (upA w 79 (upd (w.2.2.1 79) p (vp_nar .byte 7))) 80 (upd ((upA w 79 (upd (w.2.2.1 79) p (vp_nar .byte 7))).2.2.1 80) p (I (lo : Nat)))) 83 (I ((p + 1 : Nat) : Int))) lo (qst Q 83 (p + 1)) sc := by
        refine ⟨?_, QMK_st (w := upA (upA w 79 (upd (w.2.2.1 79) p (vp_nar .byte 7))) 80 (upd ((upA w 79 (upd (w.2.2.1 79) p (vp_nar .byte 7))).2.2.1 80) p (I (lo : Nat)))) hR.2 (by omega)⟩
        rw [qst_no (by decide)]
        exact PRS_x hR.1 (fun k hk => upI_ne (by rintro rfl; revert hk; decide)) (fun k hk => by
          show (upA (upA w 79 _) 80 _).2.2.1 k = _
          rw [upA_no (by omega), upA_no (by omega)]) (by rw [upI_ne (by decide)]; exact hR.1.2.1.1)
      generalize upI (upA (upA w 79 (upd (w.2.2.1 79) p (vp_nar .byte 7))) 80 (upd ((upA w 79 (upd (w.2.2.1 79) p (vp_nar .byte 7))).2.2.1 80) p (I (lo : Nat)))) 83 (I ((p + 1 : Nat) : Int)) = V at hQ r79 r80 hX
      have e4 : V.1 69 + 1 = I ((lo + 1 : Nat) : Int) := by rw [hX.1.2.1.1, i_suc]
      rw [e4]
      have hA := XRS_ad hX hl
      rw [show upI V 69 (I ((lo + 1 : Nat) : Int)) = adv V lo from rfl, bU_m (XRS_wp c hA), bnd_s]
      cases bUK (K (lo + 1)) with
      | false =>
        rw [show decide (b2c false = 0) = true from rfl, br_tq]
        exact pp_nr
      | true =>
        rw [show decide (b2c true = 0) = false from rfl, br_fq]
        refine r_opens ?_
        exact h M _ hp3 (XRS_I (k := 70) hA (by decide) (by decide)) hQ r79 r80
    show PP RR A' (kb_M_worked_20 N S (kg_M_worked N S M) w v1)
    unfold kb_M_worked_20
    rw [decide_eq_true hR.1.2.2.1, br_tq, isS_e (k := 34) (s := 19) hw (by decide) rfl, bnd_s]
    rcases hk with hk | hk
    · rw [if_neg (by omega), show decide ((0 : Int32) = 0) = true from rfl, br_tq, isV_e (k := 14) (s := 9) hw (by decide) rfl, if_pos hk, bnd_s, show decide ((1 : Int32) = 0) = false from rfl, br_fq]
      exact e45
    · rw [if_pos hk, show decide ((1 : Int32) = 0) = false from rfl, br_fq]
      exact e45
end
end
section
set_option maxRecDepth 100000
section
variable {α β : Type} {m0 w0 m w m2 w2 m3 w3 v u w1 : MS} {K nm Nk W W2 : Nat → Nat} {N T D d o a a0 b b0 c cm cm0 cm2 cm3 q q0 r s lo lo0 mid hi i j f f2 n k kk p σ tk x xa xb M m1 lv : Nat} {Q Q0 Q2 Q3 Q4 : Nat → Nat} {sc sc0 sc2 sc3 t : SCT} {e : List Nat × List Nat × Nat} {g lst l2 : Bool} {L L1 L2 : List Nat} {idc fof cvr : Int → Int → Int} {z : Unit} {rt v1 v2 v3 v5 : Int32} {fc : MS → Unit → Option (MS × Unit)} {RR : MS → Unit → MS → Int32 → Prop} {A' : Option (MS × Unit)} {B' : Option (MS × Int32)}
theorem prim_end {S : SG_M_behind} (c : CTZ m0 w0 K T nm Nk) (hX : XRS w0 T w hi Q sc) (k20 : K hi ≠ 20) (h : PP RR A' (some (w, rt))) : PP RR A' (kg_M_primary N S M w v1 rt) := by
  cases M with
  | zero => exact pp_nr
  | succ M =>
    show PP RR A' (kb_M_primary_128 N S (kg_M_primary N S M) w v1 rt)
    unfold kb_M_primary_128 kb_M_primary_182
    rw [decide_eq_true hX.1.2.2.1, br_tq, isS_e (k := 20) (s := 0) (XRS_wp c hX) (by decide) rfl, if_neg k20, bnd_s, show decide ((0 : Int32) = 0) = true from rfl, br_tq]
    exact h
theorem neg_n {kd t1 : Int32} {F : MS → Int32 → Option (MS × Int32)} (c : CTZ m0 w0 K T nm Nk) (ht : XTR m0 w0 K T nm Nk fof cvr lst g [] lo hi a b cm cm2 q r Q Q2 sc sc2 m w m2 w2) (hiT : hi ≤ T) (hlh : lo < hi) (ha : b < 23990) (hk : (kd = 7 ∧ t1 = 12) ∨ (kd = 8 ∧ t1 = 11)) (hh : ∀ v, XZ m0 w0 K T nm Nk fof cvr lst g lo hi a cm q r Q sc m w (ptc m2 b t1) () v (I (Q2 32 : Nat)) → PP RR A' (F v (I (Q2 32 : Nat)))) : PP RR A' (bnd (fm_M_node N w2 kd (I (lo : Nat))) F) := by
  have hC := ht.2.1
  have hR := ht.2.2.1.1
  have t4 := c.2.1.1.1
  have l1 := ht.1
  obtain ⟨n1, n2⟩ := XRS_q hR
  have kb : vp_nar .byte (kd.toInt8.toInt32) = kd := by rcases hk with ⟨rfl, -⟩ | ⟨rfl, -⟩ <;> rfl
  refine r_nod n1 n2 kb (nsh (by omega)) (fun h16 => ?_)
  have hN : NOD w2 (nwD w2 (Q2 32) kd (I (lo : Nat))) (Q2 32) := NOD_0 n1
  obtain ⟨d1, d2, d3, d4, d5, d6, d7, d8⟩ := nwD_at (w := w2) (i := Q2 32) (k := kd) (t := I (lo : Nat))
  have d9 : (nwD w2 (Q2 32) kd (I (lo : Nat))).1 69 = I (hi : Nat) := by rw [nwD_i (by decide)]; exact hR.1.2.1.1
  generalize nwD w2 (Q2 32) kd (I (lo : Nat)) = v at hN d1 d2 d3 d4 d5 d6 d7 d8 d9
  have a23 : A v 23 (Q2 32) = kd.toInt := congrArg Int32.toInt d1
  have a28 : A v 28 (Q2 32) = -1 := congrArg Int32.toInt d6
  have h1 := XCS_put (x := t1) hC ha
  have em : ptc m2 b t1 = ptcs m2 b [t1] := rfl
  refine hh v (XZ_n (L := []) (c := b + 1) ht (XT_nod hC hR ht.2.2.1.2 ⟨Nat.le_refl _, hiT⟩ (fun j j1 j2 => by omega) (by omega) h1 (by rw [em]; exact XFC_ps XFC_rf (Nat.le_refl _)) (by rw [em]; exact ptcs_r (by decide)) hN rfl h16 d9 (fun n hn => by cases hn) (fun C P R J H fi hx => ⟨fun u u1 u2 => by omega, fun y hy hr => ?_⟩)) (by omega) hlh a28 (Or.inl ⟨rfl, by rw [a23]; rcases hk with ⟨rfl, -⟩ | ⟨rfl, -⟩ <;> decide⟩))
  have gc := fi.1
  rw [em] at gc
  have ro : ∀ k, 23 ≤ k ∧ k ≤ 31 → k ≠ 27 ∧ k ≠ 29 ∧ k ≠ 30 → R k (Q2 32) = A v k (Q2 32) := fun k k1 k2 => FIN_R fi k1 k2 ⟨Nat.le_refl _, by rw [qst_at]; omega⟩
  have R23 := (ro 23 (by decide) (by decide)).trans a23
  have c0 := C_0 gc (show b < b + 1 by omega)
  obtain ⟨b1, b2⟩ := XB c.2.2.1 hC hR hx h16
  obtain ⟨d, hd⟩ := hr
  rw [qst_at] at hd
  rcases hk with ⟨rfl, rfl⟩ | ⟨rfl, rfl⟩
  · exact cr_1 b1 b2 ⟨d, Or.inr (Or.inr (Or.inr (Or.inr (Or.inr (Or.inr (Or.inr (Or.inl ⟨R23, c0, hd⟩)))))))⟩
  · exact cr_1 b1 b2 ⟨d, Or.inr (Or.inr (Or.inr (Or.inr (Or.inr (Or.inr (Or.inr (Or.inr (Or.inl ⟨R23, c0, hd⟩))))))))⟩
theorem rk6 {k : Nat} (h : k < 46) : rkK k ≤ 6 := by
  have : ∀ k, k < 46 → rkK k ≤ 6 := by decide
  exact this _ h
theorem x_un (c : CTZ m0 w0 K T nm Nk) (cv : CTV m0 w0 K T) (I0 : HX0 N m0 w0 K T nm Nk fof cvr (f + 1)) (I00 : HX0 N m0 w0 K T nm Nk fof cvr f) (IH : HXE N m0 w0 K T nm Nk fof cvr f) (IU : HXU N m0 w0 K T nm Nk fof cvr f) : HXU N m0 w0 K T nm Nk fof cvr (f + 1) := by
  intro D d M o n lo hi xa xb q r b0 m w a cm Q sc g lst RR fc hE hxb hr4 hcl hC hR hq htot hb0 hh
  have t4 := c.2.1.1.1
  have hd := xp_hd hE
  have fr := XCS_fr hC
  have hn : n ≤ 8015 := by omega
  have k46 := c.2.1.1.k46 hcl.2
  cases D with
  | zero => exact pp_nl
  | succ D =>
  have prim : A m0 6 lo ≠ 14 → A m0 6 lo ≠ 34 → (∀ (d : Nat) (RX : MS → Unit → MS → Int32 → Prop) (fX : MS → Unit → Option (MS × Unit)), (∀ M m2 w2 rt, XZ m0 w0 K T nm Nk fof cvr lst g lo hi a cm q r Q sc m w m2 () w2 rt → PP RX (fX m2 ()) (kg_M_primary N (krc_M_behind N d) M w2 (I (lo : Nat)) rt)) → PP RX (bnd ((jrc_Cm_fun N (D + 1)).2.2.2.2.2.2.2.2.2.2.1 m (I (n : Nat)) (lsI lst)) fX) (km_M_primary N (krc_M_behind N d) w)) → PP RR (bnd ((jrc_Cm_fun N (D + 1)).2.2.2.2.2.2.2.2.2.2.1 m (I (n : Nat)) (lsI lst)) fc) ((kg_M_worked N (krc_M_behind N d) M).2 w (I (b0 : Nat))) := fun k14 k34 hp => by
    have n14 : K lo ≠ 14 := fun z => k14 (by
      show (m0.2.2.1 6 lo).toInt = 14
      rw [c.1.2 lo (by omega), z]; rfl)
    have n34 : K lo ≠ 34 := fun z => k34 (by
      show (m0.2.2.1 6 lo).toInt = 34
      rw [c.1.2 lo (by omega), z]; rfl)
    refine w2_prim c hR n14 n34 (fun M => ?_)
    unfold kb_M_worked_109
    cases d with
    | zero => exact pp_nr
    | succ d =>
    refine pp_rb ?_
    refine hp d (fun m z w r => PK (fun v q => RR m z v q) (br (decide ((w.1 67) = 0)) (bnd (fm_M_level N w) (fun u15 r15 => kb_M_worked_129 N (krc_M_behind N (d + 1)) (kg_M_worked N (krc_M_behind N (d + 1)) M) u15 (I (b0 : Nat)) r r15)) (kb_M_worked_129 N (krc_M_behind N (d + 1)) (kg_M_worked N (krc_M_behind N (d + 1)) M) w (I (b0 : Nat)) r 0))) fc (fun M1 m2 w2 rt hz => ?_)
    obtain ⟨Q2, sc2, hX⟩ := XZ_pr hz
    refine prim_end c hX hcl.1 ?_
    refine pp_rx (W0 := fun w r => br (decide ((w.1 67) = 0)) (bnd (fm_M_level N w) (fun u15 r15 => kb_M_worked_129 N (krc_M_behind N (d + 1)) (kg_M_worked N (krc_M_behind N (d + 1)) M) u15 (I (b0 : Nat)) r r15)) (kb_M_worked_129 N (krc_M_behind N (d + 1)) (kg_M_worked N (krc_M_behind N (d + 1)) M) w (I (b0 : Nat)) r 0)) ?_
    exact wkg_e (XRS_wp c hX) hX.1.2.2.1 (fun M2 => hh M2 N m2 w2 rt hz)
  by_cases z15 : A m0 16 n = 15
  · 
    have h4 := hE.2.2.2
    rcases h4 with h | h | h | h | h | h | h | h | h | h | h | h | h | h | h | h | h
    · have := h.1.1; have := h.1.2.1; omega
    · have := h.1; omega
    · have := h.1; omega
    · have := h.1; omega
    · have := h.1; omega
    · have := h.1; omega
    · have := h.1; omega
    · have := h.1; omega
    · have := h.1; omega
    · have := h.1; omega
    · have := h.1; omega
    · obtain ⟨-, -, x, mid, c1, s, k, m1, h18, hx, ⟨hc1, h17⟩, h19, hrw⟩ := h
      have b0 := xp_beg0 hx
      refine prim b0.1 b0.2.1 (fun d RX fX hX => ?_)
      exact x_app (n := n) (D := D) c cv I00 IH hC hR hq hn z15 h17 h18 h19 hx hrw (by omega) hxb hr4 hcl.2 htot hX
    · rcases h.1 with z | z <;> omega
    · have := h.1; omega
    · have := h.1; omega
    · have := h.1; omega
    · have := h.1; omega
  by_cases z1718 : A m0 16 n = 17 ∨ A m0 16 n = 18
  · 
    have h4 := hE.2.2.2
    rcases h4 with h | h | h | h | h | h | h | h | h | h | h | h | h | h | h | h | h
    · have := h.1.1; have := h.1.2.1; omega
    · have := h.1; omega
    · have := h.1; omega
    · have := h.1; omega
    · have := h.1; omega
    · have := h.1; omega
    · have := h.1; omega
    · have := h.1; omega
    · have := h.1; omega
    · have := h.1; omega
    · have := h.1; omega
    · have := h.1; omega
    · obtain ⟨-, -, x, c1, h18, hx, hc1, e34, e14⟩ := h
      have hdx := xp_hd hx
      have klo : K lo = 14 ∧ A m0 16 n = 18 ∨ K lo = 34 ∧ A m0 16 n = 17 := by
        rcases z1718 with z | z
        · exact Or.inr ⟨kA c (by omega) (e34 z), z⟩
        · exact Or.inl ⟨kA c (by omega) (e14 z), z⟩
      refine pp_lb ?_
      have comp : ∀ B', (∀ D, PP (fun m z w r => PK (fun v q => RR v q w r) (fc m z)) (bnd ((jrc_Cm_fun N D).2.2.2.2.2.2.2.2.2.2.1 m (I (x : Nat)) (lsI false)) (fun u8 r8 => ck (inb (I (n : Nat)) 8016) (br (decide ((u8.2.2.1 16 n) = 18)) (jb_Cm_compound_72 N (jrc_Cm_fun N D) () u8 12) (jb_Cm_compound_72 N (jrc_Cm_fun N D) () u8 11)))) B') → PP (fun m z w r => PK (fun v q => RR v q w r) (fc m z)) ((jrc_Cm_fun N (D + 1)).2.2.2.2.2.2.2.2.2.2.1 m (I (n : Nat)) (lsI lst)) B' := fun B' hB => by
        show PP _ (jm_Cm_expression N (jrc_Cm_fun N D) m (I (n : Nat)) (lsI lst)) B'
        have e33 : ∀ D, PP (fun m z w r => PK (fun v q => RR v q w r) (fc m z)) (jb_Cm_compound_33 N (jrc_Cm_fun N D) () m (I (n : Nat))) B' := fun D => by
          unfold jb_Cm_compound_33
          rw [i_nt2 (show n ≤ 100000 by omega), tre fr (by decide) h18]
          exact l_ck (fun _ => hB D)
        rcases klo with ⟨-, z⟩ | ⟨-, z⟩
        · refine exd_18 hn (tre fr (by decide) z) (l_id ?_)
          cases D with
          | zero => exact pp_nl
          | succ D => exact cmd_18 hn (tre fr (by decide) z) (e33 D)
        · refine exd_17 hn (tre fr (by decide) z) (l_id ?_)
          cases D with
          | zero => exact pp_nl
          | succ D => exact cmd_17 hn (tre fr (by decide) z) (e33 D)
      refine comp _ (fun D => ?_)
      have k14 : K lo = 14 ∨ K lo = 34 := by rcases klo with ⟨z, -⟩ | ⟨z, -⟩ <;> omega
      refine w2_sign c hR rfl k14 (fun M u hp3 hX hQ h79 h80 => ?_)
      have q56 : qst Q 83 (Q 83 + 1) 56 = q := by rw [qst_no (by decide)]; exact hq
      have q83 : qst Q 83 (Q 83 + 1) 83 = Q 83 + 1 := qst_at
      refine IU D d M (o + 1) x (lo + 1) hi xa c1 q r b0 m u a cm (qst Q 83 (Q 83 + 1)) sc g false _ _ hx (by omega) hr4 hcl hC hX q56 (by omega) (by omega) (fun M2 M3 m2 w2 rt hz => ?_)
      obtain ⟨b2, cm2, Q2, sc2, ht⟩ := XZ_tr (lst := lst) hz (XTR_rf hC hX q56)
      have hC2 := ht.2.1
      have hR2 := ht.2.2.1.1
      have x83 : Q2 83 = Q 83 + 1 := by have := ht.2.2.2.2.2.2.1.2.2.2.2; rw [q83] at this; exact this
      have w83 : w2.1 83 = I ((Q 83 + 1 : Nat) : Int) := by have := (hR2.2 83 (by decide)).1; rw [x83] at this; exact this
      have kp := ht.2.2.2.2.2.2.1.1.2.1
      have e79 : w2.2.2.1 79 (Q 83) = 7 := by rw [kp 79 (Q 83) (by decide) (by show Q 83 < qst Q 83 (Q 83 + 1) 83; omega)]; exact h79
      have e80 : w2.2.2.1 80 (Q 83) = I (lo : Nat) := by rw [kp 80 (Q 83) (by decide) (by show Q 83 < qst Q 83 (Q 83 + 1) 83; omega)]; exact h80
      have gap : ∀ j, lo ≤ j → j < lo + 1 → K j ≠ 3 := fun j a b => by rw [show j = lo by omega]; omega
      refine l_ck (fun _ => ?_)
      have fin : ∀ t1 : Int32, ((if K lo = 14 then (7 : Int32) else 8) = 7 ∧ t1 = 12) ∨ ((if K lo = 14 then (7 : Int32) else 8) = 8 ∧ t1 = 11) → PP (fun m z w r => PK (fun v q => RR v q w r) (fc m z)) (jb_Cm_compound_72 N (jrc_Cm_fun N D) () m2 t1) (bnd (gg_M_reduce N M3 w2 (I (b0 : Nat)) (I (rkK (K hi) : Nat)) rt 1) (wkG N (krc_M_behind N d) M2 (I (b0 : Nat)) (rkK (K hi)))) := fun t1 ht1 => by
        unfold jb_Cm_compound_72
        refine l_put hC2.1.2.2.1.1 hC2.1.2.2.1.2.2 (fun ha => ?_)
        refine redd_7 (tok := lo) (XRS_wp c hR2).1 (by omega) hp3 w83 hb0 e79 e80 (rk6 k46) k14 (fun M' xx => ?_)
        have ht2 := XTR_I (k := 70) (x := xx) (XTR_83 ht rfl hQ (Nat.le_succ lo) gap) (by decide) (by decide)
        have nn := neg_n (RR := fun m z w r => PK (fun v q => RR v q w r) (fc m z)) (A' := some (ptc m2 b2 t1, ())) (F := fun u r => bnd (gg_M_reduce N M' u (I (b0 : Nat)) (I (rkK (K hi) : Nat)) r 1) (wkG N (krc_M_behind N d) M2 (I (b0 : Nat)) (rkK (K hi)))) (N := N) c ht2 hcl.2 (by omega) ha ht1 (fun v hz2 => pp_lx (hh M2 M' _ v _ hz2))
        exact nn
      rcases klo with ⟨k1, z⟩ | ⟨k1, z⟩
      · rw [tre (XCS_fr hC2) (by decide) z, show decide (I 18 = (18 : Int32)) = true from rfl, br_tq]
        exact fin 12 (Or.inl ⟨by rw [if_pos k1], rfl⟩)
      · rw [tre (XCS_fr hC2) (by decide) z, show decide (I 17 = (18 : Int32)) = false from rfl, br_fq]
        exact fin 11 (Or.inr ⟨by rw [if_neg (by omega)], rfl⟩)
    · have := h.1; omega
    · have := h.1; omega
    · have := h.1; omega
    · have := h.1; omega
  have hx0 := xp_0 hE z15 (fun z => z1718 (Or.inl z)) (fun z => z1718 (Or.inr z))
  have b0 := xp_beg0 hx0
  exact prim b0.1 b0.2.1 (fun d RX fX hX => I0 (D + 1) d o n lo hi xa xb q r m w a cm Q sc g lst RX fX hx0 hxb hr4 hcl.2 hC hR hq htot (fun m2 w2 rt hz => hX N m2 w2 rt hz))
end
end
