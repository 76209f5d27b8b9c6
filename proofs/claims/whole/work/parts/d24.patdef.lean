/-! patterns: the compiler there, the reader here: what goes together -/
set_option maxRecDepth 100000
/-- a STRING's token: where its signs stand -/
def STV (m0 w0 : MS) (p : Nat) : Prop := ∃ fr s0 b l : Nat, m0.2.2.1 7 p = I (fr : Nat) ∧ w0.2.2.1 7 p = I (s0 : Nat) ∧ s0 ≤ 2001 ∧ A w0 19 s0 = ((b : Nat) : Int) ∧ A w0 19 (s0 + 1) = ((b + l : Nat) : Int) ∧ l ≤ 40 ∧ fr + l ≤ 4000 ∧ (∀ (N : Nat) (m : MS) (k : Nat), FRC m0 m → k < l → ∃ x : Int32, hm_To_signAt N m (I ((fr + k : Nat) : Int)) = some (m, x) ∧ x ≠ 34 ∧ x.toInt = A w0 18 (b + k)) ∧ (l < 40 → ∀ (N : Nat) (m : MS), FRC m0 m → hm_To_signAt N m (I ((fr + l : Nat) : Int)) = some (m, 34))
/-- values of tokens, lines: alike -/
def CTV (m0 w0 : MS) (K : Nat → Nat) (T : Nat) : Prop := ∀ p, p < T → m0.2.2.1 8 p = w0.2.2.1 8 p ∧ (K p = 1 ∨ K p = 2 → m0.2.2.1 7 p = w0.2.2.1 7 p) ∧ (K p = 4 → STV m0 w0 p)
def hdS (sc : SCT) : List Nat × List Nat × Nat := sc.headD ([], [], 0)
/-- names of one's own -/
def Onm (nm : Nat → Nat) (sc : SCT) : List Nat := (hdS sc).1.map nm
/-- the compiler: a words are written, cm the most names so far -/
def PCS (m0 : MS) (nm : Nat → Nat) (m : MS) (a cm : Nat) (sc : SCT) (own : Bool) : Prop := FRC m0 m ∧ CNs m nm sc ∧ (m.1 441 = I (a : Nat) ∧ 1 ≤ a ∧ a ≤ 23990) ∧ decide (m.1 713 = 0) = !own ∧ m.2.2.1 41 (sc.length - 1) = I (cm : Nat) ∧ cm ≤ 4000 ∧ (hdS sc).1.length ≤ cm
/-- the reader: at token p, pi patterns are made -/
def PRd (w0 : MS) (T : Nat) (w : MS) (p pi : Nat) (sc : SCT) : Prop := Ktc w0 w ∧ (w.1 69 = I (p : Nat) ∧ p ≤ T) ∧ w.1 67 = 0 ∧ RNs w sc ∧ HFl w sc ∧ w.1 39 = I (pi : Nat) ∧ pi ≤ 5000
/-- names come -/
def NMX (cm cm2 : Nat) : SCT → SCT → Prop
  | e :: t, e2 :: t2 => e.1 <+: e2.1 ∧ BDs t t2 ∧ cm ≤ cm2
  | _, _ => False
/-- what a pattern leaves as it was: there, here -/
def CFP (m m2 : MS) (a s : Nat) : Prop := (∀ k, k ≠ 441 → k ≠ 706 → m2.1 k = m.1 k) ∧ (∀ k, k ≠ 23 → k ≠ 39 → k ≠ 41 → k ≠ 42 → m2.2.2.1 k = m.2.2.1 k) ∧ (∀ j, j < a → m2.2.2.1 23 j = m.2.2.1 23 j) ∧ ∀ j, j ≠ s → m2.2.2.1 41 j = m.2.2.1 41 j
def RFP (w w2 : MS) (pi : Nat) : Prop := (∀ k, k ≠ 39 → k ≠ 66 → k ≠ 69 → w2.1 k = w.1 k) ∧ (∀ k, k < 33 ∨ (38 < k ∧ k < 59) ∨ 64 < k → w2.2.2.1 k = w.2.2.1 k) ∧ (∀ k q, q < pi → k < 59 → w2.2.2.1 k q = w.2.2.1 k q) ∧ (∀ k q, q < pi ∨ k ≠ 34 → w2.2.2.2 k q = w.2.2.2 k q)
/-- code, rows and terms at the end of all -/
def AGC (C : Nat → Int) (m : MS) (a b : Nat) : Prop := ∀ k, a ≤ k → k < b → C k = A m 23 k
def GRS (R : Nat → Nat → Int) (w0 : MS) : Prop := ∀ k i, k = 8 ∨ k = 18 ∨ k = 19 → R k i = A w0 k i
def AGP (R : Nat → Nat → Int) (J : Nat → Int64) (w : MS) (pi pj pn : Nat) : Prop := ∀ q, pi ≤ q → q < pj → R 33 q = A w 33 q ∧ R 35 q = A w 35 q ∧ R 36 q = A w 36 q ∧ R 38 q = A w 38 q ∧ J q = w.2.2.2 34 q ∧ (q ≠ pn → R 37 q = A w 37 q)
/-- names held, at the end -/
def HPX (nm : Nat → Nat) (sc : SCT) (H : List Nat) : Prop := ((hdS sc).2.1.map nm) <+: H ∧ H.length ≤ 40
/-- what a pattern leaves -/
def PTZ (m0 w0 : MS) (K : Nat → Nat) (T : Nat) (nm Nk : Nat → Nat) (f lo hi : Nat) (own : Bool) (a cm pi : Nat) (sc : SCT) (m w m2 : MS) (_ : Unit) (w2 : MS) (r : Int32) : Prop := ∃ (pn b pj cm2 : Nat) (sc2 : SCT) (W : Nat → Nat), r = I (pn : Nat) ∧ (pi ≤ pn ∧ pn < pj ∧ w2.2.2.1 37 pn = -1) ∧ a < b ∧ PCS m0 nm m2 b cm2 sc2 own ∧ PRd w0 T w2 hi pj sc2 ∧ (NMX cm cm2 sc sc2 ∧ tot sc2 ≤ tot sc + (hi - lo)) ∧ HDw own nm Nk K W lo hi sc sc2 ∧ m2.2.2.1 42 = wup (m.2.2.1 42) K W lo hi ∧ CFP m m2 a (sc.length - 1) ∧ RFP w w2 pi ∧ ∀ C R J H, AGC C m2 a b → GRS R w0 → AGP R J w2 pi pj pn → HPX nm sc2 H → PTs C R J H f a pn (Onm nm sc) b (Onm nm sc2)
section
variable {α β : Type} {m0 w0 m w m1 w1 m2 w2 m3 w3 : MS} {K nm Nk W W2 : Nat → Nat} {T p a b cm cm2 cm3 pi pj N n lo hi s k : Nat} {sc sc2 sc3 : SCT} {own : Bool} {R : MS → α → MS → β → Prop} {A' : Option (MS × α)} {B' : Option (MS × β)}
theorem CFP_rf : CFP m m a s := ⟨fun _ _ _ => rfl, fun _ _ _ _ _ => rfl, fun _ _ => rfl, fun _ _ => rfl⟩
theorem CFP_tr (h : CFP m m2 a s) (k : CFP m2 m3 b s) (hab : a ≤ b) : CFP m m3 a s := ⟨fun j h1 h2 => (k.1 j h1 h2).trans (h.1 j h1 h2), fun j h1 h2 h3 h4 => (k.2.1 j h1 h2 h3 h4).trans (h.2.1 j h1 h2 h3 h4), fun j hj => (k.2.2.1 j (by omega)).trans (h.2.2.1 j hj), fun j hj => (k.2.2.2 j hj).trans (h.2.2.2 j hj)⟩
theorem CFP_put {x : Int32} (h : CFP m m2 a s) (hab : a ≤ b) : CFP m (ptc m2 b x) a s := ⟨fun j h1 h2 => by rw [ptc_i h1]; exact h.1 j h1 h2, fun j h1 h2 h3 h4 => by rw [ptc_r h1]; exact h.2.1 j h1 h2 h3 h4, fun j hj => by rw [ptc_o (by omega)]; exact h.2.2.1 j hj, fun j hj => by rw [ptc_r (by decide)]; exact h.2.2.2 j hj⟩
theorem RFP_rf : RFP w w pi := ⟨fun _ _ _ _ => rfl, fun _ _ => rfl, fun _ _ _ _ => rfl, fun _ _ _ => rfl⟩
theorem RFP_tr (h : RFP w w2 pi) (k : RFP w2 w3 pj) (hab : pi ≤ pj) : RFP w w3 pi := ⟨fun j h1 h2 h3 => (k.1 j h1 h2 h3).trans (h.1 j h1 h2 h3), fun j hj => (k.2.1 j hj).trans (h.2.1 j hj), fun j q hq hj => (k.2.2.1 j q (by omega) hj).trans (h.2.2.1 j q hq hj), fun j q hq => (k.2.2.2 j q (by omega)).trans (h.2.2.2 j q hq)⟩
theorem RFP_I {v : Int32} (h : RFP w w2 pi) (hk : k = 39 ∨ k = 66 ∨ k = 69) : RFP w (upI w2 k v) pi := ⟨fun j h1 h2 h3 => by rw [upI_ne (by omega)]; exact h.1 j h1 h2 h3, h.2⟩
theorem RFP_P {x : Int32} (h : RFP w w2 pi) (hp : pi ≤ pj) : RFP w (nPd w2 pj x) pi := ⟨fun j h1 h2 h3 => by rw [nwP_i h1]; exact h.1 j h1 h2 h3, fun j hj => by rw [nwP_r (by omega)]; exact h.2.1 j hj, fun j q hq hj => by rw [nwP_o (by omega)]; exact h.2.2.1 j q hq hj, fun j q hq => by rw [nwP_j (by omega)]; exact h.2.2.2 j q hq⟩
theorem RFP_A {q : Nat} {v : Int32} (h : RFP w w2 pi) (hk : 35 ≤ k ∧ k ≤ 38) (hq : pi ≤ q) : RFP w (upA w2 k (upd (w2.2.2.1 k) q v)) pi := ⟨fun j h1 h2 h3 => h.1 j h1 h2 h3, fun j hj => by rw [upA_no (by omega)]; exact h.2.1 j hj, fun j r hr hj => by
  by_cases z : j = k
  · rw [z, upA_at, upd_no (by omega)]; exact h.2.2.1 k r hr (by omega)
  · rw [upA_no z]; exact h.2.2.1 j r hr hj, h.2.2.2⟩
theorem RFP_J {q : Nat} {v : Int64} (h : RFP w w2 pi) (hq : pi ≤ q) : RFP w (upJ w2 34 (vp_updL (w2.2.2.2 34) q v)) pi := ⟨fun j h1 h2 h3 => h.1 j h1 h2 h3, h.2.1, h.2.2.1, fun j r hr => by
  show (if j = 34 then vp_updL (w2.2.2.2 34) q v else w2.2.2.2 j) r = _
  by_cases z : j = 34
  · rw [if_pos z]
    have : r ≠ q := by omega
    show (if r = q then v else w2.2.2.2 34 r) = _
    rw [if_neg this, z]
    exact h.2.2.2 34 r (by omega)
  · rw [if_neg z]; exact h.2.2.2 j r hr⟩
/-- what the reader keeps, by its frame -/
theorem PRS_k (h : PRd w0 T w p pi sc) (hi : ∀ k, k ≠ 39 → k ≠ 66 → k ≠ 69 → w2.1 k = w.1 k) (hr : ∀ k, k < 33 ∨ 38 < k → w2.2.2.1 k = w.2.2.1 k) (h69 : w2.1 69 = I (n : Nat)) (hn : n ≤ T) (h39 : w2.1 39 = I (pj : Nat)) (hj : pj ≤ 5000) : PRd w0 T w2 n pj sc := by
  obtain ⟨h1, h2, h3, h4, h5, h6⟩ := h
  refine ⟨⟨fun k hk => ?_, fun k hk => ?_⟩, ⟨h69, hn⟩, by rw [hi 67 (by decide) (by decide) (by decide)]; exact h3, RNs_e h4 (hi 65 (by decide) (by decide) (by decide)) (fun k a b => hr k (by omega)), HFl_fr h4.2.2.2 h5 (fun j _ => by rw [hr 62 (by omega)]), h39, hj⟩
  · rw [hi k (by rintro rfl; revert hk; decide) (by rintro rfl; revert hk; decide) (by rintro rfl; revert hk; decide)]; exact h1.1 k hk
  · have : k < 33 := by unfold TRW at hk; simp only [List.mem_cons, List.not_mem_nil, or_false] at hk; omega
    rw [hr k (by omega)]; exact h1.2 k hk
theorem PRS_w (c : CTZ m0 w0 K T nm Nk) (h : PRd w0 T w p pi sc) : WP w K T p := by
  obtain ⟨h1, h2, h3, h4, h5, h6⟩ := h
  exact ⟨⟨c.2.1.1, by rw [h1.2 6 (by decide)]; exact c.2.1.2.1, by rw [h1.2 7 (by decide)]; exact c.2.1.2.2⟩, h2⟩
/-- a token is opened, closed -/
theorem r_opens {g : MS → Unit → Option (MS × β)} (h : PP R A' (g (upI w 70 (w.1 70 + 1)) ())) : PP R A' (bnd (km_M_opens N w) g) := by
  unfold km_M_opens kb_M_opens_0 kb_M_opens_14
  cases hb : decide (w.1 70 < 25) with
  | true => exact h
  | false => exact pp_nr
/-- the tree -/
theorem tre (fr : FRC m0 m) (hk : k < 22) {v : Int} (h : A m0 k n = v) : m.2.2.1 k n = I v := by
  rw [fr.2 k (by omega), ← h]
  exact I_A
theorem PCS_put {x : Int32} (h : PCS m0 nm m a cm sc own) (ha : a < 23990) : PCS m0 nm (ptc m a x) (a + 1) cm sc own := by
  obtain ⟨h1, h2, ⟨h3, h3b, h3c⟩, h4, h5, h6⟩ := h
  exact ⟨⟨fun k hk => by rw [ptc_i (by omega)]; exact h1.1 k hk, fun k hk => by rw [ptc_r (by omega)]; exact h1.2 k hk⟩, ⟨by rw [ptc_i (by decide)]; exact h2.1, h2.2.1, by rw [ptc_i (by decide)]; exact h2.2.2.1, h2.2.2.2.1, CNl_fr h2.2.2.2.2 (ptc_r (by decide)) (fun j _ => by rw [ptc_r (by decide)])⟩, ⟨ptc_s, by omega, by omega⟩, by rw [ptc_i (by decide)]; exact h4, by rw [ptc_r (by decide)]; exact h5, h6⟩
theorem NMX_rf {e : List Nat × List Nat × Nat} {t : SCT} : NMX cm cm (e :: t) (e :: t) := ⟨List.prefix_rfl, BDs_rf, Nat.le_refl _⟩
theorem CNs_ne (h : CNs m nm sc) : sc ≠ [] := fun z => by have := h.2.1.1; rw [z] at this; exact absurd this (by decide)
theorem NMX_tr (h : NMX cm cm2 sc sc2) (k : NMX cm2 cm3 sc2 sc3) : NMX cm cm3 sc sc3 := by
  cases sc with
  | nil => exact h.elim
  | cons e t =>
    cases sc2 with
    | nil => exact h.elim
    | cons e2 t2 =>
      cases sc3 with
      | nil => exact k.elim
      | cons e3 t3 => exact ⟨h.1.trans k.1, BDs_tr h.2.1 k.2.1, by have := h.2.2; have := k.2.2; omega⟩
theorem NMX_len (h : NMX cm cm2 sc sc2) : sc2.length = sc.length := by
  cases sc with
  | nil => exact h.elim
  | cons e t =>
    cases sc2 with
    | nil => exact h.elim
    | cons e2 t2 => show t2.length + 1 = t.length + 1; rw [(BDs_len h.2.1).1]
end
