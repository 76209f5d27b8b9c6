set_option maxRecDepth 100000
theorem q_inj {a b : Nat} (ha : a < 2147483648) (hb : b < 2147483648) (h : Int32.ofNat a = Int32.ofNat b) : a = b := by
  have := congrArg Int32.toNatClampNeg h
  rw [q_nat ha, q_nat hb] at this
  exact this
theorem upd_self {g : Nat → Int32} {i : Nat} {v : Int32} : upd g i v i = v := if_pos rfl
theorem upd_ne {g : Nat → Int32} {i j : Nat} {v : Int32} (h : j ≠ i) : upd g i v j = g j := if_neg h
def tkM (w : MS) (i : Nat) (s v : Int32) : MS := upI (upA (upA (upA w 6 (upd (w.2.2.1 6) i s)) 7 (upd (w.2.2.1 7) i v)) 8 (upd (w.2.2.1 8) i (w.1 11))) 9 (Int32.ofNat (i + 1))
def A678 (i : Nat) : Prop := i = 6 ∨ i = 7 ∨ i = 8
def I9 (i : Nat) : Prop := i = 9
section TKN
variable {N i : Nat} {w : MS} {s v : Int32}
theorem tok_ok (h9 : w.1 9 = Int32.ofNat i) (hi : i < 4002) : fm_M_token N w s v = some (tkM w i (vp_nar .byte (s.toInt8.toInt32)) v, ()) := by
  unfold fm_M_token fb_M_token_0
  have e : inb (w.1 9) 4002 = true := by rw [h9]; exact q_inb hi (by decide)
  refine Eq.trans (q_ck e) ?_
  rw [q_ls]
  refine Eq.trans (q_ck e) ?_
  rw [q_ls]
  refine Eq.trans (q_ck e) ?_
  rw [q_ls, q_ls]
  have e1 : (w.1 9).toNatClampNeg = i := by rw [h9]; exact q_nat (by omega)
  show some (upI (upA (upA (upA w 6 (upd (w.2.2.1 6) (w.1 9).toNatClampNeg _)) 7 (upd (w.2.2.1 7) (w.1 9).toNatClampNeg v)) 8 (upd (w.2.2.1 8) (w.1 9).toNatClampNeg (w.1 11))) 9 (w.1 9 + 1), ()) = _
  rw [e1, h9, q_suc]
  rfl
theorem tk_fr : FrM I9 A678 w (tkM w i s v) := (((FrM.iA (Or.inl rfl)).tr (FrM.iA (Or.inr (Or.inl rfl)))).tr (FrM.iA (Or.inr (Or.inr rfl)))).tr (FrM.iI rfl)
theorem tk_6 : (tkM w i s v).2.2.1 6 = upd (w.2.2.1 6) i s := rfl
theorem tk_7 : (tkM w i s v).2.2.1 7 = upd (w.2.2.1 7) i v := rfl
theorem tk_8 : (tkM w i s v).2.2.1 8 = upd (w.2.2.1 8) i (w.1 11) := rfl
theorem tk_9 : (tkM w i s v).1 9 = Int32.ofNat (i + 1) := rfl
end TKN
def sgK (m : Nat) : Int32 := Int32.ofNat (20 + m)
def sgV (m : Nat) : Int32 := if m < 18 then r22 (2 * m + 1) else r21 (3 * (m - 18) + 2)
def KV (g : Nat → Int32) (k : Nat) (w18 : Nat → Int32) (q : Option Nat) (na nn ns : Nat) (fs : Nat → Nat) (c a s v : Int32) : Prop :=
  (c = 1 ∧ s = 4 ∧ v = a) ∨ (c = 2 ∧ s = 1 ∧ ∃ r, r < na ∧ v = Int32.ofNat r ∧ a = Int32.ofNat r) ∨ (c = 3 ∧ s = 2 ∧ ∃ r, r < nn ∧ v = Int32.ofNat r ∧ a = Int32.ofNat (nmQ q r)) ∨
  (c = 4 ∧ s = 5 ∧ ∃ r t len, r < ns ∧ v = Int32.ofNat r ∧ a = Int32.ofNat t ∧ len ≤ 40 ∧ fs (r + 1) = fs r + len ∧ t + len < k ∧ sts g k 41 t 0 = some len ∧ ∀ j, j < len → w18 (fs r + j) = g (t + j)) ∨
  (s = 3 ∧ ∃ r, r < 15 ∧ c = Int32.ofNat (5 + r) ∧ v = Int32.ofNat r) ∨ (s = 6 ∧ ∃ m, m < 25 ∧ c = sgK m ∧ v = sgV m)
theorem KV_mono {g w18 w18' : Nat → Int32} {k na nn ns na' nn' ns' : Nat} {q q' : Option Nat} {fs fs' : Nat → Nat} {c a s v : Int32} (h : KV g k w18 q na nn ns fs c a s v) (h1 : na ≤ na') (h2 : nn ≤ nn') (h3 : ns ≤ ns') (hq : ∀ r, r < nn → nmQ q' r = nmQ q r) (hf : ∀ r, r ≤ ns → fs' r = fs r) (hm : ∀ r, r < ns → fs (r + 1) ≤ fs ns) (hw : ∀ j, j < fs ns → w18' j = w18 j) : KV g k w18' q' na' nn' ns' fs' c a s v := by
  rcases h with h | ⟨a1, a2, r, a3, a4, a5⟩ | ⟨a1, a2, r, a3, a4, a5⟩ | ⟨a1, a2, r, t, len, a3, a4, a5, a6, a7, a8, a9, a10⟩ | h | h
  · exact Or.inl h
  · exact Or.inr (Or.inl ⟨a1, a2, r, by omega, a4, a5⟩)
  · exact Or.inr (Or.inr (Or.inl ⟨a1, a2, r, by omega, a4, by rw [hq r a3]; exact a5⟩))
  · refine Or.inr (Or.inr (Or.inr (Or.inl ⟨a1, a2, r, t, len, by omega, a4, a5, a6, ?_, a8, a9, fun j hj => ?_⟩)))
    · rw [hf (r + 1) (by omega), hf r (by omega)]; exact a7
    · have := hm r a3
      rw [hf r (by omega), hw (fs r + j) (by omega)]; exact a10 j hj
  · exact Or.inr (Or.inr (Or.inr (Or.inr (Or.inl h))))
  · exact Or.inr (Or.inr (Or.inr (Or.inr (Or.inr h))))
def CON (u : CS) (w : MS) : Prop := FI u 9 2 = Int32.ofNat 15 ∧ (∀ j, j < 62 → AI u 10 j = sgW j) ∧ (∀ j, j ≤ 15 → AI u 11 j = Int32.ofNat (frW j)) ∧ w.2.2.1 0 = mS0.2.2.1 0 ∧ w.2.2.1 21 = mS0.2.2.1 21 ∧ w.2.2.1 22 = mS0.2.2.1 22 ∧ w.2.2.1 1 = mS0.2.2.1 1 ∧ w.2.2.1 2 = mS0.2.2.1 2
def fa0 (j : Nat) : Nat := [0, 4, 9, 11, 15, 21, 25, 31, 36, 40, 44, 52, 58, 66, 74, 89, 100, 109, 115, 123, 130, 134, 139].getD j 139
def sa0 (j : Nat) : Int32 := ((bytSt.getD 0 []).filter (fun x => x != 32)).getD j 0
abbrev TN := (Nat) × (Nat) × (Nat) × (Nat) × (Nat) × (Nat → Nat) × (Nat) × (Nat → Nat) × (Nat → Nat) × (Option Nat) × (Nat) × (Nat → Nat)
abbrev TN.k (n : TN) : Nat := n.1
abbrev TN.i (n : TN) : Nat := n.2.1
abbrev TN.p (n : TN) : Nat := n.2.2.1
abbrev TN.l (n : TN) : Nat := n.2.2.2.1
abbrev TN.na (n : TN) : Nat := n.2.2.2.2.1
abbrev TN.fa (n : TN) : Nat → Nat := n.2.2.2.2.2.1
abbrev TN.nn (n : TN) : Nat := n.2.2.2.2.2.2.1
abbrev TN.fc (n : TN) : Nat → Nat := n.2.2.2.2.2.2.2.1
abbrev TN.fr (n : TN) : Nat → Nat := n.2.2.2.2.2.2.2.2.1
abbrev TN.q (n : TN) : Option Nat := n.2.2.2.2.2.2.2.2.2.1
abbrev TN.ns (n : TN) : Nat := n.2.2.2.2.2.2.2.2.2.2.1
abbrev TN.fs (n : TN) : Nat → Nat := n.2.2.2.2.2.2.2.2.2.2.2
def TB (u : CS) (w : MS) (n : TN) : Prop := (skB u = true) ∧ (n.k ≤ 4000) ∧ (FI u 4 1 = Int32.ofNat n.k) ∧ (w.1 5 = Int32.ofNat n.k) ∧ (∀ j, j < n.k → AI u 5 j = w.2.2.1 4 j) ∧ (bytB (AI u 5)) ∧ (bytB (w.2.2.1 4)) ∧ (CON u w) ∧ (n.i ≤ n.k) ∧ (FI u 4 5 = Int32.ofNat n.i) ∧ (AT u w n.fa n.na) ∧ (NMz u w n.fc n.fr n.q n.nn) ∧ (22 ≤ n.na) ∧ (w.1 20 = Int32.ofNat n.ns) ∧ (∀ j, j ≤ n.ns → w.2.2.1 19 j = Int32.ofNat (n.fs j)) ∧ (∀ r, r < n.ns → n.fs (r + 1) ≤ n.fs n.ns) ∧ (∀ j, j ≤ 22 → n.fa j = fa0 j) ∧ (∀ j, j < 139 → AI u 2 j = sa0 j) ∧ (n.fr 0 = 0) ∧ (n.fs 0 = 0) ∧ (∀ j, j < n.i → KV (AI u 5) n.k (w.2.2.1 18) n.q n.na n.nn n.ns n.fs (AI u 6 j) (AI u 7 j) (w.2.2.1 6 j) (w.2.2.1 7 j) ∧ AI u 8 j = w.2.2.1 8 j)
theorem TB.sk {u : CS} {w : MS} {n : TN} (h : TB u w n) : skB u = true := h.1
theorem TB.k4 {u : CS} {w : MS} {n : TN} (h : TB u w n) : n.k ≤ 4000 := h.2.1
theorem TB.cu {u : CS} {w : MS} {n : TN} (h : TB u w n) : FI u 4 1 = Int32.ofNat n.k := h.2.2.1
theorem TB.cw {u : CS} {w : MS} {n : TN} (h : TB u w n) : w.1 5 = Int32.ofNat n.k := h.2.2.2.1
theorem TB.ta {u : CS} {w : MS} {n : TN} (h : TB u w n) : ∀ j, j < n.k → AI u 5 j = w.2.2.1 4 j := h.2.2.2.2.1
theorem TB.bu {u : CS} {w : MS} {n : TN} (h : TB u w n) : bytB (AI u 5) := h.2.2.2.2.2.1
theorem TB.bw {u : CS} {w : MS} {n : TN} (h : TB u w n) : bytB (w.2.2.1 4) := h.2.2.2.2.2.2.1
theorem TB.co {u : CS} {w : MS} {n : TN} (h : TB u w n) : CON u w := h.2.2.2.2.2.2.2.1
theorem TB.ik {u : CS} {w : MS} {n : TN} (h : TB u w n) : n.i ≤ n.k := h.2.2.2.2.2.2.2.2.1
theorem TB.iu {u : CS} {w : MS} {n : TN} (h : TB u w n) : FI u 4 5 = Int32.ofNat n.i := h.2.2.2.2.2.2.2.2.2.1
theorem TB.atm {u : CS} {w : MS} {n : TN} (h : TB u w n) : AT u w n.fa n.na := h.2.2.2.2.2.2.2.2.2.2.1
theorem TB.nmm {u : CS} {w : MS} {n : TN} (h : TB u w n) : NMz u w n.fc n.fr n.q n.nn := h.2.2.2.2.2.2.2.2.2.2.2.1
theorem TB.a22 {u : CS} {w : MS} {n : TN} (h : TB u w n) : 22 ≤ n.na := h.2.2.2.2.2.2.2.2.2.2.2.2.1
theorem TB.sw {u : CS} {w : MS} {n : TN} (h : TB u w n) : w.1 20 = Int32.ofNat n.ns := h.2.2.2.2.2.2.2.2.2.2.2.2.2.1
theorem TB.sf {u : CS} {w : MS} {n : TN} (h : TB u w n) : ∀ j, j ≤ n.ns → w.2.2.1 19 j = Int32.ofNat (n.fs j) := h.2.2.2.2.2.2.2.2.2.2.2.2.2.2.1
theorem TB.sm {u : CS} {w : MS} {n : TN} (h : TB u w n) : ∀ r, r < n.ns → n.fs (r + 1) ≤ n.fs n.ns := h.2.2.2.2.2.2.2.2.2.2.2.2.2.2.2.1
theorem TB.f22 {u : CS} {w : MS} {n : TN} (h : TB u w n) : ∀ j, j ≤ 22 → n.fa j = fa0 j := h.2.2.2.2.2.2.2.2.2.2.2.2.2.2.2.2.1
theorem TB.s22 {u : CS} {w : MS} {n : TN} (h : TB u w n) : ∀ j, j < 139 → AI u 2 j = sa0 j := h.2.2.2.2.2.2.2.2.2.2.2.2.2.2.2.2.2.1
theorem TB.r00 {u : CS} {w : MS} {n : TN} (h : TB u w n) : n.fr 0 = 0 := h.2.2.2.2.2.2.2.2.2.2.2.2.2.2.2.2.2.2.1
theorem TB.z00 {u : CS} {w : MS} {n : TN} (h : TB u w n) : n.fs 0 = 0 := h.2.2.2.2.2.2.2.2.2.2.2.2.2.2.2.2.2.2.2.1
theorem TB.tk {u : CS} {w : MS} {n : TN} (h : TB u w n) : ∀ j, j < n.i → KV (AI u 5) n.k (w.2.2.1 18) n.q n.na n.nn n.ns n.fs (AI u 6 j) (AI u 7 j) (w.2.2.1 6 j) (w.2.2.1 7 j) ∧ AI u 8 j = w.2.2.1 8 j := h.2.2.2.2.2.2.2.2.2.2.2.2.2.2.2.2.2.2.2.2
theorem TB.mk1 {u : CS} {w : MS} {n : TN} (sk : skB u = true) (k4 : n.k ≤ 4000) (cu : FI u 4 1 = Int32.ofNat n.k) (cw : w.1 5 = Int32.ofNat n.k) (ta : ∀ j, j < n.k → AI u 5 j = w.2.2.1 4 j) (bu : bytB (AI u 5)) (bw : bytB (w.2.2.1 4)) (co : CON u w) (ik : n.i ≤ n.k) (iu : FI u 4 5 = Int32.ofNat n.i) (atm : AT u w n.fa n.na) (nmm : NMz u w n.fc n.fr n.q n.nn) (a22 : 22 ≤ n.na) (sw : w.1 20 = Int32.ofNat n.ns) (sf : ∀ j, j ≤ n.ns → w.2.2.1 19 j = Int32.ofNat (n.fs j)) (sm : ∀ r, r < n.ns → n.fs (r + 1) ≤ n.fs n.ns) (f22 : ∀ j, j ≤ 22 → n.fa j = fa0 j) (s22 : ∀ j, j < 139 → AI u 2 j = sa0 j) (r00 : n.fr 0 = 0) (z00 : n.fs 0 = 0) (tk : ∀ j, j < n.i → KV (AI u 5) n.k (w.2.2.1 18) n.q n.na n.nn n.ns n.fs (AI u 6 j) (AI u 7 j) (w.2.2.1 6 j) (w.2.2.1 7 j) ∧ AI u 8 j = w.2.2.1 8 j) : TB u w n := ⟨sk, k4, cu, cw, ta, bu, bw, co, ik, iu, atm, nmm, a22, sw, sf, sm, f22, s22, r00, z00, tk⟩
def TK (u : CS) (w : MS) (n : TN) : Prop := (TB u w n) ∧ (n.p ≤ n.k) ∧ (FI u 4 9 = Int32.ofNat n.p) ∧ (w.1 10 = Int32.ofNat n.p) ∧ (n.l ≤ n.p + 1) ∧ (FI u 4 10 = Int32.ofNat n.l) ∧ (w.1 11 = Int32.ofNat n.l) ∧ (n.i ≤ n.p) ∧ (w.1 9 = Int32.ofNat n.i) ∧ (2 * (n.na - 22 + n.nn) ≤ n.p + 1) ∧ (2 * (n.na - 22 + n.nn) = n.p + 1 → n.p = n.k ∨ isW (AI u 5 n.p) = false) ∧ (n.fa n.na ≤ 139 + n.p) ∧ (n.fc (ncQ n.q n.nn) ≤ 1 + n.p) ∧ (n.fr n.nn ≤ n.p) ∧ (2 * n.ns ≤ n.p) ∧ (n.fs n.ns ≤ n.p)
theorem TK.toTB {u : CS} {w : MS} {n : TN} (h : TK u w n) : TB u w n := h.1
theorem TK.sk {u : CS} {w : MS} {n : TN} (h : TK u w n) : skB u = true := (TK.toTB h).sk
theorem TK.k4 {u : CS} {w : MS} {n : TN} (h : TK u w n) : n.k ≤ 4000 := (TK.toTB h).k4
theorem TK.cu {u : CS} {w : MS} {n : TN} (h : TK u w n) : FI u 4 1 = Int32.ofNat n.k := (TK.toTB h).cu
theorem TK.cw {u : CS} {w : MS} {n : TN} (h : TK u w n) : w.1 5 = Int32.ofNat n.k := (TK.toTB h).cw
theorem TK.ta {u : CS} {w : MS} {n : TN} (h : TK u w n) : ∀ j, j < n.k → AI u 5 j = w.2.2.1 4 j := (TK.toTB h).ta
theorem TK.bu {u : CS} {w : MS} {n : TN} (h : TK u w n) : bytB (AI u 5) := (TK.toTB h).bu
theorem TK.bw {u : CS} {w : MS} {n : TN} (h : TK u w n) : bytB (w.2.2.1 4) := (TK.toTB h).bw
theorem TK.co {u : CS} {w : MS} {n : TN} (h : TK u w n) : CON u w := (TK.toTB h).co
theorem TK.ik {u : CS} {w : MS} {n : TN} (h : TK u w n) : n.i ≤ n.k := (TK.toTB h).ik
theorem TK.iu {u : CS} {w : MS} {n : TN} (h : TK u w n) : FI u 4 5 = Int32.ofNat n.i := (TK.toTB h).iu
theorem TK.atm {u : CS} {w : MS} {n : TN} (h : TK u w n) : AT u w n.fa n.na := (TK.toTB h).atm
theorem TK.nmm {u : CS} {w : MS} {n : TN} (h : TK u w n) : NMz u w n.fc n.fr n.q n.nn := (TK.toTB h).nmm
theorem TK.a22 {u : CS} {w : MS} {n : TN} (h : TK u w n) : 22 ≤ n.na := (TK.toTB h).a22
theorem TK.sw {u : CS} {w : MS} {n : TN} (h : TK u w n) : w.1 20 = Int32.ofNat n.ns := (TK.toTB h).sw
theorem TK.sf {u : CS} {w : MS} {n : TN} (h : TK u w n) : ∀ j, j ≤ n.ns → w.2.2.1 19 j = Int32.ofNat (n.fs j) := (TK.toTB h).sf
theorem TK.sm {u : CS} {w : MS} {n : TN} (h : TK u w n) : ∀ r, r < n.ns → n.fs (r + 1) ≤ n.fs n.ns := (TK.toTB h).sm
theorem TK.f22 {u : CS} {w : MS} {n : TN} (h : TK u w n) : ∀ j, j ≤ 22 → n.fa j = fa0 j := (TK.toTB h).f22
theorem TK.s22 {u : CS} {w : MS} {n : TN} (h : TK u w n) : ∀ j, j < 139 → AI u 2 j = sa0 j := (TK.toTB h).s22
theorem TK.r00 {u : CS} {w : MS} {n : TN} (h : TK u w n) : n.fr 0 = 0 := (TK.toTB h).r00
theorem TK.z00 {u : CS} {w : MS} {n : TN} (h : TK u w n) : n.fs 0 = 0 := (TK.toTB h).z00
theorem TK.tk {u : CS} {w : MS} {n : TN} (h : TK u w n) : ∀ j, j < n.i → KV (AI u 5) n.k (w.2.2.1 18) n.q n.na n.nn n.ns n.fs (AI u 6 j) (AI u 7 j) (w.2.2.1 6 j) (w.2.2.1 7 j) ∧ AI u 8 j = w.2.2.1 8 j := (TK.toTB h).tk
theorem TK.pk {u : CS} {w : MS} {n : TN} (h : TK u w n) : n.p ≤ n.k := h.2.1
theorem TK.pu {u : CS} {w : MS} {n : TN} (h : TK u w n) : FI u 4 9 = Int32.ofNat n.p := h.2.2.1
theorem TK.pw {u : CS} {w : MS} {n : TN} (h : TK u w n) : w.1 10 = Int32.ofNat n.p := h.2.2.2.1
theorem TK.lk {u : CS} {w : MS} {n : TN} (h : TK u w n) : n.l ≤ n.p + 1 := h.2.2.2.2.1
theorem TK.lu {u : CS} {w : MS} {n : TN} (h : TK u w n) : FI u 4 10 = Int32.ofNat n.l := h.2.2.2.2.2.1
theorem TK.lw {u : CS} {w : MS} {n : TN} (h : TK u w n) : w.1 11 = Int32.ofNat n.l := h.2.2.2.2.2.2.1
theorem TK.ip {u : CS} {w : MS} {n : TN} (h : TK u w n) : n.i ≤ n.p := h.2.2.2.2.2.2.2.1
theorem TK.iw {u : CS} {w : MS} {n : TN} (h : TK u w n) : w.1 9 = Int32.ofNat n.i := h.2.2.2.2.2.2.2.2.1
theorem TK.b1 {u : CS} {w : MS} {n : TN} (h : TK u w n) : 2 * (n.na - 22 + n.nn) ≤ n.p + 1 := h.2.2.2.2.2.2.2.2.2.1
theorem TK.b2 {u : CS} {w : MS} {n : TN} (h : TK u w n) : 2 * (n.na - 22 + n.nn) = n.p + 1 → n.p = n.k ∨ isW (AI u 5 n.p) = false := h.2.2.2.2.2.2.2.2.2.2.1
theorem TK.b3 {u : CS} {w : MS} {n : TN} (h : TK u w n) : n.fa n.na ≤ 139 + n.p := h.2.2.2.2.2.2.2.2.2.2.2.1
theorem TK.b4 {u : CS} {w : MS} {n : TN} (h : TK u w n) : n.fc (ncQ n.q n.nn) ≤ 1 + n.p := h.2.2.2.2.2.2.2.2.2.2.2.2.1
theorem TK.b5 {u : CS} {w : MS} {n : TN} (h : TK u w n) : n.fr n.nn ≤ n.p := h.2.2.2.2.2.2.2.2.2.2.2.2.2.1
theorem TK.s2 {u : CS} {w : MS} {n : TN} (h : TK u w n) : 2 * n.ns ≤ n.p := h.2.2.2.2.2.2.2.2.2.2.2.2.2.2.1
theorem TK.s3 {u : CS} {w : MS} {n : TN} (h : TK u w n) : n.fs n.ns ≤ n.p := h.2.2.2.2.2.2.2.2.2.2.2.2.2.2.2
theorem TK.mk1 {u : CS} {w : MS} {n : TN} (sk : skB u = true) (k4 : n.k ≤ 4000) (cu : FI u 4 1 = Int32.ofNat n.k) (cw : w.1 5 = Int32.ofNat n.k) (ta : ∀ j, j < n.k → AI u 5 j = w.2.2.1 4 j) (bu : bytB (AI u 5)) (bw : bytB (w.2.2.1 4)) (co : CON u w) (ik : n.i ≤ n.k) (iu : FI u 4 5 = Int32.ofNat n.i) (atm : AT u w n.fa n.na) (nmm : NMz u w n.fc n.fr n.q n.nn) (a22 : 22 ≤ n.na) (sw : w.1 20 = Int32.ofNat n.ns) (sf : ∀ j, j ≤ n.ns → w.2.2.1 19 j = Int32.ofNat (n.fs j)) (sm : ∀ r, r < n.ns → n.fs (r + 1) ≤ n.fs n.ns) (f22 : ∀ j, j ≤ 22 → n.fa j = fa0 j) (s22 : ∀ j, j < 139 → AI u 2 j = sa0 j) (r00 : n.fr 0 = 0) (z00 : n.fs 0 = 0) (tk : ∀ j, j < n.i → KV (AI u 5) n.k (w.2.2.1 18) n.q n.na n.nn n.ns n.fs (AI u 6 j) (AI u 7 j) (w.2.2.1 6 j) (w.2.2.1 7 j) ∧ AI u 8 j = w.2.2.1 8 j) (pk : n.p ≤ n.k) (pu : FI u 4 9 = Int32.ofNat n.p) (pw : w.1 10 = Int32.ofNat n.p) (lk : n.l ≤ n.p + 1) (lu : FI u 4 10 = Int32.ofNat n.l) (lw : w.1 11 = Int32.ofNat n.l) (ip : n.i ≤ n.p) (iw : w.1 9 = Int32.ofNat n.i) (b1 : 2 * (n.na - 22 + n.nn) ≤ n.p + 1) (b2 : 2 * (n.na - 22 + n.nn) = n.p + 1 → n.p = n.k ∨ isW (AI u 5 n.p) = false) (b3 : n.fa n.na ≤ 139 + n.p) (b4 : n.fc (ncQ n.q n.nn) ≤ 1 + n.p) (b5 : n.fr n.nn ≤ n.p) (s2 : 2 * n.ns ≤ n.p) (s3 : n.fs n.ns ≤ n.p) : TK u w n := ⟨⟨sk, k4, cu, cw, ta, bu, bw, co, ik, iu, atm, nmm, a22, sw, sf, sm, f22, s22, r00, z00, tk⟩, pk, pu, pw, lk, lu, lw, ip, iw, b1, b2, b3, b4, b5, s2, s3⟩
theorem TK.mk2 {u : CS} {w : MS} {n : TN} (toTB : TB u w n) (pk : n.p ≤ n.k) (pu : FI u 4 9 = Int32.ofNat n.p) (pw : w.1 10 = Int32.ofNat n.p) (lk : n.l ≤ n.p + 1) (lu : FI u 4 10 = Int32.ofNat n.l) (lw : w.1 11 = Int32.ofNat n.l) (ip : n.i ≤ n.p) (iw : w.1 9 = Int32.ofNat n.i) (b1 : 2 * (n.na - 22 + n.nn) ≤ n.p + 1) (b2 : 2 * (n.na - 22 + n.nn) = n.p + 1 → n.p = n.k ∨ isW (AI u 5 n.p) = false) (b3 : n.fa n.na ≤ 139 + n.p) (b4 : n.fc (ncQ n.q n.nn) ≤ 1 + n.p) (b5 : n.fr n.nn ≤ n.p) (s2 : 2 * n.ns ≤ n.p) (s3 : n.fs n.ns ≤ n.p) : TK u w n := ⟨toTB, pk, pu, pw, lk, lu, lw, ip, iw, b1, b2, b3, b4, b5, s2, s3⟩
def finC (u : CS) (i : Nat) (c : Int32) : CS := uF (uA u 6 (upd (AI u 6) i c)) 4 5 (.inl (Int32.ofNat (i + 1)))
theorem AT_fr {u u2 : CS} {w w2 : MS} {fa : Nat → Nat} {na : Nat} (h : AT u w fa na) (h1 : FI u2 1 2 = FI u 1 2) (h2 : AI u2 3 = AI u 3) (h3 : AI u2 2 = AI u 2) (h4 : w2.1 14 = w.1 14) (h5 : w2.2.2.1 12 = w.2.2.1 12) (h6 : w2.2.2.1 13 = w.2.2.1 13) : AT u2 w2 fa na := by
  obtain ⟨⟨a1, a2, a3⟩, ⟨b1, b2, b3, b4, b5⟩, c1, c2⟩ := h
  refine ⟨⟨by rw [h1]; exact a1, fun j hj => ?_, a3⟩, ⟨b1, b2, b3, fun j hj => ?_, b5⟩, by rw [h4]; exact c1, fun j hj => ?_⟩
  · show AI u2 3 j = _; rw [h2]; exact a2 j hj
  · rw [h6]; exact b4 j hj
  · rw [h3, h5]; exact c2 j hj
theorem NM_fr {u u2 : CS} {w w2 : MS} {fc fr : Nat → Nat} {q : Option Nat} {nn : Nat} (h : NMz u w fc fr q nn) (h1 : FI u2 12 2 = FI u 12 2) (h2 : AI u2 14 = AI u 14) (h3 : AI u2 13 = AI u 13) (h4 : w2.1 17 = w.1 17) (h5 : w2.2.2.1 15 = w.2.2.1 15) (h6 : w2.2.2.1 16 = w.2.2.1 16) : NMz u2 w2 fc fr q nn := by
  obtain ⟨⟨a1, a2, a3⟩, ⟨b1, b2, b3, b4, b5⟩, c1, c2, c3⟩ := h
  refine ⟨⟨by rw [h1]; exact a1, fun j hj => ?_, a3⟩, ⟨b1, b2, b3, fun j hj => ?_, b5⟩, by rw [h4]; exact c1, by rw [h3, h5]; exact c2, c3⟩
  · show AI u2 14 j = _; rw [h2]; exact a2 j hj
  · rw [h6]; exact b4 j hj
