/-! rows of patterns, side by side: what holds behind some of them -/
set_option maxRecDepth 100000
/-- behind the patterns l of a row that began at p0 -/
def RWI (N : Nat) (m0 w0 : MS) (K : Nat → Nat) (T : Nat) (nm Nk : Nat → Nat) (own : Bool) (mB wB : MS) (p0 n0 : Nat) (sc : SCT) (m w : MS) (p : Nat) (l : List Nat) : Prop := ∃ (n : Nat) (sc2 : SCT) (X : Nat) (W : Nat → Nat), l ≠ [] ∧ RLP m0 w0 T p m w ∧ (p0 < p ∧ m.1 306 = I (n : Nat) ∧ n + 2 * p0 + 1 ≤ n0 + 2 * p) ∧ KPO n0 mB m ∧ PCF mB m ∧ RNs w sc2 ∧ SCX sc sc2 X ∧ HDs Nk K W p0 p sc sc2 ∧ (tot sc2 ≤ tot sc + (p - p0) ∧ X ≤ 1400) ∧ w.1 66 = lgS sc X (wB.1 66) ∧ WFP wB w ∧ PRW N K nm m n0 n own W l p0 p sc sc2 X ∧ m.2.2.1 21 (l.getLastD 0) = 0 ∧ n0 < l.headD 0
section
variable {m0 w0 m w v u mB wB m2 w2 m3 w3 : MS} {K nm Nk W : Nat → Nat} {T p n N q X n2 p0 n0 p2 ν : Nat} {sc sc1 sc2 sc3 t : SCT} {e : List Nat × List Nat × Nat} {own : Bool} {l : List Nat} {r v3 : Int32}
theorem SCX_len : ∀ {a b : SCT}, SCX a b X → b.length = a.length
  | [], [], h => h.elim
  | [], _ :: _, h => h.elim
  | _ :: _, [], h => h.elim
  | _ :: t, _ :: t2, h => by show t2.length + 1 = t.length + 1; rw [(BDs_len h.2.2).1]
theorem lgS_tr {X Y : Nat} {g : Int32} : ∀ {a b : SCT}, SCX a b X → lgS b Y (lgS a X g) = lgS a (max X Y) g
  | [], [], h => h.elim
  | [], _ :: _, h => h.elim
  | _ :: _, [], h => h.elim
  | e :: t, e2 :: t2, h => by
    show lgX e2 Y (lgX e X g) = lgX e (max X Y) g
    unfold lgX
    rw [h.2.1]
    by_cases a : 0 < Y ∧ 40 < max (max e.2.2 X) Y
    · rw [if_pos a, if_pos ⟨by omega, by omega⟩]
    · rw [if_neg a]
      by_cases b : 0 < X ∧ 40 < max e.2.2 X
      · rw [if_pos b, if_pos ⟨by omega, by omega⟩]
      · rw [if_neg b, if_neg (fun z => by
          by_cases y : 0 < Y
          · exact a ⟨y, by omega⟩
          · exact b ⟨by omega, by omega⟩)]
theorem lgS_sc {g : Int32} : lgS sc X g = lgS sc X g := rfl
/-- the first one -/
theorem RWI_1 (h : PAZ N m0 w0 K T nm Nk p n own sc m w m2 (.inl r) w2 v3) (hw : WFP w2 w3) (h69 : w3.1 69 = w2.1 69) (h66 : w3.1 66 = w2.1 66) (hr : ∀ k, 59 ≤ k → w3.2.2.1 k = w2.2.2.1 k) : ∃ ν p2, r = I (ν : Nat) ∧ RWI N m0 w0 K T nm Nk own m w p n sc m2 w3 p2 [ν] := by
  obtain ⟨p2, n2, ν, sc2, X, W, a1, a2, a3, a4, a5, a6, a7, a8, a9, a10, a11, a12, a13, a14⟩ := h
  refine ⟨ν, p2, a1, n2, sc2, X, W, (fun z => by cases z), ⟨a3.1, Kt_tr a3.2.1 (WFP_k hw), a3.2.2.1, by rw [h69]; exact a3.2.2.2.1, a3.2.2.2.2.1, by rw [hw.1 70 (by decide)]; exact a3.2.2.2.2.2.1, by rw [hw.1 67 (by decide)]; exact a3.2.2.2.2.2.2⟩, a4, a5, a7, RNs_e a8 (hw.1 65 (by decide)) (fun k h1 h2 => hr k h1), a9, a10, a11, by rw [h66]; exact a12, WFP_tr a13 hw, PRW_1 a14 (by omega) ⟨by omega, a2.2⟩ a2.1 a6 a11.1 (SCX_len a9), a6, a2.1⟩
end
