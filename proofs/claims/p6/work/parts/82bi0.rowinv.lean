set_option maxRecDepth 100000
def RWI (N : Nat) (m0 w0 : MS) (K : Nat → Nat) (T : Nat) (nm Nk : Nat → Nat) (own : Bool) (mB wB : MS) (p0 n0 : Nat) (sc : SCT) (m w : MS) (p : Nat) (l : List Nat) : Prop := ∃ (n : Nat) (sc2 : SCT) (X : Nat) (W : Nat → Nat), l ≠ [] ∧ RLP m0 w0 T p m w ∧ (p0 < p ∧ m.1 306 = I (n : Nat) ∧ n + 2 * p0 + 1 ≤ n0 + 2 * p) ∧ KPO n0 mB m ∧ PCF mB m ∧ RNs w sc2 ∧ SCO own sc sc2 X ∧ HDs Nk K W p0 p sc sc2 ∧ (tot sc2 ≤ tot sc + (p - p0) ∧ X ≤ 1400) ∧ w.1 66 = lgS sc X (wB.1 66) ∧ WFP wB w ∧ PRW N K nm m n0 n own W l p0 p sc sc2 X ∧ m.2.2.1 21 (l.getLastD 0) = 0 ∧ n0 < l.headD 0
section
variable {m0 w0 m w v u mB wB m2 w2 m3 w3 : MS} {K nm Nk W : Nat → Nat} {T p n N q X n2 p0 n0 p2 ν : Nat} {sc sc1 sc2 sc3 t : SCT} {e : List Nat × List Nat × Nat} {own : Bool} {l : List Nat} {r v3 : Int32}
theorem SCX_len : ∀ {a b : SCT}, SCX a b X → b.length = a.length
  | [], [], h => h.elim
  | [], _ :: _, h => h.elim
  | _ :: _, [], h => h.elim
  | _ :: t, _ :: t2, h => by show t2.length + 1 = t.length + 1; rw [(BDs_len h.2.2).1]
theorem lgS_tr {X Y : Nat} {g : Int32} : ∀ {a b : SCT}, SCX a b X → lgS b Y (lgS a X g) = lgS a (max X Y) g
  | [], [], h => h.elim
  | [], _ :: _, h => h.elim
  | _ :: _, [], h => h.elim
  | e :: t, e2 :: t2, h => by
    show lgX e2 Y (lgX e X g) = lgX e (max X Y) g
    unfold lgX
    rw [h.2.1]
    by_cases a : 0 < Y ∧ 40 < max (max e.2.2 X) Y
    · rw [if_pos a, if_pos ⟨by omega, by omega⟩]
    · rw [if_neg a]
      by_cases b : 0 < X ∧ 40 < max e.2.2 X
      · rw [if_pos b, if_pos ⟨by omega, by omega⟩]
      · rw [if_neg b, if_neg (fun z => by
          by_cases y : 0 < Y
          · exact a ⟨y, by omega⟩
          · exact b ⟨by omega, by omega⟩)]
theorem lgS_sc {g : Int32} : lgS sc X g = lgS sc X g := rfl
theorem RWI_1 (h : PAZ N m0 w0 K T nm Nk p n own sc m w m2 (.inl r) w2 v3) (hw : WFP w2 w3) (h69 : w3.1 69 = w2.1 69) (h66 : w3.1 66 = w2.1 66) (hr : ∀ k, 59 ≤ k → w3.2.2.1 k = w2.2.2.1 k) : ∃ ν p2, r = I (ν : Nat) ∧ RWI N m0 w0 K T nm Nk own m w p n sc m2 w3 p2 [ν] := by
  obtain ⟨p2, n2, ν, sc2, X, W, a1, a2, a3, a4, a5, a6, a7, a8, a9, a10, a11, a12, a13, a14⟩ := h
  refine ⟨ν, p2, a1, n2, sc2, X, W, (fun z => by cases z), ⟨a3.1, Kt_tr a3.2.1 (WFP_k hw), a3.2.2.1, by rw [h69]; exact a3.2.2.2.1, a3.2.2.2.2.1, by rw [hw.1 70 (by decide)]; exact a3.2.2.2.2.2.1, by rw [hw.1 67 (by decide)]; exact a3.2.2.2.2.2.2⟩, a4, a5, a7, RNs_e a8 (hw.1 65 (by decide)) (fun k h1 h2 => hr k h1), a9, a10, a11, by rw [h66]; exact a12, WFP_tr a13 hw, PRW_1 a14 (by omega) ⟨by omega, a2.2⟩ a2.1 a6 a11.1 (SCX_len a9.1), a6, a2.1⟩
end
section
variable {m0 w0 m w v u mB wB m2 w2 m3 w3 : MS} {K nm Nk W : Nat → Nat} {T p n N q X n2 p0 n0 p2 ν : Nat} {sc sc1 sc2 sc3 t : SCT} {e : List Nat × List Nat × Nat} {own : Bool} {l : List Nat} {r v1 : Int32} {fc : MS → Option (MS × (Int32 ⊕ Nat))} {fw : MS → Int32 → Option (MS × Int32)}
theorem getLastD_snoc {l : List Nat} {ν x : Nat} : (l ++ [ν]).getLastD x = ν := by
  rw [List.getLastD_eq_getLast?, List.getLast?_append]
  rfl
theorem headD_snoc {l : List Nat} {ν : Nat} (h : l ≠ []) : (l ++ [ν]).headD 0 = l.headD 0 := by
  cases l with
  | nil => exact absurd rfl h
  | cons a l => rfl
theorem RWI_next (c : CTZ m0 w0 K T nm Nk) (hn0 : n0 ≤ 2 * p0) (h : RWI N m0 w0 K T nm Nk own mB wB p0 n0 sc m w p l) (hk : K p = 26) (hP : PTS N m0 w0 K T nm Nk own v1 fc fw) : PP (fun m2 z w2 _ => match z with
    | .inr _ => FLW w2
    | .inl ε => ∃ ν p2, ε = I (ν : Nat) ∧ ∀ w3, WFP w2 w3 → w3.1 69 = w2.1 69 → w3.1 66 = w2.1 66 → (∀ k, 59 ≤ k → w3.2.2.1 k = w2.2.2.1 k) → RWI N m0 w0 K T nm Nk own mB wB p0 n0 sc (upA m2 21 (upd (m2.2.2.1 21) (l.getLastD 0) (I (ν : Nat)))) w3 p2 (l ++ [ν])) (fc (advc m p)) (fw (adv w p) v1) := by
  obtain ⟨n, sc1, X1, W1, b0, b1, b2, b3, b4, b5, b6, b7, b8, b9, b10, b11, b12, b13⟩ := h
  have hl : p < T := TWK_lt c b1.2.2.2.2.1 (by omega) (by omega)
  obtain ⟨d1, d2, d3⟩ := PRW_hd b11 b0
  have rl : RLP m0 w0 T (p + 1) (advc m p) (adv w p) := ⟨⟨fun k hk => by unfold advc; rw [upI_ne (by omega)]; exact b1.1.1 k hk, b1.1.2⟩, ⟨fun k hk => by unfold adv; rw [upI_ne (fun z => by rw [z] at hk; revert hk; decide)]; exact b1.2.1.1 k hk, b1.2.1.2⟩, upI_at, upI_at, hl, by unfold advc adv; rw [upI_ne (by decide), upI_ne (by decide)]; exact b1.2.2.2.2.2.1, by unfold adv; rw [upI_ne (by decide)]; exact b1.2.2.2.2.2.2⟩
  have rn : RNs (adv w p) sc1 := WFP_rn b5 (by unfold adv; exact upI_ne (by decide)) rfl
  refine pp_mo (hP (advc m p) (adv w p) (p + 1) n sc1 rl (by unfold advc; rw [upI_ne (by decide)]; exact b2.2.1) (by omega) rn) (fun m2 z w2 r q => ?_)
  cases z with
  | inr k => exact q
  | inl ε =>
    obtain ⟨p2, n2, ν, sc2, X, W, a1, a2, a3, a4, a5, a6, a7, a8, a9, a10, a11, a12, a13, a14⟩ := q
    refine ⟨ν, p2, a1, fun w3 hw h69 h66 hr => ?_⟩
    generalize hL : l.getLastD 0 = L at d1 d3 b12
    have r21 : (upA m2 21 (upd (m2.2.2.1 21) L (I (ν : Nat)))).2.2.1 21 = upd (m2.2.2.1 21) L (I (ν : Nat)) := upA_at
    have ro : ∀ k, k ≠ 21 → (upA m2 21 (upd (m2.2.2.1 21) L (I (ν : Nat)))).2.2.1 k = m2.2.2.1 k := fun k hk => upA_no hk
    have ri : ∀ k, (upA m2 21 (upd (m2.2.2.1 21) L (I (ν : Nat)))).1 k = m2.1 k := fun _ => rfl
    generalize hm3 : upA m2 21 (upd (m2.2.2.1 21) L (I (ν : Nat))) = m3 at r21 ro ri
    have nd3 : ∀ j, nod m3 j = nod m2 j := fun j => by
      unfold nod
      rw [ro 16 (by decide), ro 17 (by decide), ro 18 (by decide), ro 19 (by decide), ro 20 (by decide)]
    have ndm : ∀ j, nod (advc m p) j = nod m j := fun j => rfl
    have k2 : Kcc m m3 := by
      refine ⟨fun k hk => ?_, fun k hk => ?_⟩
      · rw [ri, a7.1 k (by simp only [List.mem_cons, List.not_mem_nil, or_false]; omega)]
        unfold advc
        exact upI_ne (by omega)
      · rw [ro k (by omega), a7.2 k (by omega)]; rfl
    have hs : ∀ j, j ≤ n → nod m3 j = nod m j ∧ (j ≠ L → m3.2.2.1 21 j = m.2.2.1 21 j) := fun j hj => ⟨by rw [nd3, (a5 j hj).1]; rfl, fun z => by rw [r21, upd_no z, (a5 j hj).2]; rfl⟩
    have pcf : PCF mB m3 := by
      refine ⟨fun k hk => ?_, fun k hk => ?_⟩
      · rw [ri, a7.1 k hk]
        unfold advc
        rw [upI_ne (fun z => hk (by rw [z]; decide))]
        exact b4.1 k hk
      · rw [ro k (by omega), a7.2 k hk]
        exact b4.2 k hk
    have wfp : WFP wB w3 := by
      refine WFP_tr b10 (WFP_tr ?_ (WFP_tr a13 hw))
      exact ⟨fun k hk => by unfold adv; exact upI_ne (fun z => hk (by rw [z]; decide)), fun _ _ => rfl⟩
    have tl := a3.2.2.2.2.1
    have gp : ∀ j, p ≤ j → j < p + 1 → K j ≠ 3 := fun j h1 h2 => by rw [show j = p by omega]; omega
    have wA : ∀ j, p0 ≤ j → j < p → (fun j => if j < p then W1 j else W j) j = W1 j := fun j _ h2 => if_pos h2
    have wB2 : ∀ j, p + 1 ≤ j → j < p2 → (fun j => if j < p then W1 j else W j) j = W j := fun j h1 _ => if_neg (by omega)
    refine ⟨n2, sc2, max X1 X, fun j => if j < p then W1 j else W j, (fun z => by simp at z), ⟨Kc_tr b1.1 k2, Kt_tr a3.2.1 (WFP_k hw), by rw [ri]; exact a3.2.2.1, by rw [h69]; exact a3.2.2.2.1, tl, by rw [ri, hw.1 70 (by decide)]; exact a3.2.2.2.2.2.1, by rw [hw.1 67 (by decide)]; exact a3.2.2.2.2.2.2⟩, ⟨by omega, by rw [ri]; exact a4.2.1, by omega⟩, fun j hj => ?_, pcf, RNs_e a8 (hw.1 65 (by decide)) (fun k h1 h2 => hr k h1), SCO_tr b6 a9, ?_, ⟨by omega, by omega⟩, ?_, wfp, ?_, ?_, ?_⟩
    · refine ⟨(hs j (by omega)).1.trans (b3 j hj).1, ((hs j (by omega)).2 (by omega)).trans (b3 j hj).2⟩
    · refine HDs_tr (p2 := p) (by omega) (by omega) (HDs_w wA b7) ?_
      exact HDs_ext (q := p + 1) (q2 := p2) (by omega) (Nat.le_refl _) gp (fun j h1 h2 => absurd h2 (by omega)) (HDs_w wB2 a10)
    · rw [h66, a12]
      have e1 : (adv w p).1 66 = w.1 66 := by unfold adv; exact upI_ne (by decide)
      rw [e1, b9, lgS_tr b6.1]
    · rw [← hL] at hs
      refine PRW_snoc (mi := m2) (li := n) (ni := n2) k2 b0 hs (by rw [r21, hL, upd_at]) (PRW_w wA b11) gp ⟨by omega, by omega⟩ (PTN_w wB2 a14) ⟨fun j h0 hj => ⟨nd3 j, fun _ => by rw [r21, upd_no (by omega)]⟩, ⟨fun k _ => ri k, fun k hk => ro k (by omega)⟩⟩ ⟨by omega, a2.2, Nat.le_refl _⟩ ⟨by omega, a2.1⟩ (by rw [r21, upd_no (by omega)]; exact a6) a11.1 (SCX_len a9.1)
    · rw [getLastD_snoc, r21, upd_no (by omega)]; exact a6
    · rw [headD_snoc b0]; exact b13
end
