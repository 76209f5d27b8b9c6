set_option maxRecDepth 100000
def SGS (m w : MS) (K : Nat → Nat) (T c0 b0 tt : Nat) (am om : Int32) (e0 : Nat) : Nat → List (Nat × Nat) → Prop
  | _, [] => True
  | cur, (q, b) :: σ => (m.2.2.1 34 (c0 + σ.length) = I (q : Nat) ∧ w.2.2.1 79 (b0 + σ.length) = I (rkK (K q) : Nat) ∧ w.2.2.1 80 (b0 + σ.length) = I (q : Nat) ∧ 1 ≤ rkK (K q) ∧ q < T) ∧ (rkK (K q) ≤ 2 → (e0 ≤ b ∧ b ≤ cur) ∧ w.2.2.1 82 (b0 + σ.length) = I (b : Nat) ∧ (∃ h a : Nat, w.2.2.1 81 (b0 + σ.length) = I (h : Nat) ∧ w.1 32 = I (a : Nat) ∧ a ≤ 100000 ∧ h < a ∧ w.2.2.1 23 h ≠ 12 ∧ w.2.2.1 23 h ≠ 15) ∧ (rkK (K q) = 2 → am = I ((tt + b : Nat) : Int)) ∧ (rkK (K q) = 1 → om = I ((tt + b : Nat) : Int))) ∧ (∀ x, σ.head? = some x → rkK (K x.1) ≤ rkK (K q) ∧ (rkK (K x.1) = rkK (K q) → rkK (K q) = 4)) ∧ SGS m w K T c0 b0 tt am om e0 (if rkK (K q) ≤ 2 then b else cur) σ
def pd4 (K : Nat → Nat) (σ : List (Nat × Nat)) : Bool := σ.any (fun x => decide (rkK (K x.1) = 4))
def SLI (N : Nat) (m0 w0 : MS) (K : Nat → Nat) (T : Nat) (nm Nk : Nat → Nat) (gd : Bool) (mB wB : MS) (p n0 : Nat) (e : List Nat × List Nat × Nat) (t : SCT) (c0 b0 s : Nat) (m w : MS) (q n : Nat) (e2 : List Nat × List Nat × Nat) (t2 : SCT) (am om : Int32) (l : List Nat) (σ : List (Nat × Nat)) : Prop := ∃ (X : Nat) (W : Nat → Nat) (Rf Rs Zf : Bool) (CL : Int32 × Int32 × Int32 → Prop) (q0 : Nat), STQ m0 w0 K T Nk gd mB wB p n0 (e :: t) (s + σ.length) (upI m 664 (mB.1 664)) (upI w 83 (wB.1 83)) q n (e2 :: t2) X W Rf Zf CL ∧ SGE N K nm gd m n0 n W l 0 0 p q0 (e :: t) (e2 :: t2) X Rs Zf (BCo N CL) am om ∧ Rf = (Rs || (gd && pd4 K σ)) ∧ (l ≠ [] ∧ m.2.2.1 21 (l.getLastD 0) = 0) ∧ (mB.1 664 = I (c0 : Nat) ∧ wB.1 83 = I (b0 : Nat) ∧ b0 + σ.length ≤ 3000 ∧ m.1 664 = I ((c0 + σ.length : Nat) : Int) ∧ w.1 83 = I ((b0 + σ.length : Nat) : Int) ∧ c0 + σ.length ≤ 4002 ∧ q0 ≤ q ∧ ∀ j, q0 ≤ j → j < q → K j ≠ 3) ∧ SGS m w K T c0 b0 (tot t2) am om e.1.length e2.1.length σ
section
variable {m0 w0 m w v u mB wB m2 w2 m3 w3 mi w' : MS} {K nm Nk W W2 : Nat → Nat} {T p n N q X Y n2 p0 n0 n3 p2 ν μ κ o s L d D k q1 q2 lo li ni t0 b c0 b0 tt e0 cur : Nat} {sc sc1 sc2 sc3 t t2 : SCT} {e e2 : List Nat × List Nat × Nat} {gd Rf Zf Rg Zg : Bool} {l : List Nat} {σ : List (Nat × Nat)} {r v1 v2 v3 v4 v5 x y am om am2 om2 : Int32} {CL CM : Int32 × Int32 × Int32 → Prop} {NC : Nat → Prop} {B1 B2 BC : MS → Prop}
theorem upI_cm {a c : Nat} (h : a ≠ c) : upI (upI m a x) c y = upI (upI m c y) a x := by
  have e : (fun j => if j = c then y else if j = a then x else m.1 j) = (fun j => if j = a then x else if j = c then y else m.1 j) := by
    funext j
    by_cases h1 : j = a
    · subst h1; rw [if_pos rfl, if_neg h, if_pos rfl]
    · by_cases h2 : j = c
      · subst h2; rw [if_pos rfl, if_neg h1, if_pos rfl]
      · rw [if_neg h2, if_neg h1, if_neg h1, if_neg h2]
  unfold upI
  show (_, _) = (_, _)
  rw [e]
theorem adN_up {a b' c d' f : Int32} (h : k ≠ 306) : adN (upI m k x) n a b' c d' f = upI (adN m n a b' c d' f) k x := by
  unfold adN
  rw [upI_cm h]
  rfl
theorem upI_2 {a : Nat} : upI (upI m a x) a y = upI m a y := by
  have e : (fun j => if j = a then y else if j = a then x else m.1 j) = (fun j => if j = a then y else m.1 j) := by
    funext j
    by_cases h1 : j = a
    · rw [if_pos h1, if_pos h1]
    · rw [if_neg h1, if_neg h1, if_neg h1]
  unfold upI
  show (_, _) = (_, _)
  rw [e]
theorem SMS_83 (h : SMS (upI w 83 y) u) : SMS (upI w 83 x) (upI u 83 x) := by
  refine ⟨fun j hj => ?_, fun j hj => h.2.1 j hj, fun a h1 h2 => ?_⟩
  · by_cases z : j = 83
    · subst z; rw [upI_at, upI_at]
    · rw [upI_ne z, upI_ne z, h.1 j hj, upI_ne z]
  · rw [upI_ne (by decide)] at h1
    obtain ⟨b, g1, g2, g3⟩ := h.2.2 a (by rw [upI_ne (by decide)]; exact h1) h2
    exact ⟨b, ⟨by rw [upI_ne (by decide)]; exact g1.1, g1.2⟩, g2, g3⟩
theorem UNQ_83 (h : UNQ sc2 (upI w 83 y) u) : UNQ sc2 (upI w 83 x) (upI u 83 x) := by
  obtain ⟨k1, k0, k2, k3, k4⟩ := h
  refine ⟨WFP_rn k1 (upI_ne (by decide)) rfl, ?_, fun j hj => ?_, k3, fun a h1 h2 => ?_⟩
  · rw [upI_ne (by decide), k0, upI_ne (by decide), upI_ne (by decide)]
  · by_cases z : j = 83
    · subst z; rw [upI_at, upI_at]
    · rw [upI_ne z, upI_ne z, k2 j hj, upI_ne z]
  · rw [upI_ne (by decide)] at h1
    obtain ⟨b, g1, g2, g3⟩ := k4 a (by rw [upI_ne (by decide)]; exact h1) h2
    exact ⟨b, ⟨by rw [upI_ne (by decide)]; exact g1.1, g1.2⟩, g2, g3⟩
theorem SGS_k (h34 : ∀ j, j < c0 + σ.length → m2.2.2.1 34 j = m.2.2.1 34 j) (h79 : ∀ k, 79 ≤ k → k ≤ 82 → ∀ j, j < b0 + σ.length → w2.2.2.1 k j = w.2.2.1 k j) (hn : ∀ a : Nat, w.1 32 = I (a : Nat) → a ≤ 100000 → ∃ b : Nat, (w2.1 32 = I (b : Nat) ∧ a ≤ b ∧ b ≤ 100000) ∧ NKP a w w2) : ∀ {σ' : List (Nat × Nat)} {cur cur2 : Nat}, σ'.length ≤ σ.length → (cur ≤ cur2) → SGS m w K T c0 b0 tt am om e0 cur σ' → SGS m2 w2 K T c0 b0 tt am om e0 cur2 σ'
  | [], _, _, _, _, _ => trivial
  | (q, b) :: σ', cur, cur2, hl, hc, ⟨h1, h2, h3, h4⟩ => by
    have hl : σ'.length + 1 ≤ σ.length := hl
    refine ⟨⟨by rw [h34 _ (by omega)]; exact h1.1, by rw [h79 79 (by decide) (by decide) _ (by omega)]; exact h1.2.1, by rw [h79 80 (by decide) (by decide) _ (by omega)]; exact h1.2.2.1, h1.2.2.2⟩, fun z => ?_, h3, ?_⟩
    · obtain ⟨g1, g2, ⟨h, a, f1, f2, f3, f4, f5, f6⟩, g4⟩ := h2 z
      obtain ⟨b', x1, x2⟩ := hn a f2 f3
      refine ⟨⟨g1.1, by omega⟩, by rw [h79 82 (by decide) (by decide) _ (by omega)]; exact g2, ⟨h, b', by rw [h79 81 (by decide) (by decide) _ (by omega)]; exact f1, x1.1, x1.2.2, by omega, ?_, ?_⟩, g4⟩
      · rw [(x2 h f4).1]; exact f5
      · rw [(x2 h f4).1]; exact f6
    · by_cases z : rkK (K q) ≤ 2
      · rw [if_pos z]; rw [if_pos z] at h4
        exact SGS_k h34 h79 hn (by omega) (Nat.le_refl _) h4
      · rw [if_neg z]; rw [if_neg z] at h4
        exact SGS_k h34 h79 hn (by omega) hc h4
theorem rk_k (h : K q1 < 46) (h1 : 1 ≤ rkK (K q1)) : (rkK (K q1) ≤ 2 ↔ K q1 = 6 ∨ K q1 = 16) ∧ (rkK (K q1) = 2 ↔ K q1 = 6) ∧ (rkK (K q1) = 1 ↔ K q1 = 16) ∧ (rkK (K q1) = 4 ↔ K q1 = 43 ∨ K q1 = 44) := by
  have : ∀ k, k < 46 → 1 ≤ rkK k → (rkK k ≤ 2 ↔ k = 6 ∨ k = 16) ∧ (rkK k = 2 ↔ k = 6) ∧ (rkK k = 1 ↔ k = 16) ∧ (rkK k = 4 ↔ k = 43 ∨ k = 44) := by decide
  exact this _ h h1
theorem SLI_pop {κ : Nat} (c : CTZ m0 w0 K T nm Nk) (hn0 : n0 ≤ 2 * p) (h : SLI N m0 w0 K T nm Nk gd mB wB p n0 e t c0 b0 s m w q n e2 t2 am om l ((q1, b) :: σ)) (hst : (3 ≤ rkK (K q1) ∧ SMS (upI w 83 (I ((b0 + σ.length : Nat) : Int))) u ∧ u.1 69 = w.1 69) ∨ (rkK (K q1) ≤ 2 ∧ UNQ (cutS b (e2 :: t2)) (upI w 83 (I ((b0 + σ.length : Nat) : Int))) u)) : ∃ e3, n + 1 < 8016 ∧ m.1 306 = I (n : Nat) ∧ l.getLastD 0 ≤ 8015 ∧ SLI N m0 w0 K T nm Nk gd mB wB p n0 e t c0 b0 s (upI (upA (adN m n 23 (I (q1 : Nat)) (I (K q1 : Nat)) 0 0) 21 (upd ((adN m n 23 (I (q1 : Nat)) (I (K q1 : Nat)) 0 0).2.2.1 21) (l.getLastD 0) (I ((n + 1 : Nat) : Int)))) 664 (I ((c0 + σ.length : Nat) : Int))) u q (n + 1) e3 t2 am om (l ++ [n + 1]) σ := by
  obtain ⟨X, W, Rf, Rs, Zf, CL, q0, a1, a2, a3, a4, a5, a6⟩ := h
  obtain ⟨⟨h1, h2, h3, h4, h5⟩, g2, g3, g4⟩ := id a6
  have ll : ((q1, b) :: σ).length = σ.length + 1 := rfl
  rw [ll] at a1 a5
  have nb := a1.2.1
  have qT := a1.1.2.2.2.2.1
  have t4 := c.1.1.1
  have k46 : K q1 < 46 := c.1.1.k46 (by omega)
  obtain ⟨d1, d2, d3⟩ := SGE_hd a2 a4.1
  have m306 : m.1 306 = I (n : Nat) := by have := nb.2.1; rw [upI_ne (by decide)] at this; exact this
  have rk := rk_k k46 h4
  have s1 := STQ_add (s := s + σ.length) (a := 23) (b := I (q1 : Nat)) (c := I (K q1 : Nat)) (d := 0) (f := 0) a1
  rw [adN_up (by decide)] at s1
  have Ao := adN_o (m := m) (n := n) (a := 23) (b := I (q1 : Nat)) (c := I (K q1 : Nat)) (d := 0) (f := 0)
  have An := adN_nod (m := m) (n := n) (a := 23) (b := I (q1 : Nat)) (c := I (K q1 : Nat)) (d := 0) (f := 0)
  have Ai : ∀ k, k ≠ 306 → (adN m n 23 (I (q1 : Nat)) (I (K q1 : Nat)) 0 0).1 k = m.1 k := fun k hk => adN_i hk
  have Ar : ∀ k, k < 16 ∨ 21 < k → (adN m n 23 (I (q1 : Nat)) (I (K q1 : Nat)) 0 0).2.2.1 k = m.2.2.1 k := fun k hk => adN_r hk
  generalize hA : adN m n 23 (I (q1 : Nat)) (I (K q1 : Nat)) 0 0 = A at s1 Ao An Ai Ar
  have s2 := STQ_A (L := l.getLastD 0) (k := 21) (y := I ((n + 1 : Nat) : Int)) s1 (by omega) (by decide)
  have r21 : (upA A 21 (upd (A.2.2.1 21) (l.getLastD 0) (I ((n + 1 : Nat) : Int)))).2.2.1 21 = upd (A.2.2.1 21) (l.getLastD 0) (I ((n + 1 : Nat) : Int)) := upA_at
  have ro : ∀ k, k ≠ 21 → (upA A 21 (upd (A.2.2.1 21) (l.getLastD 0) (I ((n + 1 : Nat) : Int)))).2.2.1 k = A.2.2.1 k := fun k hk => upA_no hk
  have s3 : STQ m0 w0 K T Nk gd mB wB p n0 (e :: t) (s + σ.length) (upI (upA A 21 (upd (A.2.2.1 21) (l.getLastD 0) (I ((n + 1 : Nat) : Int)))) 664 (mB.1 664)) (upI w 83 (wB.1 83)) q (n + 1) (e2 :: t2) X W Rf Zf CL := s2
  have Bi : ∀ k, (upA A 21 (upd (A.2.2.1 21) (l.getLastD 0) (I ((n + 1 : Nat) : Int)))).1 k = A.1 k := fun _ => rfl
  generalize hB : upA A 21 (upd (A.2.2.1 21) (l.getLastD 0) (I ((n + 1 : Nat) : Int))) = B at s3 r21 ro Bi
  have ndB : ∀ j, nod B j = nod A j := fun j => by
    unfold nod
    rw [ro 16 (by decide), ro 17 (by decide), ro 18 (by decide), ro 19 (by decide), ro 20 (by decide)]
  have kcB : Kcc m (upI B 664 (I ((c0 + σ.length : Nat) : Int))) := ⟨fun k hk => by rw [upI_ne (by omega), Bi, Ai k (by omega)], fun k hk => by show B.2.2.1 k = _; rw [ro k (by omega), Ar k (by omega)]⟩
  have hs : ∀ j, n0 < j → j ≤ n → nod (upI B 664 (I ((c0 + σ.length : Nat) : Int))) j = nod m j ∧ (j ≠ l.getLastD 0 → (upI B 664 (I ((c0 + σ.length : Nat) : Int))).2.2.1 21 j = m.2.2.1 21 j) := fun j _ j2 => ⟨(ndB j).trans (Ao j j2).1, fun z => by show B.2.2.1 21 j = _; rw [r21, upd_no z]; exact (Ao j j2).2⟩
  have hy : (upI B 664 (I ((c0 + σ.length : Nat) : Int))).2.2.1 21 (l.getLastD 0) = I ((([n + 1] : List Nat).headD 0 : Nat) : Int) := by show B.2.2.1 21 _ = _; rw [r21, upd_at]; rfl
  have nκ := (ndB (n + 1)).trans An.1
  have e21 : B.2.2.1 21 (n + 1) = 0 := by rw [r21, upd_no (by omega)]; exact An.2
  have app : ∀ (sc3 : SCT) (R' : Bool), SGE N K nm gd (upI B 664 (I ((c0 + σ.length : Nat) : Int))) n0 (n + 1) W [n + 1] am om q0 q0 (e2 :: t2) sc3 0 R' false (fun _ => False) am om → SGE N K nm gd (upI B 664 (I ((c0 + σ.length : Nat) : Int))) n0 (n + 1) W (l ++ [n + 1]) 0 0 p q0 (e :: t) sc3 X (Rs || R') Zf (BCo N CL) am om := fun sc3 R' hh => by
    have := SGE_app (n3 := n + 1) (by omega) kcB (fun _ => by show n < n + 1; omega) (fun _ _ _ => Iff.rfl) (by omega) (fun _ => hs) (fun _ => hy) a2 hh
    rw [show max X 0 = X by omega, Bool.or_false] at this
    exact SGE_bc (fun m => ⟨Or.inl, fun z => z.elim id False.elim⟩) this
  have stk : ∀ (cur2 : Nat), (∀ k, 79 ≤ k → k ≤ 82 → u.2.2.1 k = w.2.2.1 k) → (∀ a : Nat, w.1 32 = I (a : Nat) → a ≤ 100000 → ∃ b : Nat, (u.1 32 = I (b : Nat) ∧ a ≤ b ∧ b ≤ 100000) ∧ NKP a w u) → ((if rkK (K q1) ≤ 2 then b else e2.1.length) ≤ cur2) → SGS (upI B 664 (I ((c0 + σ.length : Nat) : Int))) u K T c0 b0 (tot t2) am om e.1.length cur2 σ := fun cur2 f1 f2 f3 => SGS_k (σ := σ) (fun j _ => by show B.2.2.1 34 j = _; rw [ro 34 (by decide), Ar 34 (by omega)]) (fun k k1 k2 j _ => by rw [f1 k k1 k2]) f2 (Nat.le_refl _) f3 g4
  have num : (mB.1 664 = I (c0 : Nat) ∧ wB.1 83 = I (b0 : Nat) ∧ b0 + σ.length ≤ 3000 ∧ (upI B 664 (I ((c0 + σ.length : Nat) : Int))).1 664 = I ((c0 + σ.length : Nat) : Int)) := ⟨a5.1, a5.2.1, by omega, upI_at⟩
  have lst : l ++ [n + 1] ≠ [] ∧ (upI B 664 (I ((c0 + σ.length : Nat) : Int))).2.2.1 21 ((l ++ [n + 1]).getLastD 0) = 0 := ⟨by simp, by rw [getLastD_snoc]; exact e21⟩
  have pd : pd4 K ((q1, b) :: σ) = (decide (rkK (K q1) = 4) || pd4 K σ) := rfl
  rw [pd] at a3
  have vm : upI (upI B 664 (I ((c0 + σ.length : Nat) : Int))) 664 (mB.1 664) = upI B 664 (mB.1 664) := upI_2
  rcases hst with ⟨hk3, sm, u69⟩ | ⟨hk2, un⟩
  · refine ⟨e2, by omega, m306, by omega, X, W, Rf, (Rs || ((gd && decide (K q1 = 43 ∨ K q1 = 44)) || false)), Zf, CL, q0, ?_, app _ _ ?_, ?_, lst, ⟨num.1, num.2.1, num.2.2.1, num.2.2.2, ?_, by omega, a5.2.2.2.2.2.2⟩, stk _ (fun k k1 k2 => sm.2.1 k (by unfold SMX; omega)) (fun a e1 e3 => ?_) (by rw [if_neg (by omega)]; exact Nat.le_refl _)⟩
    · rw [vm]
      exact STQ_s s3 (SMS_83 sm) (by rw [upI_ne (by decide), u69, upI_ne (by decide)])
    · refine ⟨⟨by omega, Nat.le_refl _⟩, e21, Or.inr (Or.inr ⟨congrArg (fun z => z.1) nκ, fun z => absurd rfl z, K q1, congrArg (fun z => z.2.2.1) nκ, k46, Or.inr ⟨⟨fun z => ?_, fun z => ?_⟩, q1, false, congrArg (fun z => z.2.1) nκ, by omega, ⟨⟨rfl, rfl, rfl, rfl, rfl, fun _ z => z⟩, rfl, rfl⟩, rfl⟩⟩)⟩
      · have := rk.1.mpr (Or.inl z); omega
      · have := rk.1.mpr (Or.inr z); omega
    · rw [a3]
      have : decide (rkK (K q1) = 4) = decide (K q1 = 43 ∨ K q1 = 44) := decide_eq_decide.mpr rk.2.2.2
      rw [this]
      cases gd <;> cases Rs <;> cases pd4 K σ <;> cases decide (K q1 = 43 ∨ K q1 = 44) <;> rfl
    · rw [sm.1 83 (by decide), upI_at]
    · obtain ⟨b', x1, x2, -⟩ := sm.2.2 a (by rw [upI_ne (by decide)]; exact e1) e3
      exact ⟨b', x1, x2⟩
  · obtain ⟨⟨gb1, gb2⟩, g22, -, gam, gom⟩ := g2 hk2
    have e3l : (e2.1.take b).length = b := by rw [List.length_take]; omega
    have hcut : gd = true → Rf = false → tot (cutS b (e2 :: t2)) = tot (e :: t) := fun gT rF => by
      have t1 := s3.2.2.2.2.2.1 gT rF
      have sx := s3.2.2.2.2.1.2.1
      have t2l := (BDs_len sx.2.2).2
      have f1 : tot (e2 :: t2) = tot t2 + e2.1.length := rfl
      have f2 : tot (e :: t) = tot t + e.1.length := rfl
      have f3 : tot (cutS b (e2 :: t2)) = tot t2 + b := cutS_tot gb2
      omega
    refine ⟨(e2.1.take b, e2.2), by omega, m306, by omega, X, W, Rf, (Rs || false), Zf, CL, q0, ?_, app _ _ ?_, ?_, lst, ⟨num.1, num.2.1, num.2.2.1, num.2.2.2, ?_, by omega, a5.2.2.2.2.2.2⟩, stk _ (fun k k1 k2 => un.2.2.2.1 k (by unfold SMX; omega) (by omega)) (fun a e1 e3 => ?_) (by rw [if_pos hk2]; show b ≤ (e2.1.take b).length; omega)⟩
    · rw [vm]
      exact STQ_cut s3 gb1 (UNQ_83 un) hcut
    · refine ⟨⟨by omega, Nat.le_refl _⟩, e21, Or.inr (Or.inr ⟨congrArg (fun z => z.1) nκ, fun z => absurd rfl z, K q1, congrArg (fun z => z.2.2.1) nκ, k46, Or.inl ⟨rk.1.mp hk2, b, e2, t2, rfl, gb2, ?_, ⟨⟨rfl, rfl, rfl, rfl, rfl, fun _ z => z⟩, rfl, rfl⟩⟩⟩)⟩
      by_cases z : K q1 = 6
      · rw [if_pos z]; exact gam (rk.2.1.mpr z)
      · rw [if_neg z]; exact gom (rk.2.2.1.mpr (by have := rk.1.mp hk2; omega))
    · rw [a3, show decide (rkK (K q1) = 4) = false from decide_eq_false (by omega)]
      cases gd <;> cases Rs <;> cases pd4 K σ <;> rfl
    · rw [un.2.2.1 83 (by decide), upI_at]
    · obtain ⟨b', x1, x2, -⟩ := un.2.2.2.2 a (by rw [upI_ne (by decide)]; exact e1) e3
      exact ⟨b', x1, x2⟩
end
