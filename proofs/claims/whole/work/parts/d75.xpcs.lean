/-! parts, both: one more -/
set_option maxRecDepth 100000
/-- what one part does -/
def PTo (w0 : MS) (nm : Nat → Nat) (fof cvr : Int → Int → Int) (lst : Bool) (L : List Nat) (kd scn nd a a2 q q2 : Nat) (Q Q2 : Nat → Nat) (sc0 : SCT) (cm2 : Nat) (sc2 : SCT) (m2 w2 : MS) (hn k0 : Nat) : Prop := ∀ (C : Nat → Int) (P R : Nat → Nat → Int) (J : Nat → Int64) (H : List Nat), FNx w0 fof cvr C P R J m2 w2 a a2 q q2 Q Q2 lst L [hn] [k0] → HNX nm sc2 cm2 H → (∀ u, q ≤ u → u < q2 → FUX C P R J u) ∧ ∀ (t b1 : Nat) (kn : Int), C hn = ((t : Nat) : Int) → R 26 nd = ((b1 : Nat) : Int) → CRe C R J none t b1 H (Onm nm sc0) → R 45 k0 = kn → (∃ f, ZRs C R J (CRs C R J f) kd scn H (Onm nm sc0) f a2 kn) → ∃ f, ZRs C R J (CRs C R J f) kd scn H (Onm nm sc0) f a ((k0 : Nat) : Int)
section
variable {w0 m w m2 w2 m3 w3 : MS} {nm : Nat → Nat} {a a0 a2 q q0 q2 cm cm2 kd scn nd f f2 k0 hn : Nat} {Q Q1 Q2 : Nat → Nat} {sc sc0 sc2 : SCT} {lst : Bool} {L L2 hs : List Nat} {fof cvr : Int → Int → Int} {fst last : Option Nat}
theorem PTq_s (hP : PTq w0 nm fof cvr lst L kd scn nd a0 a q0 q Q1 Q sc0 cm sc m w hs fst last) (h1 : PTo w0 nm fof cvr lst L2 kd scn nd a a2 q q2 Q Q2 sc0 cm2 sc2 m2 w2 hn k0) (ho : a0 ≤ a ∧ a ≤ a2) (hq : q0 ≤ q ∧ q ≤ q2) (l1 : QLE Q1 Q) (l2 : QLE Q Q2) (hm : ∀ j, j < a → m2.2.2.1 23 j = m.2.2.1 23 j) (hp : ∀ k u, 30 ≤ k → k ≤ 32 → u < q → m2.2.2.1 k u = m.2.2.1 k u) (hw : ∀ k n, grp k ≠ 0 → k ≠ 29 → k ≠ 30 → Q1 (grp k) ≤ n → n < Q (grp k) → (k = 45 → n ∉ last.toList) → w2.2.2.1 k n = w.2.2.1 k n) (hj : ∀ n, n < Q 39 → w2.2.2.2 34 n = w.2.2.2 34 n) (h30 : ∀ n, n < Q 32 → A w2 30 n = A w 30 n) (hL : ∀ n, n ∈ L → n < Q 32) (hL2 : ∀ n, n ∈ L2 → Q 32 ≤ n) (hhs : ∀ h, h ∈ hs → h < a) (hhn : a ≤ hn) (hlast : ∀ l, last = some l → Q1 46 ≤ l ∧ l < Q 46 ∧ A w2 45 l = ((k0 : Nat) : Int)) (hk0 : Q 46 ≤ k0) (hx : ∀ H, HNX nm sc2 cm2 H → HNX nm sc cm H) : PTq w0 nm fof cvr lst (L ++ L2) kd scn nd a0 a2 q0 q2 Q1 Q2 sc0 cm2 sc2 m2 w2 (hn :: hs) (some (fst.getD k0)) (some k0) := by
  intro C P R J H fi hxH
  have l46 := l2 46 (by decide)
  have l32 := l2 32 (by decide)
  have f1 : FNx w0 fof cvr C P R J m w a0 a q0 q Q1 Q lst L hs last.toList := by
    refine FNx_mo fi ⟨Nat.le_refl _, ho.2⟩ ⟨Nat.le_refl _, hq.2⟩ QLE_rf l2 (fun j _ z2 _ => hm j z2) (fun k u z1 z2 _ z4 => hp k u z1 z2 z4) hw (fun n _ z => hj n z) (fun n _ z2 => ?_) (fun j hj j1 j2 => ?_) (fun j hj j1 j2 => ?_)
    · rw [h30 n z2]
      by_cases z : lst = true ∧ n ∈ L
      · rw [if_pos z, if_pos ⟨z.1, List.mem_append_left _ z.2⟩]
      · rw [if_neg z, if_neg (fun y => by
          rcases List.mem_append.mp y.2 with x | x
          · exact z ⟨y.1, x⟩
          · have := hL2 n x; omega)]
    · rcases List.mem_cons.mp hj with rfl | y
      · omega
      · exact y
    · have : j = k0 := by simpa using hj
      omega
  have f2 : FNx w0 fof cvr C P R J m2 w2 a a2 q q2 Q Q2 lst L2 [hn] [k0] := by
    refine FNx_mo fi ⟨ho.1, Nat.le_refl _⟩ ⟨hq.1, Nat.le_refl _⟩ l1 QLE_rf (fun _ _ _ _ => rfl) (fun _ _ _ _ _ _ => rfl) (fun _ _ _ _ _ _ _ _ => rfl) (fun _ _ _ => rfl) (fun n z1 z2 => ?_) (fun j hj j1 j2 => ?_) (fun j hj _ _ => hj)
    · by_cases z : lst = true ∧ n ∈ L2
      · rw [if_pos z, if_pos ⟨z.1, List.mem_append_right _ z.2⟩]
      · rw [if_neg z, if_neg (fun y => by
          rcases List.mem_append.mp y.2 with x | x
          · have := hL n x; omega
          · exact z ⟨y.1, x⟩)]
    · rcases List.mem_cons.mp hj with rfl | y
      · exact List.mem_cons_self
      · have := hhs j y; omega
  have e45 : ∀ l, last = some l → R 45 l = ((k0 : Nat) : Int) := fun l hl => by
    obtain ⟨g1, g2, g3⟩ := hlast l hl
    rw [fi.2.2.2.1.1 45 l (by decide) (by decide) (by decide) (by decide) (by decide) g1 (by show l < Q2 46; omega) (fun _ y => by
      have : l = k0 := by simpa using y
      omega), g3]
  obtain ⟨d1, d2⟩ := hP C P R J H f1 (hx H hxH)
  obtain ⟨c1, c2⟩ := h1 C P R J H f2 hxH
  refine ⟨fun u u1 u2 => ?_, fun t b1 kn hh hr26 hr h45 h => ?_⟩
  · by_cases z : u < q
    · exact d1 u u1 z
    · exact c1 u (by omega) u2
  · have := d2 t b1 ((k0 : Nat) : Int) (fun h hm => hh h (List.mem_cons_of_mem _ hm)) hr26 hr e45 (c2 t b1 kn (hh hn List.mem_cons_self) hr26 hr (h45 k0 rfl) h)
    cases fst with
    | none => exact this
    | some k => exact this
end
