/-! parts, both: what is known between two of them -/
set_option maxRecDepth 100000
/-- where the parts begin -/
def EIx (fst : Option Nat) (kn : Int) : Int := match fst with
  | none => kn
  | some k => ((k : Nat) : Int)
/-- what the parts so far do: hs: hooks to the end; nd: their node; fst, last: the first, the last of them -/
def PTq (w0 : MS) (nm : Nat → Nat) (fof cvr : Int → Int → Int) (lst : Bool) (L : List Nat) (kd scn nd a0 a q0 q : Nat) (Q1 Q : Nat → Nat) (sc0 : SCT) (cm : Nat) (sc : SCT) (m w : MS) (hs : List Nat) (fst last : Option Nat) : Prop := ∀ (C : Nat → Int) (P R : Nat → Nat → Int) (J : Nat → Int64) (H : List Nat), FNx w0 fof cvr C P R J m w a0 a q0 q Q1 Q lst L hs last.toList → HNX nm sc cm H → (∀ u, q0 ≤ u → u < q → FUX C P R J u) ∧ ∀ (t b1 : Nat) (kn : Int), (∀ h, h ∈ hs → C h = ((t : Nat) : Int)) → R 26 nd = ((b1 : Nat) : Int) → CRe C R J none t b1 H (Onm nm sc0) → (∀ l, last = some l → R 45 l = kn) → (∃ f, ZRs C R J (CRs C R J f) kd scn H (Onm nm sc0) f a kn) → ∃ f, ZRs C R J (CRs C R J f) kd scn H (Onm nm sc0) f a0 (EIx fst kn)
section
variable {w0 m w m2 w2 m3 w3 : MS} {nm : Nat → Nat} {a a0 a2 q q0 q2 cm cm2 kd scn nd f f2 k0 e e2 b fl : Nat} {Q Q1 Q2 : Nat → Nat} {sc sc0 sc2 : SCT} {lst : Bool} {L hs : List Nat} {fof cvr : Int → Int → Int} {fst last : Option Nat} {C : Nat → Int} {P R : Nat → Nat → Int} {J : Nat → Int64} {H O O2 : List Nat} {kn : Int}
/-- none so far -/
theorem PTq_0 : PTq w0 nm fof cvr lst L kd scn nd a a q q Q Q sc0 cm sc m w [] none none := fun C P R J H h1 h2 => ⟨fun u u1 u2 => by omega, fun t b1 kn h3 h4 h5 h6 h => h⟩
/-- a part, put together -/
theorem zr_c (ha : a + 1 < 24000) (hk : k0 < 100000) (hh : (((kd = 2 ∨ (kd = 0 ∧ R 41 k0 = 0)) ∧ e = a ∧ O2 = O) ∨ (C a = 19 ∧ (∃ fl : Nat, C (a + 2) = ((fl : Nat) : Int) ∧ ∃ f, ZRs C R J (CRs C R J f) kd scn H O f fl (R 45 k0)) ∧ ∃ n e2 : Nat, ((kd = 0 ∧ (0 < n ∧ n ≤ 6) ∧ R 41 k0 = ((n : Nat) : Int) ∧ C (a + 1) = ((n : Nat) : Int)) ∨ (kd = 1 ∧ n = 1 ∧ C (a + 1) = -1) ∨ (kd = 3 ∧ n = 1 ∧ C (a + 1) = -2)) ∧ PTr C R J H 230 n (a + 3) (R 40 k0) O e2 O2 ∧ C e2 = 8 ∧ e = e2 + 1)))
    (hg : (R 42 k0 = -1 ∧ ∃ f, CHs C R (CRs C R J f) kd e k0 H O2) ∨ (∃ g fl : Nat, R 42 k0 = ((g : Nat) : Int) ∧ C e = 21 ∧ C (e + 1) = ((O2.length - O.length : Nat) : Int) ∧ C (e + 2) = ((fl : Nat) : Int) ∧ 0 < fl ∧ (∃ f, ZRs C R J (CRs C R J f) kd scn H O f fl (R 45 k0)) ∧ CRe C R J (some (kd, k0, scn)) (e + 3) g H O2)) : ∃ f, ZRs C R J (CRs C R J f) kd scn H O f a ((k0 : Nat) : Int) := by
  have zr : ∀ f F x k, f ≤ F → ZRs C R J (CRs C R J f) kd scn H O f x k → ZRs C R J (CRs C R J (F + 1)) kd scn H O F x k := fun f F x k hf h => ZR_mo (fun y a n H O h => CR_mo (by omega) h) hf h
  have ch : ∀ f F, f ≤ F → CHs C R (CRs C R J f) kd e k0 H O2 → CHs C R (CRs C R J (F + 1)) kd e k0 H O2 := fun f F hf h => CH_mo (fun y a n H O h => CR_mo (by omega) h) h
  have cr : ∀ f F y a n, f ≤ F → CRs C R J f y a n H O2 → CRs C R J (F + 1) y a n H O2 := fun f F y a n hf h => CR_mo (by omega) h
  have h1 : ∃ f1, ∀ F, f1 ≤ F → (((kd = 2 ∨ (kd = 0 ∧ R 41 k0 = 0)) ∧ e = a ∧ O2 = O) ∨ (C a = 19 ∧ (∃ fl : Nat, C (a + 2) = ((fl : Nat) : Int) ∧ ZRs C R J (CRs C R J (F + 1)) kd scn H O F fl (R 45 k0)) ∧ ∃ n e2 : Nat, ((kd = 0 ∧ (0 < n ∧ n ≤ 6) ∧ R 41 k0 = ((n : Nat) : Int) ∧ C (a + 1) = ((n : Nat) : Int)) ∨ (kd = 1 ∧ n = 1 ∧ C (a + 1) = -1) ∨ (kd = 3 ∧ n = 1 ∧ C (a + 1) = -2)) ∧ PTr C R J H 230 n (a + 3) (R 40 k0) O e2 O2 ∧ C e2 = 8 ∧ e = e2 + 1)) := by
    rcases hh with h | ⟨h1, ⟨fl, h2, f, h3⟩, h4⟩
    · exact ⟨0, fun F _ => Or.inl h⟩
    · exact ⟨f, fun F hF => Or.inr ⟨h1, ⟨fl, h2, zr f F _ _ hF h3⟩, h4⟩⟩
  have h2 : ∃ f2, ∀ F, f2 ≤ F → ((R 42 k0 = -1 ∧ CHs C R (CRs C R J (F + 1)) kd e k0 H O2) ∨ (∃ g fl : Nat, R 42 k0 = ((g : Nat) : Int) ∧ C e = 21 ∧ C (e + 1) = ((O2.length - O.length : Nat) : Int) ∧ C (e + 2) = ((fl : Nat) : Int) ∧ 0 < fl ∧ ZRs C R J (CRs C R J (F + 1)) kd scn H O F fl (R 45 k0) ∧ CRs C R J (F + 1) (some (kd, k0, scn)) (e + 3) g H O2)) := by
    rcases hg with ⟨h1, f, h2⟩ | ⟨g, fl, h1, h2, h3, h4, h5, ⟨f, h6⟩, ⟨f2, h7⟩⟩
    · exact ⟨f, fun F hF => Or.inl ⟨h1, ch f F hF h2⟩⟩
    · exact ⟨max f f2, fun F hF => Or.inr ⟨g, fl, h1, h2, h3, h4, h5, zr f F _ _ (by omega) h6, cr f2 F _ _ _ (by omega) h7⟩⟩
  obtain ⟨f1, h1⟩ := h1
  obtain ⟨f2, h2⟩ := h2
  exact ⟨max f1 f2 + 1, ha, Or.inr ⟨k0, ⟨rfl, hk⟩, e, O2, h1 _ (by omega), h2 _ (by omega)⟩⟩
end
