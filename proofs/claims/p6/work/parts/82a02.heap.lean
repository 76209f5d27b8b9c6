def so (t : Int64) : Int := ((t >>> ((32 : Int32).toInt64 &&& 63)).toInt32).toInt
def va (t : Int64) : Int := t.toInt32.toInt
def vn (t : Int64) : Nat := (va t).toNat
def isH (t : Int64) : Prop := so t = 3 ∨ so t = 5 ∨ so t = 7
def blk (h : Nat → Int64) (t : Int64) : Nat := if so t = 7 then 2 else if so t = 5 then 1 + vn (h (vn t)) else if so t = 3 then 2 + vn (h (vn t + 1)) else 0
def prt (t : Int64) : Nat := if so t = 7 then 0 else if so t = 5 then 1 else 2
def smm (c : Nat → Nat) (a : Nat) : Nat → Nat
  | 0 => 0
  | n + 1 => smm c a n + c (a + n)
def HDC (c : Int64) : Prop := 0 ≤ va c ∧ c.toInt = va c
theorem HDC2 : HDC 2 := ⟨by decide, by decide⟩
def HDP (c : Int64) (k : Nat) : Prop := va c = (k : Int) ∧ c.toInt = va c
def BK (h : Nat → Int64) (n : Nat) (ow kd : Nat → Nat) (Fv : Int64 → Int64 → Prop) (t : Int64) : Prop :=
  0 ≤ va t ∧ (so t = 5 → HDC (h (vn t))) ∧ (so t = 3 → 0 ≤ va (h (vn t + 1)) ∧ Fv (h (vn t)) (h (vn t + 1))) ∧ vn t + blk h t ≤ n ∧ (kd (vn t) : Int) = so t ∧ ∀ j, j < blk h t → ow (vn t + j) = vn t
def SZ (h : Nat → Int64) (n : Nat) (ow kd : Nat → Nat) (Fv : Int64 → Int64 → Prop) (P : Int64 → Prop) : Nat → Int64 → Nat → Prop
  | 0, _, _ => False
  | f + 1, t, s => (¬ isH t ∧ P t ∧ s = 0) ∨ (isH t ∧ BK h n ow kd Fv t ∧ ∃ c : Nat → Nat, (∀ j, prt t ≤ j → j < blk h t → SZ h n ow kd Fv P f (h (vn t + j)) (c j)) ∧ s = blk h t + smm c (prt t) (blk h t - prt t))
theorem smm_eq {c d : Nat → Nat} {a : Nat} : ∀ {n : Nat}, (∀ j, a ≤ j → j < a + n → c j = d j) → smm c a n = smm d a n
  | 0, _ => rfl
  | n + 1, h => by
    show smm c a n + c (a + n) = smm d a n + d (a + n)
    rw [smm_eq (fun j h1 h2 => h j h1 (by omega)), h (a + n) (by omega) (by omega)]
theorem smm_le {c : Nat → Nat} {a : Nat} : ∀ {n j : Nat}, a ≤ j → j < a + n → c j ≤ smm c a n
  | 0, j, h1, h2 => by omega
  | n + 1, j, h1, h2 => by
    show _ ≤ smm c a n + c (a + n)
    by_cases e : j = a + n
    · rw [e]; omega
    · have := smm_le (c := c) (a := a) (n := n) h1 (by omega); omega
section
variable {h : Nat → Int64} {n : Nat} {ow kd : Nat → Nat} {Fv : Int64 → Int64 → Prop} {P : Int64 → Prop}
theorem SZ_mono : ∀ {f : Nat} {t : Int64} {s : Nat}, SZ h n ow kd Fv P f t s → SZ h n ow kd Fv P (f + 1) t s
  | 0, _, _, z => z.elim
  | f + 1, t, s, z => by
    rcases z with z | ⟨z1, z2, c, z3, z4⟩
    · exact Or.inl z
    · exact Or.inr ⟨z1, z2, c, fun j a b => SZ_mono (z3 j a b), z4⟩
theorem SZ_le {f g : Nat} {t : Int64} {s : Nat} (hz : SZ h n ow kd Fv P f t s) (hl : f ≤ g) : SZ h n ow kd Fv P g t s := by
  induction hl with
  | refl => exact hz
  | step _ ih => exact SZ_mono ih
theorem prt_le {t : Int64} (ht : isH t) : prt t ≤ blk h t := by
  unfold prt blk
  rcases ht with e | e | e <;> rw [e] <;> simp <;> omega
theorem SZ_fun : ∀ {f g : Nat} {t : Int64} {s r : Nat}, SZ h n ow kd Fv P f t s → SZ h n ow kd Fv P g t r → s = r
  | 0, _, _, _, _, z, _ => z.elim
  | _ + 1, 0, _, _, _, _, z => z.elim
  | f + 1, g + 1, t, s, r, z, y => by
    rcases z with ⟨z1, -, z3⟩ | ⟨z1, -, c, z3, z4⟩
    · rcases y with ⟨-, -, y3⟩ | ⟨y1, -⟩
      · rw [z3, y3]
      · exact absurd y1 z1
    · rcases y with ⟨y1, -⟩ | ⟨-, -, d, y3, y4⟩
      · exact absurd z1 y1
      · rw [z4, y4, smm_eq (d := d) (fun j a b => SZ_fun (z3 j a (by have := prt_le (h := h) z1; omega)) (y3 j a (by have := prt_le (h := h) z1; omega)))]
theorem SZ_ext {h2 : Nat → Int64} {n2 : Nat} {ow2 kd2 : Nat → Nat} {Fv2 : Int64 → Int64 → Prop} {P2 : Int64 → Prop} (hn : n ≤ n2) (hh : ∀ i, i < n → h2 i = h i) (ho : ∀ i, i < n → ow2 i = ow i) (hk : ∀ i, i < n → kd2 i = kd i) (hF : ∀ a b, Fv a b → Fv2 a b) (hP : ∀ t, P t → P2 t) : ∀ {f : Nat} {t : Int64} {s : Nat}, SZ h n ow kd Fv P f t s → SZ h2 n2 ow2 kd2 Fv2 P2 f t s
  | 0, _, _, z => z.elim
  | f + 1, t, s, z => by
    rcases z with ⟨z1, z2, z3⟩ | ⟨z1, ⟨b1, b2, b3, b4, b5, b6⟩, c, z3, z4⟩
    · exact Or.inl ⟨z1, hP t z2, z3⟩
    · have hb : 0 < blk h t := by
        unfold blk
        rcases z1 with e | e | e <;> rw [e] <;> simp <;> omega
      have e0 : h2 (vn t) = h (vn t) := hh _ (by omega)
      have hb2 : so t = 3 → 2 ≤ blk h t := fun e => by unfold blk; rw [e]; simp
      have e1 : so t = 3 → h2 (vn t + 1) = h (vn t + 1) := fun e => hh _ (by have := hb2 e; omega)
      have eb : blk h2 t = blk h t := by
        unfold blk
        rw [e0]
        by_cases e : so t = 3
        · rw [e1 e]
        · simp [e]
      refine Or.inr ⟨z1, ⟨b1, fun e => by rw [e0]; exact b2 e, fun e => ?_, by omega, ?_, ?_⟩, c, ?_, ?_⟩
      · rw [e0, e1 e]; exact ⟨(b3 e).1, hF _ _ (b3 e).2⟩
      · rw [hk _ (by omega)]; exact b5
      · rw [eb]; intro j hj; rw [ho _ (by omega)]; exact b6 j hj
      · rw [eb]; intro j a b; rw [hh _ (by omega)]; exact SZ_ext hn hh ho hk hF hP (z3 j a b)
      · rw [eb]; exact z4
end
