/-! ===== what holds between the class's cells and the reference's ahead of every call ===== -/
/-- a memory cut to a region -/
def rg (P : Nat → Nat → Bool) (M : JI) : JI := fun a k => if P a k then M a k else 0
theorem rg_up {P : Nat → Nat → Bool} {M : JI} {a k : Nat} {v : Int32} (h : P a k = false) : rg P (j_up M a k v) = rg P M := by
  funext a' k'
  unfold rg
  by_cases e : a' = a ∧ k' = k
  · rw [e.1, e.2, h]; rfl
  · rw [j_up_ne M v e]
theorem rg_cong {P : Nat → Nat → Bool} {M M' : JI} (h : ∀ a k, P a k = true → M' a k = M a k) : rg P M' = rg P M := by
  funext a k
  unfold rg
  by_cases e : P a k = true
  · rw [if_pos e, if_pos e, h a k e]
  · rw [if_neg e, if_neg e]
theorem rg_in {P : Nat → Nat → Bool} {M : JI} {a k : Nat} (h : P a k = true) : rg P M a k = M a k := if_pos h
def pE (a k : Nat) : Bool := (a == 66 && (k == 8 || k == 18)) || (decide (68 ≤ a) && decide (a ≤ 72)) || (decide (75 ≤ a) && decide (a ≤ 82) && decide (k < 18)) || (a == 83 && decide (k < 1000))
def pD (a _k : Nat) : Bool := decide (137 ≤ a)
def pP (a _k : Nat) : Bool := decide (96 ≤ a) && decide (a ≤ 113)
def pM (a _k : Nat) : Bool := decide (127 ≤ a) && decide (a ≤ 135)
def pH (a _k : Nat) : Bool := decide (121 ≤ a) && decide (a ≤ 126)
def pL (a k : Nat) : Bool := (decide (44 ≤ a) && decide (a < 66)) || (a == 66 && (k == 18 || k == 29 || k == 30)) || (decide (75 ≤ a) && decide (a ≤ 82) && decide (k < 18)) || (a == 83 && decide (k < 1000))
/-- a whole row changed -/
def jr {α : Type} (M : Nat → Nat → α) (a : Nat) (r : Nat → α) : Nat → Nat → α := fun a' => if a' = a then r else M a'
theorem jr_at {α : Type} (M : Nat → Nat → α) (a : Nat) (r : Nat → α) : jr M a r a = r := if_pos rfl
theorem jr_ne {α : Type} (M : Nat → Nat → α) {a a' : Nat} (r : Nat → α) (h : a' ≠ a) : jr M a r a' = M a' := if_neg h
theorem jr_at2 {α : Type} (M : Nat → Nat → α) (a k : Nat) (r : Nat → α) : jr M a r a k = r k := by rw [jr_at]
theorem jr_ne2 {α : Type} (M : Nat → Nat → α) {a a' k : Nat} (r : Nat → α) (h : a' ≠ a) : jr M a r a' k = M a' k := by rw [jr_ne M r h]
theorem rg_jr {P : Nat → Nat → Bool} {M : JI} {a : Nat} {r : Nat → Int32} (h : ∀ k, P a k = false) : rg P (jr M a r) = rg P M :=
  rg_cong (fun a' k hp => by
    rw [jr_ne M r (fun e => by rw [e, h k] at hp; exact absurd hp (by simp))])
theorem rE_up {M : JI} {a k : Nat} {v : Int32} (h : (a ≠ 66 ∨ (k ≠ 8 ∧ k ≠ 18)) ∧ (a < 68 ∨ 72 < a) ∧ (a < 75 ∨ 83 < a ∨ (a ≤ 82 ∧ 18 ≤ k) ∨ (a = 83 ∧ 1000 ≤ k))) : rg pE (j_up M a k v) = rg pE M := rg_up (by unfold pE; simp; omega)
theorem rE_jr {M : JI} {a : Nat} {r : Nat → Int32} (h : a ≠ 66 ∧ (a < 68 ∨ 72 < a) ∧ (a < 75 ∨ 83 < a)) : rg pE (jr M a r) = rg pE M := rg_jr (fun k => by unfold pE; simp; omega)
theorem rD_up {M : JI} {a k : Nat} {v : Int32} (h : a < 137) : rg pD (j_up M a k v) = rg pD M := rg_up (by unfold pD; simp; omega)
theorem rD_jr {M : JI} {a : Nat} {r : Nat → Int32} (h : a < 137) : rg pD (jr M a r) = rg pD M := rg_jr (fun k => by unfold pD; simp; omega)
theorem rP_up {M : JI} {a k : Nat} {v : Int32} (h : a < 96 ∨ 113 < a) : rg pP (j_up M a k v) = rg pP M := rg_up (by unfold pP; simp; omega)
theorem rP_jr {M : JI} {a : Nat} {r : Nat → Int32} (h : a < 96 ∨ 113 < a) : rg pP (jr M a r) = rg pP M := rg_jr (fun k => by unfold pP; simp; omega)
theorem rM_up {M : JI} {a k : Nat} {v : Int32} (h : a < 127 ∨ 135 < a) : rg pM (j_up M a k v) = rg pM M := rg_up (by unfold pM; simp; omega)
theorem rM_jr {M : JI} {a : Nat} {r : Nat → Int32} (h : a < 127 ∨ 135 < a) : rg pM (jr M a r) = rg pM M := rg_jr (fun k => by unfold pM; simp; omega)
theorem rH_up {M : JI} {a k : Nat} {v : Int32} (h : a < 121 ∨ 126 < a) : rg pH (j_up M a k v) = rg pH M := rg_up (by unfold pH; simp; omega)
theorem rH_jr {M : JI} {a : Nat} {r : Nat → Int32} (h : a < 121 ∨ 126 < a) : rg pH (jr M a r) = rg pH M := rg_jr (fun k => by unfold pH; simp; omega)
theorem rL_up {M : JI} {a k : Nat} {v : Int32} (h : (a < 44 ∨ 66 ≤ a) ∧ (a ≠ 66 ∨ (k ≠ 18 ∧ k ≠ 29 ∧ k ≠ 30)) ∧ (a < 75 ∨ 83 < a ∨ (a ≤ 82 ∧ 18 ≤ k) ∨ (a = 83 ∧ 1000 ≤ k))) : rg pL (j_up M a k v) = rg pL M := rg_up (by unfold pL; simp; omega)
theorem rL_jr {M : JI} {a : Nat} {r : Nat → Int32} (h : (a < 44 ∨ 66 < a) ∧ (a < 75 ∨ 83 < a)) : rg pL (jr M a r) = rg pL M := rg_jr (fun k => by unfold pL; simp; omega)
def vTold (t : Int32) (r67 : Nat → Int32) : Prop := (∀ p, p < 12 → r67 p = bI (bt t p)) ∧ ∀ i, 12 ≤ i → bt t i = false
def hN (r : Nat → Int32) (p q : Nat) : Nat := (r (16 * p + q)).toNatClampNeg
/-- the reference's twelfths: small, and twelve in all of what is told -/
def vTw (t : Int32) (r68 : Nat → Int32) : Prop := (∀ p q, p < 12 → q < 16 → r68 (16 * p + q) = nI (hN r68 p q) ∧ hN r68 p q ≤ 12) ∧ ∀ p, p < 12 → fb_sm (hN r68 p) 16 = if bt t p then 12 else 0
/-- the rows of a Holdings hold h, with the sums -/
def vHd (r8 r9 r10 r11 : Nat → Int32) (h : Nat → Nat → Nat) : Prop :=
  (∀ p q, p < 12 → q < 16 → r8 (16 * p + q) = nI (h p q)) ∧
  (∀ p i, p < 12 → bt (r9 p) i = (decide (i < 16) && decide (0 < h p i))) ∧
  (∀ q, q < 16 → r10 q = nI (fb_ct (fun p => decide (0 < h p q)) 12)) ∧
  (∀ q, q < 16 → r11 q = nI (fb_sm (fun p => h p q) 12))
def vSide (r2 r3 r69 : Nat → Int32) : Prop :=
  (∀ p o s, p < 12 → o < 12 → s < 4 → bt (r2 (4 * p + s)) o = bt (r69 (12 * p + o)) s) ∧
  (∀ p o, p < 12 → bt (r3 p) o = (decide (o < 12) && !decide (r69 (12 * p + o) = nI 0))) ∧
  (∀ p o i, p < 12 → o < 12 → 4 ≤ i → bt (r69 (12 * p + o)) i = false)
def vWet (r4 r70 : Nat → Int32) : Prop :=
  (∀ p o, p < 12 → bt (r4 p) o = (decide (o < 12) && decide (r70 (12 * p + o) = nI 1))) ∧
  (∀ p o, p < 12 → o < 12 → r70 (12 * p + o) = nI 0 ∨ r70 (12 * p + o) = nI 1)
def vDeg (r5 r6 r71 : Nat → Int32) : Prop :=
  (∀ a b, a < 16 → b < 16 → r5 (16 * a + b) = r71 (16 * a + b) ∧ r71 (16 * a + b) = r71 (16 * b + a) ∧ ∃ d, d ≤ 3 ∧ r71 (16 * a + b) = nI d) ∧
  (∀ a i, a < 16 → bt (r6 a) i = (decide (i < 16) && !decide (r71 (16 * a + i) = nI 0)))
def vBits (x : Int32) (r : Nat → Int32) : Prop := ∀ q, q < 16 → r q = bI (bt x q)
def vNow (a b : Int32) : Prop := a = b ∧ ∃ d, d ≤ 9999 ∧ a = nI d
def vTape (r13 : Nat → Int32) (len : Int32) (r74 : Nat → Int32) (taped : Int32) : Prop := ∃ m, m ≤ 1000 ∧ len = nI m ∧ taped = nI m ∧ ∀ k, k < m → r13 k = r74 k ∧ ∃ c, r74 k = nI c ∧ (c = 10 ∨ (32 ≤ c ∧ c ≤ 126))
/-- changes are counted; what was found was found by then -/
def vChg (n : Nat) (ch f1 f2 f3 : Int32) : Prop := ∃ c, c ≤ n ∧ ch = nI c ∧ (f1 = -nI 1 ∨ ∃ f, f ≤ c ∧ f1 = nI f) ∧ (f2 = -nI 1 ∨ ∃ f, f ≤ c ∧ f2 = nI f) ∧ (f3 = -nI 1 ∨ ∃ f, f ≤ c ∧ f3 = nI f)
def okR (x : Int32) (b : Nat) : Prop := x = -nI 1 ∨ ∃ r, r < b ∧ x = nI r
/-- one of the people at a passing -/
def vP2 (i q : Nat) (s : Bool) (g : Int32) (B2 B3 B4 B5 : Nat → Int32) (J : JI) : Prop :=
  J 109 i = B2 q ∧ okR (J 109 i) 18 ∧ J 112 i = B5 q ∧ okR (J 112 i) 10000 ∧ J 113 i = bI (bt (B5 16) q) ∧
  (J 109 i ≠ -nI 1 → (∃ w, w ≤ 999 ∧ J 110 i = nI w ∧ B3 q = nI w) ∧ ∃ w, 1 ≤ w ∧ w ≤ 144 ∧ J 111 i = nI w ∧ B4 q = (if s then nI w else nI 1) ∧ g ≠ nI q)
/-- a passing -/
def vP1 (k : Nat) (B0 B1 B2 B3 B4 B5 : Nat → Int32) (J : JI) : Prop :=
  (∃ p, p < 12 ∧ J 96 k = nI p ∧ B1 0 = nI p) ∧ (∃ f, f < 16 ∧ J 97 k = nI f ∧ B1 1 = nI f) ∧ (∃ g, g < 16 ∧ J 98 k = nI g ∧ B1 2 = nI g) ∧ (∃ n, 1 ≤ n ∧ n ≤ 12 ∧ J 99 k = nI n ∧ B1 3 = nI n) ∧ (∃ f, f < 3 ∧ J 100 k = nI f ∧ B1 4 = nI f) ∧ (∃ x, x ≤ 9999 ∧ J 101 k = nI x ∧ B1 5 = nI x) ∧ (∃ x, x ≤ 9999 ∧ J 102 k = nI x ∧ B5 18 = nI x) ∧ (∃ d, d ≤ 9999 ∧ J 103 k = nI d ∧ B0 5 = nI d) ∧ (∃ b, J 104 k = bI b ∧ jm_b01 (B0 6) = bI b) ∧ (J 105 k = B0 7 ∧ okR (J 105 k) 18) ∧ (J 106 k = B5 17 ∧ okR (J 106 k) 16) ∧ (∃ b, J 107 k = bI b ∧ jm_b01 (B0 8) = bI b) ∧ ∃ s, J 108 k = bI s ∧ ∀ q, q < 16 → vP2 (16 * k + q) q s (J 98 k) B2 B3 B4 B5 J
def vPs (c0 c66 : Int32) (J B : JI) (D42 : Nat → Option Nat) : Prop := ∃ m, m ≤ 40 ∧ c0 = nI m ∧ c66 = nI m ∧ ∀ k, k < m → ∃ b, D42 k = some b ∧ 137 ≤ b ∧ vP1 k (B b) (B (b + 1)) (B (b + 2)) (B (b + 3)) (B (b + 4)) (B (b + 5)) J
def vH1 (t : Int32) (i : Nat) (B0 : Nat → Int32) (J : JI) : Prop :=
  (∃ p, p < 12 ∧ J 121 i = nI p ∧ B0 0 = nI p ∧ bt t p = true) ∧ (∃ f g, f < 16 ∧ g < 16 ∧ f ≠ g ∧ J 122 i = nI f ∧ B0 1 = nI f ∧ J 123 i = nI g ∧ B0 2 = nI g) ∧ (∃ n, 1 ≤ n ∧ n ≤ 12 ∧ J 124 i = nI n ∧ B0 3 = nI n) ∧ (∃ f, f < 3 ∧ J 125 i = nI f ∧ B0 4 = nI f ∧ ∃ x, x ≤ 9999 ∧ J 126 i = nI x ∧ B0 5 = nI x ∧ B0 6 = nI x ∧ (f = 1 → x = 0))
def vHo (t c30 c66 : Int32) (J B : JI) (D31 : Nat → Option Nat) : Prop := ∃ m, m ≤ 6 ∧ c30 = nI m ∧ c66 = nI m ∧ ∀ i, i < m → ∃ b, D31 i = some b ∧ 137 ≤ b ∧ vH1 t i (B b) J
/-- what lies on a mark -/
def vM1 (m pm : Nat) (B0 B2 B3 B4 B5 B6 : Nat → Int32) (J : JI) : Prop :=
  (∀ p, p < 12 → J 128 (12 * m + p) = bI (bt (B0 3) p)) ∧
  (∃ h : Nat → Nat → Nat, vHd B2 B3 B4 B5 h ∧ (∀ p q, p < 12 → q < 16 → J 129 (192 * m + (16 * p + q)) = nI (h p q) ∧ h p q ≤ 12) ∧ ∀ p, p < 12 → fb_sm (h p) 16 = if bt (B0 3) p then 12 else 0) ∧
  (∃ d, d ≤ 9999 ∧ J 130 m = nI d ∧ B0 4 = nI d) ∧ J 131 m = nI pm ∧ B0 5 = nI pm ∧
  ∀ k, k < pm → (∀ q, q < 16 → J 132 (640 * m + (16 * k + q)) = B6 (19 * k + q) ∧ okR (B6 (19 * k + q)) 10000 ∧ J 133 (640 * m + (16 * k + q)) = bI (bt (B6 (19 * k + 16)) q)) ∧ J 134 (40 * m + k) = B6 (19 * k + 17) ∧ okR (B6 (19 * k + 17)) 16 ∧ ∃ x, x ≤ 9999 ∧ J 135 (40 * m + k) = nI x ∧ B6 (19 * k + 18) = nI x
def vMk (n : Nat) (c0 c66 cP t : Int32) (J B : JI) (D43 : Nat → Option Nat) : Prop := ∃ l, l ≤ n ∧ c0 = nI l ∧ c66 = nI l ∧ ∃ cP', cP' ≤ 40 ∧ cP = nI cP' ∧ ∃ ld pm : Nat → Nat, (∀ m, m < 4 → J 127 m = nI (ld m) ∧ ld m ≤ l ∧ (D43 m = none → ld m = 0) ∧ ∀ b, D43 m = some b → 137 ≤ b ∧ B b 2 = nI (ld m) ∧ (ld m ≠ 0 → pm m ≤ cP' ∧ (∀ p, p < 12 → bt (B b 3) p = true → bt t p = true) ∧ vM1 m (pm m) (B b) (B (b + 2)) (B (b + 3)) (B (b + 4)) (B (b + 5)) (B (b + 6)) J)) ∧ ∀ m m', m < 4 → m' < 4 → ld m ≠ 0 → ld m ≤ ld m' → pm m ≤ pm m'
/-- the slots of what is made: 40 passings, 4 marks, 6 honest ones -/
def slA (D42 D43 D31 : Nat → Option Nat) (s : Nat) : Option Nat := if s < 40 then D42 s else if s < 44 then D43 (s - 40) else D31 (s - 44)
def slN (s : Nat) : Nat := if s < 40 then 6 else if s < 44 then 7 else 1
def slS (s : Nat) : Nat × Nat := if s < 40 then (7, 9) else if s < 44 then (5, 6) else (0, 7)
def vOb (n : Nat) (D42 D43 D31 : Nat → Option Nat) (S : JS) : Prop :=
  (∃ T, S = lay_S ++ (23, 1) :: T) ∧ S.length ≤ 137 + 7 * n ∧ jm_sl S ≤ 100000 + 2000 * n ∧
  (∀ s b, s < 50 → slA D42 D43 D31 s = some b → 137 ≤ b ∧ b + slN s ≤ S.length ∧ S[b]? = some (slS s)) ∧
  ∀ s s' b b', s < 50 → s' < 50 → s ≠ s' → slA D42 D43 D31 s = some b → slA D42 D43 D31 s' = some b' → b + slN s ≤ b' ∨ b' + slN s' ≤ b
/-- what a line's condition is worth, by both codes -/
def lwE (X : Nat) (M : JI) (i : Nat) (E : (Nat → Int32) → Int32) : Prop :=
  (∀ (N : JI) (D : JG) (S : JS), N (X + 10) = M (X + 10) → D 15 5 = some X → S[X]? = some (4, 17) → ∃ r, fX3_value (M (X + 7) i) (M (X + 8) i) N D S = some (E (N 16), jr N 17 r)) ∧
  (∀ N : JI, N 81 i = M 81 i → N 82 i = M 82 i → (∀ k, k < 1000 → N 83 k = M 83 k) → ∃ N', fX12_worth (nI i) N = some (E (fun k => N 95 (k + 1)), N') ∧ ∀ a, (a < 86 ∨ 94 < a) → N' a = N a) ∧
  (∀ f g : Nat → Int32, (∀ k, k < 14 → f k = g k) → E f = E g) ∧
  (jm_b01 (M (X + 9) i) = nI 0 → ∀ f g : Nat → Int32, (∀ k, k < 9 ∨ k = 13 → f k = g k) → E f = E g)
def lwMb (M : JI) (i : Nat) : Bool := decide (M 76 i = nI 1)
def lwFf (M : JI) (i : Nat) : Bool := decide (M 75 i = nI 0) && !lwMb M i
/-- a line of the law in force -/
def lwL (X : Nat) (M : JI) (l : Nat → Int64) (i : Nat) : Prop :=
  (M 75 i = nI 0 ∨ M 75 i = nI 1) ∧ (M 76 i = nI 0 ∨ M 76 i = nI 1) ∧ jm_b01 (M (X + 1) i) = bI (decide (M 75 i = nI 0)) ∧
  l i = (if lwMb M i then jm_sets (fb_ct (lwMb M) i) else -1) ∧
  M (X + 3) i = (if lwFf M i then nI (fb_ct (lwFf M) i) else -nI 1) ∧
  (M 75 i = nI 0 → (∃ w, w < 4 ∧ M 77 i = nI w ∧ M (X + 4) i = nI w) ∧ M (X + 5) i = M 78 i ∧ ∃ d, d ≤ 999 ∧ M 79 i = nI d ∧ M (X + 6) i = nI d) ∧
  ((M 80 i = nI 0 ∧ M (X + 7) i = M (X + 8) i) ∨ (M 80 i = nI 1 ∧ M (X + 7) i ≠ M (X + 8) i ∧ ∃ E, lwE X M i E))
def lwOK (X : Nat) (M : JI) (l : Nat → Int64) : Prop := ∃ ln, ln ≤ 18 ∧ M 66 18 = nI ln ∧ M X 11 = nI ln ∧ fb_ct (lwMb M) ln ≤ 6 ∧ ln - fb_ct (lwMb M) ln ≤ 12 ∧ M X 14 = nI (fb_ct (lwMb M) ln) ∧ M X 12 = nI (ln - fb_ct (lwMb M) ln) ∧ (∃ b, jm_b01 (M X 15) = bI b ∧ M 66 29 = bI b) ∧ (∃ b, jm_b01 (M X 16) = bI b ∧ M 66 30 = bI b) ∧ ∀ i, i < ln → lwL X M l i
/-- what the reference changes in its searches -/
def xSm (N N' : JI) : Prop := (∀ a, (a < 86 ∨ (95 < a ∧ a < 114) ∨ 120 < a) → a ≠ 66 → N' a = N a) ∧ ∀ k, (k < 46 ∨ (51 < k ∧ k < 76) ∨ 78 < k) → N' 66 k = N 66 k
/-- what was found of a row is what the reference finds -/
def cSly (r20 r28 r29 : Nat → Int32) (e : JI) : Prop := ∀ N : JI, rg pE N = e → N 66 50 = nI 0 → ∃ N', fX12_seeks (r20 9) (r20 11) (r20 12) (r20 13) N = some (r20 18, N') ∧ xSm N N' ∧ ∀ i w : Nat, w ≤ 2 → nI i < r20 18 → i < 2 ^ 31 → ∃ v, (∀ I : JI, I 20 = r20 → I 28 = r28 → I 29 = r29 → fX10_stepTells ((r20 18 - (1 : Int32)) - nI i) (nI w) I = some v) ∧ fX12_slyRow_71 100000 (r20 9) (nI i) (nI w) (N' 66 76) (r20 18 - (1 : Int32)) N' = some (v, N')
def cMend (r30 : Nat → Int32) (e J : JI) (c : Int32) : Prop := ∀ N : JI, rg pE N = e → rg pH N = J → N 66 81 = c → ∃ q N' v0, fX12_maybes N = some q ∧ xSm N N' ∧ (r30 11 = -nI 1 → v0 = -nI 1) ∧ (r30 11 ≠ -nI 1 → fJ6_bitCount_0f7a4 (r30 11) = some v0) ∧ ∀ l5 : Int32, fX12_mended_40 100000 (r30 7) (r30 8) (r30 9) (r30 10) l5 ((1 : Int32) <<< (q &&& 31)) (0 : Int32) N = some (if l5 = 0 then v0 else r30 11, N')
def cFar (r33 : Nat → Int32) (e : JI) (r73 r67 : Nat → Int32) : Prop := ∀ N : JI, rg pE N = e → N 73 = r73 → N 67 = r67 → ∃ N' c0 c1, fX12_goesFar (r33 11) (r33 12) (r33 13) N = some (r33 10, N') ∧ xSm N N' ∧ fX12_bits (r33 10) = some c1 ∧ fJ6_bitCount_0f7a4 (r33 10) = some c1 ∧ (∀ l4 : Int32, fX12_far_69 100000 (r33 11) l4 (r33 10) (0 : Int32) N' = fX12_far_102 l4 (r33 8 ||| r33 10) N') ∧ fX12_bits (r33 8 ||| r33 10) = some c0 ∧ fJ6_bitCount_0f7a4 (r33 8 ||| r33 10) = some c0
def vLaw (M : JI) (l46 l57 : Nat → Int64) (d10 d11 d5 : Option Nat) : Prop := ∃ X Y, d10 = some X ∧ d11 = some Y ∧ d5 = some X ∧ ((X = 44 ∧ Y = 55) ∨ (X = 55 ∧ Y = 44)) ∧ lwOK X M (if X = 44 then l46 else l57)
def vC1 (r20 r28 r29 : Nat → Int32) (ch : Int32) (e : JI) : Prop := r20 19 = ch → cSly r20 r28 r29 e
def vC2 (r30 : Nat → Int32) (ch : Int32) (e J : JI) (c : Int32) : Prop := r30 12 = ch → cMend r30 e J c
def vC3 (r33 : Nat → Int32) (ch : Int32) (e : JI) (r73 r67 : Nat → Int32) : Prop := r33 14 = ch → cFar r33 e r73 r67
def Inv (n : Nat) (M : JI) (L : JL) (D : JG) (S : JS) : Prop :=
  vTold (M 1 5) (M 67) ∧ vTw (M 1 5) (M 68) ∧ vHd (M 8) (M 9) (M 10) (M 11) (hN (M 68)) ∧ vSide (M 2) (M 3) (M 69) ∧ vWet (M 4) (M 70) ∧ vDeg (M 5) (M 6) (M 71) ∧ vBits (M 1 6) (M 72) ∧ vBits (M 1 7) (M 73) ∧ vNow (M 1 8) (M 66 8) ∧ vTape (M 13) (M 12 1) (M 74) (M 66 9) ∧ vChg n (M 1 9) (M 20 19) (M 30 12) (M 33 14) ∧ vLaw (rg pL M) (L 46) (L 57) (D 0 10) (D 0 11) (D 15 5) ∧ vPs (M 0 12) (M 66 52) (rg pP M) (rg pD M) (D 42) ∧ vHo (M 1 5) (M 30 6) (M 66 81) (rg pH M) (rg pD M) (D 31) ∧ vMk n (M 0 13) (M 66 88) (M 0 12) (M 1 5) (rg pM M) (rg pD M) (D 43) ∧ vOb n (D 42) (D 43) (D 31) S ∧ vC1 (M 20) (M 28) (M 29) (M 1 9) (rg pE M) ∧ vC2 (M 30) (M 1 9) (rg pE M) (rg pH M) (M 66 81) ∧ vC3 (M 33) (M 1 9) (rg pE M) (M 73) (M 67)
theorem vMk_n {n : Nat} {c0 c66 cP t : Int32} {J B : JI} {D43 : Nat → Option Nat} (h : vMk n c0 c66 cP t J B D43) : vMk (n + 1) c0 c66 cP t J B D43 := by
  obtain ⟨l, hl, h⟩ := h
  exact ⟨l, by omega, h⟩
theorem vOb_n {n : Nat} {D42 D43 D31 : Nat → Option Nat} {S : JS} (h : vOb n D42 D43 D31 S) : vOb (n + 1) D42 D43 D31 S := by
  obtain ⟨h1, h2, h3, h4⟩ := h
  exact ⟨h1, by omega, by omega, h4⟩
theorem ch_ne {c : Nat} {f : Int32} (hc : c < 5000) (h : f = -nI 1 ∨ ∃ f', f' ≤ c ∧ f = nI f') : f ≠ nI c + nI 1 := by
  rw [nI_add]
  rcases h with h | ⟨f', hf, h⟩
  · rw [h]
    intro e
    rw [nm_ne2 (by omega)] at e
    exact e
  · rw [h]
    intro e
    rw [nI_eq (by omega) (by omega)] at e
    omega
theorem vC1_vac {n : Nat} {ch f2 f3 : Int32} {r20 r28 r29 : Nat → Int32} {e : JI} (h : vChg n ch (r20 19) f2 f3) (hn : n < 4096) : vC1 r20 r28 r29 (ch + nI 1) e := by
  obtain ⟨c, hc, e, h1, h2, h3⟩ := h
  intro hh
  rw [e] at hh
  exact absurd hh (ch_ne (by omega) h1)
theorem vC2_vac {n : Nat} {ch f1 f3 : Int32} {r30 : Nat → Int32} {e J : JI} {c : Int32} (h : vChg n ch f1 (r30 12) f3) (hn : n < 4096) : vC2 r30 (ch + nI 1) e J c := by
  obtain ⟨c, hc, e, h1, h2, h3⟩ := h
  intro hh
  rw [e] at hh
  exact absurd hh (ch_ne (by omega) h2)
theorem vC3_vac {n : Nat} {ch f1 f2 : Int32} {r33 r73 r67 : Nat → Int32} {e : JI} (h : vChg n ch f1 f2 (r33 14)) (hn : n < 4096) : vC3 r33 (ch + nI 1) e r73 r67 := by
  obtain ⟨c, hc, e, h1, h2, h3⟩ := h
  intro hh
  rw [e] at hh
  exact absurd hh (ch_ne (by omega) h3)
theorem vChg_up {n : Nat} {ch f1 f2 f3 : Int32} (h : vChg n ch f1 f2 f3) (hn : n < 4096) : vChg (n + 1) (ch + nI 1) f1 f2 f3 := by
  obtain ⟨c, hc, e, h1, h2, h3⟩ := h
  refine ⟨c + 1, by omega, by rw [e, nI_add], ?_, ?_, ?_⟩
  · rcases h1 with h | ⟨f, hf, h⟩
    · exact Or.inl h
    · exact Or.inr ⟨f, by omega, h⟩
  · rcases h2 with h | ⟨f, hf, h⟩
    · exact Or.inl h
    · exact Or.inr ⟨f, by omega, h⟩
  · rcases h3 with h | ⟨f, hf, h⟩
    · exact Or.inl h
    · exact Or.inr ⟨f, by omega, h⟩
theorem vChg_n {n : Nat} {ch f1 f2 f3 : Int32} (h : vChg n ch f1 f2 f3) : vChg (n + 1) ch f1 f2 f3 := by
  obtain ⟨c, hc, h⟩ := h
  exact ⟨c, by omega, h⟩
/-! who is one of the people -/
theorem ps_no {x : Int32} (h : x < nI 0 ∨ nI 16 ≤ x) : fX11_isPerson x = some (nI 0) ∧ fX12_isPerson x = some (nI 0) := by
  unfold fX11_isPerson fX12_isPerson
  rcases h with h | h
  · have h' : x < 0 := h
    rw [if_pos h']; exact ⟨rfl, rfl⟩
  · have h' : (16 : Int32) ≤ x := h
    have h0 : ¬ x < 0 := ix_nlt h (by omega) (k := 0) (by omega)
    rw [if_neg h0, if_pos h']; exact ⟨rfl, rfl⟩
theorem ps_yes {q : Nat} (h : q < 16) : fX11_isPerson (nI q) = some (nI 1) ∧ fX12_isPerson (nI q) = some (nI 1) := by
  unfold fX11_isPerson fX12_isPerson
  have h0 : ¬ nI q < 0 := nI_pos (by omega)
  have h1 : ¬ (16 : Int32) ≤ nI q := nI_ge (b := 16) h (by omega)
  rw [if_neg h0, if_neg h1]; exact ⟨rfl, rfl⟩
theorem ps_cases (x : Int32) : (fX11_isPerson x = some (nI 0) ∧ fX12_isPerson x = some (nI 0)) ∨ ∃ q, q < 16 ∧ x = nI q ∧ fX11_isPerson x = some (nI 1) ∧ fX12_isPerson x = some (nI 1) := by
  rcases ix_cases x 16 (by omega) with h | h | ⟨q, hq, rfl⟩
  · exact Or.inl (ps_no (Or.inl h))
  · exact Or.inl (ps_no (Or.inr h))
  · exact Or.inr ⟨q, hq, rfl, ps_yes hq⟩
/-! what is told -/
theorem tl_cases {M : JI} {t : Int32} {r : Nat → Int32} (h : vTold t r) (h1 : M 1 5 = t) (h2 : M 67 = r) (x : Int32) : (fX9_isTold x M = some (nI 0) ∧ fX12_isParcel x M = some (nI 0) ∧ ¬ ∃ p, p < 12 ∧ x = nI p ∧ bt t p = true) ∨ ∃ p, p < 12 ∧ x = nI p ∧ bt t p = true ∧ fX9_isTold x M = some (nI 1) ∧ fX12_isParcel x M = some (nI 1) := by
  unfold fX9_isTold fX12_isParcel fX12_within
  rcases ix_cases x 12 (by omega) with hx | hx | ⟨p, hp, rfl⟩
  · refine Or.inl ⟨?_, ?_, ?_⟩
    · have h' : x < 0 := hx
      rw [if_pos h']; rfl
    · have h' : x < 0 := hx
      rw [if_pos h']; rfl
    · rintro ⟨p, hp, rfl, -⟩
      exact nI_pos (by omega) hx
  · have h0 : ¬ x < 0 := ix_nlt hx (by omega) (k := 0) (by omega)
    have h12 : (12 : Int32) ≤ x := hx
    have h11 : (11 : Int32) < x := ix_lt hx (by omega) (k := 11) (by omega)
    refine Or.inl ⟨?_, ?_, ?_⟩
    · rw [if_neg h0, if_pos h12]; rfl
    · rw [if_neg h0, if_pos h11]; rfl
    · rintro ⟨p, hp, rfl, -⟩
      exact nI_ge (b := 12) hp (by omega) hx
  · have hb : bt (M 1 5) p = true ∨ bt (M 1 5) p = false := by cases bt (M 1 5) p <;> simp
    have hr : M 67 p = bI (bt (M 1 5) p) := by rw [h2, h1]; exact h.1 p hp
    rcases hb with hb | hb
    · refine Or.inr ⟨p, hp, rfl, by rw [← h1]; exact hb, ?_, ?_⟩
      · simp (disch := omega) only [li_0, li_1, li_2, li_3, li_4, li_5, li_6, li_7, li_8, li_9, li_10, li_11, li_12, li_13, li_14, li_15, li_16, li_17, li_18, li_19, li_20, li_21, li_22, li_23, li_24, li_25, li_26, li_27, li_28, li_29, li_30, li_31, li_32, li_33, li_34, li_35, li_36, li_37, li_38, li_39, li_40, li_41, li_42, li_43, li_44, li_45, li_46, li_47, li_48, li_49, li_50, li_51, li_52, li_53, li_54, li_55, li_56, li_57, li_58, li_59, li_60, li_61, li_62, li_63, li_64, li_65, li_96, li_97, li_100, li_122, li_126, li_128, li_144, li_160, li_169, li_192, li_255, li_256, li_640, li_760, li_768, li_800, li_999, li_1000, li_1024, li_2000, li_2560, li_4095, li_4096, li_9999, li_10000, li_20000, li_20030, li_65535, nI_add, pk_mul, nI_clamp, ni_leT, ni_leF, ni_ltT, ni_ltF, ni_eqF, nm_ne, nm_ne2, nm_lt, nm_le, nm_nle, nm_nlt, jg_in, jg_t, ju_same, ju_cell, ju_row, ju_cell2, jo_s, jo_n, Option.bind_some, if_true, if_false, eq_self, ite_true, ite_false, not_true_eq_false, not_false_eq_true, reduceIte, and_true, true_and, and_false, false_and, or_true, true_or, or_false, false_or, bt_test, hb, bI_t, bI_f, b01_0, b01_1, Bool.true_eq_false, Nat.not_lt_zero, Nat.reduceEqDiff]
      · simp (disch := omega) only [li_0, li_1, li_2, li_3, li_4, li_5, li_6, li_7, li_8, li_9, li_10, li_11, li_12, li_13, li_14, li_15, li_16, li_17, li_18, li_19, li_20, li_21, li_22, li_23, li_24, li_25, li_26, li_27, li_28, li_29, li_30, li_31, li_32, li_33, li_34, li_35, li_36, li_37, li_38, li_39, li_40, li_41, li_42, li_43, li_44, li_45, li_46, li_47, li_48, li_49, li_50, li_51, li_52, li_53, li_54, li_55, li_56, li_57, li_58, li_59, li_60, li_61, li_62, li_63, li_64, li_65, li_96, li_97, li_100, li_122, li_126, li_128, li_144, li_160, li_169, li_192, li_255, li_256, li_640, li_760, li_768, li_800, li_999, li_1000, li_1024, li_2000, li_2560, li_4095, li_4096, li_9999, li_10000, li_20000, li_20030, li_65535, nI_add, pk_mul, nI_clamp, ni_leT, ni_leF, ni_ltT, ni_ltF, ni_eqF, nm_ne, nm_ne2, nm_lt, nm_le, nm_nle, nm_nlt, jg_in, jg_t, ju_same, ju_cell, ju_row, ju_cell2, jo_s, jo_n, Option.bind_some, if_true, if_false, eq_self, ite_true, ite_false, not_true_eq_false, not_false_eq_true, reduceIte, and_true, true_and, and_false, false_and, or_true, true_or, or_false, false_or, hr, hb, bI_t, bI_f, b01_0, b01_1, Nat.not_lt_zero, Nat.reduceEqDiff]
    · refine Or.inl ⟨?_, ?_, ?_⟩
      · simp (disch := omega) only [li_0, li_1, li_2, li_3, li_4, li_5, li_6, li_7, li_8, li_9, li_10, li_11, li_12, li_13, li_14, li_15, li_16, li_17, li_18, li_19, li_20, li_21, li_22, li_23, li_24, li_25, li_26, li_27, li_28, li_29, li_30, li_31, li_32, li_33, li_34, li_35, li_36, li_37, li_38, li_39, li_40, li_41, li_42, li_43, li_44, li_45, li_46, li_47, li_48, li_49, li_50, li_51, li_52, li_53, li_54, li_55, li_56, li_57, li_58, li_59, li_60, li_61, li_62, li_63, li_64, li_65, li_96, li_97, li_100, li_122, li_126, li_128, li_144, li_160, li_169, li_192, li_255, li_256, li_640, li_760, li_768, li_800, li_999, li_1000, li_1024, li_2000, li_2560, li_4095, li_4096, li_9999, li_10000, li_20000, li_20030, li_65535, nI_add, pk_mul, nI_clamp, ni_leT, ni_leF, ni_ltT, ni_ltF, ni_eqF, nm_ne, nm_ne2, nm_lt, nm_le, nm_nle, nm_nlt, jg_in, jg_t, ju_same, ju_cell, ju_row, ju_cell2, jo_s, jo_n, Option.bind_some, if_true, if_false, eq_self, ite_true, ite_false, not_true_eq_false, not_false_eq_true, reduceIte, and_true, true_and, and_false, false_and, or_true, true_or, or_false, false_or, bt_test, hb, bI_t, bI_f, b01_0, b01_1, Nat.not_lt_zero, Nat.reduceEqDiff]
      · simp (disch := omega) only [li_0, li_1, li_2, li_3, li_4, li_5, li_6, li_7, li_8, li_9, li_10, li_11, li_12, li_13, li_14, li_15, li_16, li_17, li_18, li_19, li_20, li_21, li_22, li_23, li_24, li_25, li_26, li_27, li_28, li_29, li_30, li_31, li_32, li_33, li_34, li_35, li_36, li_37, li_38, li_39, li_40, li_41, li_42, li_43, li_44, li_45, li_46, li_47, li_48, li_49, li_50, li_51, li_52, li_53, li_54, li_55, li_56, li_57, li_58, li_59, li_60, li_61, li_62, li_63, li_64, li_65, li_96, li_97, li_100, li_122, li_126, li_128, li_144, li_160, li_169, li_192, li_255, li_256, li_640, li_760, li_768, li_800, li_999, li_1000, li_1024, li_2000, li_2560, li_4095, li_4096, li_9999, li_10000, li_20000, li_20030, li_65535, nI_add, pk_mul, nI_clamp, ni_leT, ni_leF, ni_ltT, ni_ltF, ni_eqF, nm_ne, nm_ne2, nm_lt, nm_le, nm_nle, nm_nlt, jg_in, jg_t, ju_same, ju_cell, ju_row, ju_cell2, jo_s, jo_n, Option.bind_some, if_true, if_false, eq_self, ite_true, ite_false, not_true_eq_false, not_false_eq_true, reduceIte, and_true, true_and, and_false, false_and, or_true, true_or, or_false, false_or, hr, hb, bI_t, bI_f, b01_0, b01_1, Nat.not_lt_zero, Nat.reduceEqDiff]
      · rintro ⟨p', hp', e, hb'⟩
        rw [nI_eq (by omega) (by omega)] at e
        subst e
        rw [← h1, hb] at hb'
        exact absurd hb' (by simp)
