/-! LEVEL 2, the state that class and reference both hold: tape, fault, now (blade, hand, book, shelf, sentence), images, what was told. -/
noncomputable section SGSt
/-- blade, hand, book, shelf, sentence -/
abbrev sp_N : Type := sg_M × (List Int × List Int) × (List Int × List Int) × (Int → Option sg_M) × Option ((Int → Int) → Bool)
def nB (N : sp_N) : sg_M := N.1
def nHa (N : sp_N) : List Int := N.2.1.1
def nHb (N : sp_N) : List Int := N.2.1.2
def nKa (N : sp_N) : List Int := N.2.2.1.1
def nKb (N : sp_N) : List Int := N.2.2.1.2
def nS (N : sp_N) : Int → Option sg_M := N.2.2.2.1
def nC (N : sp_N) : Option ((Int → Int) → Bool) := N.2.2.2.2
/-- tape, fault, now, images, the five of run, strengths, worth, range of the form, found, steps, bends of the song -/
abbrev sp_Z : Type := List Int × Int × sp_N × (Int → Option sp_N) × (Int → Int) × List Int × Int × Int × List Int × List Int × List Int
def zT (z : sp_Z) : List Int := z.1
def zF (z : sp_Z) : Int := z.2.1
def zN (z : sp_Z) : sp_N := z.2.2.1
def zI (z : sp_Z) : Int → Option sp_N := z.2.2.2.1
def zL (z : sp_Z) : Int → Int := z.2.2.2.2.1
def zG (z : sp_Z) : List Int := z.2.2.2.2.2.1
def zW (z : sp_Z) : Int := z.2.2.2.2.2.2.1
def zR (z : sp_Z) : Int := z.2.2.2.2.2.2.2.1
def zD (z : sp_Z) : List Int := z.2.2.2.2.2.2.2.2.1
def zE (z : sp_Z) : List Int := z.2.2.2.2.2.2.2.2.2.1
def zU (z : sp_Z) : List Int := z.2.2.2.2.2.2.2.2.2.2
def sp_bd (l : List Int) : Prop := ∀ x, x ∈ l → -9999 ≤ x ∧ x ≤ 9999
def sp_wN (N : sp_N) : Prop := sp_ok (nB N) ∧ (nHa N).length = (nHb N).length ∧ (nHa N).length ≤ 200 ∧ sp_bd (nHa N) ∧ sp_bd (nHb N) ∧ (nKa N).length = (nKb N).length ∧ (nKa N).length ≤ 40 ∧ sp_bd (nKa N) ∧ sp_bd (nKb N) ∧
  ∀ k B, nS N k = some B → sp_ok B
def sp_wZ (z : sp_Z) : Prop := (zT z).length ≤ 540 ∧ (∀ x, x ∈ zT z → 0 ≤ x ∧ x ≤ 255) ∧ sp_wN (zN z) ∧ (∀ k M, zI z k = some M → sp_wN M) ∧ (zG z).length ≤ 60 ∧ (zD z).length ≤ 40 ∧ (zE z).length ≤ 21 ∧ (zU z).length ≤ 60
/-! the class -/
/-- cells r .. r + w - 1 are those of something that was read, and stays: the one c that stood at first, or a later one, outside the images -/
def sp_rg (La : sg_L) (s : sg_M) (r c w : Int) (kd : Nat) : Prop := La.2.1 r.toNat = kd ∧ (r = c ∨ (89 ≤ r ∧ r + w ≤ La.1 ∧ ∀ k, 0 ≤ k → k < 2 → 0 ≤ s 26 k → r + w ≤ s 26 k ∨ s 26 k + 7 ≤ r))
def sp_cBl (La : sg_L) (s : sg_M) (r : Int) (B : sg_M) : Prop := sp_rg La s r 5 5 1 ∧ sp_cB s r B
def sp_cH (La : sg_L) (s : sg_M) (r : Int) (A D : List Int) : Prop := sp_rg La s r 10 3 3 ∧ s r 2 = A.length ∧ sg_ar (s (r + 1)) 0 A ∧ sg_ar (s (r + 2)) 0 D
/-- the steps of a sentence on a stack of truths; [] if the stack is too short -/
def sp_rn (e : Int → Int) (cm : Int → Int → Int → Bool) : List (Int × Int × Int) → List Bool → List Bool
  | [], st => st
  | (k, g, n) :: l, st => if k = 9 then (match st with | b :: r => sp_rn e cm l ((!b) :: r) | _ => []) else if k = 10 then (match st with | b :: a :: r => sp_rn e cm l ((a && b) :: r) | _ => [])
    else if k = 11 then (match st with | b :: a :: r => sp_rn e cm l ((a || b) :: r) | _ => []) else if k = 6 then sp_rn e cm l (decide (0 < e 0) :: st) else if k = 7 then sp_rn e cm l (decide (e 6 ≠ 0) :: st) else if k = 8 then sp_rn e cm l (decide (e 7 ≠ 0) :: st) else sp_rn e cm l (cm g (e k) n :: st)
/-- less, more, or as much -/
def sp_cm (g v n : Int) : Bool := if g = 60 then decide (v < n) else if g = 62 then decide (n < v) else decide (v = n)
/-- how many steps put a truth on the stack -/
def sp_lf : List Int → Nat
  | [] => 0
  | k :: l => if k < 9 then sp_lf l + 1 else sp_lf l
def sp_3 (K G M : List Int) : List (Int × Int × Int) := List.zipWith (fun k p => (k, p)) K (List.zipWith (fun g n => (g, n)) G M)
def sp_cS (La : sg_L) (s : sg_M) (r : Int) (C : Option ((Int → Int) → Bool)) : Prop := sp_rg La s r 13 7 5 ∧ sg_ln La (r + 2) = 40 ∧ sg_ln La (r + 4) = 40 ∧ sg_ln La (r + 6) = 40 ∧
  ((C = none ∧ s r 3 = 0) ∨ (1 ≤ s r 3 ∧ ∃ (S : (Int → Int) → Bool) (K G M : List Int), C = some S ∧ K.length ≤ 40 ∧ G.length = K.length ∧ M.length = K.length ∧ sp_rw s (r + 1) K ∧ sp_rw s (r + 3) G ∧ sp_rw s (r + 5) M ∧
    (∀ x, x ∈ K → 0 ≤ x ∧ x ≤ 11) ∧ sp_lf K ≤ 20 ∧ ∀ e, sp_rn e sp_cm (sp_3 K G M) [] = [S e]))
def sp_cK (La : sg_L) (s : sg_M) (b : Int) (A D : List Int) : Prop := sg_ln La (b + 2) = 40 ∧ sg_ln La (b + 4) = 40 ∧ s b 2 = A.length ∧ sp_rw s (b + 1) A ∧ sp_rw s (b + 3) D
def sp_cF (La : sg_L) (s : sg_M) (h : Int) (S : Int → Option sg_M) : Prop := ∀ k, 0 ≤ k → k < 4 → (S k = none ∧ s h k < 0) ∨ (0 ≤ s h k ∧ ∃ B, S k = some B ∧ sp_cBl La s (s h k) B)
def sp_cN (La : sg_L) (s : sg_M) (o b h : Int) (N : sp_N) : Prop := sp_cBl La s (s o 0) (nB N) ∧ sp_cH La s (s o 1) (nHa N) (nHb N) ∧ sp_cS La s (s o 2) (nC N) ∧ sp_cK La s b (nKa N) (nKb N) ∧ sp_cF La s h (nS N)
def sp_vq (N : sp_N) : List Int := List.zipWith (fun a b => (sp_vo (nB N) a b).1) (nKa N) (nKb N)
def sp_vp (N : sp_N) : List Int := List.zipWith (fun a b => (sp_vo (nB N) a b).2.1) (nKa N) (nKb N)
/-- what a sentence is asked at tick t: 0 tone, 1 place, 2 rings, 3 strain, 4 places, 5 tick, 6 broken, 7 twice -/
def sp_en (B : sg_M) (a b t : Int) : Int → Int := fun k => if k = 0 then (sp_vo B a b).1 else if k = 1 then (sp_vo B a b).2.1 else if k = 2 then (sp_vo B a b).2.2.1 else if k = 3 then sp_ms B a b (B 4 0).toNat else if k = 4 then (sp_P B a b).length
  else if k = 5 then t else if k = 6 then (if sp_bk B a b (B 4 0).toNat ≠ -1 then 1 else 0) else (sp_vo B a b).2.2.2
/-- the true ticks from tick t on -/
def sp_tk (B : sg_M) (S : (Int → Int) → Bool) : List Int → List Int → Int → List Int
  | a :: A, d :: D, t => if S (sp_en B a d t) then t :: sp_tk B S A D (t + 1) else sp_tk B S A D (t + 1)
  | _, _, _ => []
def sp_RC (La : sg_L) (s : sg_M) (z : sp_Z) : Prop :=
  (s 1 1 = (zT z).length ∧ sg_ar (s 2) 0 (zT z)) ∧ s 0 16 = zF z ∧ sp_cN La s 4 20 25 (zN z) ∧
  ((∀ k, 0 ≤ k → k < 2 → (zI z k = none ∧ s 26 k < 0) ∨ (0 ≤ s 26 k ∧ 89 ≤ s 26 k ∧ s 26 k + 7 ≤ La.1 ∧ ∃ M, zI z k = some M ∧ sp_cN La s (s 26 k) (s 26 k + 1) (s 26 k + 6) M)) ∧ (0 ≤ s 26 0 → 0 ≤ s 26 1 → s 26 0 + 7 ≤ s 26 1 ∨ s 26 1 + 7 ≤ s 26 0)) ∧
  ((s 37 1 = 0 ∧ ∀ w, 0 ≤ w → w < 5 → zL z w = -1) ∨ (s 37 1 ≠ 0 ∧ s 37 2 = zL z 0 ∧ s 37 3 = zL z 1 ∧ s 37 5 = zL z 2 ∧ s 37 6 = zL z 3 ∧ s 37 4 = zL z 4 ∧ (zL z 2 = 0 ∨ zL z 2 = 1) ∧ (zL z 3 = 0 ∨ zL z 3 = 1))) ∧
  sp_rw s 38 (zG z) ∧ s 0 17 = zW z ∧ s 0 18 = zR z ∧ sp_rw s 52 (zD z) ∧ sp_rw s 54 (zE z) ∧ sp_rw s 50 (zU z) ∧
  (s 58 2 ≠ 0 → sp_rw s 58 (sp_vq (zN z)) ∧ sp_rw s 60 (sp_vp (zN z))) ∧ (s 62 2 ≠ 0 → ∀ S, nC (zN z) = some S → sp_rw s 62 (sp_tk (nB (zN z)) S (nHa (zN z)) (nHb (zN z)) 1))
/-! the reference -/
def sp_mBl (f : Int → Int) (b : Int) (B : sg_M) : Prop := sp_mB f b B (fun i => f (b + 10 + 4 * i + 1))
/-- the meaning of node k of the sentence in f, with at most so many nodes one in the other -/
def sp_ev (f : Int → Int) : Nat → Int → (Int → Int) → Option Bool
  | 0, _, _ => none
  | d + 1, k, e => if k < 0 ∨ 60 ≤ k then none else if f (1800 + 4 * k) = 1 then (sp_ev f d (f (1800 + 4 * k + 1)) e).map (fun b => !b)
    else if f (1800 + 4 * k) = 2 then (match sp_ev f d (f (1800 + 4 * k + 1)) e with | some true => sp_ev f d (f (1800 + 4 * k + 2)) e | x => x)
    else if f (1800 + 4 * k) = 3 then (match sp_ev f d (f (1800 + 4 * k + 1)) e with | some false => sp_ev f d (f (1800 + 4 * k + 2)) e | x => x)
    else if f (1800 + 4 * k) = 4 then some (decide (0 < e 0)) else if f (1800 + 4 * k) = 5 then some (decide (e 6 ≠ 0)) else if f (1800 + 4 * k) = 6 then some (decide (e 7 ≠ 0))
    else if f (1800 + 4 * k + 1) < 16 ∨ 21 < f (1800 + 4 * k + 1) ∨ f (1800 + 4 * k + 3) < 60 ∨ 62 < f (1800 + 4 * k + 3) then none else some (sp_cm (f (1800 + 4 * k + 3)) (e (f (1800 + 4 * k + 1) - 16)) (f (1800 + 4 * k + 2)))
def sp_mS (f : Int → Int) (C : Option ((Int → Int) → Bool)) : Prop := (C = none ∧ f 1790 = 0) ∨ (f 1790 ≠ 0 ∧ ∃ S, C = some S ∧ ∀ e, sp_ev f 50 (f 1791) e = some (S e))
def sp_mN (f : Int → Int) (N : sp_N) : Prop := sp_mBl f 0 (nB N) ∧ (f 1300 = (nHa N).length ∧ sg_ar (fun i => f (1301 + i)) 0 (nHa N) ∧ sg_ar (fun i => f (1501 + i)) 0 (nHb N)) ∧ sp_mS f (nC N) ∧
  (f 1701 = (nKa N).length ∧ sg_ar (fun i => f (1702 + 2 * i)) 0 (nKa N) ∧ sg_ar (fun i => f (1702 + 2 * i + 1)) 0 (nKb N)) ∧
  ∀ k, 0 ≤ k → k < 4 → (nS N k = none ∧ f (260 + 260 * k) = 0) ∨ ∃ B, nS N k = some B ∧ sp_mBl f (260 + 260 * k) B
/-- what lay makes of the heap -/
def sp_ly (s : sg_M) : sg_M := fun c i => if s 64 20 = 0 then (if c = 64 ∧ i = 20 then 1 else if c = 66 then (if i = 0 then 3 else if i = 1 then 300 else if i = 2 then 2000 else if i = 10 ∨ i = 14 ∨ i = 18 then 30 else if i = 11 ∨ i = 15 ∨ i = 19 then 5 else s c i) else s c i) else s c i
def sp_R0 (m : sg_M) (z : sp_Z) : Prop :=
  (m 64 2 = (zT z).length ∧ sg_ar (m 65) 0 (zT z)) ∧ m 64 10 = zF z ∧ sp_mN (m 66) (zN z) ∧
  (∀ k, 0 ≤ k → k < 2 → (zI z k = none ∧ m 71 k = 0) ∨ (m 71 k ≠ 0 ∧ ∃ M, zI z k = some M ∧ sp_mN (fun i => m 68 (2040 * k + i)) M)) ∧
  (∀ w, 0 ≤ w → w < 5 → m 77 w = zL z w) ∧ (m 64 37 = (zG z).length ∧ sg_ar (m 78) 0 (zG z)) ∧ m 64 38 = zW z ∧ m 64 56 = zR z ∧
  (m 64 52 = (zD z).length ∧ sg_ar (m 84) 0 (zD z)) ∧ (m 64 55 = (zE z).length ∧ sg_ar (m 86) 0 (zE z)) ∧ (m 64 50 = (zU z).length ∧ sg_ar (m 83) 0 (zU z))
def sp_RM (s : sg_M) (z : sp_Z) : Prop := sp_R0 (sp_ly s) z
/-- what the class's calls leave alone, what the reference's do -/
def sp_FM (s s' : sg_M) : Prop := ∀ c i, 64 ≤ c → c ≤ 87 → s' c i = s c i
def sp_FC (s s' : sg_M) : Prop := ∀ c i, (c < 64 ∨ 87 < c) → s' c i = s c i
end SGSt
