/-! L3: what the lines of a county tell -/
def tk0 (W : Cn) (x y : Nat) : Cn := fun a i => if a = 0 ∧ i = 0 then W 0 0 + 1 else if a = 1 ∧ i = W 0 0 then x else if a = 2 ∧ i = W 0 0 then y else W a i
def tk1 (W : Cn) (x y : Nat) : Cn := fun a i => if a = 5 ∧ i = x then y else W a i
def tk2 (W : Cn) (x y : Nat) : Cn := fun a i => if a = 6 ∧ i = y then W 6 y ||| 2 ^ x else if a = 6 ∧ i = x then W 6 x ||| 2 ^ y else W a i
def tk3 (W : Cn) (x y : Nat) : Cn := fun a i => if a = 3 ∧ i = x then W 3 x ||| 2 ^ y else W a i
def tk4 (W : Cn) (x y z : Nat) : Cn := fun a i => if a = 0 ∧ i = 1 then W 0 1 + 1 else if a = 7 ∧ i = W 0 1 then x else if a = 8 ∧ i = W 0 1 then y else if a = 9 ∧ i = W 0 1 then z else W a i
def tkW (W : Cn) (d : Nat × Nat × Nat × Nat) : Cn := if d.1 = 0 then tk0 W d.2.1 d.2.2.1 else if d.1 = 1 then tk1 W d.2.1 d.2.2.1 else if d.1 = 2 then tk2 W d.2.1 d.2.2.1 else if d.1 = 3 then tk3 W d.2.1 d.2.2.1 else tk4 W d.2.1 d.2.2.1 d.2.2.2
def WZ : Cn := fun a _ => if a = 5 then 5 else 0
def WDr (D : Dr) : Nat → Cn
  | 0 => WZ
  | N + 1 => tkW (WDr D N) (D N)
def faA (D : Dr) : Nat → Nat
  | 0 => 0
  | N + 1 => if (D N).1 = 3 ∨ (D N).1 = 4 then max (faA D N) (max ((D N).2.1 + 1) ((D N).2.2.1 + 1)) else faA D N
theorem WDr_cong {D D' : Dr} : ∀ {N : Nat}, (∀ j, j < N → D j = D' j) → WDr D N = WDr D' N
  | 0, _ => rfl
  | N + 1, h => by rw [WDr, WDr, WDr_cong (fun j hj => h j (by omega)), h N (by omega)]
theorem faA_cong {D D' : Dr} : ∀ {N : Nat}, (∀ j, j < N → D j = D' j) → faA D N = faA D' N
  | 0, _ => rfl
  | N + 1, h => by rw [faA, faA, faA_cong (fun j hj => h j (by omega)), h N (by omega)]
theorem WDr_upd (D : Dr) (N : Nat) (v : Nat × Nat × Nat × Nat) : WDr (updR D N v) (N + 1) = tkW (WDr D N) v := by
  rw [WDr, updR_eq, WDr_cong (D' := D) (fun j hj => updR_lt hj)]
theorem faA_upd (D : Dr) (N : Nat) (v : Nat × Nat × Nat × Nat) : faA (updR D N v) (N + 1) = if v.1 = 3 ∨ v.1 = 4 then max (faA D N) (max (v.2.1 + 1) (v.2.2.1 + 1)) else faA D N := by
  rw [faA, updR_eq, faA_cong (D' := D) (fun j hj => updR_lt hj)]
theorem tkW_0 {W : Cn} {d : Nat × Nat × Nat × Nat} (h : d.1 = 0) : tkW W d = tk0 W d.2.1 d.2.2.1 := by unfold tkW; rw [if_pos h]
theorem tkW_1 {W : Cn} {d : Nat × Nat × Nat × Nat} (h : d.1 = 1) : tkW W d = tk1 W d.2.1 d.2.2.1 := by unfold tkW; rw [if_neg (by omega), if_pos h]
theorem tkW_2 {W : Cn} {d : Nat × Nat × Nat × Nat} (h : d.1 = 2) : tkW W d = tk2 W d.2.1 d.2.2.1 := by unfold tkW; rw [if_neg (by omega), if_neg (by omega), if_pos h]
theorem tkW_3 {W : Cn} {d : Nat × Nat × Nat × Nat} (h : d.1 = 3) : tkW W d = tk3 W d.2.1 d.2.2.1 := by unfold tkW; rw [if_neg (by omega), if_neg (by omega), if_neg (by omega), if_pos h]
theorem tkW_4 {W : Cn} {d : Nat × Nat × Nat × Nat} (h : d.1 = 4) : tkW W d = tk4 W d.2.1 d.2.2.1 d.2.2.2 := by unfold tkW; rw [if_neg (by omega), if_neg (by omega), if_neg (by omega), if_neg (by omega)]
theorem k_okD : ∀ k, k < 7 → wN 0 k ≠ 6 → k < 5 := by decide +kernel
theorem WDr_n {D : Dr} : ∀ {N : Nat}, (∀ j, j < N → (D j).1 < 5) → fk (WDr D N) = cnK D 0 N ∧ oa (WDr D N) = cnK D 4 N
  | 0, _ => ⟨rfl, rfl⟩
  | N + 1, h => by
    obtain ⟨a, b⟩ := WDr_n (D := D) (N := N) (fun j hj => h j (by omega))
    have hN := h N (by omega)
    have c0 : cnK D 0 (N + 1) = cnK D 0 N + (if (D N).1 = 0 then 1 else 0) := by unfold cnK; rw [fb_ct_succ]; simp only [decide_eq_true_eq]
    have c4 : cnK D 4 (N + 1) = cnK D 4 N + (if (D N).1 = 4 then 1 else 0) := by unfold cnK; rw [fb_ct_succ]; simp only [decide_eq_true_eq]
    rw [WDr, c0, c4]
    rcases (by omega : (D N).1 = 0 ∨ (D N).1 = 1 ∨ (D N).1 = 2 ∨ (D N).1 = 3 ∨ (D N).1 = 4) with e | e | e | e | e
    · rw [tkW_0 e, if_pos e, if_neg (by omega), ← a, ← b]; exact ⟨rfl, rfl⟩
    · rw [tkW_1 e, if_neg (by omega), if_neg (by omega), ← a, ← b]; exact ⟨rfl, rfl⟩
    · rw [tkW_2 e, if_neg (by omega), if_neg (by omega), ← a, ← b]; exact ⟨rfl, rfl⟩
    · rw [tkW_3 e, if_neg (by omega), if_neg (by omega), ← a, ← b]; exact ⟨rfl, rfl⟩
    · rw [tkW_4 e, if_neg (by omega), if_pos e, ← a, ← b]; exact ⟨rfl, rfl⟩
theorem ite_and_t {c : Prop} [Decidable c] {α : Type} (a b : α) {k : Nat} : (if k = k ∧ c then a else b) = if c then a else b := by
  by_cases h : c
  · rw [if_pos ⟨rfl, h⟩, if_pos h]
  · rw [if_neg (fun q => h q.2), if_neg h]
def M54 (W : Cn) (m : Mm) : Prop := (∀ p, p < 6 → mI m 54 (2 + p) = nI (wl W p)) ∧ (∀ p, p < 6 → mI m 54 (8 + p) = nI (rm W p)) ∧ (∀ p, p < 6 → mI m 54 (14 + p) = nI (lk W p)) ∧ (∀ t, t < 8 → mI m 54 (20 + t) = nI (hd W t)) ∧ (∀ t, t < 8 → mI m 54 (28 + t) = nI (cl W t)) ∧ (∀ k, k < 12 → mI m 54 (36 + 3 * k) = nI (sw W k)) ∧ (∀ k, k < 12 → mI m 54 (36 + 3 * k + 1) = nI (bd W k)) ∧ (∀ k, k < 12 → mI m 54 (36 + 3 * k + 2) = nI (th W k))
theorem M54_a {W : Cn} {m m' : Mm} (h : M54 W m) (e : ∀ j, mI m' 54 j = mI m 54 j) : M54 W m' := by
  unfold M54 at h ⊢
  simp only [e]
  exact h
theorem M54_0 {W : Cn} {m : Mm} (h : M54 W m) (hc : fk W < 6) (x y : Nat) (v : Int32) : M54 (tk0 W x y) (sI (sI (sI m 54 (2 + fk W) (nI x)) 54 (8 + fk W) (nI y)) 54 0 v) := by
  obtain ⟨h1, h2, h3, h4, h5, h6, h7, h8⟩ := h
  refine ⟨fun p hp => ?_, fun p hp => ?_, fun p hp => ?_, fun p hp => ?_, fun p hp => ?_, fun p hp => ?_, fun p hp => ?_, fun p hp => ?_⟩
  · rw [rdI_nj _ _ _ _ (by omega), rdI_nj _ _ _ _ (by omega)]
    by_cases e : p = fk W
    · rw [e, rdI_eq]; show nI x = nI (tk0 W x y 1 (W 0 0)); unfold tk0; rw [if_neg (by omega), if_pos ⟨rfl, rfl⟩]
    · rw [rdI_nj _ _ _ _ (by omega), h1 p hp]; show nI (W 1 p) = nI (tk0 W x y 1 p); unfold tk0; rw [if_neg (by omega), if_neg (fun q => e q.2), if_neg (by omega)]
  · rw [rdI_nj _ _ _ _ (by omega)]
    by_cases e : p = fk W
    · rw [e, rdI_eq]; show nI y = nI (tk0 W x y 2 (W 0 0)); unfold tk0; rw [if_neg (by omega), if_neg (by omega), if_pos ⟨rfl, rfl⟩]
    · rw [rdI_nj _ _ _ _ (by omega), rdI_nj _ _ _ _ (by omega), h2 p hp]; show nI (W 2 p) = nI (tk0 W x y 2 p); unfold tk0; rw [if_neg (by omega), if_neg (by omega), if_neg (fun q => e q.2)]
  · rw [rdI_nj _ _ _ _ (by omega), rdI_nj _ _ _ _ (by omega), rdI_nj _ _ _ _ (by omega)]; exact h3 p hp
  · rw [rdI_nj _ _ _ _ (by omega), rdI_nj _ _ _ _ (by omega), rdI_nj _ _ _ _ (by omega)]; exact h4 p hp
  · rw [rdI_nj _ _ _ _ (by omega), rdI_nj _ _ _ _ (by omega), rdI_nj _ _ _ _ (by omega)]; exact h5 p hp
  · rw [rdI_nj _ _ _ _ (by omega), rdI_nj _ _ _ _ (by omega), rdI_nj _ _ _ _ (by omega)]; exact h6 p hp
  · rw [rdI_nj _ _ _ _ (by omega), rdI_nj _ _ _ _ (by omega), rdI_nj _ _ _ _ (by omega)]; exact h7 p hp
  · rw [rdI_nj _ _ _ _ (by omega), rdI_nj _ _ _ _ (by omega), rdI_nj _ _ _ _ (by omega)]; exact h8 p hp
theorem M54_1 {W : Cn} {m : Mm} (h : M54 W m) {x : Nat} (hx : x < 8) (y : Nat) : M54 (tk1 W x y) (sI m 54 (20 + x) (nI y)) := by
  obtain ⟨h1, h2, h3, h4, h5, h6, h7, h8⟩ := h
  refine ⟨fun p hp => ?_, fun p hp => ?_, fun p hp => ?_, fun p hp => ?_, fun p hp => ?_, fun p hp => ?_, fun p hp => ?_, fun p hp => ?_⟩
  · rw [rdI_nj _ _ _ _ (by omega)]; exact h1 p hp
  · rw [rdI_nj _ _ _ _ (by omega)]; exact h2 p hp
  · rw [rdI_nj _ _ _ _ (by omega)]; exact h3 p hp
  · by_cases e : p = x
    · rw [e, rdI_eq]; show nI y = nI (tk1 W x y 5 x); unfold tk1; rw [if_pos ⟨rfl, rfl⟩]
    · rw [rdI_nj _ _ _ _ (by omega), h4 p hp]; show nI (W 5 p) = nI (tk1 W x y 5 p); unfold tk1; rw [if_neg (fun q => e q.2)]
  · rw [rdI_nj _ _ _ _ (by omega)]; exact h5 p hp
  · rw [rdI_nj _ _ _ _ (by omega)]; exact h6 p hp
  · rw [rdI_nj _ _ _ _ (by omega)]; exact h7 p hp
  · rw [rdI_nj _ _ _ _ (by omega)]; exact h8 p hp
theorem M54_2 {W : Cn} {m : Mm} (h : M54 W m) {x y : Nat} (hx : x < 8) (hy : y < 8) : M54 (tk2 W x y) (sI (sI m 54 (28 + x) (nI (cl W x ||| 2 ^ y))) 54 (28 + y) (nI (cl W y ||| 2 ^ x))) := by
  obtain ⟨h1, h2, h3, h4, h5, h6, h7, h8⟩ := h
  refine ⟨fun p hp => ?_, fun p hp => ?_, fun p hp => ?_, fun p hp => ?_, fun p hp => ?_, fun p hp => ?_, fun p hp => ?_, fun p hp => ?_⟩
  · rw [rdI_nj _ _ _ _ (by omega), rdI_nj _ _ _ _ (by omega)]; exact h1 p hp
  · rw [rdI_nj _ _ _ _ (by omega), rdI_nj _ _ _ _ (by omega)]; exact h2 p hp
  · rw [rdI_nj _ _ _ _ (by omega), rdI_nj _ _ _ _ (by omega)]; exact h3 p hp
  · rw [rdI_nj _ _ _ _ (by omega), rdI_nj _ _ _ _ (by omega)]; exact h4 p hp
  · by_cases e : p = y
    · rw [e, rdI_eq]; show _ = nI (tk2 W x y 6 y); unfold tk2; rw [if_pos ⟨rfl, rfl⟩]
    · rw [rdI_nj _ _ _ _ (by omega)]
      by_cases e2 : p = x
      · rw [e2, rdI_eq]; show _ = nI (tk2 W x y 6 x); unfold tk2; rw [if_neg (fun q => e (e2.trans q.2)), if_pos ⟨rfl, rfl⟩]
      · rw [rdI_nj _ _ _ _ (by omega), h5 p hp]; show nI (W 6 p) = nI (tk2 W x y 6 p); unfold tk2; rw [if_neg (fun q => e q.2), if_neg (fun q => e2 q.2)]
  · rw [rdI_nj _ _ _ _ (by omega), rdI_nj _ _ _ _ (by omega)]; exact h6 p hp
  · rw [rdI_nj _ _ _ _ (by omega), rdI_nj _ _ _ _ (by omega)]; exact h7 p hp
  · rw [rdI_nj _ _ _ _ (by omega), rdI_nj _ _ _ _ (by omega)]; exact h8 p hp
theorem M54_3 {W : Cn} {m : Mm} (h : M54 W m) {x y : Nat} (hx : x < 6) : M54 (tk3 W x y) (sI m 54 (14 + x) (nI (lk W x ||| 2 ^ y))) := by
  obtain ⟨h1, h2, h3, h4, h5, h6, h7, h8⟩ := h
  refine ⟨fun p hp => ?_, fun p hp => ?_, fun p hp => ?_, fun p hp => ?_, fun p hp => ?_, fun p hp => ?_, fun p hp => ?_, fun p hp => ?_⟩
  · rw [rdI_nj _ _ _ _ (by omega)]; exact h1 p hp
  · rw [rdI_nj _ _ _ _ (by omega)]; exact h2 p hp
  · by_cases e : p = x
    · rw [e, rdI_eq]; show _ = nI (tk3 W x y 3 x); unfold tk3; rw [if_pos ⟨rfl, rfl⟩]
    · rw [rdI_nj _ _ _ _ (by omega), h3 p hp]; show nI (W 3 p) = nI (tk3 W x y 3 p); unfold tk3; rw [if_neg (fun q => e q.2)]
  · rw [rdI_nj _ _ _ _ (by omega)]; exact h4 p hp
  · rw [rdI_nj _ _ _ _ (by omega)]; exact h5 p hp
  · rw [rdI_nj _ _ _ _ (by omega)]; exact h6 p hp
  · rw [rdI_nj _ _ _ _ (by omega)]; exact h7 p hp
  · rw [rdI_nj _ _ _ _ (by omega)]; exact h8 p hp
theorem M54_4 {W : Cn} {m : Mm} (h : M54 W m) (hc : oa W < 12) (x y z : Nat) (v : Int32) : M54 (tk4 W x y z) (sI (sI (sI (sI m 54 (36 + 3 * oa W) (nI x)) 54 (36 + 3 * oa W + 1) (nI y)) 54 (36 + 3 * oa W + 2) (nI z)) 54 1 v) := by
  obtain ⟨h1, h2, h3, h4, h5, h6, h7, h8⟩ := h
  refine ⟨fun p hp => ?_, fun p hp => ?_, fun p hp => ?_, fun p hp => ?_, fun p hp => ?_, fun p hp => ?_, fun p hp => ?_, fun p hp => ?_⟩
  · rw [rdI_nj _ _ _ _ (by omega), rdI_nj _ _ _ _ (by omega), rdI_nj _ _ _ _ (by omega), rdI_nj _ _ _ _ (by omega)]; exact h1 p hp
  · rw [rdI_nj _ _ _ _ (by omega), rdI_nj _ _ _ _ (by omega), rdI_nj _ _ _ _ (by omega), rdI_nj _ _ _ _ (by omega)]; exact h2 p hp
  · rw [rdI_nj _ _ _ _ (by omega), rdI_nj _ _ _ _ (by omega), rdI_nj _ _ _ _ (by omega), rdI_nj _ _ _ _ (by omega)]; exact h3 p hp
  · rw [rdI_nj _ _ _ _ (by omega), rdI_nj _ _ _ _ (by omega), rdI_nj _ _ _ _ (by omega), rdI_nj _ _ _ _ (by omega)]; exact h4 p hp
  · rw [rdI_nj _ _ _ _ (by omega), rdI_nj _ _ _ _ (by omega), rdI_nj _ _ _ _ (by omega), rdI_nj _ _ _ _ (by omega)]; exact h5 p hp
  · rw [rdI_nj _ _ _ _ (by omega), rdI_nj _ _ _ _ (by omega), rdI_nj _ _ _ _ (by omega)]
    by_cases e : p = oa W
    · rw [e, rdI_eq]; show nI x = nI (tk4 W x y z 7 (W 0 1)); unfold tk4; rw [if_neg (by omega), if_pos ⟨rfl, rfl⟩]
    · rw [rdI_nj _ _ _ _ (by omega), h6 p hp]; show nI (W 7 p) = nI (tk4 W x y z 7 p); unfold tk4; rw [if_neg (by omega), if_neg (fun q => e q.2), if_neg (by omega), if_neg (by omega)]
  · rw [rdI_nj _ _ _ _ (by omega), rdI_nj _ _ _ _ (by omega)]
    by_cases e : p = oa W
    · rw [e, rdI_eq]; show nI y = nI (tk4 W x y z 8 (W 0 1)); unfold tk4; rw [if_neg (by omega), if_neg (by omega), if_pos ⟨rfl, rfl⟩]
    · rw [rdI_nj _ _ _ _ (by omega), rdI_nj _ _ _ _ (by omega), h7 p hp]; show nI (W 8 p) = nI (tk4 W x y z 8 p); unfold tk4; rw [if_neg (by omega), if_neg (by omega), if_neg (fun q => e q.2), if_neg (by omega)]
  · rw [rdI_nj _ _ _ _ (by omega)]
    by_cases e : p = oa W
    · rw [e, rdI_eq]; show nI z = nI (tk4 W x y z 9 (W 0 1)); unfold tk4; rw [if_neg (by omega), if_neg (by omega), if_neg (by omega), if_pos ⟨rfl, rfl⟩]
    · rw [rdI_nj _ _ _ _ (by omega), rdI_nj _ _ _ _ (by omega), rdI_nj _ _ _ _ (by omega), h8 p hp]; show nI (W 9 p) = nI (tk4 W x y z 9 p); unfold tk4; rw [if_neg (by omega), if_neg (by omega), if_neg (by omega), if_neg (fun q => e q.2)]
