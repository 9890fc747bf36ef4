/-! ===== pure: the counts add up to all cases ===== -/
theorem pw_nn {x : Int} (h : 0 ≤ x) : ∀ n : Nat, 0 ≤ x ^ n
  | 0 => by rw [Int.pow_zero]; decide
  | n + 1 => by rw [Int.pow_succ]; exact Int.mul_nonneg (pw_nn h n) h
theorem adC_nn (n k g b : Int) (j T : Nat) : 0 ≤ adC n k g b j T := by
  refine su_nn (fun t _ => ?_)
  show (0 : Int) ≤ if adR n k g b t = j then adW n k g b t else 0
  split
  · exact Int.mul_nonneg (wayF_b _ _).1 (wayF_b _ _).1
  · exact Int.le_refl 0
theorem fxC_nn {n k a : Int} (hn : n ≤ 12) (hk : 1 ≤ k ∧ k < n) (ha : 0 ≤ a ∧ a ≤ 10) (j : Nat) : 0 ≤ fxC n k a j (k + 1).toNat := by
  refine su_nn (fun g hg => ?_)
  show (0 : Int) ≤ su (fun b => fxT n k a (g : Int) (b : Int) j) (n - k + 1).toNat
  refine su_nn (fun b hb => ?_)
  have h1 := se_b (g := (g : Int)) (b := (b : Int)) hn hk ha (by omega) (by omega)
  have h2 := (evenT_b n.toNat (by omega)).1
  exact Int.mul_nonneg (Int.tdiv_nonneg (Int.mul_nonneg h1.1 (by omega)) (wayF_b _ _).1) (adC_nn _ _ _ _ _ _)
theorem eaC_nn {n x y : Int} (h : 0 ≤ x ∧ x ≤ y) (j : Nat) : 0 ≤ eaC n x y j := Int.mul_nonneg (Int.mul_nonneg (wayF_b _ _).1 (pw_nn h.1 _)) (pw_nn (by omega) _)
theorem cvN_nn {B : Nat → Int} (h : ∀ j, 0 ≤ B j) : ∀ m r : Nat, 0 ≤ cvN B m r
  | 0, r => by show (0 : Int) ≤ if r = 0 then 1 else 0; split <;> decide
  | m + 1, r => by
    refine su_nn (fun i _ => su_nn (fun j _ => ?_))
    show (0 : Int) ≤ if i + j = r then cvN B m i * B j else 0
    split
    · exact Int.mul_nonneg (cvN_nn h m i) (h j)
    · exact Int.le_refl 0
theorem a_cases {a : Int} (ha : 0 ≤ a ∧ a ≤ 10) : a = 0 ∨ a = 1 ∨ a = 2 ∨ a = 3 ∨ a = 4 ∨ a = 5 ∨ a = 6 ∨ a = 7 ∨ a = 8 ∨ a = 9 ∨ a = 10 := by omega
theorem x2_b {a : Int} (ha : 0 ≤ a ∧ a ≤ 10) : 0 ≤ 2 * a * a + 2 * a * (10 - a) ∧ 2 * a * a + 2 * a * (10 - a) ≤ 200 := by
  rcases a_cases ha with h | h | h | h | h | h | h | h | h | h | h <;> subst h <;> decide
theorem x3_b {a : Int} (ha : 0 ≤ a ∧ a ≤ 10) : 0 ≤ 3 * (a * a * a + (10 - a) * (10 - a) * (10 - a)) + a * (10 - a) * (10 - a) + a * a * (10 - a) ∧ 3 * (a * a * a + (10 - a) * (10 - a) * (10 - a)) + a * (10 - a) * (10 - a) + a * a * (10 - a) ≤ 3000 := by
  rcases a_cases ha with h | h | h | h | h | h | h | h | h | h | h <;> subst h <;> decide
theorem cs_nn {kd n k a : Int} (hv : okP kd n k) (ha : 0 ≤ a ∧ a ≤ 10) (j : Nat) : 0 ≤ csZ kd n k a j := by
  unfold okP at hv
  unfold csZ
  split
  · exact fxC_nn (by omega) (by omega) ha j
  · split
    · split
      · exact eaC_nn (x2_b ha) j
      · exact Int.le_refl 0
    · split
      · split
        · exact eaC_nn (x3_b ha) j
        · exact Int.le_refl 0
      · split
        · exact cvN_nn (fun j => fxC_nn (n := 4) (by omega) (by omega) ha j) _ _
        · split
          · exact eaC_nn (by omega) j
          · exact Int.le_refl 0
def csB (a : Nat) : Bool := (List.range 13).all fun n => (List.range n).all fun k => k == 0 || decide (su (csZ 1 n k a) 13 = alZ 1 n)
theorem csB_0 : csB 0 = true := by decide +kernel
theorem csB_1 : csB 1 = true := by decide +kernel
theorem csB_2 : csB 2 = true := by decide +kernel
theorem csB_3 : csB 3 = true := by decide +kernel
theorem csB_4 : csB 4 = true := by decide +kernel
theorem csB_5 : csB 5 = true := by decide +kernel
theorem csB_6 : csB 6 = true := by decide +kernel
theorem csB_7 : csB 7 = true := by decide +kernel
theorem csB_8 : csB 8 = true := by decide +kernel
theorem csB_9 : csB 9 = true := by decide +kernel
theorem csB_10 : csB 10 = true := by decide +kernel
theorem cs1 {a : Nat} (h : csB a = true) {n k : Int} (hn : 2 ≤ n ∧ n ≤ 12) (hk : 1 ≤ k ∧ k < n) : su (csZ 1 n k (a : Int)) 13 = alZ 1 n := by
  unfold csB at h
  have h1 := List.all_eq_true.mp h n.toNat (List.mem_range.mpr (by omega))
  have h2 := List.all_eq_true.mp h1 k.toNat (List.mem_range.mpr (by omega))
  rw [Bool.or_eq_true] at h2
  rcases h2 with h2 | h2
  · have := beq_iff_eq.mp h2
    omega
  · have h3 := of_decide_eq_true h2
    rwa [show ((n.toNat : Nat) : Int) = n from by omega, show ((k.toNat : Nat) : Int) = k from by omega] at h3
def csE (kd : Int) (N : Nat) : Bool := (List.range N).all fun n => (List.range 11).all fun a => decide (su (csZ kd n 0 a) 13 = alZ kd n)
theorem csE_0 : csE 0 13 = true := by decide +kernel
theorem csE_2 : csE 2 7 = true := by decide +kernel
theorem csE_3 : csE 3 5 = true := by decide +kernel
theorem csZ_k {kd n k a : Int} (h : kd ≠ 1) (h4 : kd ≠ 4) : csZ kd n k a = csZ kd n 0 a := by
  funext j
  unfold csZ
  simp only [if_neg h, if_neg h4]
theorem csE_t {kd : Int} {N : Nat} (h : csE kd N = true) {n a : Int} (hn : 0 ≤ n ∧ n < N) (ha : 0 ≤ a ∧ a ≤ 10) : su (csZ kd n 0 a) 13 = alZ kd n := by
  unfold csE at h
  have h1 := List.all_eq_true.mp h n.toNat (List.mem_range.mpr (by omega))
  have h2 := List.all_eq_true.mp h1 a.toNat (List.mem_range.mpr (by omega))
  have h3 := of_decide_eq_true h2
  rwa [show ((n.toNat : Nat) : Int) = n from by omega, show ((a.toNat : Nat) : Int) = a from by omega] at h3
def t4L : List (List (List Int)) := [[[0, 0, 0, 0, 120000], [0, 0, 0, 0, 120000], [0, 0, 0, 0, 120000], [0, 0, 0, 0, 120000], [0, 0, 0, 0, 120000], [0, 0, 0, 0, 120000], [0, 0, 0, 0, 120000], [0, 0, 0, 0, 120000], [0, 0, 0, 0, 120000], [0, 0, 0, 0, 120000], [0, 0, 0, 0, 120000]], [[0, 0, 120000, 0, 0], [0, 0, 116640, 0, 3360], [0, 0, 112320, 0, 7680], [0, 0, 106680, 0, 13320], [0, 0, 99360, 0, 20640], [0, 0, 90000, 0, 30000], [0, 0, 78240, 0, 41760], [0, 0, 63720, 0, 56280], [0, 0, 46080, 0, 73920], [0, 0, 24960, 0, 95040], [0, 0, 0, 0, 120000]], [[120000, 0, 0, 0, 0], [90720, 0, 28800, 0, 480], [66560, 0, 51200, 0, 2240], [47040, 0, 67200, 0, 5760], [31680, 0, 76800, 0, 11520], [20000, 0, 80000, 0, 20000], [11520, 0, 76800, 0, 31680], [5760, 0, 67200, 0, 47040], [2240, 0, 51200, 0, 66560], [480, 0, 28800, 0, 90720], [0, 0, 0, 0, 120000]], [[0, 0, 120000, 0, 0], [0, 0, 116640, 0, 3360], [0, 0, 112320, 0, 7680], [0, 0, 106680, 0, 13320], [0, 0, 99360, 0, 20640], [0, 0, 90000, 0, 30000], [0, 0, 78240, 0, 41760], [0, 0, 63720, 0, 56280], [0, 0, 46080, 0, 73920], [0, 0, 24960, 0, 95040], [0, 0, 0, 0, 120000]]]
def t4 (k a j : Nat) : Int := ((t4L.getD k []).getD a []).getD j 0
def t4B : Bool := (List.range 4).all fun k => k == 0 || (List.range 11).all fun a => (List.range 5).all fun j => decide (fxC 4 k a j ((k : Int) + 1).toNat = t4 k a j)
theorem t4B_t : t4B = true := by decide +kernel
def t4S : Bool := (List.range 4).all fun k => k == 0 || (List.range 11).all fun a => (List.range 4).all fun n => decide (su (cvN (t4 k a) n) 13 = alZ 4 n)
theorem t4S_t : t4S = true := by decide +kernel
theorem cvN_congr {B B' : Nat → Int} (h : ∀ j : Nat, j < 5 → B j = B' j) : ∀ m r : Nat, cvN B m r = cvN B' m r
  | 0, _ => rfl
  | m + 1, r => cvC_congr (fun i _ => cvN_congr h m i) h r
theorem cs4 {n k a : Int} (hn : 1 ≤ n ∧ n ≤ 3) (hk : 1 ≤ k ∧ k ≤ 3) (ha : 0 ≤ a ∧ a ≤ 10) : su (csZ 4 n k a) 13 = alZ 4 n := by
  have h := t4B_t
  unfold t4B at h
  have h1 := List.all_eq_true.mp h k.toNat (List.mem_range.mpr (by omega))
  have g := t4S_t
  unfold t4S at g
  have g1 := List.all_eq_true.mp g k.toNat (List.mem_range.mpr (by omega))
  rw [Bool.or_eq_true] at h1 g1
  have hk0 : ¬ ((k.toNat == 0) = true) := fun q => by have := beq_iff_eq.mp q; omega
  have h2 := List.all_eq_true.mp (h1.resolve_left hk0) a.toNat (List.mem_range.mpr (by omega))
  have g2 := List.all_eq_true.mp (g1.resolve_left hk0) a.toNat (List.mem_range.mpr (by omega))
  have g3 := of_decide_eq_true (List.all_eq_true.mp g2 n.toNat (List.mem_range.mpr (by omega)))
  have e : ∀ j : Nat, j < 5 → (fun j : Nat => fxC 4 k a j (k + 1).toNat) j = t4 k.toNat a.toNat j := fun j hj => by
    have h3 := of_decide_eq_true (List.all_eq_true.mp h2 j (List.mem_range.mpr hj))
    rwa [show ((k.toNat : Nat) : Int) = k from by omega, show ((a.toNat : Nat) : Int) = a from by omega] at h3
  have e2 : csZ 4 n k a = cvN (fun j => fxC 4 k a j (k + 1).toNat) n.toNat := by
    funext j
    rfl
  rw [e2, su_congr (fun j _ => cvN_congr e n.toNat j), g3, show ((n.toNat : Nat) : Int) = n from by omega]
theorem cs_sum {kd n k a : Int} (hv : okP kd n k) (ha : 0 ≤ a ∧ a ≤ 10) : su (csZ kd n k a) 13 = alZ kd n := by
  unfold okP at hv
  rcases hv with ⟨h, h2⟩ | ⟨h, h2⟩ | ⟨h, h2⟩ | ⟨h, h2⟩ | ⟨h, h2⟩ <;> subst h
  · rw [csZ_k (by decide) (by decide)]
    exact csE_t csE_0 (by omega) ha
  · rcases a_cases ha with h | h | h | h | h | h | h | h | h | h | h <;> subst h
    · exact cs1 csB_0 (by omega) (by omega)
    · exact cs1 csB_1 (by omega) (by omega)
    · exact cs1 csB_2 (by omega) (by omega)
    · exact cs1 csB_3 (by omega) (by omega)
    · exact cs1 csB_4 (by omega) (by omega)
    · exact cs1 csB_5 (by omega) (by omega)
    · exact cs1 csB_6 (by omega) (by omega)
    · exact cs1 csB_7 (by omega) (by omega)
    · exact cs1 csB_8 (by omega) (by omega)
    · exact cs1 csB_9 (by omega) (by omega)
    · exact cs1 csB_10 (by omega) (by omega)
  · rw [csZ_k (by decide) (by decide)]
    exact csE_t csE_2 (by omega) ha
  · rw [csZ_k (by decide) (by decide)]
    exact csE_t csE_3 (by omega) ha
  · exact cs4 (by omega) (by omega) ha
