set_option maxHeartbeats 400000 in
theorem pt_begin_hH_d {has : Prop} {V E H T oG oT w0 w1 w2 w3 lo hi : Int} {st ep hl hh mv ac pt tk et lm pE pA : Nat → Int} {B : Int} {S : (Nat → Int) → Prop} (I : Pin has V E H T oG oT w0 w1 w2 w3 lo hi st ep hl hh mv ac pt tk et lm pE pA B S) (h : Nat) (m : (Nat → Int)) (hS : S m) (hk : (m 0) = 3) (hst : st h = 1) (hep : ep h = (m 3) - 1)  : (h : Int) = H := by
  have i_b := Pin_b I
  clear I
  try simp only [Q_b, pown, prcv, pgiv, ppge, pfu] at *
  grind
set_option maxHeartbeats 400000 in
theorem pt_begin_hV_d {has : Prop} {V E H T oG oT w0 w1 w2 w3 lo hi : Int} {st ep hl hh mv ac pt tk et lm pE pA : Nat → Int} {B : Int} {S : (Nat → Int) → Prop} (I : Pin has V E H T oG oT w0 w1 w2 w3 lo hi st ep hl hh mv ac pt tk et lm pE pA B S) (h : Nat) (m : (Nat → Int)) (hS : S m) (hk : (m 0) = 3) (hst : st h = 1) (hep : ep h = (m 3) - 1) (hH : (h : Int) = H) : (m 3) = V := by
  have i_c := Pin_c I
  have i_d := Pin_d I
  have i_f := Pin_f I
  clear I
  try simp only [Q_c, Q_d, Q_f, pown, prcv, pgiv, ppge, pfu] at *
  grind
theorem pt_begin_hP_d {has : Prop} {V E H T oG oT w0 w1 w2 w3 lo hi : Int} {st ep hl hh mv ac pt tk et lm pE pA : Nat → Int} {B : Int} {S : (Nat → Int) → Prop} (I : Pin has V E H T oG oT w0 w1 w2 w3 lo hi st ep hl hh mv ac pt tk et lm pE pA B S) (h : Nat) (m : (Nat → Int)) (hS : S m) (hk : (m 0) = 3) (hst : st h = 1) (hep : ep h = (m 3) - 1) (hH : (h : Int) = H) (hV : (m 3) = V) : 0 ≤ T → ∀ i : Nat, ¬ pE i = V := by
  exact fun hT i e => absurd (Pin_m3 I hT h i hH hst) (by omega)
set_option maxHeartbeats 400000 in
theorem pt_begin_v0 {has : Prop} {V E H T oG oT w0 w1 w2 w3 lo hi : Int} {st ep hl hh mv ac pt tk et lm pE pA : Nat → Int} {B : Int} {S : (Nat → Int) → Prop} (I : Pin has V E H T oG oT w0 w1 w2 w3 lo hi st ep hl hh mv ac pt tk et lm pE pA B S) (h : Nat) (m : (Nat → Int)) (hS : S m) (hk : (m 0) = 3) (hst : st h = 1) (hep : ep h = (m 3) - 1) (hH : (h : Int) = H) (hV : (m 3) = V) (hP : 0 ≤ T → ∀ i : Nat, ¬ pE i = V) : Q_v0 has V E H T oG oT w0 w1 w2 w3 lo hi (pfu st h 2) ep hl hh (pfu mv h (m 9)) (pfu ac h 1) (pfu pt h 0) (pfu tk h 1) (pfu et h 0) lm pE pA (B + 2) S := by
  have i_v0 := Pin_v0 I
  clear I
  simp only [Q_v0, pokM, pown, prcv, pgiv, ppge, pfu] at *
  grind
set_option maxHeartbeats 400000 in
theorem pt_begin_a {has : Prop} {V E H T oG oT w0 w1 w2 w3 lo hi : Int} {st ep hl hh mv ac pt tk et lm pE pA : Nat → Int} {B : Int} {S : (Nat → Int) → Prop} (I : Pin has V E H T oG oT w0 w1 w2 w3 lo hi st ep hl hh mv ac pt tk et lm pE pA B S) (h : Nat) (m : (Nat → Int)) (hS : S m) (hk : (m 0) = 3) (hst : st h = 1) (hep : ep h = (m 3) - 1) (hH : (h : Int) = H) (hV : (m 3) = V) (hP : 0 ≤ T → ∀ i : Nat, ¬ pE i = V) : Q_a has V E H T oG oT w0 w1 w2 w3 lo hi (pfu st h 2) ep hl hh (pfu mv h (m 9)) (pfu ac h 1) (pfu pt h 0) (pfu tk h 1) (pfu et h 0) lm pE pA (B + 2) S := by
  have i_a := Pin_a I
  clear I
  simp only [Q_a, pokM, pown, prcv, pgiv, ppge, pfu] at *
  grind
set_option maxHeartbeats 400000 in
theorem pt_begin_b {has : Prop} {V E H T oG oT w0 w1 w2 w3 lo hi : Int} {st ep hl hh mv ac pt tk et lm pE pA : Nat → Int} {B : Int} {S : (Nat → Int) → Prop} (I : Pin has V E H T oG oT w0 w1 w2 w3 lo hi st ep hl hh mv ac pt tk et lm pE pA B S) (h : Nat) (m : (Nat → Int)) (hS : S m) (hk : (m 0) = 3) (hst : st h = 1) (hep : ep h = (m 3) - 1) (hH : (h : Int) = H) (hV : (m 3) = V) (hP : 0 ≤ T → ∀ i : Nat, ¬ pE i = V) : Q_b has V E H T oG oT w0 w1 w2 w3 lo hi (pfu st h 2) ep hl hh (pfu mv h (m 9)) (pfu ac h 1) (pfu pt h 0) (pfu tk h 1) (pfu et h 0) lm pE pA (B + 2) S := by
  have i_b := Pin_b I
  clear I
  simp only [Q_b, pokM, pown, prcv, pgiv, ppge, pfu] at *
  grind
set_option maxHeartbeats 400000 in
theorem pt_begin_c {has : Prop} {V E H T oG oT w0 w1 w2 w3 lo hi : Int} {st ep hl hh mv ac pt tk et lm pE pA : Nat → Int} {B : Int} {S : (Nat → Int) → Prop} (I : Pin has V E H T oG oT w0 w1 w2 w3 lo hi st ep hl hh mv ac pt tk et lm pE pA B S) (h : Nat) (m : (Nat → Int)) (hS : S m) (hk : (m 0) = 3) (hst : st h = 1) (hep : ep h = (m 3) - 1) (hH : (h : Int) = H) (hV : (m 3) = V) (hP : 0 ≤ T → ∀ i : Nat, ¬ pE i = V) : Q_c has V E H T oG oT w0 w1 w2 w3 lo hi (pfu st h 2) ep hl hh (pfu mv h (m 9)) (pfu ac h 1) (pfu pt h 0) (pfu tk h 1) (pfu et h 0) lm pE pA (B + 2) S := by
  have i_c := Pin_c I
  clear I
  simp only [Q_c, pokM, pown, prcv, pgiv, ppge, pfu] at *
  grind
set_option maxHeartbeats 400000 in
theorem pt_begin_d {has : Prop} {V E H T oG oT w0 w1 w2 w3 lo hi : Int} {st ep hl hh mv ac pt tk et lm pE pA : Nat → Int} {B : Int} {S : (Nat → Int) → Prop} (I : Pin has V E H T oG oT w0 w1 w2 w3 lo hi st ep hl hh mv ac pt tk et lm pE pA B S) (h : Nat) (m : (Nat → Int)) (hS : S m) (hk : (m 0) = 3) (hst : st h = 1) (hep : ep h = (m 3) - 1) (hH : (h : Int) = H) (hV : (m 3) = V) (hP : 0 ≤ T → ∀ i : Nat, ¬ pE i = V) : Q_d has V E H T oG oT w0 w1 w2 w3 lo hi (pfu st h 2) ep hl hh (pfu mv h (m 9)) (pfu ac h 1) (pfu pt h 0) (pfu tk h 1) (pfu et h 0) lm pE pA (B + 2) S := by
  have i_d := Pin_d I
  clear I
  simp only [Q_d, pokM, pown, prcv, pgiv, ppge, pfu] at *
  grind
set_option maxHeartbeats 400000 in
theorem pt_begin_e {has : Prop} {V E H T oG oT w0 w1 w2 w3 lo hi : Int} {st ep hl hh mv ac pt tk et lm pE pA : Nat → Int} {B : Int} {S : (Nat → Int) → Prop} (I : Pin has V E H T oG oT w0 w1 w2 w3 lo hi st ep hl hh mv ac pt tk et lm pE pA B S) (h : Nat) (m : (Nat → Int)) (hS : S m) (hk : (m 0) = 3) (hst : st h = 1) (hep : ep h = (m 3) - 1) (hH : (h : Int) = H) (hV : (m 3) = V) (hP : 0 ≤ T → ∀ i : Nat, ¬ pE i = V) : Q_e has V E H T oG oT w0 w1 w2 w3 lo hi (pfu st h 2) ep hl hh (pfu mv h (m 9)) (pfu ac h 1) (pfu pt h 0) (pfu tk h 1) (pfu et h 0) lm pE pA (B + 2) S := by
  have i_e := Pin_e I
  clear I
  simp only [Q_e, pokM, pown, prcv, pgiv, ppge, pfu] at *
  grind
set_option maxHeartbeats 400000 in
theorem pt_begin_f {has : Prop} {V E H T oG oT w0 w1 w2 w3 lo hi : Int} {st ep hl hh mv ac pt tk et lm pE pA : Nat → Int} {B : Int} {S : (Nat → Int) → Prop} (I : Pin has V E H T oG oT w0 w1 w2 w3 lo hi st ep hl hh mv ac pt tk et lm pE pA B S) (h : Nat) (m : (Nat → Int)) (hS : S m) (hk : (m 0) = 3) (hst : st h = 1) (hep : ep h = (m 3) - 1) (hH : (h : Int) = H) (hV : (m 3) = V) (hP : 0 ≤ T → ∀ i : Nat, ¬ pE i = V) : Q_f has V E H T oG oT w0 w1 w2 w3 lo hi (pfu st h 2) ep hl hh (pfu mv h (m 9)) (pfu ac h 1) (pfu pt h 0) (pfu tk h 1) (pfu et h 0) lm pE pA (B + 2) S := by
  have i_f := Pin_f I
  clear I
  simp only [Q_f, pokM, pown, prcv, pgiv, ppge, pfu] at *
  grind
set_option maxHeartbeats 400000 in
theorem pt_begin_f2 {has : Prop} {V E H T oG oT w0 w1 w2 w3 lo hi : Int} {st ep hl hh mv ac pt tk et lm pE pA : Nat → Int} {B : Int} {S : (Nat → Int) → Prop} (I : Pin has V E H T oG oT w0 w1 w2 w3 lo hi st ep hl hh mv ac pt tk et lm pE pA B S) (h : Nat) (m : (Nat → Int)) (hS : S m) (hk : (m 0) = 3) (hst : st h = 1) (hep : ep h = (m 3) - 1) (hH : (h : Int) = H) (hV : (m 3) = V) (hP : 0 ≤ T → ∀ i : Nat, ¬ pE i = V) : Q_f2 has V E H T oG oT w0 w1 w2 w3 lo hi (pfu st h 2) ep hl hh (pfu mv h (m 9)) (pfu ac h 1) (pfu pt h 0) (pfu tk h 1) (pfu et h 0) lm pE pA (B + 2) S := by
  have i_f2 := Pin_f2 I
  clear I
  simp only [Q_f2, pokM, pown, prcv, pgiv, ppge, pfu] at *
  grind
set_option maxHeartbeats 400000 in
theorem pt_begin_f3 {has : Prop} {V E H T oG oT w0 w1 w2 w3 lo hi : Int} {st ep hl hh mv ac pt tk et lm pE pA : Nat → Int} {B : Int} {S : (Nat → Int) → Prop} (I : Pin has V E H T oG oT w0 w1 w2 w3 lo hi st ep hl hh mv ac pt tk et lm pE pA B S) (h : Nat) (m : (Nat → Int)) (hS : S m) (hk : (m 0) = 3) (hst : st h = 1) (hep : ep h = (m 3) - 1) (hH : (h : Int) = H) (hV : (m 3) = V) (hP : 0 ≤ T → ∀ i : Nat, ¬ pE i = V) : Q_f3 has V E H T oG oT w0 w1 w2 w3 lo hi (pfu st h 2) ep hl hh (pfu mv h (m 9)) (pfu ac h 1) (pfu pt h 0) (pfu tk h 1) (pfu et h 0) lm pE pA (B + 2) S := by
  have i_f3 := Pin_f3 I
  clear I
  simp only [Q_f3, pokM, pown, prcv, pgiv, ppge, pfu] at *
  grind
set_option maxHeartbeats 400000 in
theorem pt_begin_g {has : Prop} {V E H T oG oT w0 w1 w2 w3 lo hi : Int} {st ep hl hh mv ac pt tk et lm pE pA : Nat → Int} {B : Int} {S : (Nat → Int) → Prop} (I : Pin has V E H T oG oT w0 w1 w2 w3 lo hi st ep hl hh mv ac pt tk et lm pE pA B S) (h : Nat) (m : (Nat → Int)) (hS : S m) (hk : (m 0) = 3) (hst : st h = 1) (hep : ep h = (m 3) - 1) (hH : (h : Int) = H) (hV : (m 3) = V) (hP : 0 ≤ T → ∀ i : Nat, ¬ pE i = V) : Q_g has V E H T oG oT w0 w1 w2 w3 lo hi (pfu st h 2) ep hl hh (pfu mv h (m 9)) (pfu ac h 1) (pfu pt h 0) (pfu tk h 1) (pfu et h 0) lm pE pA (B + 2) S := by
  have i_g := Pin_g I
  clear I
  simp only [Q_g, pokM, pown, prcv, pgiv, ppge, pfu] at *
  grind
set_option maxHeartbeats 400000 in
theorem pt_begin_g0 {has : Prop} {V E H T oG oT w0 w1 w2 w3 lo hi : Int} {st ep hl hh mv ac pt tk et lm pE pA : Nat → Int} {B : Int} {S : (Nat → Int) → Prop} (I : Pin has V E H T oG oT w0 w1 w2 w3 lo hi st ep hl hh mv ac pt tk et lm pE pA B S) (h : Nat) (m : (Nat → Int)) (hS : S m) (hk : (m 0) = 3) (hst : st h = 1) (hep : ep h = (m 3) - 1) (hH : (h : Int) = H) (hV : (m 3) = V) (hP : 0 ≤ T → ∀ i : Nat, ¬ pE i = V) : Q_g0 has V E H T oG oT w0 w1 w2 w3 lo hi (pfu st h 2) ep hl hh (pfu mv h (m 9)) (pfu ac h 1) (pfu pt h 0) (pfu tk h 1) (pfu et h 0) lm pE pA (B + 2) S := by
  have i_g0 := Pin_g0 I
  clear I
  simp only [Q_g0, pokM, pown, prcv, pgiv, ppge, pfu] at *
  grind
set_option maxHeartbeats 400000 in
theorem pt_begin_g1 {has : Prop} {V E H T oG oT w0 w1 w2 w3 lo hi : Int} {st ep hl hh mv ac pt tk et lm pE pA : Nat → Int} {B : Int} {S : (Nat → Int) → Prop} (I : Pin has V E H T oG oT w0 w1 w2 w3 lo hi st ep hl hh mv ac pt tk et lm pE pA B S) (h : Nat) (m : (Nat → Int)) (hS : S m) (hk : (m 0) = 3) (hst : st h = 1) (hep : ep h = (m 3) - 1) (hH : (h : Int) = H) (hV : (m 3) = V) (hP : 0 ≤ T → ∀ i : Nat, ¬ pE i = V) : Q_g1 has V E H T oG oT w0 w1 w2 w3 lo hi (pfu st h 2) ep hl hh (pfu mv h (m 9)) (pfu ac h 1) (pfu pt h 0) (pfu tk h 1) (pfu et h 0) lm pE pA (B + 2) S := by
  have i_g1 := Pin_g1 I
  clear I
  simp only [Q_g1, pokM, pown, prcv, pgiv, ppge, pfu] at *
  grind
set_option maxHeartbeats 400000 in
theorem pt_begin_g2 {has : Prop} {V E H T oG oT w0 w1 w2 w3 lo hi : Int} {st ep hl hh mv ac pt tk et lm pE pA : Nat → Int} {B : Int} {S : (Nat → Int) → Prop} (I : Pin has V E H T oG oT w0 w1 w2 w3 lo hi st ep hl hh mv ac pt tk et lm pE pA B S) (h : Nat) (m : (Nat → Int)) (hS : S m) (hk : (m 0) = 3) (hst : st h = 1) (hep : ep h = (m 3) - 1) (hH : (h : Int) = H) (hV : (m 3) = V) (hP : 0 ≤ T → ∀ i : Nat, ¬ pE i = V) : Q_g2 has V E H T oG oT w0 w1 w2 w3 lo hi (pfu st h 2) ep hl hh (pfu mv h (m 9)) (pfu ac h 1) (pfu pt h 0) (pfu tk h 1) (pfu et h 0) lm pE pA (B + 2) S := by
  have i_g2 := Pin_g2 I
  clear I
  simp only [Q_g2, pokM, pown, prcv, pgiv, ppge, pfu] at *
  grind
set_option maxHeartbeats 400000 in
theorem pt_begin_h7 {has : Prop} {V E H T oG oT w0 w1 w2 w3 lo hi : Int} {st ep hl hh mv ac pt tk et lm pE pA : Nat → Int} {B : Int} {S : (Nat → Int) → Prop} (I : Pin has V E H T oG oT w0 w1 w2 w3 lo hi st ep hl hh mv ac pt tk et lm pE pA B S) (h : Nat) (m : (Nat → Int)) (hS : S m) (hk : (m 0) = 3) (hst : st h = 1) (hep : ep h = (m 3) - 1) (hH : (h : Int) = H) (hV : (m 3) = V) (hP : 0 ≤ T → ∀ i : Nat, ¬ pE i = V) : Q_h7 has V E H T oG oT w0 w1 w2 w3 lo hi (pfu st h 2) ep hl hh (pfu mv h (m 9)) (pfu ac h 1) (pfu pt h 0) (pfu tk h 1) (pfu et h 0) lm pE pA (B + 2) S := by
  have i_h7 := Pin_h7 I
  clear I
  simp only [Q_h7, pokM, pown, prcv, pgiv, ppge, pfu] at *
  grind
set_option maxHeartbeats 400000 in
theorem pt_begin_h9 {has : Prop} {V E H T oG oT w0 w1 w2 w3 lo hi : Int} {st ep hl hh mv ac pt tk et lm pE pA : Nat → Int} {B : Int} {S : (Nat → Int) → Prop} (I : Pin has V E H T oG oT w0 w1 w2 w3 lo hi st ep hl hh mv ac pt tk et lm pE pA B S) (h : Nat) (m : (Nat → Int)) (hS : S m) (hk : (m 0) = 3) (hst : st h = 1) (hep : ep h = (m 3) - 1) (hH : (h : Int) = H) (hV : (m 3) = V) (hP : 0 ≤ T → ∀ i : Nat, ¬ pE i = V) : Q_h9 has V E H T oG oT w0 w1 w2 w3 lo hi (pfu st h 2) ep hl hh (pfu mv h (m 9)) (pfu ac h 1) (pfu pt h 0) (pfu tk h 1) (pfu et h 0) lm pE pA (B + 2) S := by
  have i_h9 := Pin_h9 I
  clear I
  simp only [Q_h9, pokM, pown, prcv, pgiv, ppge, pfu] at *
  grind
set_option maxHeartbeats 400000 in
theorem pt_begin_h10 {has : Prop} {V E H T oG oT w0 w1 w2 w3 lo hi : Int} {st ep hl hh mv ac pt tk et lm pE pA : Nat → Int} {B : Int} {S : (Nat → Int) → Prop} (I : Pin has V E H T oG oT w0 w1 w2 w3 lo hi st ep hl hh mv ac pt tk et lm pE pA B S) (h : Nat) (m : (Nat → Int)) (hS : S m) (hk : (m 0) = 3) (hst : st h = 1) (hep : ep h = (m 3) - 1) (hH : (h : Int) = H) (hV : (m 3) = V) (hP : 0 ≤ T → ∀ i : Nat, ¬ pE i = V) : Q_h10 has V E H T oG oT w0 w1 w2 w3 lo hi (pfu st h 2) ep hl hh (pfu mv h (m 9)) (pfu ac h 1) (pfu pt h 0) (pfu tk h 1) (pfu et h 0) lm pE pA (B + 2) S := by
  have i_h10 := Pin_h10 I
  clear I
  simp only [Q_h10, pokM, pown, prcv, pgiv, ppge, pfu] at *
  grind
set_option maxHeartbeats 400000 in
theorem pt_begin_h11 {has : Prop} {V E H T oG oT w0 w1 w2 w3 lo hi : Int} {st ep hl hh mv ac pt tk et lm pE pA : Nat → Int} {B : Int} {S : (Nat → Int) → Prop} (I : Pin has V E H T oG oT w0 w1 w2 w3 lo hi st ep hl hh mv ac pt tk et lm pE pA B S) (h : Nat) (m : (Nat → Int)) (hS : S m) (hk : (m 0) = 3) (hst : st h = 1) (hep : ep h = (m 3) - 1) (hH : (h : Int) = H) (hV : (m 3) = V) (hP : 0 ≤ T → ∀ i : Nat, ¬ pE i = V) : Q_h11 has V E H T oG oT w0 w1 w2 w3 lo hi (pfu st h 2) ep hl hh (pfu mv h (m 9)) (pfu ac h 1) (pfu pt h 0) (pfu tk h 1) (pfu et h 0) lm pE pA (B + 2) S := by
  have i_h11 := Pin_h11 I
  clear I
  simp only [Q_h11, pokM, pown, prcv, pgiv, ppge, pfu] at *
  grind
set_option maxHeartbeats 400000 in
theorem pt_begin_h12 {has : Prop} {V E H T oG oT w0 w1 w2 w3 lo hi : Int} {st ep hl hh mv ac pt tk et lm pE pA : Nat → Int} {B : Int} {S : (Nat → Int) → Prop} (I : Pin has V E H T oG oT w0 w1 w2 w3 lo hi st ep hl hh mv ac pt tk et lm pE pA B S) (h : Nat) (m : (Nat → Int)) (hS : S m) (hk : (m 0) = 3) (hst : st h = 1) (hep : ep h = (m 3) - 1) (hH : (h : Int) = H) (hV : (m 3) = V) (hP : 0 ≤ T → ∀ i : Nat, ¬ pE i = V) : Q_h12 has V E H T oG oT w0 w1 w2 w3 lo hi (pfu st h 2) ep hl hh (pfu mv h (m 9)) (pfu ac h 1) (pfu pt h 0) (pfu tk h 1) (pfu et h 0) lm pE pA (B + 2) S := by
  have i_h12 := Pin_h12 I
  clear I
  simp only [Q_h12, pokM, pown, prcv, pgiv, ppge, pfu] at *
  grind
set_option maxHeartbeats 400000 in
theorem pt_begin_k1 {has : Prop} {V E H T oG oT w0 w1 w2 w3 lo hi : Int} {st ep hl hh mv ac pt tk et lm pE pA : Nat → Int} {B : Int} {S : (Nat → Int) → Prop} (I : Pin has V E H T oG oT w0 w1 w2 w3 lo hi st ep hl hh mv ac pt tk et lm pE pA B S) (h : Nat) (m : (Nat → Int)) (hS : S m) (hk : (m 0) = 3) (hst : st h = 1) (hep : ep h = (m 3) - 1) (hH : (h : Int) = H) (hV : (m 3) = V) (hP : 0 ≤ T → ∀ i : Nat, ¬ pE i = V) : Q_k1 has V E H T oG oT w0 w1 w2 w3 lo hi (pfu st h 2) ep hl hh (pfu mv h (m 9)) (pfu ac h 1) (pfu pt h 0) (pfu tk h 1) (pfu et h 0) lm pE pA (B + 2) S := by
  have i_k1 := Pin_k1 I
  clear I
  simp only [Q_k1, pokM, pown, prcv, pgiv, ppge, pfu] at *
  grind
set_option maxHeartbeats 400000 in
theorem pt_begin_k2 {has : Prop} {V E H T oG oT w0 w1 w2 w3 lo hi : Int} {st ep hl hh mv ac pt tk et lm pE pA : Nat → Int} {B : Int} {S : (Nat → Int) → Prop} (I : Pin has V E H T oG oT w0 w1 w2 w3 lo hi st ep hl hh mv ac pt tk et lm pE pA B S) (h : Nat) (m : (Nat → Int)) (hS : S m) (hk : (m 0) = 3) (hst : st h = 1) (hep : ep h = (m 3) - 1) (hH : (h : Int) = H) (hV : (m 3) = V) (hP : 0 ≤ T → ∀ i : Nat, ¬ pE i = V) : Q_k2 has V E H T oG oT w0 w1 w2 w3 lo hi (pfu st h 2) ep hl hh (pfu mv h (m 9)) (pfu ac h 1) (pfu pt h 0) (pfu tk h 1) (pfu et h 0) lm pE pA (B + 2) S := by
  have i_k2 := Pin_k2 I
  clear I
  simp only [Q_k2, pokM, pown, prcv, pgiv, ppge, pfu] at *
  grind
set_option maxHeartbeats 400000 in
theorem pt_begin_k8 {has : Prop} {V E H T oG oT w0 w1 w2 w3 lo hi : Int} {st ep hl hh mv ac pt tk et lm pE pA : Nat → Int} {B : Int} {S : (Nat → Int) → Prop} (I : Pin has V E H T oG oT w0 w1 w2 w3 lo hi st ep hl hh mv ac pt tk et lm pE pA B S) (h : Nat) (m : (Nat → Int)) (hS : S m) (hk : (m 0) = 3) (hst : st h = 1) (hep : ep h = (m 3) - 1) (hH : (h : Int) = H) (hV : (m 3) = V) (hP : 0 ≤ T → ∀ i : Nat, ¬ pE i = V) : Q_k8 has V E H T oG oT w0 w1 w2 w3 lo hi (pfu st h 2) ep hl hh (pfu mv h (m 9)) (pfu ac h 1) (pfu pt h 0) (pfu tk h 1) (pfu et h 0) lm pE pA (B + 2) S := by
  have i_k8 := Pin_k8 I
  clear I
  simp only [Q_k8, pokM, pown, prcv, pgiv, ppge, pfu] at *
  grind
set_option maxHeartbeats 400000 in
theorem pt_begin_l4 {has : Prop} {V E H T oG oT w0 w1 w2 w3 lo hi : Int} {st ep hl hh mv ac pt tk et lm pE pA : Nat → Int} {B : Int} {S : (Nat → Int) → Prop} (I : Pin has V E H T oG oT w0 w1 w2 w3 lo hi st ep hl hh mv ac pt tk et lm pE pA B S) (h : Nat) (m : (Nat → Int)) (hS : S m) (hk : (m 0) = 3) (hst : st h = 1) (hep : ep h = (m 3) - 1) (hH : (h : Int) = H) (hV : (m 3) = V) (hP : 0 ≤ T → ∀ i : Nat, ¬ pE i = V) : Q_l4 has V E H T oG oT w0 w1 w2 w3 lo hi (pfu st h 2) ep hl hh (pfu mv h (m 9)) (pfu ac h 1) (pfu pt h 0) (pfu tk h 1) (pfu et h 0) lm pE pA (B + 2) S := by
  have i_l4 := Pin_l4 I
  clear I
  simp only [Q_l4, pokM, pown, prcv, pgiv, ppge, pfu] at *
  grind
set_option maxHeartbeats 400000 in
theorem pt_begin_l5 {has : Prop} {V E H T oG oT w0 w1 w2 w3 lo hi : Int} {st ep hl hh mv ac pt tk et lm pE pA : Nat → Int} {B : Int} {S : (Nat → Int) → Prop} (I : Pin has V E H T oG oT w0 w1 w2 w3 lo hi st ep hl hh mv ac pt tk et lm pE pA B S) (h : Nat) (m : (Nat → Int)) (hS : S m) (hk : (m 0) = 3) (hst : st h = 1) (hep : ep h = (m 3) - 1) (hH : (h : Int) = H) (hV : (m 3) = V) (hP : 0 ≤ T → ∀ i : Nat, ¬ pE i = V) : Q_l5 has V E H T oG oT w0 w1 w2 w3 lo hi (pfu st h 2) ep hl hh (pfu mv h (m 9)) (pfu ac h 1) (pfu pt h 0) (pfu tk h 1) (pfu et h 0) lm pE pA (B + 2) S := by
  have i_l5 := Pin_l5 I
  clear I
  simp only [Q_l5, pokM, pown, prcv, pgiv, ppge, pfu] at *
  grind
set_option maxHeartbeats 400000 in
theorem pt_begin_l3 {has : Prop} {V E H T oG oT w0 w1 w2 w3 lo hi : Int} {st ep hl hh mv ac pt tk et lm pE pA : Nat → Int} {B : Int} {S : (Nat → Int) → Prop} (I : Pin has V E H T oG oT w0 w1 w2 w3 lo hi st ep hl hh mv ac pt tk et lm pE pA B S) (h : Nat) (m : (Nat → Int)) (hS : S m) (hk : (m 0) = 3) (hst : st h = 1) (hep : ep h = (m 3) - 1) (hH : (h : Int) = H) (hV : (m 3) = V) (hP : 0 ≤ T → ∀ i : Nat, ¬ pE i = V) : Q_l3 has V E H T oG oT w0 w1 w2 w3 lo hi (pfu st h 2) ep hl hh (pfu mv h (m 9)) (pfu ac h 1) (pfu pt h 0) (pfu tk h 1) (pfu et h 0) lm pE pA (B + 2) S := by
  have i_l3 := Pin_l3 I
  clear I
  simp only [Q_l3, pokM, pown, prcv, pgiv, ppge, pfu] at *
  grind
set_option maxHeartbeats 400000 in
theorem pt_begin_m1 {has : Prop} {V E H T oG oT w0 w1 w2 w3 lo hi : Int} {st ep hl hh mv ac pt tk et lm pE pA : Nat → Int} {B : Int} {S : (Nat → Int) → Prop} (I : Pin has V E H T oG oT w0 w1 w2 w3 lo hi st ep hl hh mv ac pt tk et lm pE pA B S) (h : Nat) (m : (Nat → Int)) (hS : S m) (hk : (m 0) = 3) (hst : st h = 1) (hep : ep h = (m 3) - 1) (hH : (h : Int) = H) (hV : (m 3) = V) (hP : 0 ≤ T → ∀ i : Nat, ¬ pE i = V) : Q_m1 has V E H T oG oT w0 w1 w2 w3 lo hi (pfu st h 2) ep hl hh (pfu mv h (m 9)) (pfu ac h 1) (pfu pt h 0) (pfu tk h 1) (pfu et h 0) lm pE pA (B + 2) S := by
  have i_m1 := Pin_m1 I
  clear I
  simp only [Q_m1, pokM, pown, prcv, pgiv, ppge, pfu] at *
  grind
set_option maxHeartbeats 400000 in
theorem pt_begin_m2 {has : Prop} {V E H T oG oT w0 w1 w2 w3 lo hi : Int} {st ep hl hh mv ac pt tk et lm pE pA : Nat → Int} {B : Int} {S : (Nat → Int) → Prop} (I : Pin has V E H T oG oT w0 w1 w2 w3 lo hi st ep hl hh mv ac pt tk et lm pE pA B S) (h : Nat) (m : (Nat → Int)) (hS : S m) (hk : (m 0) = 3) (hst : st h = 1) (hep : ep h = (m 3) - 1) (hH : (h : Int) = H) (hV : (m 3) = V) (hP : 0 ≤ T → ∀ i : Nat, ¬ pE i = V) : Q_m2 has V E H T oG oT w0 w1 w2 w3 lo hi (pfu st h 2) ep hl hh (pfu mv h (m 9)) (pfu ac h 1) (pfu pt h 0) (pfu tk h 1) (pfu et h 0) lm pE pA (B + 2) S := by
  have i_m2 := Pin_m2 I
  clear I
  simp only [Q_m2, pokM, pown, prcv, pgiv, ppge, pfu] at *
  grind
set_option maxHeartbeats 400000 in
theorem pt_begin_m3 {has : Prop} {V E H T oG oT w0 w1 w2 w3 lo hi : Int} {st ep hl hh mv ac pt tk et lm pE pA : Nat → Int} {B : Int} {S : (Nat → Int) → Prop} (I : Pin has V E H T oG oT w0 w1 w2 w3 lo hi st ep hl hh mv ac pt tk et lm pE pA B S) (h : Nat) (m : (Nat → Int)) (hS : S m) (hk : (m 0) = 3) (hst : st h = 1) (hep : ep h = (m 3) - 1) (hH : (h : Int) = H) (hV : (m 3) = V) (hP : 0 ≤ T → ∀ i : Nat, ¬ pE i = V) : Q_m3 has V E H T oG oT w0 w1 w2 w3 lo hi (pfu st h 2) ep hl hh (pfu mv h (m 9)) (pfu ac h 1) (pfu pt h 0) (pfu tk h 1) (pfu et h 0) lm pE pA (B + 2) S := by
  have i_m3 := Pin_m3 I
  clear I
  simp only [Q_m3, pokM, pown, prcv, pgiv, ppge, pfu] at *
  grind
set_option maxHeartbeats 400000 in
theorem pt_begin_n0 {has : Prop} {V E H T oG oT w0 w1 w2 w3 lo hi : Int} {st ep hl hh mv ac pt tk et lm pE pA : Nat → Int} {B : Int} {S : (Nat → Int) → Prop} (I : Pin has V E H T oG oT w0 w1 w2 w3 lo hi st ep hl hh mv ac pt tk et lm pE pA B S) (h : Nat) (m : (Nat → Int)) (hS : S m) (hk : (m 0) = 3) (hst : st h = 1) (hep : ep h = (m 3) - 1) (hH : (h : Int) = H) (hV : (m 3) = V) (hP : 0 ≤ T → ∀ i : Nat, ¬ pE i = V) : Q_n0 has V E H T oG oT w0 w1 w2 w3 lo hi (pfu st h 2) ep hl hh (pfu mv h (m 9)) (pfu ac h 1) (pfu pt h 0) (pfu tk h 1) (pfu et h 0) lm pE pA (B + 2) S := by
  have i_v0 := Pin_v0 I
  have i_a := Pin_a I
  have i_b := Pin_b I
  have i_c := Pin_c I
  have i_d := Pin_d I
  have i_e := Pin_e I
  have i_f := Pin_f I
  have i_f2 := Pin_f2 I
  have i_f3 := Pin_f3 I
  have i_g := Pin_g I
  have i_l4 := Pin_l4 I
  have i_l5 := Pin_l5 I
  have i_l3 := Pin_l3 I
  have i_m1 := Pin_m1 I
  have i_m2 := Pin_m2 I
  have i_m3 := Pin_m3 I
  have i_n0 := Pin_n0 I
  have i_n1 := Pin_n1 I
  have i_n2 := Pin_n2 I
  have i_n3 := Pin_n3 I
  have i_n4 := Pin_n4 I
  have i_n5 := Pin_n5 I
  have i_n6 := Pin_n6 I
  have i_n7 := Pin_n7 I
  have i_o := Pin_o I
  have i_q := Pin_q I
  clear I
  simp only [Q_a, Q_b, Q_c, Q_d, Q_e, Q_f, Q_f2, Q_f3, Q_g, Q_l3, Q_l4, Q_l5, Q_m1, Q_m2, Q_m3, Q_n0, Q_n1, Q_n2, Q_n3, Q_n4, Q_n5, Q_n6, Q_n7, Q_o, Q_q, Q_v0, pokM, pown, prcv, pgiv, ppge, pfu] at *
  grind
set_option maxHeartbeats 400000 in
theorem pt_begin_n1 {has : Prop} {V E H T oG oT w0 w1 w2 w3 lo hi : Int} {st ep hl hh mv ac pt tk et lm pE pA : Nat → Int} {B : Int} {S : (Nat → Int) → Prop} (I : Pin has V E H T oG oT w0 w1 w2 w3 lo hi st ep hl hh mv ac pt tk et lm pE pA B S) (h : Nat) (m : (Nat → Int)) (hS : S m) (hk : (m 0) = 3) (hst : st h = 1) (hep : ep h = (m 3) - 1) (hH : (h : Int) = H) (hV : (m 3) = V) (hP : 0 ≤ T → ∀ i : Nat, ¬ pE i = V) : Q_n1 has V E H T oG oT w0 w1 w2 w3 lo hi (pfu st h 2) ep hl hh (pfu mv h (m 9)) (pfu ac h 1) (pfu pt h 0) (pfu tk h 1) (pfu et h 0) lm pE pA (B + 2) S := by
  intro hT i t hiH hg ht m' hs hk' he'
  exact absurd (Pin_m1 I hT h hH hst m' hs (Or.inl hk')) (by omega)
set_option maxHeartbeats 400000 in
theorem pt_begin_n2 {has : Prop} {V E H T oG oT w0 w1 w2 w3 lo hi : Int} {st ep hl hh mv ac pt tk et lm pE pA : Nat → Int} {B : Int} {S : (Nat → Int) → Prop} (I : Pin has V E H T oG oT w0 w1 w2 w3 lo hi st ep hl hh mv ac pt tk et lm pE pA B S) (h : Nat) (m : (Nat → Int)) (hS : S m) (hk : (m 0) = 3) (hst : st h = 1) (hep : ep h = (m 3) - 1) (hH : (h : Int) = H) (hV : (m 3) = V) (hP : 0 ≤ T → ∀ i : Nat, ¬ pE i = V) : Q_n2 has V E H T oG oT w0 w1 w2 w3 lo hi (pfu st h 2) ep hl hh (pfu mv h (m 9)) (pfu ac h 1) (pfu pt h 0) (pfu tk h 1) (pfu et h 0) lm pE pA (B + 2) S := by
  have i_m1 := Pin_m1 I
  have i_n2 := Pin_n2 I
  clear I
  simp only [Q_m1, Q_n2, pokM, pown, prcv, pgiv, ppge, pfu] at *
  grind
set_option maxHeartbeats 400000 in
theorem pt_begin_n3 {has : Prop} {V E H T oG oT w0 w1 w2 w3 lo hi : Int} {st ep hl hh mv ac pt tk et lm pE pA : Nat → Int} {B : Int} {S : (Nat → Int) → Prop} (I : Pin has V E H T oG oT w0 w1 w2 w3 lo hi st ep hl hh mv ac pt tk et lm pE pA B S) (h : Nat) (m : (Nat → Int)) (hS : S m) (hk : (m 0) = 3) (hst : st h = 1) (hep : ep h = (m 3) - 1) (hH : (h : Int) = H) (hV : (m 3) = V) (hP : 0 ≤ T → ∀ i : Nat, ¬ pE i = V) : Q_n3 has V E H T oG oT w0 w1 w2 w3 lo hi (pfu st h 2) ep hl hh (pfu mv h (m 9)) (pfu ac h 1) (pfu pt h 0) (pfu tk h 1) (pfu et h 0) lm pE pA (B + 2) S := by
  have i_n3 := Pin_n3 I
  clear I
  simp only [Q_n3, pokM, pown, prcv, pgiv, ppge, pfu] at *
  grind
set_option maxHeartbeats 400000 in
theorem pt_begin_n4 {has : Prop} {V E H T oG oT w0 w1 w2 w3 lo hi : Int} {st ep hl hh mv ac pt tk et lm pE pA : Nat → Int} {B : Int} {S : (Nat → Int) → Prop} (I : Pin has V E H T oG oT w0 w1 w2 w3 lo hi st ep hl hh mv ac pt tk et lm pE pA B S) (h : Nat) (m : (Nat → Int)) (hS : S m) (hk : (m 0) = 3) (hst : st h = 1) (hep : ep h = (m 3) - 1) (hH : (h : Int) = H) (hV : (m 3) = V) (hP : 0 ≤ T → ∀ i : Nat, ¬ pE i = V) : Q_n4 has V E H T oG oT w0 w1 w2 w3 lo hi (pfu st h 2) ep hl hh (pfu mv h (m 9)) (pfu ac h 1) (pfu pt h 0) (pfu tk h 1) (pfu et h 0) lm pE pA (B + 2) S := by
  have i_v0 := Pin_v0 I
  have i_a := Pin_a I
  have i_b := Pin_b I
  have i_c := Pin_c I
  have i_d := Pin_d I
  have i_e := Pin_e I
  have i_f := Pin_f I
  have i_f2 := Pin_f2 I
  have i_f3 := Pin_f3 I
  have i_g := Pin_g I
  have i_n4 := Pin_n4 I
  have i_o := Pin_o I
  have i_q := Pin_q I
  clear I
  simp only [Q_a, Q_b, Q_c, Q_d, Q_e, Q_f, Q_f2, Q_f3, Q_g, Q_n4, Q_o, Q_q, Q_v0, pokM, pown, prcv, pgiv, ppge, pfu] at *
  grind
set_option maxHeartbeats 400000 in
theorem pt_begin_n5 {has : Prop} {V E H T oG oT w0 w1 w2 w3 lo hi : Int} {st ep hl hh mv ac pt tk et lm pE pA : Nat → Int} {B : Int} {S : (Nat → Int) → Prop} (I : Pin has V E H T oG oT w0 w1 w2 w3 lo hi st ep hl hh mv ac pt tk et lm pE pA B S) (h : Nat) (m : (Nat → Int)) (hS : S m) (hk : (m 0) = 3) (hst : st h = 1) (hep : ep h = (m 3) - 1) (hH : (h : Int) = H) (hV : (m 3) = V) (hP : 0 ≤ T → ∀ i : Nat, ¬ pE i = V) : Q_n5 has V E H T oG oT w0 w1 w2 w3 lo hi (pfu st h 2) ep hl hh (pfu mv h (m 9)) (pfu ac h 1) (pfu pt h 0) (pfu tk h 1) (pfu et h 0) lm pE pA (B + 2) S := by
  have i_n5 := Pin_n5 I
  clear I
  simp only [Q_n5, pokM, pown, prcv, pgiv, ppge, pfu] at *
  grind
set_option maxHeartbeats 400000 in
theorem pt_begin_n6 {has : Prop} {V E H T oG oT w0 w1 w2 w3 lo hi : Int} {st ep hl hh mv ac pt tk et lm pE pA : Nat → Int} {B : Int} {S : (Nat → Int) → Prop} (I : Pin has V E H T oG oT w0 w1 w2 w3 lo hi st ep hl hh mv ac pt tk et lm pE pA B S) (h : Nat) (m : (Nat → Int)) (hS : S m) (hk : (m 0) = 3) (hst : st h = 1) (hep : ep h = (m 3) - 1) (hH : (h : Int) = H) (hV : (m 3) = V) (hP : 0 ≤ T → ∀ i : Nat, ¬ pE i = V) : Q_n6 has V E H T oG oT w0 w1 w2 w3 lo hi (pfu st h 2) ep hl hh (pfu mv h (m 9)) (pfu ac h 1) (pfu pt h 0) (pfu tk h 1) (pfu et h 0) lm pE pA (B + 2) S := by
  have i_v0 := Pin_v0 I
  have i_a := Pin_a I
  have i_b := Pin_b I
  have i_c := Pin_c I
  have i_d := Pin_d I
  have i_e := Pin_e I
  have i_f := Pin_f I
  have i_f2 := Pin_f2 I
  have i_f3 := Pin_f3 I
  have i_g := Pin_g I
  have i_l4 := Pin_l4 I
  have i_l5 := Pin_l5 I
  have i_l3 := Pin_l3 I
  have i_m1 := Pin_m1 I
  have i_m2 := Pin_m2 I
  have i_m3 := Pin_m3 I
  have i_n0 := Pin_n0 I
  have i_n1 := Pin_n1 I
  have i_n2 := Pin_n2 I
  have i_n3 := Pin_n3 I
  have i_n4 := Pin_n4 I
  have i_n5 := Pin_n5 I
  have i_n6 := Pin_n6 I
  have i_n7 := Pin_n7 I
  have i_o := Pin_o I
  have i_q := Pin_q I
  clear I
  simp only [Q_a, Q_b, Q_c, Q_d, Q_e, Q_f, Q_f2, Q_f3, Q_g, Q_l3, Q_l4, Q_l5, Q_m1, Q_m2, Q_m3, Q_n0, Q_n1, Q_n2, Q_n3, Q_n4, Q_n5, Q_n6, Q_n7, Q_o, Q_q, Q_v0, pokM, pown, prcv, pgiv, ppge, pfu] at *
  grind
set_option maxHeartbeats 400000 in
theorem pt_begin_n7 {has : Prop} {V E H T oG oT w0 w1 w2 w3 lo hi : Int} {st ep hl hh mv ac pt tk et lm pE pA : Nat → Int} {B : Int} {S : (Nat → Int) → Prop} (I : Pin has V E H T oG oT w0 w1 w2 w3 lo hi st ep hl hh mv ac pt tk et lm pE pA B S) (h : Nat) (m : (Nat → Int)) (hS : S m) (hk : (m 0) = 3) (hst : st h = 1) (hep : ep h = (m 3) - 1) (hH : (h : Int) = H) (hV : (m 3) = V) (hP : 0 ≤ T → ∀ i : Nat, ¬ pE i = V) : Q_n7 has V E H T oG oT w0 w1 w2 w3 lo hi (pfu st h 2) ep hl hh (pfu mv h (m 9)) (pfu ac h 1) (pfu pt h 0) (pfu tk h 1) (pfu et h 0) lm pE pA (B + 2) S := by
  have i_n7 := Pin_n7 I
  clear I
  simp only [Q_n7, pokM, pown, prcv, pgiv, ppge, pfu] at *
  grind
set_option maxHeartbeats 400000 in
theorem pt_begin_o {has : Prop} {V E H T oG oT w0 w1 w2 w3 lo hi : Int} {st ep hl hh mv ac pt tk et lm pE pA : Nat → Int} {B : Int} {S : (Nat → Int) → Prop} (I : Pin has V E H T oG oT w0 w1 w2 w3 lo hi st ep hl hh mv ac pt tk et lm pE pA B S) (h : Nat) (m : (Nat → Int)) (hS : S m) (hk : (m 0) = 3) (hst : st h = 1) (hep : ep h = (m 3) - 1) (hH : (h : Int) = H) (hV : (m 3) = V) (hP : 0 ≤ T → ∀ i : Nat, ¬ pE i = V) : Q_o has V E H T oG oT w0 w1 w2 w3 lo hi (pfu st h 2) ep hl hh (pfu mv h (m 9)) (pfu ac h 1) (pfu pt h 0) (pfu tk h 1) (pfu et h 0) lm pE pA (B + 2) S := by
  have i_o := Pin_o I
  clear I
  simp only [Q_o, pokM, pown, prcv, pgiv, ppge, pfu] at *
  grind
set_option maxHeartbeats 400000 in
theorem pt_begin_p {has : Prop} {V E H T oG oT w0 w1 w2 w3 lo hi : Int} {st ep hl hh mv ac pt tk et lm pE pA : Nat → Int} {B : Int} {S : (Nat → Int) → Prop} (I : Pin has V E H T oG oT w0 w1 w2 w3 lo hi st ep hl hh mv ac pt tk et lm pE pA B S) (h : Nat) (m : (Nat → Int)) (hS : S m) (hk : (m 0) = 3) (hst : st h = 1) (hep : ep h = (m 3) - 1) (hH : (h : Int) = H) (hV : (m 3) = V) (hP : 0 ≤ T → ∀ i : Nat, ¬ pE i = V) : Q_p has V E H T oG oT w0 w1 w2 w3 lo hi (pfu st h 2) ep hl hh (pfu mv h (m 9)) (pfu ac h 1) (pfu pt h 0) (pfu tk h 1) (pfu et h 0) lm pE pA (B + 2) S := by
  have i_p := Pin_p I
  clear I
  simp only [Q_p, pokM, pown, prcv, pgiv, ppge, pfu] at *
  grind
set_option maxHeartbeats 400000 in
theorem pt_begin_q {has : Prop} {V E H T oG oT w0 w1 w2 w3 lo hi : Int} {st ep hl hh mv ac pt tk et lm pE pA : Nat → Int} {B : Int} {S : (Nat → Int) → Prop} (I : Pin has V E H T oG oT w0 w1 w2 w3 lo hi st ep hl hh mv ac pt tk et lm pE pA B S) (h : Nat) (m : (Nat → Int)) (hS : S m) (hk : (m 0) = 3) (hst : st h = 1) (hep : ep h = (m 3) - 1) (hH : (h : Int) = H) (hV : (m 3) = V) (hP : 0 ≤ T → ∀ i : Nat, ¬ pE i = V) : Q_q has V E H T oG oT w0 w1 w2 w3 lo hi (pfu st h 2) ep hl hh (pfu mv h (m 9)) (pfu ac h 1) (pfu pt h 0) (pfu tk h 1) (pfu et h 0) lm pE pA (B + 2) S := by
  have i_q := Pin_q I
  clear I
  simp only [Q_q, pokM, pown, prcv, pgiv, ppge, pfu] at *
  grind
set_option maxHeartbeats 400000 in
theorem pt_begin_q2 {has : Prop} {V E H T oG oT w0 w1 w2 w3 lo hi : Int} {st ep hl hh mv ac pt tk et lm pE pA : Nat → Int} {B : Int} {S : (Nat → Int) → Prop} (I : Pin has V E H T oG oT w0 w1 w2 w3 lo hi st ep hl hh mv ac pt tk et lm pE pA B S) (h : Nat) (m : (Nat → Int)) (hS : S m) (hk : (m 0) = 3) (hst : st h = 1) (hep : ep h = (m 3) - 1) (hH : (h : Int) = H) (hV : (m 3) = V) (hP : 0 ≤ T → ∀ i : Nat, ¬ pE i = V) : Q_q2 has V E H T oG oT w0 w1 w2 w3 lo hi (pfu st h 2) ep hl hh (pfu mv h (m 9)) (pfu ac h 1) (pfu pt h 0) (pfu tk h 1) (pfu et h 0) lm pE pA (B + 2) S := by
  have i_v0 := Pin_v0 I
  have i_a := Pin_a I
  have i_b := Pin_b I
  have i_c := Pin_c I
  have i_d := Pin_d I
  have i_e := Pin_e I
  have i_q := Pin_q I
  have i_q2 := Pin_q2 I
  clear I
  simp only [Q_a, Q_b, Q_c, Q_d, Q_e, Q_q, Q_q2, Q_v0, pokM, pown, prcv, pgiv, ppge, pfu] at *
  grind
set_option maxHeartbeats 400000 in
theorem pt_begin_q3 {has : Prop} {V E H T oG oT w0 w1 w2 w3 lo hi : Int} {st ep hl hh mv ac pt tk et lm pE pA : Nat → Int} {B : Int} {S : (Nat → Int) → Prop} (I : Pin has V E H T oG oT w0 w1 w2 w3 lo hi st ep hl hh mv ac pt tk et lm pE pA B S) (h : Nat) (m : (Nat → Int)) (hS : S m) (hk : (m 0) = 3) (hst : st h = 1) (hep : ep h = (m 3) - 1) (hH : (h : Int) = H) (hV : (m 3) = V) (hP : 0 ≤ T → ∀ i : Nat, ¬ pE i = V) : Q_q3 has V E H T oG oT w0 w1 w2 w3 lo hi (pfu st h 2) ep hl hh (pfu mv h (m 9)) (pfu ac h 1) (pfu pt h 0) (pfu tk h 1) (pfu et h 0) lm pE pA (B + 2) S := by
  have i_q3 := Pin_q3 I
  clear I
  simp only [Q_q3, pokM, pown, prcv, pgiv, ppge, pfu] at *
  grind
set_option maxHeartbeats 400000 in
theorem pt_begin_w {has : Prop} {V E H T oG oT w0 w1 w2 w3 lo hi : Int} {st ep hl hh mv ac pt tk et lm pE pA : Nat → Int} {B : Int} {S : (Nat → Int) → Prop} (I : Pin has V E H T oG oT w0 w1 w2 w3 lo hi st ep hl hh mv ac pt tk et lm pE pA B S) (h : Nat) (m : (Nat → Int)) (hS : S m) (hk : (m 0) = 3) (hst : st h = 1) (hep : ep h = (m 3) - 1) (hH : (h : Int) = H) (hV : (m 3) = V) (hP : 0 ≤ T → ∀ i : Nat, ¬ pE i = V) : Q_w has V E H T oG oT w0 w1 w2 w3 lo hi (pfu st h 2) ep hl hh (pfu mv h (m 9)) (pfu ac h 1) (pfu pt h 0) (pfu tk h 1) (pfu et h 0) lm pE pA (B + 2) S := by
  have i_w := Pin_w I
  clear I
  simp only [Q_w, pokM, pown, prcv, pgiv, ppge, pfu] at *
  grind
theorem pt_begin {has : Prop} {V E H T oG oT w0 w1 w2 w3 lo hi : Int} {st ep hl hh mv ac pt tk et lm pE pA : Nat → Int} {B : Int} {S : (Nat → Int) → Prop} (I : Pin has V E H T oG oT w0 w1 w2 w3 lo hi st ep hl hh mv ac pt tk et lm pE pA B S) (h : Nat) (m : (Nat → Int)) (hS : S m) (hk : (m 0) = 3) (hst : st h = 1) (hep : ep h = (m 3) - 1) : Pin has V E H T oG oT w0 w1 w2 w3 lo hi (pfu st h 2) ep hl hh (pfu mv h (m 9)) (pfu ac h 1) (pfu pt h 0) (pfu tk h 1) (pfu et h 0) lm pE pA (B + 2) S := by
  have hH := pt_begin_hH_d I h m hS hk hst hep 
  have hV := pt_begin_hV_d I h m hS hk hst hep hH
  have hP := pt_begin_hP_d I h m hS hk hst hep hH hV
  exact ⟨pt_begin_v0 I h m hS hk hst hep hH hV hP, pt_begin_a I h m hS hk hst hep hH hV hP, pt_begin_b I h m hS hk hst hep hH hV hP, pt_begin_c I h m hS hk hst hep hH hV hP, pt_begin_d I h m hS hk hst hep hH hV hP, pt_begin_e I h m hS hk hst hep hH hV hP, pt_begin_f I h m hS hk hst hep hH hV hP, pt_begin_f2 I h m hS hk hst hep hH hV hP, pt_begin_f3 I h m hS hk hst hep hH hV hP, pt_begin_g I h m hS hk hst hep hH hV hP, pt_begin_g0 I h m hS hk hst hep hH hV hP, pt_begin_g1 I h m hS hk hst hep hH hV hP, pt_begin_g2 I h m hS hk hst hep hH hV hP, pt_begin_h7 I h m hS hk hst hep hH hV hP, pt_begin_h9 I h m hS hk hst hep hH hV hP, pt_begin_h10 I h m hS hk hst hep hH hV hP, pt_begin_h11 I h m hS hk hst hep hH hV hP, pt_begin_h12 I h m hS hk hst hep hH hV hP, pt_begin_k1 I h m hS hk hst hep hH hV hP, pt_begin_k2 I h m hS hk hst hep hH hV hP, pt_begin_k8 I h m hS hk hst hep hH hV hP, pt_begin_l4 I h m hS hk hst hep hH hV hP, pt_begin_l5 I h m hS hk hst hep hH hV hP, pt_begin_l3 I h m hS hk hst hep hH hV hP, pt_begin_m1 I h m hS hk hst hep hH hV hP, pt_begin_m2 I h m hS hk hst hep hH hV hP, pt_begin_m3 I h m hS hk hst hep hH hV hP, pt_begin_n0 I h m hS hk hst hep hH hV hP, pt_begin_n1 I h m hS hk hst hep hH hV hP, pt_begin_n2 I h m hS hk hst hep hH hV hP, pt_begin_n3 I h m hS hk hst hep hH hV hP, pt_begin_n4 I h m hS hk hst hep hH hV hP, pt_begin_n5 I h m hS hk hst hep hH hV hP, pt_begin_n6 I h m hS hk hst hep hH hV hP, pt_begin_n7 I h m hS hk hst hep hH hV hP, pt_begin_o I h m hS hk hst hep hH hV hP, pt_begin_p I h m hS hk hst hep hH hV hP, pt_begin_q I h m hS hk hst hep hH hV hP, pt_begin_q2 I h m hS hk hst hep hH hV hP, pt_begin_q3 I h m hS hk hst hep hH hV hP, pt_begin_w I h m hS hk hst hep hH hV hP⟩
set_option maxHeartbeats 400000 in
theorem pt_panew_hV_d {has : Prop} {V E H T oG oT w0 w1 w2 w3 lo hi : Int} {st ep hl hh mv ac pt tk et lm pE pA : Nat → Int} {B : Int} {S : (Nat → Int) → Prop} (I : Pin has V E H T oG oT w0 w1 w2 w3 lo hi st ep hl hh mv ac pt tk et lm pE pA B S) (h : Nat) (m : (Nat → Int)) (hS : S m) (hk : (m 0) = 4) (hto : (h : Int) = (m 1)) (hst : st h = 0 ∨ st h = 4 ∨ st h = 5) (hm : (m 5) = 0) (hp : pE h < (m 3) ∨ ((m 3) = pE h ∧ pA h < (m 4)))  : (m 3) ≤ V := by
  have i_f := Pin_f I
  clear I
  try simp only [Q_f, pown, prcv, pgiv, ppge, pfu] at *
  grind
set_option maxHeartbeats 400000 in
theorem pt_panew_v0 {has : Prop} {V E H T oG oT w0 w1 w2 w3 lo hi : Int} {st ep hl hh mv ac pt tk et lm pE pA : Nat → Int} {B : Int} {S : (Nat → Int) → Prop} (I : Pin has V E H T oG oT w0 w1 w2 w3 lo hi st ep hl hh mv ac pt tk et lm pE pA B S) (h : Nat) (m : (Nat → Int)) (hS : S m) (hk : (m 0) = 4) (hto : (h : Int) = (m 1)) (hst : st h = 0 ∨ st h = 4 ∨ st h = 5) (hm : (m 5) = 0) (hp : pE h < (m 3) ∨ ((m 3) = pE h ∧ pA h < (m 4))) (hV : (m 3) ≤ V) : Q_v0 has V E H T oG oT w0 w1 w2 w3 lo hi (pfu st h (if (m 6) < 0 then 5 else 4)) (pfu ep h (m 3)) (pfu hl h (m 7)) (pfu hh h (m 8)) mv (pfu ac h (m 4)) (pfu pt h 1) tk et lm (pfu pE h (m 3)) (pfu pA h (m 4)) (B + 2) S := by
  have i_v0 := Pin_v0 I
  clear I
  simp only [Q_v0, pokM, pown, prcv, pgiv, ppge, pfu] at *
  grind
set_option maxHeartbeats 400000 in
theorem pt_panew_a {has : Prop} {V E H T oG oT w0 w1 w2 w3 lo hi : Int} {st ep hl hh mv ac pt tk et lm pE pA : Nat → Int} {B : Int} {S : (Nat → Int) → Prop} (I : Pin has V E H T oG oT w0 w1 w2 w3 lo hi st ep hl hh mv ac pt tk et lm pE pA B S) (h : Nat) (m : (Nat → Int)) (hS : S m) (hk : (m 0) = 4) (hto : (h : Int) = (m 1)) (hst : st h = 0 ∨ st h = 4 ∨ st h = 5) (hm : (m 5) = 0) (hp : pE h < (m 3) ∨ ((m 3) = pE h ∧ pA h < (m 4))) (hV : (m 3) ≤ V) : Q_a has V E H T oG oT w0 w1 w2 w3 lo hi (pfu st h (if (m 6) < 0 then 5 else 4)) (pfu ep h (m 3)) (pfu hl h (m 7)) (pfu hh h (m 8)) mv (pfu ac h (m 4)) (pfu pt h 1) tk et lm (pfu pE h (m 3)) (pfu pA h (m 4)) (B + 2) S := by
  have i_a := Pin_a I
  clear I
  simp only [Q_a, pokM, pown, prcv, pgiv, ppge, pfu] at *
  grind
set_option maxHeartbeats 400000 in
theorem pt_panew_b {has : Prop} {V E H T oG oT w0 w1 w2 w3 lo hi : Int} {st ep hl hh mv ac pt tk et lm pE pA : Nat → Int} {B : Int} {S : (Nat → Int) → Prop} (I : Pin has V E H T oG oT w0 w1 w2 w3 lo hi st ep hl hh mv ac pt tk et lm pE pA B S) (h : Nat) (m : (Nat → Int)) (hS : S m) (hk : (m 0) = 4) (hto : (h : Int) = (m 1)) (hst : st h = 0 ∨ st h = 4 ∨ st h = 5) (hm : (m 5) = 0) (hp : pE h < (m 3) ∨ ((m 3) = pE h ∧ pA h < (m 4))) (hV : (m 3) ≤ V) : Q_b has V E H T oG oT w0 w1 w2 w3 lo hi (pfu st h (if (m 6) < 0 then 5 else 4)) (pfu ep h (m 3)) (pfu hl h (m 7)) (pfu hh h (m 8)) mv (pfu ac h (m 4)) (pfu pt h 1) tk et lm (pfu pE h (m 3)) (pfu pA h (m 4)) (B + 2) S := by
  have i_b := Pin_b I
  clear I
  simp only [Q_b, pokM, pown, prcv, pgiv, ppge, pfu] at *
  grind
set_option maxHeartbeats 400000 in
theorem pt_panew_c {has : Prop} {V E H T oG oT w0 w1 w2 w3 lo hi : Int} {st ep hl hh mv ac pt tk et lm pE pA : Nat → Int} {B : Int} {S : (Nat → Int) → Prop} (I : Pin has V E H T oG oT w0 w1 w2 w3 lo hi st ep hl hh mv ac pt tk et lm pE pA B S) (h : Nat) (m : (Nat → Int)) (hS : S m) (hk : (m 0) = 4) (hto : (h : Int) = (m 1)) (hst : st h = 0 ∨ st h = 4 ∨ st h = 5) (hm : (m 5) = 0) (hp : pE h < (m 3) ∨ ((m 3) = pE h ∧ pA h < (m 4))) (hV : (m 3) ≤ V) : Q_c has V E H T oG oT w0 w1 w2 w3 lo hi (pfu st h (if (m 6) < 0 then 5 else 4)) (pfu ep h (m 3)) (pfu hl h (m 7)) (pfu hh h (m 8)) mv (pfu ac h (m 4)) (pfu pt h 1) tk et lm (pfu pE h (m 3)) (pfu pA h (m 4)) (B + 2) S := by
  have i_c := Pin_c I
  clear I
  simp only [Q_c, pokM, pown, prcv, pgiv, ppge, pfu] at *
  grind
set_option maxHeartbeats 400000 in
theorem pt_panew_d {has : Prop} {V E H T oG oT w0 w1 w2 w3 lo hi : Int} {st ep hl hh mv ac pt tk et lm pE pA : Nat → Int} {B : Int} {S : (Nat → Int) → Prop} (I : Pin has V E H T oG oT w0 w1 w2 w3 lo hi st ep hl hh mv ac pt tk et lm pE pA B S) (h : Nat) (m : (Nat → Int)) (hS : S m) (hk : (m 0) = 4) (hto : (h : Int) = (m 1)) (hst : st h = 0 ∨ st h = 4 ∨ st h = 5) (hm : (m 5) = 0) (hp : pE h < (m 3) ∨ ((m 3) = pE h ∧ pA h < (m 4))) (hV : (m 3) ≤ V) : Q_d has V E H T oG oT w0 w1 w2 w3 lo hi (pfu st h (if (m 6) < 0 then 5 else 4)) (pfu ep h (m 3)) (pfu hl h (m 7)) (pfu hh h (m 8)) mv (pfu ac h (m 4)) (pfu pt h 1) tk et lm (pfu pE h (m 3)) (pfu pA h (m 4)) (B + 2) S := by
  have i_d := Pin_d I
  clear I
  simp only [Q_d, pokM, pown, prcv, pgiv, ppge, pfu] at *
  grind
set_option maxHeartbeats 400000 in
theorem pt_panew_e {has : Prop} {V E H T oG oT w0 w1 w2 w3 lo hi : Int} {st ep hl hh mv ac pt tk et lm pE pA : Nat → Int} {B : Int} {S : (Nat → Int) → Prop} (I : Pin has V E H T oG oT w0 w1 w2 w3 lo hi st ep hl hh mv ac pt tk et lm pE pA B S) (h : Nat) (m : (Nat → Int)) (hS : S m) (hk : (m 0) = 4) (hto : (h : Int) = (m 1)) (hst : st h = 0 ∨ st h = 4 ∨ st h = 5) (hm : (m 5) = 0) (hp : pE h < (m 3) ∨ ((m 3) = pE h ∧ pA h < (m 4))) (hV : (m 3) ≤ V) : Q_e has V E H T oG oT w0 w1 w2 w3 lo hi (pfu st h (if (m 6) < 0 then 5 else 4)) (pfu ep h (m 3)) (pfu hl h (m 7)) (pfu hh h (m 8)) mv (pfu ac h (m 4)) (pfu pt h 1) tk et lm (pfu pE h (m 3)) (pfu pA h (m 4)) (B + 2) S := by
  have i_e := Pin_e I
  clear I
  simp only [Q_e, pokM, pown, prcv, pgiv, ppge, pfu] at *
  grind
set_option maxHeartbeats 400000 in
theorem pt_panew_f {has : Prop} {V E H T oG oT w0 w1 w2 w3 lo hi : Int} {st ep hl hh mv ac pt tk et lm pE pA : Nat → Int} {B : Int} {S : (Nat → Int) → Prop} (I : Pin has V E H T oG oT w0 w1 w2 w3 lo hi st ep hl hh mv ac pt tk et lm pE pA B S) (h : Nat) (m : (Nat → Int)) (hS : S m) (hk : (m 0) = 4) (hto : (h : Int) = (m 1)) (hst : st h = 0 ∨ st h = 4 ∨ st h = 5) (hm : (m 5) = 0) (hp : pE h < (m 3) ∨ ((m 3) = pE h ∧ pA h < (m 4))) (hV : (m 3) ≤ V) : Q_f has V E H T oG oT w0 w1 w2 w3 lo hi (pfu st h (if (m 6) < 0 then 5 else 4)) (pfu ep h (m 3)) (pfu hl h (m 7)) (pfu hh h (m 8)) mv (pfu ac h (m 4)) (pfu pt h 1) tk et lm (pfu pE h (m 3)) (pfu pA h (m 4)) (B + 2) S := by
  have i_f := Pin_f I
  clear I
  simp only [Q_f, pokM, pown, prcv, pgiv, ppge, pfu] at *
  grind
set_option maxHeartbeats 400000 in
theorem pt_panew_f2 {has : Prop} {V E H T oG oT w0 w1 w2 w3 lo hi : Int} {st ep hl hh mv ac pt tk et lm pE pA : Nat → Int} {B : Int} {S : (Nat → Int) → Prop} (I : Pin has V E H T oG oT w0 w1 w2 w3 lo hi st ep hl hh mv ac pt tk et lm pE pA B S) (h : Nat) (m : (Nat → Int)) (hS : S m) (hk : (m 0) = 4) (hto : (h : Int) = (m 1)) (hst : st h = 0 ∨ st h = 4 ∨ st h = 5) (hm : (m 5) = 0) (hp : pE h < (m 3) ∨ ((m 3) = pE h ∧ pA h < (m 4))) (hV : (m 3) ≤ V) : Q_f2 has V E H T oG oT w0 w1 w2 w3 lo hi (pfu st h (if (m 6) < 0 then 5 else 4)) (pfu ep h (m 3)) (pfu hl h (m 7)) (pfu hh h (m 8)) mv (pfu ac h (m 4)) (pfu pt h 1) tk et lm (pfu pE h (m 3)) (pfu pA h (m 4)) (B + 2) S := by
  have i_f2 := Pin_f2 I
  clear I
  simp only [Q_f2, pokM, pown, prcv, pgiv, ppge, pfu] at *
  grind
set_option maxHeartbeats 400000 in
theorem pt_panew_f3 {has : Prop} {V E H T oG oT w0 w1 w2 w3 lo hi : Int} {st ep hl hh mv ac pt tk et lm pE pA : Nat → Int} {B : Int} {S : (Nat → Int) → Prop} (I : Pin has V E H T oG oT w0 w1 w2 w3 lo hi st ep hl hh mv ac pt tk et lm pE pA B S) (h : Nat) (m : (Nat → Int)) (hS : S m) (hk : (m 0) = 4) (hto : (h : Int) = (m 1)) (hst : st h = 0 ∨ st h = 4 ∨ st h = 5) (hm : (m 5) = 0) (hp : pE h < (m 3) ∨ ((m 3) = pE h ∧ pA h < (m 4))) (hV : (m 3) ≤ V) : Q_f3 has V E H T oG oT w0 w1 w2 w3 lo hi (pfu st h (if (m 6) < 0 then 5 else 4)) (pfu ep h (m 3)) (pfu hl h (m 7)) (pfu hh h (m 8)) mv (pfu ac h (m 4)) (pfu pt h 1) tk et lm (pfu pE h (m 3)) (pfu pA h (m 4)) (B + 2) S := by
  have i_f3 := Pin_f3 I
  clear I
  simp only [Q_f3, pokM, pown, prcv, pgiv, ppge, pfu] at *
  grind
set_option maxHeartbeats 400000 in
theorem pt_panew_g {has : Prop} {V E H T oG oT w0 w1 w2 w3 lo hi : Int} {st ep hl hh mv ac pt tk et lm pE pA : Nat → Int} {B : Int} {S : (Nat → Int) → Prop} (I : Pin has V E H T oG oT w0 w1 w2 w3 lo hi st ep hl hh mv ac pt tk et lm pE pA B S) (h : Nat) (m : (Nat → Int)) (hS : S m) (hk : (m 0) = 4) (hto : (h : Int) = (m 1)) (hst : st h = 0 ∨ st h = 4 ∨ st h = 5) (hm : (m 5) = 0) (hp : pE h < (m 3) ∨ ((m 3) = pE h ∧ pA h < (m 4))) (hV : (m 3) ≤ V) : Q_g has V E H T oG oT w0 w1 w2 w3 lo hi (pfu st h (if (m 6) < 0 then 5 else 4)) (pfu ep h (m 3)) (pfu hl h (m 7)) (pfu hh h (m 8)) mv (pfu ac h (m 4)) (pfu pt h 1) tk et lm (pfu pE h (m 3)) (pfu pA h (m 4)) (B + 2) S := by
  have i_g := Pin_g I
  clear I
  simp only [Q_g, pokM, pown, prcv, pgiv, ppge, pfu] at *
  grind
set_option maxHeartbeats 400000 in
theorem pt_panew_g0 {has : Prop} {V E H T oG oT w0 w1 w2 w3 lo hi : Int} {st ep hl hh mv ac pt tk et lm pE pA : Nat → Int} {B : Int} {S : (Nat → Int) → Prop} (I : Pin has V E H T oG oT w0 w1 w2 w3 lo hi st ep hl hh mv ac pt tk et lm pE pA B S) (h : Nat) (m : (Nat → Int)) (hS : S m) (hk : (m 0) = 4) (hto : (h : Int) = (m 1)) (hst : st h = 0 ∨ st h = 4 ∨ st h = 5) (hm : (m 5) = 0) (hp : pE h < (m 3) ∨ ((m 3) = pE h ∧ pA h < (m 4))) (hV : (m 3) ≤ V) : Q_g0 has V E H T oG oT w0 w1 w2 w3 lo hi (pfu st h (if (m 6) < 0 then 5 else 4)) (pfu ep h (m 3)) (pfu hl h (m 7)) (pfu hh h (m 8)) mv (pfu ac h (m 4)) (pfu pt h 1) tk et lm (pfu pE h (m 3)) (pfu pA h (m 4)) (B + 2) S := by
  have i_g0 := Pin_g0 I
  clear I
  simp only [Q_g0, pokM, pown, prcv, pgiv, ppge, pfu] at *
  grind
set_option maxHeartbeats 400000 in
theorem pt_panew_g1 {has : Prop} {V E H T oG oT w0 w1 w2 w3 lo hi : Int} {st ep hl hh mv ac pt tk et lm pE pA : Nat → Int} {B : Int} {S : (Nat → Int) → Prop} (I : Pin has V E H T oG oT w0 w1 w2 w3 lo hi st ep hl hh mv ac pt tk et lm pE pA B S) (h : Nat) (m : (Nat → Int)) (hS : S m) (hk : (m 0) = 4) (hto : (h : Int) = (m 1)) (hst : st h = 0 ∨ st h = 4 ∨ st h = 5) (hm : (m 5) = 0) (hp : pE h < (m 3) ∨ ((m 3) = pE h ∧ pA h < (m 4))) (hV : (m 3) ≤ V) : Q_g1 has V E H T oG oT w0 w1 w2 w3 lo hi (pfu st h (if (m 6) < 0 then 5 else 4)) (pfu ep h (m 3)) (pfu hl h (m 7)) (pfu hh h (m 8)) mv (pfu ac h (m 4)) (pfu pt h 1) tk et lm (pfu pE h (m 3)) (pfu pA h (m 4)) (B + 2) S := by
  have i_g1 := Pin_g1 I
  clear I
  simp only [Q_g1, pokM, pown, prcv, pgiv, ppge, pfu] at *
  grind
set_option maxHeartbeats 400000 in
theorem pt_panew_g2 {has : Prop} {V E H T oG oT w0 w1 w2 w3 lo hi : Int} {st ep hl hh mv ac pt tk et lm pE pA : Nat → Int} {B : Int} {S : (Nat → Int) → Prop} (I : Pin has V E H T oG oT w0 w1 w2 w3 lo hi st ep hl hh mv ac pt tk et lm pE pA B S) (h : Nat) (m : (Nat → Int)) (hS : S m) (hk : (m 0) = 4) (hto : (h : Int) = (m 1)) (hst : st h = 0 ∨ st h = 4 ∨ st h = 5) (hm : (m 5) = 0) (hp : pE h < (m 3) ∨ ((m 3) = pE h ∧ pA h < (m 4))) (hV : (m 3) ≤ V) : Q_g2 has V E H T oG oT w0 w1 w2 w3 lo hi (pfu st h (if (m 6) < 0 then 5 else 4)) (pfu ep h (m 3)) (pfu hl h (m 7)) (pfu hh h (m 8)) mv (pfu ac h (m 4)) (pfu pt h 1) tk et lm (pfu pE h (m 3)) (pfu pA h (m 4)) (B + 2) S := by
  have i_g2 := Pin_g2 I
  clear I
  simp only [Q_g2, pokM, pown, prcv, pgiv, ppge, pfu] at *
  grind
set_option maxHeartbeats 400000 in
theorem pt_panew_h7 {has : Prop} {V E H T oG oT w0 w1 w2 w3 lo hi : Int} {st ep hl hh mv ac pt tk et lm pE pA : Nat → Int} {B : Int} {S : (Nat → Int) → Prop} (I : Pin has V E H T oG oT w0 w1 w2 w3 lo hi st ep hl hh mv ac pt tk et lm pE pA B S) (h : Nat) (m : (Nat → Int)) (hS : S m) (hk : (m 0) = 4) (hto : (h : Int) = (m 1)) (hst : st h = 0 ∨ st h = 4 ∨ st h = 5) (hm : (m 5) = 0) (hp : pE h < (m 3) ∨ ((m 3) = pE h ∧ pA h < (m 4))) (hV : (m 3) ≤ V) : Q_h7 has V E H T oG oT w0 w1 w2 w3 lo hi (pfu st h (if (m 6) < 0 then 5 else 4)) (pfu ep h (m 3)) (pfu hl h (m 7)) (pfu hh h (m 8)) mv (pfu ac h (m 4)) (pfu pt h 1) tk et lm (pfu pE h (m 3)) (pfu pA h (m 4)) (B + 2) S := by
  have i_h7 := Pin_h7 I
  clear I
  simp only [Q_h7, pokM, pown, prcv, pgiv, ppge, pfu] at *
  grind
set_option maxHeartbeats 400000 in
theorem pt_panew_h9 {has : Prop} {V E H T oG oT w0 w1 w2 w3 lo hi : Int} {st ep hl hh mv ac pt tk et lm pE pA : Nat → Int} {B : Int} {S : (Nat → Int) → Prop} (I : Pin has V E H T oG oT w0 w1 w2 w3 lo hi st ep hl hh mv ac pt tk et lm pE pA B S) (h : Nat) (m : (Nat → Int)) (hS : S m) (hk : (m 0) = 4) (hto : (h : Int) = (m 1)) (hst : st h = 0 ∨ st h = 4 ∨ st h = 5) (hm : (m 5) = 0) (hp : pE h < (m 3) ∨ ((m 3) = pE h ∧ pA h < (m 4))) (hV : (m 3) ≤ V) : Q_h9 has V E H T oG oT w0 w1 w2 w3 lo hi (pfu st h (if (m 6) < 0 then 5 else 4)) (pfu ep h (m 3)) (pfu hl h (m 7)) (pfu hh h (m 8)) mv (pfu ac h (m 4)) (pfu pt h 1) tk et lm (pfu pE h (m 3)) (pfu pA h (m 4)) (B + 2) S := by
  have i_h9 := Pin_h9 I
  clear I
  simp only [Q_h9, pokM, pown, prcv, pgiv, ppge, pfu] at *
  grind
set_option maxHeartbeats 400000 in
theorem pt_panew_h10 {has : Prop} {V E H T oG oT w0 w1 w2 w3 lo hi : Int} {st ep hl hh mv ac pt tk et lm pE pA : Nat → Int} {B : Int} {S : (Nat → Int) → Prop} (I : Pin has V E H T oG oT w0 w1 w2 w3 lo hi st ep hl hh mv ac pt tk et lm pE pA B S) (h : Nat) (m : (Nat → Int)) (hS : S m) (hk : (m 0) = 4) (hto : (h : Int) = (m 1)) (hst : st h = 0 ∨ st h = 4 ∨ st h = 5) (hm : (m 5) = 0) (hp : pE h < (m 3) ∨ ((m 3) = pE h ∧ pA h < (m 4))) (hV : (m 3) ≤ V) : Q_h10 has V E H T oG oT w0 w1 w2 w3 lo hi (pfu st h (if (m 6) < 0 then 5 else 4)) (pfu ep h (m 3)) (pfu hl h (m 7)) (pfu hh h (m 8)) mv (pfu ac h (m 4)) (pfu pt h 1) tk et lm (pfu pE h (m 3)) (pfu pA h (m 4)) (B + 2) S := by
  have i_h10 := Pin_h10 I
  clear I
  simp only [Q_h10, pokM, pown, prcv, pgiv, ppge, pfu] at *
  grind
set_option maxHeartbeats 400000 in
theorem pt_panew_h11 {has : Prop} {V E H T oG oT w0 w1 w2 w3 lo hi : Int} {st ep hl hh mv ac pt tk et lm pE pA : Nat → Int} {B : Int} {S : (Nat → Int) → Prop} (I : Pin has V E H T oG oT w0 w1 w2 w3 lo hi st ep hl hh mv ac pt tk et lm pE pA B S) (h : Nat) (m : (Nat → Int)) (hS : S m) (hk : (m 0) = 4) (hto : (h : Int) = (m 1)) (hst : st h = 0 ∨ st h = 4 ∨ st h = 5) (hm : (m 5) = 0) (hp : pE h < (m 3) ∨ ((m 3) = pE h ∧ pA h < (m 4))) (hV : (m 3) ≤ V) : Q_h11 has V E H T oG oT w0 w1 w2 w3 lo hi (pfu st h (if (m 6) < 0 then 5 else 4)) (pfu ep h (m 3)) (pfu hl h (m 7)) (pfu hh h (m 8)) mv (pfu ac h (m 4)) (pfu pt h 1) tk et lm (pfu pE h (m 3)) (pfu pA h (m 4)) (B + 2) S := by
  have i_h11 := Pin_h11 I
  clear I
  simp only [Q_h11, pokM, pown, prcv, pgiv, ppge, pfu] at *
  grind
set_option maxHeartbeats 400000 in
theorem pt_panew_h12 {has : Prop} {V E H T oG oT w0 w1 w2 w3 lo hi : Int} {st ep hl hh mv ac pt tk et lm pE pA : Nat → Int} {B : Int} {S : (Nat → Int) → Prop} (I : Pin has V E H T oG oT w0 w1 w2 w3 lo hi st ep hl hh mv ac pt tk et lm pE pA B S) (h : Nat) (m : (Nat → Int)) (hS : S m) (hk : (m 0) = 4) (hto : (h : Int) = (m 1)) (hst : st h = 0 ∨ st h = 4 ∨ st h = 5) (hm : (m 5) = 0) (hp : pE h < (m 3) ∨ ((m 3) = pE h ∧ pA h < (m 4))) (hV : (m 3) ≤ V) : Q_h12 has V E H T oG oT w0 w1 w2 w3 lo hi (pfu st h (if (m 6) < 0 then 5 else 4)) (pfu ep h (m 3)) (pfu hl h (m 7)) (pfu hh h (m 8)) mv (pfu ac h (m 4)) (pfu pt h 1) tk et lm (pfu pE h (m 3)) (pfu pA h (m 4)) (B + 2) S := by
  have i_h12 := Pin_h12 I
  clear I
  simp only [Q_h12, pokM, pown, prcv, pgiv, ppge, pfu] at *
  grind
set_option maxHeartbeats 400000 in
theorem pt_panew_k1 {has : Prop} {V E H T oG oT w0 w1 w2 w3 lo hi : Int} {st ep hl hh mv ac pt tk et lm pE pA : Nat → Int} {B : Int} {S : (Nat → Int) → Prop} (I : Pin has V E H T oG oT w0 w1 w2 w3 lo hi st ep hl hh mv ac pt tk et lm pE pA B S) (h : Nat) (m : (Nat → Int)) (hS : S m) (hk : (m 0) = 4) (hto : (h : Int) = (m 1)) (hst : st h = 0 ∨ st h = 4 ∨ st h = 5) (hm : (m 5) = 0) (hp : pE h < (m 3) ∨ ((m 3) = pE h ∧ pA h < (m 4))) (hV : (m 3) ≤ V) : Q_k1 has V E H T oG oT w0 w1 w2 w3 lo hi (pfu st h (if (m 6) < 0 then 5 else 4)) (pfu ep h (m 3)) (pfu hl h (m 7)) (pfu hh h (m 8)) mv (pfu ac h (m 4)) (pfu pt h 1) tk et lm (pfu pE h (m 3)) (pfu pA h (m 4)) (B + 2) S := by
  have i_k1 := Pin_k1 I
  have i_k2 := Pin_k2 I
  clear I
  simp only [Q_k1, Q_k2, pokM, pown, prcv, pgiv, ppge, pfu] at *
  grind
set_option maxHeartbeats 400000 in
theorem pt_panew_k2 {has : Prop} {V E H T oG oT w0 w1 w2 w3 lo hi : Int} {st ep hl hh mv ac pt tk et lm pE pA : Nat → Int} {B : Int} {S : (Nat → Int) → Prop} (I : Pin has V E H T oG oT w0 w1 w2 w3 lo hi st ep hl hh mv ac pt tk et lm pE pA B S) (h : Nat) (m : (Nat → Int)) (hS : S m) (hk : (m 0) = 4) (hto : (h : Int) = (m 1)) (hst : st h = 0 ∨ st h = 4 ∨ st h = 5) (hm : (m 5) = 0) (hp : pE h < (m 3) ∨ ((m 3) = pE h ∧ pA h < (m 4))) (hV : (m 3) ≤ V) : Q_k2 has V E H T oG oT w0 w1 w2 w3 lo hi (pfu st h (if (m 6) < 0 then 5 else 4)) (pfu ep h (m 3)) (pfu hl h (m 7)) (pfu hh h (m 8)) mv (pfu ac h (m 4)) (pfu pt h 1) tk et lm (pfu pE h (m 3)) (pfu pA h (m 4)) (B + 2) S := by
  have i_k2 := Pin_k2 I
  clear I
  simp only [Q_k2, pokM, pown, prcv, pgiv, ppge, pfu] at *
  grind
set_option maxHeartbeats 400000 in
theorem pt_panew_k8 {has : Prop} {V E H T oG oT w0 w1 w2 w3 lo hi : Int} {st ep hl hh mv ac pt tk et lm pE pA : Nat → Int} {B : Int} {S : (Nat → Int) → Prop} (I : Pin has V E H T oG oT w0 w1 w2 w3 lo hi st ep hl hh mv ac pt tk et lm pE pA B S) (h : Nat) (m : (Nat → Int)) (hS : S m) (hk : (m 0) = 4) (hto : (h : Int) = (m 1)) (hst : st h = 0 ∨ st h = 4 ∨ st h = 5) (hm : (m 5) = 0) (hp : pE h < (m 3) ∨ ((m 3) = pE h ∧ pA h < (m 4))) (hV : (m 3) ≤ V) : Q_k8 has V E H T oG oT w0 w1 w2 w3 lo hi (pfu st h (if (m 6) < 0 then 5 else 4)) (pfu ep h (m 3)) (pfu hl h (m 7)) (pfu hh h (m 8)) mv (pfu ac h (m 4)) (pfu pt h 1) tk et lm (pfu pE h (m 3)) (pfu pA h (m 4)) (B + 2) S := by
  have i_v0 := Pin_v0 I
  have i_a := Pin_a I
  have i_b := Pin_b I
  have i_c := Pin_c I
  have i_d := Pin_d I
  have i_e := Pin_e I
  have i_f := Pin_f I
  have i_f2 := Pin_f2 I
  have i_f3 := Pin_f3 I
  have i_g := Pin_g I
  have i_g0 := Pin_g0 I
  have i_g1 := Pin_g1 I
  have i_g2 := Pin_g2 I
  have i_h7 := Pin_h7 I
  have i_k1 := Pin_k1 I
  have i_k2 := Pin_k2 I
  have i_k8 := Pin_k8 I
  have i_o := Pin_o I
  have i_q := Pin_q I
  clear I
  simp only [Q_a, Q_b, Q_c, Q_d, Q_e, Q_f, Q_f2, Q_f3, Q_g, Q_g0, Q_g1, Q_g2, Q_h7, Q_k1, Q_k2, Q_k8, Q_o, Q_q, Q_v0, pokM, pown, prcv, pgiv, ppge, pfu] at *
  grind
set_option maxHeartbeats 400000 in
theorem pt_panew_l4 {has : Prop} {V E H T oG oT w0 w1 w2 w3 lo hi : Int} {st ep hl hh mv ac pt tk et lm pE pA : Nat → Int} {B : Int} {S : (Nat → Int) → Prop} (I : Pin has V E H T oG oT w0 w1 w2 w3 lo hi st ep hl hh mv ac pt tk et lm pE pA B S) (h : Nat) (m : (Nat → Int)) (hS : S m) (hk : (m 0) = 4) (hto : (h : Int) = (m 1)) (hst : st h = 0 ∨ st h = 4 ∨ st h = 5) (hm : (m 5) = 0) (hp : pE h < (m 3) ∨ ((m 3) = pE h ∧ pA h < (m 4))) (hV : (m 3) ≤ V) : Q_l4 has V E H T oG oT w0 w1 w2 w3 lo hi (pfu st h (if (m 6) < 0 then 5 else 4)) (pfu ep h (m 3)) (pfu hl h (m 7)) (pfu hh h (m 8)) mv (pfu ac h (m 4)) (pfu pt h 1) tk et lm (pfu pE h (m 3)) (pfu pA h (m 4)) (B + 2) S := by
  have i_l4 := Pin_l4 I
  clear I
  simp only [Q_l4, pokM, pown, prcv, pgiv, ppge, pfu] at *
  grind
set_option maxHeartbeats 400000 in
theorem pt_panew_l5 {has : Prop} {V E H T oG oT w0 w1 w2 w3 lo hi : Int} {st ep hl hh mv ac pt tk et lm pE pA : Nat → Int} {B : Int} {S : (Nat → Int) → Prop} (I : Pin has V E H T oG oT w0 w1 w2 w3 lo hi st ep hl hh mv ac pt tk et lm pE pA B S) (h : Nat) (m : (Nat → Int)) (hS : S m) (hk : (m 0) = 4) (hto : (h : Int) = (m 1)) (hst : st h = 0 ∨ st h = 4 ∨ st h = 5) (hm : (m 5) = 0) (hp : pE h < (m 3) ∨ ((m 3) = pE h ∧ pA h < (m 4))) (hV : (m 3) ≤ V) : Q_l5 has V E H T oG oT w0 w1 w2 w3 lo hi (pfu st h (if (m 6) < 0 then 5 else 4)) (pfu ep h (m 3)) (pfu hl h (m 7)) (pfu hh h (m 8)) mv (pfu ac h (m 4)) (pfu pt h 1) tk et lm (pfu pE h (m 3)) (pfu pA h (m 4)) (B + 2) S := by
  have i_l4 := Pin_l4 I
  have i_l5 := Pin_l5 I
  clear I
  simp only [Q_l4, Q_l5, pokM, pown, prcv, pgiv, ppge, pfu] at *
  grind
set_option maxHeartbeats 400000 in
theorem pt_panew_l3 {has : Prop} {V E H T oG oT w0 w1 w2 w3 lo hi : Int} {st ep hl hh mv ac pt tk et lm pE pA : Nat → Int} {B : Int} {S : (Nat → Int) → Prop} (I : Pin has V E H T oG oT w0 w1 w2 w3 lo hi st ep hl hh mv ac pt tk et lm pE pA B S) (h : Nat) (m : (Nat → Int)) (hS : S m) (hk : (m 0) = 4) (hto : (h : Int) = (m 1)) (hst : st h = 0 ∨ st h = 4 ∨ st h = 5) (hm : (m 5) = 0) (hp : pE h < (m 3) ∨ ((m 3) = pE h ∧ pA h < (m 4))) (hV : (m 3) ≤ V) : Q_l3 has V E H T oG oT w0 w1 w2 w3 lo hi (pfu st h (if (m 6) < 0 then 5 else 4)) (pfu ep h (m 3)) (pfu hl h (m 7)) (pfu hh h (m 8)) mv (pfu ac h (m 4)) (pfu pt h 1) tk et lm (pfu pE h (m 3)) (pfu pA h (m 4)) (B + 2) S := by
  have i_l3 := Pin_l3 I
  clear I
  simp only [Q_l3, pokM, pown, prcv, pgiv, ppge, pfu] at *
  grind
set_option maxHeartbeats 400000 in
theorem pt_panew_m1 {has : Prop} {V E H T oG oT w0 w1 w2 w3 lo hi : Int} {st ep hl hh mv ac pt tk et lm pE pA : Nat → Int} {B : Int} {S : (Nat → Int) → Prop} (I : Pin has V E H T oG oT w0 w1 w2 w3 lo hi st ep hl hh mv ac pt tk et lm pE pA B S) (h : Nat) (m : (Nat → Int)) (hS : S m) (hk : (m 0) = 4) (hto : (h : Int) = (m 1)) (hst : st h = 0 ∨ st h = 4 ∨ st h = 5) (hm : (m 5) = 0) (hp : pE h < (m 3) ∨ ((m 3) = pE h ∧ pA h < (m 4))) (hV : (m 3) ≤ V) : Q_m1 has V E H T oG oT w0 w1 w2 w3 lo hi (pfu st h (if (m 6) < 0 then 5 else 4)) (pfu ep h (m 3)) (pfu hl h (m 7)) (pfu hh h (m 8)) mv (pfu ac h (m 4)) (pfu pt h 1) tk et lm (pfu pE h (m 3)) (pfu pA h (m 4)) (B + 2) S := by
  have i_m1 := Pin_m1 I
  clear I
  simp only [Q_m1, pokM, pown, prcv, pgiv, ppge, pfu] at *
  grind
set_option maxHeartbeats 400000 in
theorem pt_panew_m2 {has : Prop} {V E H T oG oT w0 w1 w2 w3 lo hi : Int} {st ep hl hh mv ac pt tk et lm pE pA : Nat → Int} {B : Int} {S : (Nat → Int) → Prop} (I : Pin has V E H T oG oT w0 w1 w2 w3 lo hi st ep hl hh mv ac pt tk et lm pE pA B S) (h : Nat) (m : (Nat → Int)) (hS : S m) (hk : (m 0) = 4) (hto : (h : Int) = (m 1)) (hst : st h = 0 ∨ st h = 4 ∨ st h = 5) (hm : (m 5) = 0) (hp : pE h < (m 3) ∨ ((m 3) = pE h ∧ pA h < (m 4))) (hV : (m 3) ≤ V) : Q_m2 has V E H T oG oT w0 w1 w2 w3 lo hi (pfu st h (if (m 6) < 0 then 5 else 4)) (pfu ep h (m 3)) (pfu hl h (m 7)) (pfu hh h (m 8)) mv (pfu ac h (m 4)) (pfu pt h 1) tk et lm (pfu pE h (m 3)) (pfu pA h (m 4)) (B + 2) S := by
  have i_m1 := Pin_m1 I
  have i_m2 := Pin_m2 I
  clear I
  simp only [Q_m1, Q_m2, pokM, pown, prcv, pgiv, ppge, pfu] at *
  grind
set_option maxHeartbeats 400000 in
theorem pt_panew_m3 {has : Prop} {V E H T oG oT w0 w1 w2 w3 lo hi : Int} {st ep hl hh mv ac pt tk et lm pE pA : Nat → Int} {B : Int} {S : (Nat → Int) → Prop} (I : Pin has V E H T oG oT w0 w1 w2 w3 lo hi st ep hl hh mv ac pt tk et lm pE pA B S) (h : Nat) (m : (Nat → Int)) (hS : S m) (hk : (m 0) = 4) (hto : (h : Int) = (m 1)) (hst : st h = 0 ∨ st h = 4 ∨ st h = 5) (hm : (m 5) = 0) (hp : pE h < (m 3) ∨ ((m 3) = pE h ∧ pA h < (m 4))) (hV : (m 3) ≤ V) : Q_m3 has V E H T oG oT w0 w1 w2 w3 lo hi (pfu st h (if (m 6) < 0 then 5 else 4)) (pfu ep h (m 3)) (pfu hl h (m 7)) (pfu hh h (m 8)) mv (pfu ac h (m 4)) (pfu pt h 1) tk et lm (pfu pE h (m 3)) (pfu pA h (m 4)) (B + 2) S := by
  have i_m1 := Pin_m1 I
  have i_m3 := Pin_m3 I
  clear I
  simp only [Q_m1, Q_m3, pokM, pown, prcv, pgiv, ppge, pfu] at *
  grind
set_option maxHeartbeats 400000 in
theorem pt_panew_n0 {has : Prop} {V E H T oG oT w0 w1 w2 w3 lo hi : Int} {st ep hl hh mv ac pt tk et lm pE pA : Nat → Int} {B : Int} {S : (Nat → Int) → Prop} (I : Pin has V E H T oG oT w0 w1 w2 w3 lo hi st ep hl hh mv ac pt tk et lm pE pA B S) (h : Nat) (m : (Nat → Int)) (hS : S m) (hk : (m 0) = 4) (hto : (h : Int) = (m 1)) (hst : st h = 0 ∨ st h = 4 ∨ st h = 5) (hm : (m 5) = 0) (hp : pE h < (m 3) ∨ ((m 3) = pE h ∧ pA h < (m 4))) (hV : (m 3) ≤ V) : Q_n0 has V E H T oG oT w0 w1 w2 w3 lo hi (pfu st h (if (m 6) < 0 then 5 else 4)) (pfu ep h (m 3)) (pfu hl h (m 7)) (pfu hh h (m 8)) mv (pfu ac h (m 4)) (pfu pt h 1) tk et lm (pfu pE h (m 3)) (pfu pA h (m 4)) (B + 2) S := by
  have i_n0 := Pin_n0 I
  clear I
  simp only [Q_n0, pokM, pown, prcv, pgiv, ppge, pfu] at *
  grind
set_option maxHeartbeats 400000 in
theorem pt_panew_n1 {has : Prop} {V E H T oG oT w0 w1 w2 w3 lo hi : Int} {st ep hl hh mv ac pt tk et lm pE pA : Nat → Int} {B : Int} {S : (Nat → Int) → Prop} (I : Pin has V E H T oG oT w0 w1 w2 w3 lo hi st ep hl hh mv ac pt tk et lm pE pA B S) (h : Nat) (m : (Nat → Int)) (hS : S m) (hk : (m 0) = 4) (hto : (h : Int) = (m 1)) (hst : st h = 0 ∨ st h = 4 ∨ st h = 5) (hm : (m 5) = 0) (hp : pE h < (m 3) ∨ ((m 3) = pE h ∧ pA h < (m 4))) (hV : (m 3) ≤ V) : Q_n1 has V E H T oG oT w0 w1 w2 w3 lo hi (pfu st h (if (m 6) < 0 then 5 else 4)) (pfu ep h (m 3)) (pfu hl h (m 7)) (pfu hh h (m 8)) mv (pfu ac h (m 4)) (pfu pt h 1) tk et lm (pfu pE h (m 3)) (pfu pA h (m 4)) (B + 2) S := by
  have i_n1 := Pin_n1 I
  clear I
  simp only [Q_n1, pokM, pown, prcv, pgiv, ppge, pfu] at *
  grind
set_option maxHeartbeats 400000 in
theorem pt_panew_n2 {has : Prop} {V E H T oG oT w0 w1 w2 w3 lo hi : Int} {st ep hl hh mv ac pt tk et lm pE pA : Nat → Int} {B : Int} {S : (Nat → Int) → Prop} (I : Pin has V E H T oG oT w0 w1 w2 w3 lo hi st ep hl hh mv ac pt tk et lm pE pA B S) (h : Nat) (m : (Nat → Int)) (hS : S m) (hk : (m 0) = 4) (hto : (h : Int) = (m 1)) (hst : st h = 0 ∨ st h = 4 ∨ st h = 5) (hm : (m 5) = 0) (hp : pE h < (m 3) ∨ ((m 3) = pE h ∧ pA h < (m 4))) (hV : (m 3) ≤ V) : Q_n2 has V E H T oG oT w0 w1 w2 w3 lo hi (pfu st h (if (m 6) < 0 then 5 else 4)) (pfu ep h (m 3)) (pfu hl h (m 7)) (pfu hh h (m 8)) mv (pfu ac h (m 4)) (pfu pt h 1) tk et lm (pfu pE h (m 3)) (pfu pA h (m 4)) (B + 2) S := by
  have i_n2 := Pin_n2 I
  clear I
  simp only [Q_n2, pokM, pown, prcv, pgiv, ppge, pfu] at *
  grind
set_option maxHeartbeats 400000 in
theorem pt_panew_n3 {has : Prop} {V E H T oG oT w0 w1 w2 w3 lo hi : Int} {st ep hl hh mv ac pt tk et lm pE pA : Nat → Int} {B : Int} {S : (Nat → Int) → Prop} (I : Pin has V E H T oG oT w0 w1 w2 w3 lo hi st ep hl hh mv ac pt tk et lm pE pA B S) (h : Nat) (m : (Nat → Int)) (hS : S m) (hk : (m 0) = 4) (hto : (h : Int) = (m 1)) (hst : st h = 0 ∨ st h = 4 ∨ st h = 5) (hm : (m 5) = 0) (hp : pE h < (m 3) ∨ ((m 3) = pE h ∧ pA h < (m 4))) (hV : (m 3) ≤ V) : Q_n3 has V E H T oG oT w0 w1 w2 w3 lo hi (pfu st h (if (m 6) < 0 then 5 else 4)) (pfu ep h (m 3)) (pfu hl h (m 7)) (pfu hh h (m 8)) mv (pfu ac h (m 4)) (pfu pt h 1) tk et lm (pfu pE h (m 3)) (pfu pA h (m 4)) (B + 2) S := by
  have i_v0 := Pin_v0 I
  have i_a := Pin_a I
  have i_b := Pin_b I
  have i_c := Pin_c I
  have i_d := Pin_d I
  have i_e := Pin_e I
  have i_f := Pin_f I
  have i_f2 := Pin_f2 I
  have i_f3 := Pin_f3 I
  have i_g := Pin_g I
  have i_l4 := Pin_l4 I
  have i_l5 := Pin_l5 I
  have i_l3 := Pin_l3 I
  have i_m1 := Pin_m1 I
  have i_m2 := Pin_m2 I
  have i_m3 := Pin_m3 I
  have i_n0 := Pin_n0 I
  have i_n1 := Pin_n1 I
  have i_n2 := Pin_n2 I
  have i_n3 := Pin_n3 I
  have i_n4 := Pin_n4 I
  have i_n5 := Pin_n5 I
  have i_n6 := Pin_n6 I
  have i_n7 := Pin_n7 I
  have i_o := Pin_o I
  have i_q := Pin_q I
  clear I
  simp only [Q_a, Q_b, Q_c, Q_d, Q_e, Q_f, Q_f2, Q_f3, Q_g, Q_l3, Q_l4, Q_l5, Q_m1, Q_m2, Q_m3, Q_n0, Q_n1, Q_n2, Q_n3, Q_n4, Q_n5, Q_n6, Q_n7, Q_o, Q_q, Q_v0, pokM, pown, prcv, pgiv, ppge, pfu] at *
  grind
set_option maxHeartbeats 400000 in
theorem pt_panew_n4 {has : Prop} {V E H T oG oT w0 w1 w2 w3 lo hi : Int} {st ep hl hh mv ac pt tk et lm pE pA : Nat → Int} {B : Int} {S : (Nat → Int) → Prop} (I : Pin has V E H T oG oT w0 w1 w2 w3 lo hi st ep hl hh mv ac pt tk et lm pE pA B S) (h : Nat) (m : (Nat → Int)) (hS : S m) (hk : (m 0) = 4) (hto : (h : Int) = (m 1)) (hst : st h = 0 ∨ st h = 4 ∨ st h = 5) (hm : (m 5) = 0) (hp : pE h < (m 3) ∨ ((m 3) = pE h ∧ pA h < (m 4))) (hV : (m 3) ≤ V) : Q_n4 has V E H T oG oT w0 w1 w2 w3 lo hi (pfu st h (if (m 6) < 0 then 5 else 4)) (pfu ep h (m 3)) (pfu hl h (m 7)) (pfu hh h (m 8)) mv (pfu ac h (m 4)) (pfu pt h 1) tk et lm (pfu pE h (m 3)) (pfu pA h (m 4)) (B + 2) S := by
  have i_v0 := Pin_v0 I
  have i_a := Pin_a I
  have i_b := Pin_b I
  have i_c := Pin_c I
  have i_d := Pin_d I
  have i_e := Pin_e I
  have i_f := Pin_f I
  have i_f2 := Pin_f2 I
  have i_f3 := Pin_f3 I
  have i_g := Pin_g I
  have i_l4 := Pin_l4 I
  have i_l5 := Pin_l5 I
  have i_l3 := Pin_l3 I
  have i_m1 := Pin_m1 I
  have i_m2 := Pin_m2 I
  have i_m3 := Pin_m3 I
  have i_n0 := Pin_n0 I
  have i_n1 := Pin_n1 I
  have i_n2 := Pin_n2 I
  have i_n3 := Pin_n3 I
  have i_n4 := Pin_n4 I
  have i_n5 := Pin_n5 I
  have i_n6 := Pin_n6 I
  have i_n7 := Pin_n7 I
  have i_o := Pin_o I
  have i_q := Pin_q I
  clear I
  simp only [Q_a, Q_b, Q_c, Q_d, Q_e, Q_f, Q_f2, Q_f3, Q_g, Q_l3, Q_l4, Q_l5, Q_m1, Q_m2, Q_m3, Q_n0, Q_n1, Q_n2, Q_n3, Q_n4, Q_n5, Q_n6, Q_n7, Q_o, Q_q, Q_v0, pokM, pown, prcv, pgiv, ppge, pfu] at *
  grind
set_option maxHeartbeats 400000 in
theorem pt_panew_n5 {has : Prop} {V E H T oG oT w0 w1 w2 w3 lo hi : Int} {st ep hl hh mv ac pt tk et lm pE pA : Nat → Int} {B : Int} {S : (Nat → Int) → Prop} (I : Pin has V E H T oG oT w0 w1 w2 w3 lo hi st ep hl hh mv ac pt tk et lm pE pA B S) (h : Nat) (m : (Nat → Int)) (hS : S m) (hk : (m 0) = 4) (hto : (h : Int) = (m 1)) (hst : st h = 0 ∨ st h = 4 ∨ st h = 5) (hm : (m 5) = 0) (hp : pE h < (m 3) ∨ ((m 3) = pE h ∧ pA h < (m 4))) (hV : (m 3) ≤ V) : Q_n5 has V E H T oG oT w0 w1 w2 w3 lo hi (pfu st h (if (m 6) < 0 then 5 else 4)) (pfu ep h (m 3)) (pfu hl h (m 7)) (pfu hh h (m 8)) mv (pfu ac h (m 4)) (pfu pt h 1) tk et lm (pfu pE h (m 3)) (pfu pA h (m 4)) (B + 2) S := by
  have i_n5 := Pin_n5 I
  clear I
  simp only [Q_n5, pokM, pown, prcv, pgiv, ppge, pfu] at *
  grind
set_option maxHeartbeats 400000 in
theorem pt_panew_n6 {has : Prop} {V E H T oG oT w0 w1 w2 w3 lo hi : Int} {st ep hl hh mv ac pt tk et lm pE pA : Nat → Int} {B : Int} {S : (Nat → Int) → Prop} (I : Pin has V E H T oG oT w0 w1 w2 w3 lo hi st ep hl hh mv ac pt tk et lm pE pA B S) (h : Nat) (m : (Nat → Int)) (hS : S m) (hk : (m 0) = 4) (hto : (h : Int) = (m 1)) (hst : st h = 0 ∨ st h = 4 ∨ st h = 5) (hm : (m 5) = 0) (hp : pE h < (m 3) ∨ ((m 3) = pE h ∧ pA h < (m 4))) (hV : (m 3) ≤ V) : Q_n6 has V E H T oG oT w0 w1 w2 w3 lo hi (pfu st h (if (m 6) < 0 then 5 else 4)) (pfu ep h (m 3)) (pfu hl h (m 7)) (pfu hh h (m 8)) mv (pfu ac h (m 4)) (pfu pt h 1) tk et lm (pfu pE h (m 3)) (pfu pA h (m 4)) (B + 2) S := by
  have i_n6 := Pin_n6 I
  clear I
  simp only [Q_n6, pokM, pown, prcv, pgiv, ppge, pfu] at *
  grind
set_option maxHeartbeats 400000 in
theorem pt_panew_n7 {has : Prop} {V E H T oG oT w0 w1 w2 w3 lo hi : Int} {st ep hl hh mv ac pt tk et lm pE pA : Nat → Int} {B : Int} {S : (Nat → Int) → Prop} (I : Pin has V E H T oG oT w0 w1 w2 w3 lo hi st ep hl hh mv ac pt tk et lm pE pA B S) (h : Nat) (m : (Nat → Int)) (hS : S m) (hk : (m 0) = 4) (hto : (h : Int) = (m 1)) (hst : st h = 0 ∨ st h = 4 ∨ st h = 5) (hm : (m 5) = 0) (hp : pE h < (m 3) ∨ ((m 3) = pE h ∧ pA h < (m 4))) (hV : (m 3) ≤ V) : Q_n7 has V E H T oG oT w0 w1 w2 w3 lo hi (pfu st h (if (m 6) < 0 then 5 else 4)) (pfu ep h (m 3)) (pfu hl h (m 7)) (pfu hh h (m 8)) mv (pfu ac h (m 4)) (pfu pt h 1) tk et lm (pfu pE h (m 3)) (pfu pA h (m 4)) (B + 2) S := by
  have i_n7 := Pin_n7 I
  clear I
  simp only [Q_n7, pokM, pown, prcv, pgiv, ppge, pfu] at *
  grind
set_option maxHeartbeats 400000 in
theorem pt_panew_o {has : Prop} {V E H T oG oT w0 w1 w2 w3 lo hi : Int} {st ep hl hh mv ac pt tk et lm pE pA : Nat → Int} {B : Int} {S : (Nat → Int) → Prop} (I : Pin has V E H T oG oT w0 w1 w2 w3 lo hi st ep hl hh mv ac pt tk et lm pE pA B S) (h : Nat) (m : (Nat → Int)) (hS : S m) (hk : (m 0) = 4) (hto : (h : Int) = (m 1)) (hst : st h = 0 ∨ st h = 4 ∨ st h = 5) (hm : (m 5) = 0) (hp : pE h < (m 3) ∨ ((m 3) = pE h ∧ pA h < (m 4))) (hV : (m 3) ≤ V) : Q_o has V E H T oG oT w0 w1 w2 w3 lo hi (pfu st h (if (m 6) < 0 then 5 else 4)) (pfu ep h (m 3)) (pfu hl h (m 7)) (pfu hh h (m 8)) mv (pfu ac h (m 4)) (pfu pt h 1) tk et lm (pfu pE h (m 3)) (pfu pA h (m 4)) (B + 2) S := by
  have i_o := Pin_o I
  clear I
  simp only [Q_o, pokM, pown, prcv, pgiv, ppge, pfu] at *
  grind
set_option maxHeartbeats 400000 in
theorem pt_panew_p {has : Prop} {V E H T oG oT w0 w1 w2 w3 lo hi : Int} {st ep hl hh mv ac pt tk et lm pE pA : Nat → Int} {B : Int} {S : (Nat → Int) → Prop} (I : Pin has V E H T oG oT w0 w1 w2 w3 lo hi st ep hl hh mv ac pt tk et lm pE pA B S) (h : Nat) (m : (Nat → Int)) (hS : S m) (hk : (m 0) = 4) (hto : (h : Int) = (m 1)) (hst : st h = 0 ∨ st h = 4 ∨ st h = 5) (hm : (m 5) = 0) (hp : pE h < (m 3) ∨ ((m 3) = pE h ∧ pA h < (m 4))) (hV : (m 3) ≤ V) : Q_p has V E H T oG oT w0 w1 w2 w3 lo hi (pfu st h (if (m 6) < 0 then 5 else 4)) (pfu ep h (m 3)) (pfu hl h (m 7)) (pfu hh h (m 8)) mv (pfu ac h (m 4)) (pfu pt h 1) tk et lm (pfu pE h (m 3)) (pfu pA h (m 4)) (B + 2) S := by
  have i_p := Pin_p I
  clear I
  simp only [Q_p, pokM, pown, prcv, pgiv, ppge, pfu] at *
  grind
set_option maxHeartbeats 400000 in
theorem pt_panew_q {has : Prop} {V E H T oG oT w0 w1 w2 w3 lo hi : Int} {st ep hl hh mv ac pt tk et lm pE pA : Nat → Int} {B : Int} {S : (Nat → Int) → Prop} (I : Pin has V E H T oG oT w0 w1 w2 w3 lo hi st ep hl hh mv ac pt tk et lm pE pA B S) (h : Nat) (m : (Nat → Int)) (hS : S m) (hk : (m 0) = 4) (hto : (h : Int) = (m 1)) (hst : st h = 0 ∨ st h = 4 ∨ st h = 5) (hm : (m 5) = 0) (hp : pE h < (m 3) ∨ ((m 3) = pE h ∧ pA h < (m 4))) (hV : (m 3) ≤ V) : Q_q has V E H T oG oT w0 w1 w2 w3 lo hi (pfu st h (if (m 6) < 0 then 5 else 4)) (pfu ep h (m 3)) (pfu hl h (m 7)) (pfu hh h (m 8)) mv (pfu ac h (m 4)) (pfu pt h 1) tk et lm (pfu pE h (m 3)) (pfu pA h (m 4)) (B + 2) S := by
  have i_q := Pin_q I
  clear I
  simp only [Q_q, pokM, pown, prcv, pgiv, ppge, pfu] at *
  grind
set_option maxHeartbeats 400000 in
theorem pt_panew_q2 {has : Prop} {V E H T oG oT w0 w1 w2 w3 lo hi : Int} {st ep hl hh mv ac pt tk et lm pE pA : Nat → Int} {B : Int} {S : (Nat → Int) → Prop} (I : Pin has V E H T oG oT w0 w1 w2 w3 lo hi st ep hl hh mv ac pt tk et lm pE pA B S) (h : Nat) (m : (Nat → Int)) (hS : S m) (hk : (m 0) = 4) (hto : (h : Int) = (m 1)) (hst : st h = 0 ∨ st h = 4 ∨ st h = 5) (hm : (m 5) = 0) (hp : pE h < (m 3) ∨ ((m 3) = pE h ∧ pA h < (m 4))) (hV : (m 3) ≤ V) : Q_q2 has V E H T oG oT w0 w1 w2 w3 lo hi (pfu st h (if (m 6) < 0 then 5 else 4)) (pfu ep h (m 3)) (pfu hl h (m 7)) (pfu hh h (m 8)) mv (pfu ac h (m 4)) (pfu pt h 1) tk et lm (pfu pE h (m 3)) (pfu pA h (m 4)) (B + 2) S := by
  have i_f := Pin_f I
  have i_q := Pin_q I
  have i_q2 := Pin_q2 I
  have i_q3 := Pin_q3 I
  clear I
  simp only [Q_f, Q_q, Q_q2, Q_q3, pokM, pown, prcv, pgiv, ppge, pfu] at *
  grind
set_option maxHeartbeats 400000 in
theorem pt_panew_q3 {has : Prop} {V E H T oG oT w0 w1 w2 w3 lo hi : Int} {st ep hl hh mv ac pt tk et lm pE pA : Nat → Int} {B : Int} {S : (Nat → Int) → Prop} (I : Pin has V E H T oG oT w0 w1 w2 w3 lo hi st ep hl hh mv ac pt tk et lm pE pA B S) (h : Nat) (m : (Nat → Int)) (hS : S m) (hk : (m 0) = 4) (hto : (h : Int) = (m 1)) (hst : st h = 0 ∨ st h = 4 ∨ st h = 5) (hm : (m 5) = 0) (hp : pE h < (m 3) ∨ ((m 3) = pE h ∧ pA h < (m 4))) (hV : (m 3) ≤ V) : Q_q3 has V E H T oG oT w0 w1 w2 w3 lo hi (pfu st h (if (m 6) < 0 then 5 else 4)) (pfu ep h (m 3)) (pfu hl h (m 7)) (pfu hh h (m 8)) mv (pfu ac h (m 4)) (pfu pt h 1) tk et lm (pfu pE h (m 3)) (pfu pA h (m 4)) (B + 2) S := by
  have i_q3 := Pin_q3 I
  clear I
  simp only [Q_q3, pokM, pown, prcv, pgiv, ppge, pfu] at *
  grind
set_option maxHeartbeats 400000 in
theorem pt_panew_w {has : Prop} {V E H T oG oT w0 w1 w2 w3 lo hi : Int} {st ep hl hh mv ac pt tk et lm pE pA : Nat → Int} {B : Int} {S : (Nat → Int) → Prop} (I : Pin has V E H T oG oT w0 w1 w2 w3 lo hi st ep hl hh mv ac pt tk et lm pE pA B S) (h : Nat) (m : (Nat → Int)) (hS : S m) (hk : (m 0) = 4) (hto : (h : Int) = (m 1)) (hst : st h = 0 ∨ st h = 4 ∨ st h = 5) (hm : (m 5) = 0) (hp : pE h < (m 3) ∨ ((m 3) = pE h ∧ pA h < (m 4))) (hV : (m 3) ≤ V) : Q_w has V E H T oG oT w0 w1 w2 w3 lo hi (pfu st h (if (m 6) < 0 then 5 else 4)) (pfu ep h (m 3)) (pfu hl h (m 7)) (pfu hh h (m 8)) mv (pfu ac h (m 4)) (pfu pt h 1) tk et lm (pfu pE h (m 3)) (pfu pA h (m 4)) (B + 2) S := by
  have i_w := Pin_w I
  clear I
  simp only [Q_w, pokM, pown, prcv, pgiv, ppge, pfu] at *
  grind
theorem pt_panew {has : Prop} {V E H T oG oT w0 w1 w2 w3 lo hi : Int} {st ep hl hh mv ac pt tk et lm pE pA : Nat → Int} {B : Int} {S : (Nat → Int) → Prop} (I : Pin has V E H T oG oT w0 w1 w2 w3 lo hi st ep hl hh mv ac pt tk et lm pE pA B S) (h : Nat) (m : (Nat → Int)) (hS : S m) (hk : (m 0) = 4) (hto : (h : Int) = (m 1)) (hst : st h = 0 ∨ st h = 4 ∨ st h = 5) (hm : (m 5) = 0) (hp : pE h < (m 3) ∨ ((m 3) = pE h ∧ pA h < (m 4))) : Pin has V E H T oG oT w0 w1 w2 w3 lo hi (pfu st h (if (m 6) < 0 then 5 else 4)) (pfu ep h (m 3)) (pfu hl h (m 7)) (pfu hh h (m 8)) mv (pfu ac h (m 4)) (pfu pt h 1) tk et lm (pfu pE h (m 3)) (pfu pA h (m 4)) (B + 2) S := by
  have hV := pt_panew_hV_d I h m hS hk hto hst hm hp 
  exact ⟨pt_panew_v0 I h m hS hk hto hst hm hp hV, pt_panew_a I h m hS hk hto hst hm hp hV, pt_panew_b I h m hS hk hto hst hm hp hV, pt_panew_c I h m hS hk hto hst hm hp hV, pt_panew_d I h m hS hk hto hst hm hp hV, pt_panew_e I h m hS hk hto hst hm hp hV, pt_panew_f I h m hS hk hto hst hm hp hV, pt_panew_f2 I h m hS hk hto hst hm hp hV, pt_panew_f3 I h m hS hk hto hst hm hp hV, pt_panew_g I h m hS hk hto hst hm hp hV, pt_panew_g0 I h m hS hk hto hst hm hp hV, pt_panew_g1 I h m hS hk hto hst hm hp hV, pt_panew_g2 I h m hS hk hto hst hm hp hV, pt_panew_h7 I h m hS hk hto hst hm hp hV, pt_panew_h9 I h m hS hk hto hst hm hp hV, pt_panew_h10 I h m hS hk hto hst hm hp hV, pt_panew_h11 I h m hS hk hto hst hm hp hV, pt_panew_h12 I h m hS hk hto hst hm hp hV, pt_panew_k1 I h m hS hk hto hst hm hp hV, pt_panew_k2 I h m hS hk hto hst hm hp hV, pt_panew_k8 I h m hS hk hto hst hm hp hV, pt_panew_l4 I h m hS hk hto hst hm hp hV, pt_panew_l5 I h m hS hk hto hst hm hp hV, pt_panew_l3 I h m hS hk hto hst hm hp hV, pt_panew_m1 I h m hS hk hto hst hm hp hV, pt_panew_m2 I h m hS hk hto hst hm hp hV, pt_panew_m3 I h m hS hk hto hst hm hp hV, pt_panew_n0 I h m hS hk hto hst hm hp hV, pt_panew_n1 I h m hS hk hto hst hm hp hV, pt_panew_n2 I h m hS hk hto hst hm hp hV, pt_panew_n3 I h m hS hk hto hst hm hp hV, pt_panew_n4 I h m hS hk hto hst hm hp hV, pt_panew_n5 I h m hS hk hto hst hm hp hV, pt_panew_n6 I h m hS hk hto hst hm hp hV, pt_panew_n7 I h m hS hk hto hst hm hp hV, pt_panew_o I h m hS hk hto hst hm hp hV, pt_panew_p I h m hS hk hto hst hm hp hV, pt_panew_q I h m hS hk hto hst hm hp hV, pt_panew_q2 I h m hS hk hto hst hm hp hV, pt_panew_q3 I h m hS hk hto hst hm hp hV, pt_panew_w I h m hS hk hto hst hm hp hV⟩
set_option maxHeartbeats 400000 in
theorem pt_ptake_hV_d {has : Prop} {V E H T oG oT w0 w1 w2 w3 lo hi : Int} {st ep hl hh mv ac pt tk et lm pE pA : Nat → Int} {B : Int} {S : (Nat → Int) → Prop} (I : Pin has V E H T oG oT w0 w1 w2 w3 lo hi st ep hl hh mv ac pt tk et lm pE pA B S) (h : Nat) (m : (Nat → Int)) (hS : S m) (hk : (m 0) = 4) (hto : (h : Int) = (m 1)) (hst : st h = 4) (hep : ep h = (m 3)) (hac : ac h = (m 4)) (hm : (m 5) = pt h)  : (m 3) ≤ V := by
  have i_f := Pin_f I
  clear I
  try simp only [Q_f, pown, prcv, pgiv, ppge, pfu] at *
  grind
set_option maxHeartbeats 400000 in
theorem pt_ptake_v0 {has : Prop} {V E H T oG oT w0 w1 w2 w3 lo hi : Int} {st ep hl hh mv ac pt tk et lm pE pA : Nat → Int} {B : Int} {S : (Nat → Int) → Prop} (I : Pin has V E H T oG oT w0 w1 w2 w3 lo hi st ep hl hh mv ac pt tk et lm pE pA B S) (h : Nat) (m : (Nat → Int)) (hS : S m) (hk : (m 0) = 4) (hto : (h : Int) = (m 1)) (hst : st h = 4) (hep : ep h = (m 3)) (hac : ac h = (m 4)) (hm : (m 5) = pt h) (hV : (m 3) ≤ V) : Q_v0 has V E H T oG oT w0 w1 w2 w3 lo hi (pfu st h (if (m 6) < 0 then 5 else 4)) ep hl hh mv ac (pfu pt h (pt h + 1)) tk et lm pE pA (B + 2) S := by
  have i_v0 := Pin_v0 I
  clear I
  simp only [Q_v0, pokM, pown, prcv, pgiv, ppge, pfu] at *
  grind
set_option maxHeartbeats 400000 in
theorem pt_ptake_a {has : Prop} {V E H T oG oT w0 w1 w2 w3 lo hi : Int} {st ep hl hh mv ac pt tk et lm pE pA : Nat → Int} {B : Int} {S : (Nat → Int) → Prop} (I : Pin has V E H T oG oT w0 w1 w2 w3 lo hi st ep hl hh mv ac pt tk et lm pE pA B S) (h : Nat) (m : (Nat → Int)) (hS : S m) (hk : (m 0) = 4) (hto : (h : Int) = (m 1)) (hst : st h = 4) (hep : ep h = (m 3)) (hac : ac h = (m 4)) (hm : (m 5) = pt h) (hV : (m 3) ≤ V) : Q_a has V E H T oG oT w0 w1 w2 w3 lo hi (pfu st h (if (m 6) < 0 then 5 else 4)) ep hl hh mv ac (pfu pt h (pt h + 1)) tk et lm pE pA (B + 2) S := by
  have i_a := Pin_a I
  clear I
  simp only [Q_a, pokM, pown, prcv, pgiv, ppge, pfu] at *
  grind
set_option maxHeartbeats 400000 in
theorem pt_ptake_b {has : Prop} {V E H T oG oT w0 w1 w2 w3 lo hi : Int} {st ep hl hh mv ac pt tk et lm pE pA : Nat → Int} {B : Int} {S : (Nat → Int) → Prop} (I : Pin has V E H T oG oT w0 w1 w2 w3 lo hi st ep hl hh mv ac pt tk et lm pE pA B S) (h : Nat) (m : (Nat → Int)) (hS : S m) (hk : (m 0) = 4) (hto : (h : Int) = (m 1)) (hst : st h = 4) (hep : ep h = (m 3)) (hac : ac h = (m 4)) (hm : (m 5) = pt h) (hV : (m 3) ≤ V) : Q_b has V E H T oG oT w0 w1 w2 w3 lo hi (pfu st h (if (m 6) < 0 then 5 else 4)) ep hl hh mv ac (pfu pt h (pt h + 1)) tk et lm pE pA (B + 2) S := by
  have i_b := Pin_b I
  clear I
  simp only [Q_b, pokM, pown, prcv, pgiv, ppge, pfu] at *
  grind
set_option maxHeartbeats 400000 in
theorem pt_ptake_c {has : Prop} {V E H T oG oT w0 w1 w2 w3 lo hi : Int} {st ep hl hh mv ac pt tk et lm pE pA : Nat → Int} {B : Int} {S : (Nat → Int) → Prop} (I : Pin has V E H T oG oT w0 w1 w2 w3 lo hi st ep hl hh mv ac pt tk et lm pE pA B S) (h : Nat) (m : (Nat → Int)) (hS : S m) (hk : (m 0) = 4) (hto : (h : Int) = (m 1)) (hst : st h = 4) (hep : ep h = (m 3)) (hac : ac h = (m 4)) (hm : (m 5) = pt h) (hV : (m 3) ≤ V) : Q_c has V E H T oG oT w0 w1 w2 w3 lo hi (pfu st h (if (m 6) < 0 then 5 else 4)) ep hl hh mv ac (pfu pt h (pt h + 1)) tk et lm pE pA (B + 2) S := by
  have i_c := Pin_c I
  clear I
  simp only [Q_c, pokM, pown, prcv, pgiv, ppge, pfu] at *
  grind
set_option maxHeartbeats 400000 in
theorem pt_ptake_d {has : Prop} {V E H T oG oT w0 w1 w2 w3 lo hi : Int} {st ep hl hh mv ac pt tk et lm pE pA : Nat → Int} {B : Int} {S : (Nat → Int) → Prop} (I : Pin has V E H T oG oT w0 w1 w2 w3 lo hi st ep hl hh mv ac pt tk et lm pE pA B S) (h : Nat) (m : (Nat → Int)) (hS : S m) (hk : (m 0) = 4) (hto : (h : Int) = (m 1)) (hst : st h = 4) (hep : ep h = (m 3)) (hac : ac h = (m 4)) (hm : (m 5) = pt h) (hV : (m 3) ≤ V) : Q_d has V E H T oG oT w0 w1 w2 w3 lo hi (pfu st h (if (m 6) < 0 then 5 else 4)) ep hl hh mv ac (pfu pt h (pt h + 1)) tk et lm pE pA (B + 2) S := by
  have i_d := Pin_d I
  clear I
  simp only [Q_d, pokM, pown, prcv, pgiv, ppge, pfu] at *
  grind
set_option maxHeartbeats 400000 in
theorem pt_ptake_e {has : Prop} {V E H T oG oT w0 w1 w2 w3 lo hi : Int} {st ep hl hh mv ac pt tk et lm pE pA : Nat → Int} {B : Int} {S : (Nat → Int) → Prop} (I : Pin has V E H T oG oT w0 w1 w2 w3 lo hi st ep hl hh mv ac pt tk et lm pE pA B S) (h : Nat) (m : (Nat → Int)) (hS : S m) (hk : (m 0) = 4) (hto : (h : Int) = (m 1)) (hst : st h = 4) (hep : ep h = (m 3)) (hac : ac h = (m 4)) (hm : (m 5) = pt h) (hV : (m 3) ≤ V) : Q_e has V E H T oG oT w0 w1 w2 w3 lo hi (pfu st h (if (m 6) < 0 then 5 else 4)) ep hl hh mv ac (pfu pt h (pt h + 1)) tk et lm pE pA (B + 2) S := by
  have i_e := Pin_e I
  clear I
  simp only [Q_e, pokM, pown, prcv, pgiv, ppge, pfu] at *
  grind
set_option maxHeartbeats 400000 in
theorem pt_ptake_f {has : Prop} {V E H T oG oT w0 w1 w2 w3 lo hi : Int} {st ep hl hh mv ac pt tk et lm pE pA : Nat → Int} {B : Int} {S : (Nat → Int) → Prop} (I : Pin has V E H T oG oT w0 w1 w2 w3 lo hi st ep hl hh mv ac pt tk et lm pE pA B S) (h : Nat) (m : (Nat → Int)) (hS : S m) (hk : (m 0) = 4) (hto : (h : Int) = (m 1)) (hst : st h = 4) (hep : ep h = (m 3)) (hac : ac h = (m 4)) (hm : (m 5) = pt h) (hV : (m 3) ≤ V) : Q_f has V E H T oG oT w0 w1 w2 w3 lo hi (pfu st h (if (m 6) < 0 then 5 else 4)) ep hl hh mv ac (pfu pt h (pt h + 1)) tk et lm pE pA (B + 2) S := by
  have i_f := Pin_f I
  clear I
  simp only [Q_f, pokM, pown, prcv, pgiv, ppge, pfu] at *
  grind
set_option maxHeartbeats 400000 in
theorem pt_ptake_f2 {has : Prop} {V E H T oG oT w0 w1 w2 w3 lo hi : Int} {st ep hl hh mv ac pt tk et lm pE pA : Nat → Int} {B : Int} {S : (Nat → Int) → Prop} (I : Pin has V E H T oG oT w0 w1 w2 w3 lo hi st ep hl hh mv ac pt tk et lm pE pA B S) (h : Nat) (m : (Nat → Int)) (hS : S m) (hk : (m 0) = 4) (hto : (h : Int) = (m 1)) (hst : st h = 4) (hep : ep h = (m 3)) (hac : ac h = (m 4)) (hm : (m 5) = pt h) (hV : (m 3) ≤ V) : Q_f2 has V E H T oG oT w0 w1 w2 w3 lo hi (pfu st h (if (m 6) < 0 then 5 else 4)) ep hl hh mv ac (pfu pt h (pt h + 1)) tk et lm pE pA (B + 2) S := by
  have i_f2 := Pin_f2 I
  clear I
  simp only [Q_f2, pokM, pown, prcv, pgiv, ppge, pfu] at *
  grind
set_option maxHeartbeats 400000 in
theorem pt_ptake_f3 {has : Prop} {V E H T oG oT w0 w1 w2 w3 lo hi : Int} {st ep hl hh mv ac pt tk et lm pE pA : Nat → Int} {B : Int} {S : (Nat → Int) → Prop} (I : Pin has V E H T oG oT w0 w1 w2 w3 lo hi st ep hl hh mv ac pt tk et lm pE pA B S) (h : Nat) (m : (Nat → Int)) (hS : S m) (hk : (m 0) = 4) (hto : (h : Int) = (m 1)) (hst : st h = 4) (hep : ep h = (m 3)) (hac : ac h = (m 4)) (hm : (m 5) = pt h) (hV : (m 3) ≤ V) : Q_f3 has V E H T oG oT w0 w1 w2 w3 lo hi (pfu st h (if (m 6) < 0 then 5 else 4)) ep hl hh mv ac (pfu pt h (pt h + 1)) tk et lm pE pA (B + 2) S := by
  have i_f3 := Pin_f3 I
  clear I
  simp only [Q_f3, pokM, pown, prcv, pgiv, ppge, pfu] at *
  grind
set_option maxHeartbeats 400000 in
theorem pt_ptake_g {has : Prop} {V E H T oG oT w0 w1 w2 w3 lo hi : Int} {st ep hl hh mv ac pt tk et lm pE pA : Nat → Int} {B : Int} {S : (Nat → Int) → Prop} (I : Pin has V E H T oG oT w0 w1 w2 w3 lo hi st ep hl hh mv ac pt tk et lm pE pA B S) (h : Nat) (m : (Nat → Int)) (hS : S m) (hk : (m 0) = 4) (hto : (h : Int) = (m 1)) (hst : st h = 4) (hep : ep h = (m 3)) (hac : ac h = (m 4)) (hm : (m 5) = pt h) (hV : (m 3) ≤ V) : Q_g has V E H T oG oT w0 w1 w2 w3 lo hi (pfu st h (if (m 6) < 0 then 5 else 4)) ep hl hh mv ac (pfu pt h (pt h + 1)) tk et lm pE pA (B + 2) S := by
  have i_g := Pin_g I
  clear I
  simp only [Q_g, pokM, pown, prcv, pgiv, ppge, pfu] at *
  grind
set_option maxHeartbeats 400000 in
theorem pt_ptake_g0 {has : Prop} {V E H T oG oT w0 w1 w2 w3 lo hi : Int} {st ep hl hh mv ac pt tk et lm pE pA : Nat → Int} {B : Int} {S : (Nat → Int) → Prop} (I : Pin has V E H T oG oT w0 w1 w2 w3 lo hi st ep hl hh mv ac pt tk et lm pE pA B S) (h : Nat) (m : (Nat → Int)) (hS : S m) (hk : (m 0) = 4) (hto : (h : Int) = (m 1)) (hst : st h = 4) (hep : ep h = (m 3)) (hac : ac h = (m 4)) (hm : (m 5) = pt h) (hV : (m 3) ≤ V) : Q_g0 has V E H T oG oT w0 w1 w2 w3 lo hi (pfu st h (if (m 6) < 0 then 5 else 4)) ep hl hh mv ac (pfu pt h (pt h + 1)) tk et lm pE pA (B + 2) S := by
  have i_g0 := Pin_g0 I
  clear I
  simp only [Q_g0, pokM, pown, prcv, pgiv, ppge, pfu] at *
  grind
set_option maxHeartbeats 400000 in
theorem pt_ptake_g1 {has : Prop} {V E H T oG oT w0 w1 w2 w3 lo hi : Int} {st ep hl hh mv ac pt tk et lm pE pA : Nat → Int} {B : Int} {S : (Nat → Int) → Prop} (I : Pin has V E H T oG oT w0 w1 w2 w3 lo hi st ep hl hh mv ac pt tk et lm pE pA B S) (h : Nat) (m : (Nat → Int)) (hS : S m) (hk : (m 0) = 4) (hto : (h : Int) = (m 1)) (hst : st h = 4) (hep : ep h = (m 3)) (hac : ac h = (m 4)) (hm : (m 5) = pt h) (hV : (m 3) ≤ V) : Q_g1 has V E H T oG oT w0 w1 w2 w3 lo hi (pfu st h (if (m 6) < 0 then 5 else 4)) ep hl hh mv ac (pfu pt h (pt h + 1)) tk et lm pE pA (B + 2) S := by
  have i_g1 := Pin_g1 I
  clear I
  simp only [Q_g1, pokM, pown, prcv, pgiv, ppge, pfu] at *
  grind
set_option maxHeartbeats 400000 in
theorem pt_ptake_g2 {has : Prop} {V E H T oG oT w0 w1 w2 w3 lo hi : Int} {st ep hl hh mv ac pt tk et lm pE pA : Nat → Int} {B : Int} {S : (Nat → Int) → Prop} (I : Pin has V E H T oG oT w0 w1 w2 w3 lo hi st ep hl hh mv ac pt tk et lm pE pA B S) (h : Nat) (m : (Nat → Int)) (hS : S m) (hk : (m 0) = 4) (hto : (h : Int) = (m 1)) (hst : st h = 4) (hep : ep h = (m 3)) (hac : ac h = (m 4)) (hm : (m 5) = pt h) (hV : (m 3) ≤ V) : Q_g2 has V E H T oG oT w0 w1 w2 w3 lo hi (pfu st h (if (m 6) < 0 then 5 else 4)) ep hl hh mv ac (pfu pt h (pt h + 1)) tk et lm pE pA (B + 2) S := by
  have i_g2 := Pin_g2 I
  clear I
  simp only [Q_g2, pokM, pown, prcv, pgiv, ppge, pfu] at *
  grind
set_option maxHeartbeats 400000 in
theorem pt_ptake_h7 {has : Prop} {V E H T oG oT w0 w1 w2 w3 lo hi : Int} {st ep hl hh mv ac pt tk et lm pE pA : Nat → Int} {B : Int} {S : (Nat → Int) → Prop} (I : Pin has V E H T oG oT w0 w1 w2 w3 lo hi st ep hl hh mv ac pt tk et lm pE pA B S) (h : Nat) (m : (Nat → Int)) (hS : S m) (hk : (m 0) = 4) (hto : (h : Int) = (m 1)) (hst : st h = 4) (hep : ep h = (m 3)) (hac : ac h = (m 4)) (hm : (m 5) = pt h) (hV : (m 3) ≤ V) : Q_h7 has V E H T oG oT w0 w1 w2 w3 lo hi (pfu st h (if (m 6) < 0 then 5 else 4)) ep hl hh mv ac (pfu pt h (pt h + 1)) tk et lm pE pA (B + 2) S := by
  have i_h7 := Pin_h7 I
  clear I
  simp only [Q_h7, pokM, pown, prcv, pgiv, ppge, pfu] at *
  grind
set_option maxHeartbeats 400000 in
theorem pt_ptake_h9 {has : Prop} {V E H T oG oT w0 w1 w2 w3 lo hi : Int} {st ep hl hh mv ac pt tk et lm pE pA : Nat → Int} {B : Int} {S : (Nat → Int) → Prop} (I : Pin has V E H T oG oT w0 w1 w2 w3 lo hi st ep hl hh mv ac pt tk et lm pE pA B S) (h : Nat) (m : (Nat → Int)) (hS : S m) (hk : (m 0) = 4) (hto : (h : Int) = (m 1)) (hst : st h = 4) (hep : ep h = (m 3)) (hac : ac h = (m 4)) (hm : (m 5) = pt h) (hV : (m 3) ≤ V) : Q_h9 has V E H T oG oT w0 w1 w2 w3 lo hi (pfu st h (if (m 6) < 0 then 5 else 4)) ep hl hh mv ac (pfu pt h (pt h + 1)) tk et lm pE pA (B + 2) S := by
  have i_h9 := Pin_h9 I
  clear I
  simp only [Q_h9, pokM, pown, prcv, pgiv, ppge, pfu] at *
  grind
set_option maxHeartbeats 400000 in
theorem pt_ptake_h10 {has : Prop} {V E H T oG oT w0 w1 w2 w3 lo hi : Int} {st ep hl hh mv ac pt tk et lm pE pA : Nat → Int} {B : Int} {S : (Nat → Int) → Prop} (I : Pin has V E H T oG oT w0 w1 w2 w3 lo hi st ep hl hh mv ac pt tk et lm pE pA B S) (h : Nat) (m : (Nat → Int)) (hS : S m) (hk : (m 0) = 4) (hto : (h : Int) = (m 1)) (hst : st h = 4) (hep : ep h = (m 3)) (hac : ac h = (m 4)) (hm : (m 5) = pt h) (hV : (m 3) ≤ V) : Q_h10 has V E H T oG oT w0 w1 w2 w3 lo hi (pfu st h (if (m 6) < 0 then 5 else 4)) ep hl hh mv ac (pfu pt h (pt h + 1)) tk et lm pE pA (B + 2) S := by
  have i_h10 := Pin_h10 I
  clear I
  simp only [Q_h10, pokM, pown, prcv, pgiv, ppge, pfu] at *
  grind
set_option maxHeartbeats 400000 in
theorem pt_ptake_h11 {has : Prop} {V E H T oG oT w0 w1 w2 w3 lo hi : Int} {st ep hl hh mv ac pt tk et lm pE pA : Nat → Int} {B : Int} {S : (Nat → Int) → Prop} (I : Pin has V E H T oG oT w0 w1 w2 w3 lo hi st ep hl hh mv ac pt tk et lm pE pA B S) (h : Nat) (m : (Nat → Int)) (hS : S m) (hk : (m 0) = 4) (hto : (h : Int) = (m 1)) (hst : st h = 4) (hep : ep h = (m 3)) (hac : ac h = (m 4)) (hm : (m 5) = pt h) (hV : (m 3) ≤ V) : Q_h11 has V E H T oG oT w0 w1 w2 w3 lo hi (pfu st h (if (m 6) < 0 then 5 else 4)) ep hl hh mv ac (pfu pt h (pt h + 1)) tk et lm pE pA (B + 2) S := by
  have i_h11 := Pin_h11 I
  clear I
  simp only [Q_h11, pokM, pown, prcv, pgiv, ppge, pfu] at *
  grind
set_option maxHeartbeats 400000 in
theorem pt_ptake_h12 {has : Prop} {V E H T oG oT w0 w1 w2 w3 lo hi : Int} {st ep hl hh mv ac pt tk et lm pE pA : Nat → Int} {B : Int} {S : (Nat → Int) → Prop} (I : Pin has V E H T oG oT w0 w1 w2 w3 lo hi st ep hl hh mv ac pt tk et lm pE pA B S) (h : Nat) (m : (Nat → Int)) (hS : S m) (hk : (m 0) = 4) (hto : (h : Int) = (m 1)) (hst : st h = 4) (hep : ep h = (m 3)) (hac : ac h = (m 4)) (hm : (m 5) = pt h) (hV : (m 3) ≤ V) : Q_h12 has V E H T oG oT w0 w1 w2 w3 lo hi (pfu st h (if (m 6) < 0 then 5 else 4)) ep hl hh mv ac (pfu pt h (pt h + 1)) tk et lm pE pA (B + 2) S := by
  have i_h12 := Pin_h12 I
  clear I
  simp only [Q_h12, pokM, pown, prcv, pgiv, ppge, pfu] at *
  grind
set_option maxHeartbeats 400000 in
theorem pt_ptake_k1 {has : Prop} {V E H T oG oT w0 w1 w2 w3 lo hi : Int} {st ep hl hh mv ac pt tk et lm pE pA : Nat → Int} {B : Int} {S : (Nat → Int) → Prop} (I : Pin has V E H T oG oT w0 w1 w2 w3 lo hi st ep hl hh mv ac pt tk et lm pE pA B S) (h : Nat) (m : (Nat → Int)) (hS : S m) (hk : (m 0) = 4) (hto : (h : Int) = (m 1)) (hst : st h = 4) (hep : ep h = (m 3)) (hac : ac h = (m 4)) (hm : (m 5) = pt h) (hV : (m 3) ≤ V) : Q_k1 has V E H T oG oT w0 w1 w2 w3 lo hi (pfu st h (if (m 6) < 0 then 5 else 4)) ep hl hh mv ac (pfu pt h (pt h + 1)) tk et lm pE pA (B + 2) S := by
  have i_k1 := Pin_k1 I
  clear I
  simp only [Q_k1, pokM, pown, prcv, pgiv, ppge, pfu] at *
  grind
set_option maxHeartbeats 400000 in
theorem pt_ptake_k2 {has : Prop} {V E H T oG oT w0 w1 w2 w3 lo hi : Int} {st ep hl hh mv ac pt tk et lm pE pA : Nat → Int} {B : Int} {S : (Nat → Int) → Prop} (I : Pin has V E H T oG oT w0 w1 w2 w3 lo hi st ep hl hh mv ac pt tk et lm pE pA B S) (h : Nat) (m : (Nat → Int)) (hS : S m) (hk : (m 0) = 4) (hto : (h : Int) = (m 1)) (hst : st h = 4) (hep : ep h = (m 3)) (hac : ac h = (m 4)) (hm : (m 5) = pt h) (hV : (m 3) ≤ V) : Q_k2 has V E H T oG oT w0 w1 w2 w3 lo hi (pfu st h (if (m 6) < 0 then 5 else 4)) ep hl hh mv ac (pfu pt h (pt h + 1)) tk et lm pE pA (B + 2) S := by
  have i_k2 := Pin_k2 I
  clear I
  simp only [Q_k2, pokM, pown, prcv, pgiv, ppge, pfu] at *
  grind
set_option maxHeartbeats 400000 in
theorem pt_ptake_k8 {has : Prop} {V E H T oG oT w0 w1 w2 w3 lo hi : Int} {st ep hl hh mv ac pt tk et lm pE pA : Nat → Int} {B : Int} {S : (Nat → Int) → Prop} (I : Pin has V E H T oG oT w0 w1 w2 w3 lo hi st ep hl hh mv ac pt tk et lm pE pA B S) (h : Nat) (m : (Nat → Int)) (hS : S m) (hk : (m 0) = 4) (hto : (h : Int) = (m 1)) (hst : st h = 4) (hep : ep h = (m 3)) (hac : ac h = (m 4)) (hm : (m 5) = pt h) (hV : (m 3) ≤ V) : Q_k8 has V E H T oG oT w0 w1 w2 w3 lo hi (pfu st h (if (m 6) < 0 then 5 else 4)) ep hl hh mv ac (pfu pt h (pt h + 1)) tk et lm pE pA (B + 2) S := by
  have i_k8 := Pin_k8 I
  clear I
  simp only [Q_k8, pokM, pown, prcv, pgiv, ppge, pfu] at *
  grind
set_option maxHeartbeats 400000 in
theorem pt_ptake_l4 {has : Prop} {V E H T oG oT w0 w1 w2 w3 lo hi : Int} {st ep hl hh mv ac pt tk et lm pE pA : Nat → Int} {B : Int} {S : (Nat → Int) → Prop} (I : Pin has V E H T oG oT w0 w1 w2 w3 lo hi st ep hl hh mv ac pt tk et lm pE pA B S) (h : Nat) (m : (Nat → Int)) (hS : S m) (hk : (m 0) = 4) (hto : (h : Int) = (m 1)) (hst : st h = 4) (hep : ep h = (m 3)) (hac : ac h = (m 4)) (hm : (m 5) = pt h) (hV : (m 3) ≤ V) : Q_l4 has V E H T oG oT w0 w1 w2 w3 lo hi (pfu st h (if (m 6) < 0 then 5 else 4)) ep hl hh mv ac (pfu pt h (pt h + 1)) tk et lm pE pA (B + 2) S := by
  have i_l4 := Pin_l4 I
  clear I
  simp only [Q_l4, pokM, pown, prcv, pgiv, ppge, pfu] at *
  grind
set_option maxHeartbeats 400000 in
theorem pt_ptake_l5 {has : Prop} {V E H T oG oT w0 w1 w2 w3 lo hi : Int} {st ep hl hh mv ac pt tk et lm pE pA : Nat → Int} {B : Int} {S : (Nat → Int) → Prop} (I : Pin has V E H T oG oT w0 w1 w2 w3 lo hi st ep hl hh mv ac pt tk et lm pE pA B S) (h : Nat) (m : (Nat → Int)) (hS : S m) (hk : (m 0) = 4) (hto : (h : Int) = (m 1)) (hst : st h = 4) (hep : ep h = (m 3)) (hac : ac h = (m 4)) (hm : (m 5) = pt h) (hV : (m 3) ≤ V) : Q_l5 has V E H T oG oT w0 w1 w2 w3 lo hi (pfu st h (if (m 6) < 0 then 5 else 4)) ep hl hh mv ac (pfu pt h (pt h + 1)) tk et lm pE pA (B + 2) S := by
  have i_l5 := Pin_l5 I
  clear I
  simp only [Q_l5, pokM, pown, prcv, pgiv, ppge, pfu] at *
  grind
set_option maxHeartbeats 400000 in
theorem pt_ptake_l3 {has : Prop} {V E H T oG oT w0 w1 w2 w3 lo hi : Int} {st ep hl hh mv ac pt tk et lm pE pA : Nat → Int} {B : Int} {S : (Nat → Int) → Prop} (I : Pin has V E H T oG oT w0 w1 w2 w3 lo hi st ep hl hh mv ac pt tk et lm pE pA B S) (h : Nat) (m : (Nat → Int)) (hS : S m) (hk : (m 0) = 4) (hto : (h : Int) = (m 1)) (hst : st h = 4) (hep : ep h = (m 3)) (hac : ac h = (m 4)) (hm : (m 5) = pt h) (hV : (m 3) ≤ V) : Q_l3 has V E H T oG oT w0 w1 w2 w3 lo hi (pfu st h (if (m 6) < 0 then 5 else 4)) ep hl hh mv ac (pfu pt h (pt h + 1)) tk et lm pE pA (B + 2) S := by
  have i_l3 := Pin_l3 I
  clear I
  simp only [Q_l3, pokM, pown, prcv, pgiv, ppge, pfu] at *
  grind
set_option maxHeartbeats 400000 in
theorem pt_ptake_m1 {has : Prop} {V E H T oG oT w0 w1 w2 w3 lo hi : Int} {st ep hl hh mv ac pt tk et lm pE pA : Nat → Int} {B : Int} {S : (Nat → Int) → Prop} (I : Pin has V E H T oG oT w0 w1 w2 w3 lo hi st ep hl hh mv ac pt tk et lm pE pA B S) (h : Nat) (m : (Nat → Int)) (hS : S m) (hk : (m 0) = 4) (hto : (h : Int) = (m 1)) (hst : st h = 4) (hep : ep h = (m 3)) (hac : ac h = (m 4)) (hm : (m 5) = pt h) (hV : (m 3) ≤ V) : Q_m1 has V E H T oG oT w0 w1 w2 w3 lo hi (pfu st h (if (m 6) < 0 then 5 else 4)) ep hl hh mv ac (pfu pt h (pt h + 1)) tk et lm pE pA (B + 2) S := by
  have i_m1 := Pin_m1 I
  clear I
  simp only [Q_m1, pokM, pown, prcv, pgiv, ppge, pfu] at *
  grind
set_option maxHeartbeats 400000 in
theorem pt_ptake_m2 {has : Prop} {V E H T oG oT w0 w1 w2 w3 lo hi : Int} {st ep hl hh mv ac pt tk et lm pE pA : Nat → Int} {B : Int} {S : (Nat → Int) → Prop} (I : Pin has V E H T oG oT w0 w1 w2 w3 lo hi st ep hl hh mv ac pt tk et lm pE pA B S) (h : Nat) (m : (Nat → Int)) (hS : S m) (hk : (m 0) = 4) (hto : (h : Int) = (m 1)) (hst : st h = 4) (hep : ep h = (m 3)) (hac : ac h = (m 4)) (hm : (m 5) = pt h) (hV : (m 3) ≤ V) : Q_m2 has V E H T oG oT w0 w1 w2 w3 lo hi (pfu st h (if (m 6) < 0 then 5 else 4)) ep hl hh mv ac (pfu pt h (pt h + 1)) tk et lm pE pA (B + 2) S := by
  have i_m2 := Pin_m2 I
  clear I
  simp only [Q_m2, pokM, pown, prcv, pgiv, ppge, pfu] at *
  grind
set_option maxHeartbeats 400000 in
theorem pt_ptake_m3 {has : Prop} {V E H T oG oT w0 w1 w2 w3 lo hi : Int} {st ep hl hh mv ac pt tk et lm pE pA : Nat → Int} {B : Int} {S : (Nat → Int) → Prop} (I : Pin has V E H T oG oT w0 w1 w2 w3 lo hi st ep hl hh mv ac pt tk et lm pE pA B S) (h : Nat) (m : (Nat → Int)) (hS : S m) (hk : (m 0) = 4) (hto : (h : Int) = (m 1)) (hst : st h = 4) (hep : ep h = (m 3)) (hac : ac h = (m 4)) (hm : (m 5) = pt h) (hV : (m 3) ≤ V) : Q_m3 has V E H T oG oT w0 w1 w2 w3 lo hi (pfu st h (if (m 6) < 0 then 5 else 4)) ep hl hh mv ac (pfu pt h (pt h + 1)) tk et lm pE pA (B + 2) S := by
  have i_m3 := Pin_m3 I
  clear I
  simp only [Q_m3, pokM, pown, prcv, pgiv, ppge, pfu] at *
  grind
set_option maxHeartbeats 400000 in
theorem pt_ptake_n0 {has : Prop} {V E H T oG oT w0 w1 w2 w3 lo hi : Int} {st ep hl hh mv ac pt tk et lm pE pA : Nat → Int} {B : Int} {S : (Nat → Int) → Prop} (I : Pin has V E H T oG oT w0 w1 w2 w3 lo hi st ep hl hh mv ac pt tk et lm pE pA B S) (h : Nat) (m : (Nat → Int)) (hS : S m) (hk : (m 0) = 4) (hto : (h : Int) = (m 1)) (hst : st h = 4) (hep : ep h = (m 3)) (hac : ac h = (m 4)) (hm : (m 5) = pt h) (hV : (m 3) ≤ V) : Q_n0 has V E H T oG oT w0 w1 w2 w3 lo hi (pfu st h (if (m 6) < 0 then 5 else 4)) ep hl hh mv ac (pfu pt h (pt h + 1)) tk et lm pE pA (B + 2) S := by
  have i_n0 := Pin_n0 I
  clear I
  simp only [Q_n0, pokM, pown, prcv, pgiv, ppge, pfu] at *
  grind
set_option maxHeartbeats 400000 in
theorem pt_ptake_n1 {has : Prop} {V E H T oG oT w0 w1 w2 w3 lo hi : Int} {st ep hl hh mv ac pt tk et lm pE pA : Nat → Int} {B : Int} {S : (Nat → Int) → Prop} (I : Pin has V E H T oG oT w0 w1 w2 w3 lo hi st ep hl hh mv ac pt tk et lm pE pA B S) (h : Nat) (m : (Nat → Int)) (hS : S m) (hk : (m 0) = 4) (hto : (h : Int) = (m 1)) (hst : st h = 4) (hep : ep h = (m 3)) (hac : ac h = (m 4)) (hm : (m 5) = pt h) (hV : (m 3) ≤ V) : Q_n1 has V E H T oG oT w0 w1 w2 w3 lo hi (pfu st h (if (m 6) < 0 then 5 else 4)) ep hl hh mv ac (pfu pt h (pt h + 1)) tk et lm pE pA (B + 2) S := by
  have i_n1 := Pin_n1 I
  clear I
  simp only [Q_n1, pokM, pown, prcv, pgiv, ppge, pfu] at *
  grind
set_option maxHeartbeats 400000 in
theorem pt_ptake_n2 {has : Prop} {V E H T oG oT w0 w1 w2 w3 lo hi : Int} {st ep hl hh mv ac pt tk et lm pE pA : Nat → Int} {B : Int} {S : (Nat → Int) → Prop} (I : Pin has V E H T oG oT w0 w1 w2 w3 lo hi st ep hl hh mv ac pt tk et lm pE pA B S) (h : Nat) (m : (Nat → Int)) (hS : S m) (hk : (m 0) = 4) (hto : (h : Int) = (m 1)) (hst : st h = 4) (hep : ep h = (m 3)) (hac : ac h = (m 4)) (hm : (m 5) = pt h) (hV : (m 3) ≤ V) : Q_n2 has V E H T oG oT w0 w1 w2 w3 lo hi (pfu st h (if (m 6) < 0 then 5 else 4)) ep hl hh mv ac (pfu pt h (pt h + 1)) tk et lm pE pA (B + 2) S := by
  have i_n2 := Pin_n2 I
  clear I
  simp only [Q_n2, pokM, pown, prcv, pgiv, ppge, pfu] at *
  grind
set_option maxHeartbeats 400000 in
theorem pt_ptake_n3 {has : Prop} {V E H T oG oT w0 w1 w2 w3 lo hi : Int} {st ep hl hh mv ac pt tk et lm pE pA : Nat → Int} {B : Int} {S : (Nat → Int) → Prop} (I : Pin has V E H T oG oT w0 w1 w2 w3 lo hi st ep hl hh mv ac pt tk et lm pE pA B S) (h : Nat) (m : (Nat → Int)) (hS : S m) (hk : (m 0) = 4) (hto : (h : Int) = (m 1)) (hst : st h = 4) (hep : ep h = (m 3)) (hac : ac h = (m 4)) (hm : (m 5) = pt h) (hV : (m 3) ≤ V) : Q_n3 has V E H T oG oT w0 w1 w2 w3 lo hi (pfu st h (if (m 6) < 0 then 5 else 4)) ep hl hh mv ac (pfu pt h (pt h + 1)) tk et lm pE pA (B + 2) S := by
  have i_n3 := Pin_n3 I
  clear I
  simp only [Q_n3, pokM, pown, prcv, pgiv, ppge, pfu] at *
  grind
set_option maxHeartbeats 400000 in
theorem pt_ptake_n4 {has : Prop} {V E H T oG oT w0 w1 w2 w3 lo hi : Int} {st ep hl hh mv ac pt tk et lm pE pA : Nat → Int} {B : Int} {S : (Nat → Int) → Prop} (I : Pin has V E H T oG oT w0 w1 w2 w3 lo hi st ep hl hh mv ac pt tk et lm pE pA B S) (h : Nat) (m : (Nat → Int)) (hS : S m) (hk : (m 0) = 4) (hto : (h : Int) = (m 1)) (hst : st h = 4) (hep : ep h = (m 3)) (hac : ac h = (m 4)) (hm : (m 5) = pt h) (hV : (m 3) ≤ V) : Q_n4 has V E H T oG oT w0 w1 w2 w3 lo hi (pfu st h (if (m 6) < 0 then 5 else 4)) ep hl hh mv ac (pfu pt h (pt h + 1)) tk et lm pE pA (B + 2) S := by
  have i_v0 := Pin_v0 I
  have i_a := Pin_a I
  have i_b := Pin_b I
  have i_c := Pin_c I
  have i_d := Pin_d I
  have i_e := Pin_e I
  have i_f := Pin_f I
  have i_f2 := Pin_f2 I
  have i_f3 := Pin_f3 I
  have i_g := Pin_g I
  have i_l4 := Pin_l4 I
  have i_l5 := Pin_l5 I
  have i_l3 := Pin_l3 I
  have i_m1 := Pin_m1 I
  have i_m2 := Pin_m2 I
  have i_m3 := Pin_m3 I
  have i_n0 := Pin_n0 I
  have i_n1 := Pin_n1 I
  have i_n2 := Pin_n2 I
  have i_n3 := Pin_n3 I
  have i_n4 := Pin_n4 I
  have i_n5 := Pin_n5 I
  have i_n6 := Pin_n6 I
  have i_n7 := Pin_n7 I
  have i_o := Pin_o I
  have i_q := Pin_q I
  clear I
  simp only [Q_a, Q_b, Q_c, Q_d, Q_e, Q_f, Q_f2, Q_f3, Q_g, Q_l3, Q_l4, Q_l5, Q_m1, Q_m2, Q_m3, Q_n0, Q_n1, Q_n2, Q_n3, Q_n4, Q_n5, Q_n6, Q_n7, Q_o, Q_q, Q_v0, pokM, pown, prcv, pgiv, ppge, pfu] at *
  grind
set_option maxHeartbeats 400000 in
theorem pt_ptake_n5 {has : Prop} {V E H T oG oT w0 w1 w2 w3 lo hi : Int} {st ep hl hh mv ac pt tk et lm pE pA : Nat → Int} {B : Int} {S : (Nat → Int) → Prop} (I : Pin has V E H T oG oT w0 w1 w2 w3 lo hi st ep hl hh mv ac pt tk et lm pE pA B S) (h : Nat) (m : (Nat → Int)) (hS : S m) (hk : (m 0) = 4) (hto : (h : Int) = (m 1)) (hst : st h = 4) (hep : ep h = (m 3)) (hac : ac h = (m 4)) (hm : (m 5) = pt h) (hV : (m 3) ≤ V) : Q_n5 has V E H T oG oT w0 w1 w2 w3 lo hi (pfu st h (if (m 6) < 0 then 5 else 4)) ep hl hh mv ac (pfu pt h (pt h + 1)) tk et lm pE pA (B + 2) S := by
  have i_n5 := Pin_n5 I
  clear I
  simp only [Q_n5, pokM, pown, prcv, pgiv, ppge, pfu] at *
  grind
set_option maxHeartbeats 400000 in
theorem pt_ptake_n6 {has : Prop} {V E H T oG oT w0 w1 w2 w3 lo hi : Int} {st ep hl hh mv ac pt tk et lm pE pA : Nat → Int} {B : Int} {S : (Nat → Int) → Prop} (I : Pin has V E H T oG oT w0 w1 w2 w3 lo hi st ep hl hh mv ac pt tk et lm pE pA B S) (h : Nat) (m : (Nat → Int)) (hS : S m) (hk : (m 0) = 4) (hto : (h : Int) = (m 1)) (hst : st h = 4) (hep : ep h = (m 3)) (hac : ac h = (m 4)) (hm : (m 5) = pt h) (hV : (m 3) ≤ V) : Q_n6 has V E H T oG oT w0 w1 w2 w3 lo hi (pfu st h (if (m 6) < 0 then 5 else 4)) ep hl hh mv ac (pfu pt h (pt h + 1)) tk et lm pE pA (B + 2) S := by
  have i_n6 := Pin_n6 I
  clear I
  simp only [Q_n6, pokM, pown, prcv, pgiv, ppge, pfu] at *
  grind
set_option maxHeartbeats 400000 in
theorem pt_ptake_n7 {has : Prop} {V E H T oG oT w0 w1 w2 w3 lo hi : Int} {st ep hl hh mv ac pt tk et lm pE pA : Nat → Int} {B : Int} {S : (Nat → Int) → Prop} (I : Pin has V E H T oG oT w0 w1 w2 w3 lo hi st ep hl hh mv ac pt tk et lm pE pA B S) (h : Nat) (m : (Nat → Int)) (hS : S m) (hk : (m 0) = 4) (hto : (h : Int) = (m 1)) (hst : st h = 4) (hep : ep h = (m 3)) (hac : ac h = (m 4)) (hm : (m 5) = pt h) (hV : (m 3) ≤ V) : Q_n7 has V E H T oG oT w0 w1 w2 w3 lo hi (pfu st h (if (m 6) < 0 then 5 else 4)) ep hl hh mv ac (pfu pt h (pt h + 1)) tk et lm pE pA (B + 2) S := by
  have i_n7 := Pin_n7 I
  clear I
  simp only [Q_n7, pokM, pown, prcv, pgiv, ppge, pfu] at *
  grind
set_option maxHeartbeats 400000 in
theorem pt_ptake_o {has : Prop} {V E H T oG oT w0 w1 w2 w3 lo hi : Int} {st ep hl hh mv ac pt tk et lm pE pA : Nat → Int} {B : Int} {S : (Nat → Int) → Prop} (I : Pin has V E H T oG oT w0 w1 w2 w3 lo hi st ep hl hh mv ac pt tk et lm pE pA B S) (h : Nat) (m : (Nat → Int)) (hS : S m) (hk : (m 0) = 4) (hto : (h : Int) = (m 1)) (hst : st h = 4) (hep : ep h = (m 3)) (hac : ac h = (m 4)) (hm : (m 5) = pt h) (hV : (m 3) ≤ V) : Q_o has V E H T oG oT w0 w1 w2 w3 lo hi (pfu st h (if (m 6) < 0 then 5 else 4)) ep hl hh mv ac (pfu pt h (pt h + 1)) tk et lm pE pA (B + 2) S := by
  have i_o := Pin_o I
  clear I
  simp only [Q_o, pokM, pown, prcv, pgiv, ppge, pfu] at *
  grind
set_option maxHeartbeats 400000 in
theorem pt_ptake_p {has : Prop} {V E H T oG oT w0 w1 w2 w3 lo hi : Int} {st ep hl hh mv ac pt tk et lm pE pA : Nat → Int} {B : Int} {S : (Nat → Int) → Prop} (I : Pin has V E H T oG oT w0 w1 w2 w3 lo hi st ep hl hh mv ac pt tk et lm pE pA B S) (h : Nat) (m : (Nat → Int)) (hS : S m) (hk : (m 0) = 4) (hto : (h : Int) = (m 1)) (hst : st h = 4) (hep : ep h = (m 3)) (hac : ac h = (m 4)) (hm : (m 5) = pt h) (hV : (m 3) ≤ V) : Q_p has V E H T oG oT w0 w1 w2 w3 lo hi (pfu st h (if (m 6) < 0 then 5 else 4)) ep hl hh mv ac (pfu pt h (pt h + 1)) tk et lm pE pA (B + 2) S := by
  have i_p := Pin_p I
  clear I
  simp only [Q_p, pokM, pown, prcv, pgiv, ppge, pfu] at *
  grind
set_option maxHeartbeats 400000 in
theorem pt_ptake_q {has : Prop} {V E H T oG oT w0 w1 w2 w3 lo hi : Int} {st ep hl hh mv ac pt tk et lm pE pA : Nat → Int} {B : Int} {S : (Nat → Int) → Prop} (I : Pin has V E H T oG oT w0 w1 w2 w3 lo hi st ep hl hh mv ac pt tk et lm pE pA B S) (h : Nat) (m : (Nat → Int)) (hS : S m) (hk : (m 0) = 4) (hto : (h : Int) = (m 1)) (hst : st h = 4) (hep : ep h = (m 3)) (hac : ac h = (m 4)) (hm : (m 5) = pt h) (hV : (m 3) ≤ V) : Q_q has V E H T oG oT w0 w1 w2 w3 lo hi (pfu st h (if (m 6) < 0 then 5 else 4)) ep hl hh mv ac (pfu pt h (pt h + 1)) tk et lm pE pA (B + 2) S := by
  have i_q := Pin_q I
  clear I
  simp only [Q_q, pokM, pown, prcv, pgiv, ppge, pfu] at *
  grind
set_option maxHeartbeats 400000 in
theorem pt_ptake_q2 {has : Prop} {V E H T oG oT w0 w1 w2 w3 lo hi : Int} {st ep hl hh mv ac pt tk et lm pE pA : Nat → Int} {B : Int} {S : (Nat → Int) → Prop} (I : Pin has V E H T oG oT w0 w1 w2 w3 lo hi st ep hl hh mv ac pt tk et lm pE pA B S) (h : Nat) (m : (Nat → Int)) (hS : S m) (hk : (m 0) = 4) (hto : (h : Int) = (m 1)) (hst : st h = 4) (hep : ep h = (m 3)) (hac : ac h = (m 4)) (hm : (m 5) = pt h) (hV : (m 3) ≤ V) : Q_q2 has V E H T oG oT w0 w1 w2 w3 lo hi (pfu st h (if (m 6) < 0 then 5 else 4)) ep hl hh mv ac (pfu pt h (pt h + 1)) tk et lm pE pA (B + 2) S := by
  have i_q2 := Pin_q2 I
  clear I
  simp only [Q_q2, pokM, pown, prcv, pgiv, ppge, pfu] at *
  grind
set_option maxHeartbeats 400000 in
theorem pt_ptake_q3 {has : Prop} {V E H T oG oT w0 w1 w2 w3 lo hi : Int} {st ep hl hh mv ac pt tk et lm pE pA : Nat → Int} {B : Int} {S : (Nat → Int) → Prop} (I : Pin has V E H T oG oT w0 w1 w2 w3 lo hi st ep hl hh mv ac pt tk et lm pE pA B S) (h : Nat) (m : (Nat → Int)) (hS : S m) (hk : (m 0) = 4) (hto : (h : Int) = (m 1)) (hst : st h = 4) (hep : ep h = (m 3)) (hac : ac h = (m 4)) (hm : (m 5) = pt h) (hV : (m 3) ≤ V) : Q_q3 has V E H T oG oT w0 w1 w2 w3 lo hi (pfu st h (if (m 6) < 0 then 5 else 4)) ep hl hh mv ac (pfu pt h (pt h + 1)) tk et lm pE pA (B + 2) S := by
  have i_q3 := Pin_q3 I
  clear I
  simp only [Q_q3, pokM, pown, prcv, pgiv, ppge, pfu] at *
  grind
set_option maxHeartbeats 400000 in
theorem pt_ptake_w {has : Prop} {V E H T oG oT w0 w1 w2 w3 lo hi : Int} {st ep hl hh mv ac pt tk et lm pE pA : Nat → Int} {B : Int} {S : (Nat → Int) → Prop} (I : Pin has V E H T oG oT w0 w1 w2 w3 lo hi st ep hl hh mv ac pt tk et lm pE pA B S) (h : Nat) (m : (Nat → Int)) (hS : S m) (hk : (m 0) = 4) (hto : (h : Int) = (m 1)) (hst : st h = 4) (hep : ep h = (m 3)) (hac : ac h = (m 4)) (hm : (m 5) = pt h) (hV : (m 3) ≤ V) : Q_w has V E H T oG oT w0 w1 w2 w3 lo hi (pfu st h (if (m 6) < 0 then 5 else 4)) ep hl hh mv ac (pfu pt h (pt h + 1)) tk et lm pE pA (B + 2) S := by
  have i_w := Pin_w I
  clear I
  simp only [Q_w, pokM, pown, prcv, pgiv, ppge, pfu] at *
  grind
theorem pt_ptake {has : Prop} {V E H T oG oT w0 w1 w2 w3 lo hi : Int} {st ep hl hh mv ac pt tk et lm pE pA : Nat → Int} {B : Int} {S : (Nat → Int) → Prop} (I : Pin has V E H T oG oT w0 w1 w2 w3 lo hi st ep hl hh mv ac pt tk et lm pE pA B S) (h : Nat) (m : (Nat → Int)) (hS : S m) (hk : (m 0) = 4) (hto : (h : Int) = (m 1)) (hst : st h = 4) (hep : ep h = (m 3)) (hac : ac h = (m 4)) (hm : (m 5) = pt h) : Pin has V E H T oG oT w0 w1 w2 w3 lo hi (pfu st h (if (m 6) < 0 then 5 else 4)) ep hl hh mv ac (pfu pt h (pt h + 1)) tk et lm pE pA (B + 2) S := by
  have hV := pt_ptake_hV_d I h m hS hk hto hst hep hac hm 
  exact ⟨pt_ptake_v0 I h m hS hk hto hst hep hac hm hV, pt_ptake_a I h m hS hk hto hst hep hac hm hV, pt_ptake_b I h m hS hk hto hst hep hac hm hV, pt_ptake_c I h m hS hk hto hst hep hac hm hV, pt_ptake_d I h m hS hk hto hst hep hac hm hV, pt_ptake_e I h m hS hk hto hst hep hac hm hV, pt_ptake_f I h m hS hk hto hst hep hac hm hV, pt_ptake_f2 I h m hS hk hto hst hep hac hm hV, pt_ptake_f3 I h m hS hk hto hst hep hac hm hV, pt_ptake_g I h m hS hk hto hst hep hac hm hV, pt_ptake_g0 I h m hS hk hto hst hep hac hm hV, pt_ptake_g1 I h m hS hk hto hst hep hac hm hV, pt_ptake_g2 I h m hS hk hto hst hep hac hm hV, pt_ptake_h7 I h m hS hk hto hst hep hac hm hV, pt_ptake_h9 I h m hS hk hto hst hep hac hm hV, pt_ptake_h10 I h m hS hk hto hst hep hac hm hV, pt_ptake_h11 I h m hS hk hto hst hep hac hm hV, pt_ptake_h12 I h m hS hk hto hst hep hac hm hV, pt_ptake_k1 I h m hS hk hto hst hep hac hm hV, pt_ptake_k2 I h m hS hk hto hst hep hac hm hV, pt_ptake_k8 I h m hS hk hto hst hep hac hm hV, pt_ptake_l4 I h m hS hk hto hst hep hac hm hV, pt_ptake_l5 I h m hS hk hto hst hep hac hm hV, pt_ptake_l3 I h m hS hk hto hst hep hac hm hV, pt_ptake_m1 I h m hS hk hto hst hep hac hm hV, pt_ptake_m2 I h m hS hk hto hst hep hac hm hV, pt_ptake_m3 I h m hS hk hto hst hep hac hm hV, pt_ptake_n0 I h m hS hk hto hst hep hac hm hV, pt_ptake_n1 I h m hS hk hto hst hep hac hm hV, pt_ptake_n2 I h m hS hk hto hst hep hac hm hV, pt_ptake_n3 I h m hS hk hto hst hep hac hm hV, pt_ptake_n4 I h m hS hk hto hst hep hac hm hV, pt_ptake_n5 I h m hS hk hto hst hep hac hm hV, pt_ptake_n6 I h m hS hk hto hst hep hac hm hV, pt_ptake_n7 I h m hS hk hto hst hep hac hm hV, pt_ptake_o I h m hS hk hto hst hep hac hm hV, pt_ptake_p I h m hS hk hto hst hep hac hm hV, pt_ptake_q I h m hS hk hto hst hep hac hm hV, pt_ptake_q2 I h m hS hk hto hst hep hac hm hV, pt_ptake_q3 I h m hS hk hto hst hep hac hm hV, pt_ptake_w I h m hS hk hto hst hep hac hm hV⟩
