set_option maxHeartbeats 400000 in
theorem pt_open_hK_d {has : Prop} {V E H T oG oT w0 w1 w2 w3 lo hi : Int} {st ep hl hh mv ac pt tk et lm pE pA : Nat → Int} {B : Int} {S : (Nat → Int) → Prop} (I : Pin has V E H T oG oT w0 w1 w2 w3 lo hi st ep hl hh mv ac pt tk et lm pE pA B S) (h : Nat) (m : (Nat → Int)) (hS : S m) (hk : (m 0) = 7) (hto : (h : Int) = (m 1)) (hst : st h = 5) (hep : ep h = (m 3))  : (m 3) = V ∧ w0 = V ∧ T < 0 ∧ (m 1) = H ∧ st h = 5 ∧ hl h = lo ∧ hh h = hi ∧ has ∧ E = V := by
  have i_k1 := Pin_k1 I
  clear I
  try simp only [Q_k1, pown, prcv, pgiv, ppge, pfu] at *
  grind
set_option maxHeartbeats 400000 in
theorem pt_open_v0 {has : Prop} {V E H T oG oT w0 w1 w2 w3 lo hi : Int} {st ep hl hh mv ac pt tk et lm pE pA : Nat → Int} {B : Int} {S : (Nat → Int) → Prop} (I : Pin has V E H T oG oT w0 w1 w2 w3 lo hi st ep hl hh mv ac pt tk et lm pE pA B S) (h : Nat) (m : (Nat → Int)) (hS : S m) (hk : (m 0) = 7) (hto : (h : Int) = (m 1)) (hst : st h = 5) (hep : ep h = (m 3)) (hK : (m 3) = V ∧ w0 = V ∧ T < 0 ∧ (m 1) = H ∧ st h = 5 ∧ hl h = lo ∧ hh h = hi ∧ has ∧ E = V) : Q_v0 has V E H T oG oT w0 w1 w2 w3 lo hi (pfu st h 1) ep hl hh mv ac pt tk et lm pE pA (B + 2) S := by
  have i_v0 := Pin_v0 I
  clear I
  simp only [Q_v0, pokM, pown, prcv, pgiv, ppge, pfu] at *
  grind
set_option maxHeartbeats 400000 in
theorem pt_open_a {has : Prop} {V E H T oG oT w0 w1 w2 w3 lo hi : Int} {st ep hl hh mv ac pt tk et lm pE pA : Nat → Int} {B : Int} {S : (Nat → Int) → Prop} (I : Pin has V E H T oG oT w0 w1 w2 w3 lo hi st ep hl hh mv ac pt tk et lm pE pA B S) (h : Nat) (m : (Nat → Int)) (hS : S m) (hk : (m 0) = 7) (hto : (h : Int) = (m 1)) (hst : st h = 5) (hep : ep h = (m 3)) (hK : (m 3) = V ∧ w0 = V ∧ T < 0 ∧ (m 1) = H ∧ st h = 5 ∧ hl h = lo ∧ hh h = hi ∧ has ∧ E = V) : Q_a has V E H T oG oT w0 w1 w2 w3 lo hi (pfu st h 1) ep hl hh mv ac pt tk et lm pE pA (B + 2) S := by
  have i_a := Pin_a I
  clear I
  simp only [Q_a, pokM, pown, prcv, pgiv, ppge, pfu] at *
  grind
set_option maxHeartbeats 400000 in
theorem pt_open_b {has : Prop} {V E H T oG oT w0 w1 w2 w3 lo hi : Int} {st ep hl hh mv ac pt tk et lm pE pA : Nat → Int} {B : Int} {S : (Nat → Int) → Prop} (I : Pin has V E H T oG oT w0 w1 w2 w3 lo hi st ep hl hh mv ac pt tk et lm pE pA B S) (h : Nat) (m : (Nat → Int)) (hS : S m) (hk : (m 0) = 7) (hto : (h : Int) = (m 1)) (hst : st h = 5) (hep : ep h = (m 3)) (hK : (m 3) = V ∧ w0 = V ∧ T < 0 ∧ (m 1) = H ∧ st h = 5 ∧ hl h = lo ∧ hh h = hi ∧ has ∧ E = V) : Q_b has V E H T oG oT w0 w1 w2 w3 lo hi (pfu st h 1) ep hl hh mv ac pt tk et lm pE pA (B + 2) S := by
  have i_b := Pin_b I
  clear I
  simp only [Q_b, pokM, pown, prcv, pgiv, ppge, pfu] at *
  grind
set_option maxHeartbeats 400000 in
theorem pt_open_c {has : Prop} {V E H T oG oT w0 w1 w2 w3 lo hi : Int} {st ep hl hh mv ac pt tk et lm pE pA : Nat → Int} {B : Int} {S : (Nat → Int) → Prop} (I : Pin has V E H T oG oT w0 w1 w2 w3 lo hi st ep hl hh mv ac pt tk et lm pE pA B S) (h : Nat) (m : (Nat → Int)) (hS : S m) (hk : (m 0) = 7) (hto : (h : Int) = (m 1)) (hst : st h = 5) (hep : ep h = (m 3)) (hK : (m 3) = V ∧ w0 = V ∧ T < 0 ∧ (m 1) = H ∧ st h = 5 ∧ hl h = lo ∧ hh h = hi ∧ has ∧ E = V) : Q_c has V E H T oG oT w0 w1 w2 w3 lo hi (pfu st h 1) ep hl hh mv ac pt tk et lm pE pA (B + 2) S := by
  have i_c := Pin_c I
  clear I
  simp only [Q_c, pokM, pown, prcv, pgiv, ppge, pfu] at *
  grind
set_option maxHeartbeats 400000 in
theorem pt_open_d {has : Prop} {V E H T oG oT w0 w1 w2 w3 lo hi : Int} {st ep hl hh mv ac pt tk et lm pE pA : Nat → Int} {B : Int} {S : (Nat → Int) → Prop} (I : Pin has V E H T oG oT w0 w1 w2 w3 lo hi st ep hl hh mv ac pt tk et lm pE pA B S) (h : Nat) (m : (Nat → Int)) (hS : S m) (hk : (m 0) = 7) (hto : (h : Int) = (m 1)) (hst : st h = 5) (hep : ep h = (m 3)) (hK : (m 3) = V ∧ w0 = V ∧ T < 0 ∧ (m 1) = H ∧ st h = 5 ∧ hl h = lo ∧ hh h = hi ∧ has ∧ E = V) : Q_d has V E H T oG oT w0 w1 w2 w3 lo hi (pfu st h 1) ep hl hh mv ac pt tk et lm pE pA (B + 2) S := by
  have i_d := Pin_d I
  clear I
  simp only [Q_d, pokM, pown, prcv, pgiv, ppge, pfu] at *
  grind
set_option maxHeartbeats 400000 in
theorem pt_open_e {has : Prop} {V E H T oG oT w0 w1 w2 w3 lo hi : Int} {st ep hl hh mv ac pt tk et lm pE pA : Nat → Int} {B : Int} {S : (Nat → Int) → Prop} (I : Pin has V E H T oG oT w0 w1 w2 w3 lo hi st ep hl hh mv ac pt tk et lm pE pA B S) (h : Nat) (m : (Nat → Int)) (hS : S m) (hk : (m 0) = 7) (hto : (h : Int) = (m 1)) (hst : st h = 5) (hep : ep h = (m 3)) (hK : (m 3) = V ∧ w0 = V ∧ T < 0 ∧ (m 1) = H ∧ st h = 5 ∧ hl h = lo ∧ hh h = hi ∧ has ∧ E = V) : Q_e has V E H T oG oT w0 w1 w2 w3 lo hi (pfu st h 1) ep hl hh mv ac pt tk et lm pE pA (B + 2) S := by
  have i_e := Pin_e I
  clear I
  simp only [Q_e, pokM, pown, prcv, pgiv, ppge, pfu] at *
  grind
set_option maxHeartbeats 400000 in
theorem pt_open_f {has : Prop} {V E H T oG oT w0 w1 w2 w3 lo hi : Int} {st ep hl hh mv ac pt tk et lm pE pA : Nat → Int} {B : Int} {S : (Nat → Int) → Prop} (I : Pin has V E H T oG oT w0 w1 w2 w3 lo hi st ep hl hh mv ac pt tk et lm pE pA B S) (h : Nat) (m : (Nat → Int)) (hS : S m) (hk : (m 0) = 7) (hto : (h : Int) = (m 1)) (hst : st h = 5) (hep : ep h = (m 3)) (hK : (m 3) = V ∧ w0 = V ∧ T < 0 ∧ (m 1) = H ∧ st h = 5 ∧ hl h = lo ∧ hh h = hi ∧ has ∧ E = V) : Q_f has V E H T oG oT w0 w1 w2 w3 lo hi (pfu st h 1) ep hl hh mv ac pt tk et lm pE pA (B + 2) S := by
  have i_f := Pin_f I
  clear I
  simp only [Q_f, pokM, pown, prcv, pgiv, ppge, pfu] at *
  grind
set_option maxHeartbeats 400000 in
theorem pt_open_f2 {has : Prop} {V E H T oG oT w0 w1 w2 w3 lo hi : Int} {st ep hl hh mv ac pt tk et lm pE pA : Nat → Int} {B : Int} {S : (Nat → Int) → Prop} (I : Pin has V E H T oG oT w0 w1 w2 w3 lo hi st ep hl hh mv ac pt tk et lm pE pA B S) (h : Nat) (m : (Nat → Int)) (hS : S m) (hk : (m 0) = 7) (hto : (h : Int) = (m 1)) (hst : st h = 5) (hep : ep h = (m 3)) (hK : (m 3) = V ∧ w0 = V ∧ T < 0 ∧ (m 1) = H ∧ st h = 5 ∧ hl h = lo ∧ hh h = hi ∧ has ∧ E = V) : Q_f2 has V E H T oG oT w0 w1 w2 w3 lo hi (pfu st h 1) ep hl hh mv ac pt tk et lm pE pA (B + 2) S := by
  have i_f2 := Pin_f2 I
  clear I
  simp only [Q_f2, pokM, pown, prcv, pgiv, ppge, pfu] at *
  grind
set_option maxHeartbeats 400000 in
theorem pt_open_f3 {has : Prop} {V E H T oG oT w0 w1 w2 w3 lo hi : Int} {st ep hl hh mv ac pt tk et lm pE pA : Nat → Int} {B : Int} {S : (Nat → Int) → Prop} (I : Pin has V E H T oG oT w0 w1 w2 w3 lo hi st ep hl hh mv ac pt tk et lm pE pA B S) (h : Nat) (m : (Nat → Int)) (hS : S m) (hk : (m 0) = 7) (hto : (h : Int) = (m 1)) (hst : st h = 5) (hep : ep h = (m 3)) (hK : (m 3) = V ∧ w0 = V ∧ T < 0 ∧ (m 1) = H ∧ st h = 5 ∧ hl h = lo ∧ hh h = hi ∧ has ∧ E = V) : Q_f3 has V E H T oG oT w0 w1 w2 w3 lo hi (pfu st h 1) ep hl hh mv ac pt tk et lm pE pA (B + 2) S := by
  have i_f3 := Pin_f3 I
  clear I
  simp only [Q_f3, pokM, pown, prcv, pgiv, ppge, pfu] at *
  grind
set_option maxHeartbeats 400000 in
theorem pt_open_g {has : Prop} {V E H T oG oT w0 w1 w2 w3 lo hi : Int} {st ep hl hh mv ac pt tk et lm pE pA : Nat → Int} {B : Int} {S : (Nat → Int) → Prop} (I : Pin has V E H T oG oT w0 w1 w2 w3 lo hi st ep hl hh mv ac pt tk et lm pE pA B S) (h : Nat) (m : (Nat → Int)) (hS : S m) (hk : (m 0) = 7) (hto : (h : Int) = (m 1)) (hst : st h = 5) (hep : ep h = (m 3)) (hK : (m 3) = V ∧ w0 = V ∧ T < 0 ∧ (m 1) = H ∧ st h = 5 ∧ hl h = lo ∧ hh h = hi ∧ has ∧ E = V) : Q_g has V E H T oG oT w0 w1 w2 w3 lo hi (pfu st h 1) ep hl hh mv ac pt tk et lm pE pA (B + 2) S := by
  have i_g := Pin_g I
  clear I
  simp only [Q_g, pokM, pown, prcv, pgiv, ppge, pfu] at *
  grind
set_option maxHeartbeats 400000 in
theorem pt_open_g0 {has : Prop} {V E H T oG oT w0 w1 w2 w3 lo hi : Int} {st ep hl hh mv ac pt tk et lm pE pA : Nat → Int} {B : Int} {S : (Nat → Int) → Prop} (I : Pin has V E H T oG oT w0 w1 w2 w3 lo hi st ep hl hh mv ac pt tk et lm pE pA B S) (h : Nat) (m : (Nat → Int)) (hS : S m) (hk : (m 0) = 7) (hto : (h : Int) = (m 1)) (hst : st h = 5) (hep : ep h = (m 3)) (hK : (m 3) = V ∧ w0 = V ∧ T < 0 ∧ (m 1) = H ∧ st h = 5 ∧ hl h = lo ∧ hh h = hi ∧ has ∧ E = V) : Q_g0 has V E H T oG oT w0 w1 w2 w3 lo hi (pfu st h 1) ep hl hh mv ac pt tk et lm pE pA (B + 2) S := by
  have i_g0 := Pin_g0 I
  clear I
  simp only [Q_g0, pokM, pown, prcv, pgiv, ppge, pfu] at *
  grind
set_option maxHeartbeats 400000 in
theorem pt_open_g1 {has : Prop} {V E H T oG oT w0 w1 w2 w3 lo hi : Int} {st ep hl hh mv ac pt tk et lm pE pA : Nat → Int} {B : Int} {S : (Nat → Int) → Prop} (I : Pin has V E H T oG oT w0 w1 w2 w3 lo hi st ep hl hh mv ac pt tk et lm pE pA B S) (h : Nat) (m : (Nat → Int)) (hS : S m) (hk : (m 0) = 7) (hto : (h : Int) = (m 1)) (hst : st h = 5) (hep : ep h = (m 3)) (hK : (m 3) = V ∧ w0 = V ∧ T < 0 ∧ (m 1) = H ∧ st h = 5 ∧ hl h = lo ∧ hh h = hi ∧ has ∧ E = V) : Q_g1 has V E H T oG oT w0 w1 w2 w3 lo hi (pfu st h 1) ep hl hh mv ac pt tk et lm pE pA (B + 2) S := by
  have i_g1 := Pin_g1 I
  clear I
  simp only [Q_g1, pokM, pown, prcv, pgiv, ppge, pfu] at *
  grind
set_option maxHeartbeats 400000 in
theorem pt_open_g2 {has : Prop} {V E H T oG oT w0 w1 w2 w3 lo hi : Int} {st ep hl hh mv ac pt tk et lm pE pA : Nat → Int} {B : Int} {S : (Nat → Int) → Prop} (I : Pin has V E H T oG oT w0 w1 w2 w3 lo hi st ep hl hh mv ac pt tk et lm pE pA B S) (h : Nat) (m : (Nat → Int)) (hS : S m) (hk : (m 0) = 7) (hto : (h : Int) = (m 1)) (hst : st h = 5) (hep : ep h = (m 3)) (hK : (m 3) = V ∧ w0 = V ∧ T < 0 ∧ (m 1) = H ∧ st h = 5 ∧ hl h = lo ∧ hh h = hi ∧ has ∧ E = V) : Q_g2 has V E H T oG oT w0 w1 w2 w3 lo hi (pfu st h 1) ep hl hh mv ac pt tk et lm pE pA (B + 2) S := by
  have i_g2 := Pin_g2 I
  clear I
  simp only [Q_g2, pokM, pown, prcv, pgiv, ppge, pfu] at *
  grind
set_option maxHeartbeats 400000 in
theorem pt_open_h7 {has : Prop} {V E H T oG oT w0 w1 w2 w3 lo hi : Int} {st ep hl hh mv ac pt tk et lm pE pA : Nat → Int} {B : Int} {S : (Nat → Int) → Prop} (I : Pin has V E H T oG oT w0 w1 w2 w3 lo hi st ep hl hh mv ac pt tk et lm pE pA B S) (h : Nat) (m : (Nat → Int)) (hS : S m) (hk : (m 0) = 7) (hto : (h : Int) = (m 1)) (hst : st h = 5) (hep : ep h = (m 3)) (hK : (m 3) = V ∧ w0 = V ∧ T < 0 ∧ (m 1) = H ∧ st h = 5 ∧ hl h = lo ∧ hh h = hi ∧ has ∧ E = V) : Q_h7 has V E H T oG oT w0 w1 w2 w3 lo hi (pfu st h 1) ep hl hh mv ac pt tk et lm pE pA (B + 2) S := by
  have i_h7 := Pin_h7 I
  clear I
  simp only [Q_h7, pokM, pown, prcv, pgiv, ppge, pfu] at *
  grind
set_option maxHeartbeats 400000 in
theorem pt_open_h9 {has : Prop} {V E H T oG oT w0 w1 w2 w3 lo hi : Int} {st ep hl hh mv ac pt tk et lm pE pA : Nat → Int} {B : Int} {S : (Nat → Int) → Prop} (I : Pin has V E H T oG oT w0 w1 w2 w3 lo hi st ep hl hh mv ac pt tk et lm pE pA B S) (h : Nat) (m : (Nat → Int)) (hS : S m) (hk : (m 0) = 7) (hto : (h : Int) = (m 1)) (hst : st h = 5) (hep : ep h = (m 3)) (hK : (m 3) = V ∧ w0 = V ∧ T < 0 ∧ (m 1) = H ∧ st h = 5 ∧ hl h = lo ∧ hh h = hi ∧ has ∧ E = V) : Q_h9 has V E H T oG oT w0 w1 w2 w3 lo hi (pfu st h 1) ep hl hh mv ac pt tk et lm pE pA (B + 2) S := by
  have i_h9 := Pin_h9 I
  clear I
  simp only [Q_h9, pokM, pown, prcv, pgiv, ppge, pfu] at *
  grind
set_option maxHeartbeats 400000 in
theorem pt_open_h10 {has : Prop} {V E H T oG oT w0 w1 w2 w3 lo hi : Int} {st ep hl hh mv ac pt tk et lm pE pA : Nat → Int} {B : Int} {S : (Nat → Int) → Prop} (I : Pin has V E H T oG oT w0 w1 w2 w3 lo hi st ep hl hh mv ac pt tk et lm pE pA B S) (h : Nat) (m : (Nat → Int)) (hS : S m) (hk : (m 0) = 7) (hto : (h : Int) = (m 1)) (hst : st h = 5) (hep : ep h = (m 3)) (hK : (m 3) = V ∧ w0 = V ∧ T < 0 ∧ (m 1) = H ∧ st h = 5 ∧ hl h = lo ∧ hh h = hi ∧ has ∧ E = V) : Q_h10 has V E H T oG oT w0 w1 w2 w3 lo hi (pfu st h 1) ep hl hh mv ac pt tk et lm pE pA (B + 2) S := by
  have i_h10 := Pin_h10 I
  clear I
  simp only [Q_h10, pokM, pown, prcv, pgiv, ppge, pfu] at *
  grind
set_option maxHeartbeats 400000 in
theorem pt_open_h11 {has : Prop} {V E H T oG oT w0 w1 w2 w3 lo hi : Int} {st ep hl hh mv ac pt tk et lm pE pA : Nat → Int} {B : Int} {S : (Nat → Int) → Prop} (I : Pin has V E H T oG oT w0 w1 w2 w3 lo hi st ep hl hh mv ac pt tk et lm pE pA B S) (h : Nat) (m : (Nat → Int)) (hS : S m) (hk : (m 0) = 7) (hto : (h : Int) = (m 1)) (hst : st h = 5) (hep : ep h = (m 3)) (hK : (m 3) = V ∧ w0 = V ∧ T < 0 ∧ (m 1) = H ∧ st h = 5 ∧ hl h = lo ∧ hh h = hi ∧ has ∧ E = V) : Q_h11 has V E H T oG oT w0 w1 w2 w3 lo hi (pfu st h 1) ep hl hh mv ac pt tk et lm pE pA (B + 2) S := by
  have i_h11 := Pin_h11 I
  clear I
  simp only [Q_h11, pokM, pown, prcv, pgiv, ppge, pfu] at *
  grind
set_option maxHeartbeats 400000 in
theorem pt_open_h12 {has : Prop} {V E H T oG oT w0 w1 w2 w3 lo hi : Int} {st ep hl hh mv ac pt tk et lm pE pA : Nat → Int} {B : Int} {S : (Nat → Int) → Prop} (I : Pin has V E H T oG oT w0 w1 w2 w3 lo hi st ep hl hh mv ac pt tk et lm pE pA B S) (h : Nat) (m : (Nat → Int)) (hS : S m) (hk : (m 0) = 7) (hto : (h : Int) = (m 1)) (hst : st h = 5) (hep : ep h = (m 3)) (hK : (m 3) = V ∧ w0 = V ∧ T < 0 ∧ (m 1) = H ∧ st h = 5 ∧ hl h = lo ∧ hh h = hi ∧ has ∧ E = V) : Q_h12 has V E H T oG oT w0 w1 w2 w3 lo hi (pfu st h 1) ep hl hh mv ac pt tk et lm pE pA (B + 2) S := by
  have i_h12 := Pin_h12 I
  clear I
  simp only [Q_h12, pokM, pown, prcv, pgiv, ppge, pfu] at *
  grind
set_option maxHeartbeats 400000 in
theorem pt_open_k1 {has : Prop} {V E H T oG oT w0 w1 w2 w3 lo hi : Int} {st ep hl hh mv ac pt tk et lm pE pA : Nat → Int} {B : Int} {S : (Nat → Int) → Prop} (I : Pin has V E H T oG oT w0 w1 w2 w3 lo hi st ep hl hh mv ac pt tk et lm pE pA B S) (h : Nat) (m : (Nat → Int)) (hS : S m) (hk : (m 0) = 7) (hto : (h : Int) = (m 1)) (hst : st h = 5) (hep : ep h = (m 3)) (hK : (m 3) = V ∧ w0 = V ∧ T < 0 ∧ (m 1) = H ∧ st h = 5 ∧ hl h = lo ∧ hh h = hi ∧ has ∧ E = V) : Q_k1 has V E H T oG oT w0 w1 w2 w3 lo hi (pfu st h 1) ep hl hh mv ac pt tk et lm pE pA (B + 2) S := by
  have i_k1 := Pin_k1 I
  clear I
  simp only [Q_k1, pokM, pown, prcv, pgiv, ppge, pfu] at *
  grind
set_option maxHeartbeats 400000 in
theorem pt_open_k2 {has : Prop} {V E H T oG oT w0 w1 w2 w3 lo hi : Int} {st ep hl hh mv ac pt tk et lm pE pA : Nat → Int} {B : Int} {S : (Nat → Int) → Prop} (I : Pin has V E H T oG oT w0 w1 w2 w3 lo hi st ep hl hh mv ac pt tk et lm pE pA B S) (h : Nat) (m : (Nat → Int)) (hS : S m) (hk : (m 0) = 7) (hto : (h : Int) = (m 1)) (hst : st h = 5) (hep : ep h = (m 3)) (hK : (m 3) = V ∧ w0 = V ∧ T < 0 ∧ (m 1) = H ∧ st h = 5 ∧ hl h = lo ∧ hh h = hi ∧ has ∧ E = V) : Q_k2 has V E H T oG oT w0 w1 w2 w3 lo hi (pfu st h 1) ep hl hh mv ac pt tk et lm pE pA (B + 2) S := by
  have i_k2 := Pin_k2 I
  clear I
  simp only [Q_k2, pokM, pown, prcv, pgiv, ppge, pfu] at *
  grind
set_option maxHeartbeats 400000 in
theorem pt_open_k8 {has : Prop} {V E H T oG oT w0 w1 w2 w3 lo hi : Int} {st ep hl hh mv ac pt tk et lm pE pA : Nat → Int} {B : Int} {S : (Nat → Int) → Prop} (I : Pin has V E H T oG oT w0 w1 w2 w3 lo hi st ep hl hh mv ac pt tk et lm pE pA B S) (h : Nat) (m : (Nat → Int)) (hS : S m) (hk : (m 0) = 7) (hto : (h : Int) = (m 1)) (hst : st h = 5) (hep : ep h = (m 3)) (hK : (m 3) = V ∧ w0 = V ∧ T < 0 ∧ (m 1) = H ∧ st h = 5 ∧ hl h = lo ∧ hh h = hi ∧ has ∧ E = V) : Q_k8 has V E H T oG oT w0 w1 w2 w3 lo hi (pfu st h 1) ep hl hh mv ac pt tk et lm pE pA (B + 2) S := by
  have i_k8 := Pin_k8 I
  clear I
  simp only [Q_k8, pokM, pown, prcv, pgiv, ppge, pfu] at *
  grind
set_option maxHeartbeats 400000 in
theorem pt_open_l4 {has : Prop} {V E H T oG oT w0 w1 w2 w3 lo hi : Int} {st ep hl hh mv ac pt tk et lm pE pA : Nat → Int} {B : Int} {S : (Nat → Int) → Prop} (I : Pin has V E H T oG oT w0 w1 w2 w3 lo hi st ep hl hh mv ac pt tk et lm pE pA B S) (h : Nat) (m : (Nat → Int)) (hS : S m) (hk : (m 0) = 7) (hto : (h : Int) = (m 1)) (hst : st h = 5) (hep : ep h = (m 3)) (hK : (m 3) = V ∧ w0 = V ∧ T < 0 ∧ (m 1) = H ∧ st h = 5 ∧ hl h = lo ∧ hh h = hi ∧ has ∧ E = V) : Q_l4 has V E H T oG oT w0 w1 w2 w3 lo hi (pfu st h 1) ep hl hh mv ac pt tk et lm pE pA (B + 2) S := by
  have i_l4 := Pin_l4 I
  clear I
  simp only [Q_l4, pokM, pown, prcv, pgiv, ppge, pfu] at *
  grind
set_option maxHeartbeats 400000 in
theorem pt_open_l5 {has : Prop} {V E H T oG oT w0 w1 w2 w3 lo hi : Int} {st ep hl hh mv ac pt tk et lm pE pA : Nat → Int} {B : Int} {S : (Nat → Int) → Prop} (I : Pin has V E H T oG oT w0 w1 w2 w3 lo hi st ep hl hh mv ac pt tk et lm pE pA B S) (h : Nat) (m : (Nat → Int)) (hS : S m) (hk : (m 0) = 7) (hto : (h : Int) = (m 1)) (hst : st h = 5) (hep : ep h = (m 3)) (hK : (m 3) = V ∧ w0 = V ∧ T < 0 ∧ (m 1) = H ∧ st h = 5 ∧ hl h = lo ∧ hh h = hi ∧ has ∧ E = V) : Q_l5 has V E H T oG oT w0 w1 w2 w3 lo hi (pfu st h 1) ep hl hh mv ac pt tk et lm pE pA (B + 2) S := by
  have i_l5 := Pin_l5 I
  clear I
  simp only [Q_l5, pokM, pown, prcv, pgiv, ppge, pfu] at *
  grind
set_option maxHeartbeats 400000 in
theorem pt_open_l3 {has : Prop} {V E H T oG oT w0 w1 w2 w3 lo hi : Int} {st ep hl hh mv ac pt tk et lm pE pA : Nat → Int} {B : Int} {S : (Nat → Int) → Prop} (I : Pin has V E H T oG oT w0 w1 w2 w3 lo hi st ep hl hh mv ac pt tk et lm pE pA B S) (h : Nat) (m : (Nat → Int)) (hS : S m) (hk : (m 0) = 7) (hto : (h : Int) = (m 1)) (hst : st h = 5) (hep : ep h = (m 3)) (hK : (m 3) = V ∧ w0 = V ∧ T < 0 ∧ (m 1) = H ∧ st h = 5 ∧ hl h = lo ∧ hh h = hi ∧ has ∧ E = V) : Q_l3 has V E H T oG oT w0 w1 w2 w3 lo hi (pfu st h 1) ep hl hh mv ac pt tk et lm pE pA (B + 2) S := by
  have i_l3 := Pin_l3 I
  clear I
  simp only [Q_l3, pokM, pown, prcv, pgiv, ppge, pfu] at *
  grind
set_option maxHeartbeats 400000 in
theorem pt_open_m1 {has : Prop} {V E H T oG oT w0 w1 w2 w3 lo hi : Int} {st ep hl hh mv ac pt tk et lm pE pA : Nat → Int} {B : Int} {S : (Nat → Int) → Prop} (I : Pin has V E H T oG oT w0 w1 w2 w3 lo hi st ep hl hh mv ac pt tk et lm pE pA B S) (h : Nat) (m : (Nat → Int)) (hS : S m) (hk : (m 0) = 7) (hto : (h : Int) = (m 1)) (hst : st h = 5) (hep : ep h = (m 3)) (hK : (m 3) = V ∧ w0 = V ∧ T < 0 ∧ (m 1) = H ∧ st h = 5 ∧ hl h = lo ∧ hh h = hi ∧ has ∧ E = V) : Q_m1 has V E H T oG oT w0 w1 w2 w3 lo hi (pfu st h 1) ep hl hh mv ac pt tk et lm pE pA (B + 2) S := by
  have i_m1 := Pin_m1 I
  clear I
  simp only [Q_m1, pokM, pown, prcv, pgiv, ppge, pfu] at *
  grind
set_option maxHeartbeats 400000 in
theorem pt_open_m2 {has : Prop} {V E H T oG oT w0 w1 w2 w3 lo hi : Int} {st ep hl hh mv ac pt tk et lm pE pA : Nat → Int} {B : Int} {S : (Nat → Int) → Prop} (I : Pin has V E H T oG oT w0 w1 w2 w3 lo hi st ep hl hh mv ac pt tk et lm pE pA B S) (h : Nat) (m : (Nat → Int)) (hS : S m) (hk : (m 0) = 7) (hto : (h : Int) = (m 1)) (hst : st h = 5) (hep : ep h = (m 3)) (hK : (m 3) = V ∧ w0 = V ∧ T < 0 ∧ (m 1) = H ∧ st h = 5 ∧ hl h = lo ∧ hh h = hi ∧ has ∧ E = V) : Q_m2 has V E H T oG oT w0 w1 w2 w3 lo hi (pfu st h 1) ep hl hh mv ac pt tk et lm pE pA (B + 2) S := by
  have i_m2 := Pin_m2 I
  clear I
  simp only [Q_m2, pokM, pown, prcv, pgiv, ppge, pfu] at *
  grind
set_option maxHeartbeats 400000 in
theorem pt_open_m3 {has : Prop} {V E H T oG oT w0 w1 w2 w3 lo hi : Int} {st ep hl hh mv ac pt tk et lm pE pA : Nat → Int} {B : Int} {S : (Nat → Int) → Prop} (I : Pin has V E H T oG oT w0 w1 w2 w3 lo hi st ep hl hh mv ac pt tk et lm pE pA B S) (h : Nat) (m : (Nat → Int)) (hS : S m) (hk : (m 0) = 7) (hto : (h : Int) = (m 1)) (hst : st h = 5) (hep : ep h = (m 3)) (hK : (m 3) = V ∧ w0 = V ∧ T < 0 ∧ (m 1) = H ∧ st h = 5 ∧ hl h = lo ∧ hh h = hi ∧ has ∧ E = V) : Q_m3 has V E H T oG oT w0 w1 w2 w3 lo hi (pfu st h 1) ep hl hh mv ac pt tk et lm pE pA (B + 2) S := by
  have i_m3 := Pin_m3 I
  clear I
  simp only [Q_m3, pokM, pown, prcv, pgiv, ppge, pfu] at *
  grind
set_option maxHeartbeats 400000 in
theorem pt_open_n0 {has : Prop} {V E H T oG oT w0 w1 w2 w3 lo hi : Int} {st ep hl hh mv ac pt tk et lm pE pA : Nat → Int} {B : Int} {S : (Nat → Int) → Prop} (I : Pin has V E H T oG oT w0 w1 w2 w3 lo hi st ep hl hh mv ac pt tk et lm pE pA B S) (h : Nat) (m : (Nat → Int)) (hS : S m) (hk : (m 0) = 7) (hto : (h : Int) = (m 1)) (hst : st h = 5) (hep : ep h = (m 3)) (hK : (m 3) = V ∧ w0 = V ∧ T < 0 ∧ (m 1) = H ∧ st h = 5 ∧ hl h = lo ∧ hh h = hi ∧ has ∧ E = V) : Q_n0 has V E H T oG oT w0 w1 w2 w3 lo hi (pfu st h 1) ep hl hh mv ac pt tk et lm pE pA (B + 2) S := by
  have i_n0 := Pin_n0 I
  clear I
  simp only [Q_n0, pokM, pown, prcv, pgiv, ppge, pfu] at *
  grind
set_option maxHeartbeats 400000 in
theorem pt_open_n1 {has : Prop} {V E H T oG oT w0 w1 w2 w3 lo hi : Int} {st ep hl hh mv ac pt tk et lm pE pA : Nat → Int} {B : Int} {S : (Nat → Int) → Prop} (I : Pin has V E H T oG oT w0 w1 w2 w3 lo hi st ep hl hh mv ac pt tk et lm pE pA B S) (h : Nat) (m : (Nat → Int)) (hS : S m) (hk : (m 0) = 7) (hto : (h : Int) = (m 1)) (hst : st h = 5) (hep : ep h = (m 3)) (hK : (m 3) = V ∧ w0 = V ∧ T < 0 ∧ (m 1) = H ∧ st h = 5 ∧ hl h = lo ∧ hh h = hi ∧ has ∧ E = V) : Q_n1 has V E H T oG oT w0 w1 w2 w3 lo hi (pfu st h 1) ep hl hh mv ac pt tk et lm pE pA (B + 2) S := by
  have i_n1 := Pin_n1 I
  clear I
  simp only [Q_n1, pokM, pown, prcv, pgiv, ppge, pfu] at *
  grind
set_option maxHeartbeats 400000 in
theorem pt_open_n2 {has : Prop} {V E H T oG oT w0 w1 w2 w3 lo hi : Int} {st ep hl hh mv ac pt tk et lm pE pA : Nat → Int} {B : Int} {S : (Nat → Int) → Prop} (I : Pin has V E H T oG oT w0 w1 w2 w3 lo hi st ep hl hh mv ac pt tk et lm pE pA B S) (h : Nat) (m : (Nat → Int)) (hS : S m) (hk : (m 0) = 7) (hto : (h : Int) = (m 1)) (hst : st h = 5) (hep : ep h = (m 3)) (hK : (m 3) = V ∧ w0 = V ∧ T < 0 ∧ (m 1) = H ∧ st h = 5 ∧ hl h = lo ∧ hh h = hi ∧ has ∧ E = V) : Q_n2 has V E H T oG oT w0 w1 w2 w3 lo hi (pfu st h 1) ep hl hh mv ac pt tk et lm pE pA (B + 2) S := by
  have i_n2 := Pin_n2 I
  clear I
  simp only [Q_n2, pokM, pown, prcv, pgiv, ppge, pfu] at *
  grind
set_option maxHeartbeats 400000 in
theorem pt_open_n3 {has : Prop} {V E H T oG oT w0 w1 w2 w3 lo hi : Int} {st ep hl hh mv ac pt tk et lm pE pA : Nat → Int} {B : Int} {S : (Nat → Int) → Prop} (I : Pin has V E H T oG oT w0 w1 w2 w3 lo hi st ep hl hh mv ac pt tk et lm pE pA B S) (h : Nat) (m : (Nat → Int)) (hS : S m) (hk : (m 0) = 7) (hto : (h : Int) = (m 1)) (hst : st h = 5) (hep : ep h = (m 3)) (hK : (m 3) = V ∧ w0 = V ∧ T < 0 ∧ (m 1) = H ∧ st h = 5 ∧ hl h = lo ∧ hh h = hi ∧ has ∧ E = V) : Q_n3 has V E H T oG oT w0 w1 w2 w3 lo hi (pfu st h 1) ep hl hh mv ac pt tk et lm pE pA (B + 2) S := by
  have i_n3 := Pin_n3 I
  clear I
  simp only [Q_n3, pokM, pown, prcv, pgiv, ppge, pfu] at *
  grind
set_option maxHeartbeats 400000 in
theorem pt_open_n4 {has : Prop} {V E H T oG oT w0 w1 w2 w3 lo hi : Int} {st ep hl hh mv ac pt tk et lm pE pA : Nat → Int} {B : Int} {S : (Nat → Int) → Prop} (I : Pin has V E H T oG oT w0 w1 w2 w3 lo hi st ep hl hh mv ac pt tk et lm pE pA B S) (h : Nat) (m : (Nat → Int)) (hS : S m) (hk : (m 0) = 7) (hto : (h : Int) = (m 1)) (hst : st h = 5) (hep : ep h = (m 3)) (hK : (m 3) = V ∧ w0 = V ∧ T < 0 ∧ (m 1) = H ∧ st h = 5 ∧ hl h = lo ∧ hh h = hi ∧ has ∧ E = V) : Q_n4 has V E H T oG oT w0 w1 w2 w3 lo hi (pfu st h 1) ep hl hh mv ac pt tk et lm pE pA (B + 2) S := by
  have i_n4 := Pin_n4 I
  clear I
  simp only [Q_n4, pokM, pown, prcv, pgiv, ppge, pfu] at *
  grind
set_option maxHeartbeats 400000 in
theorem pt_open_n5 {has : Prop} {V E H T oG oT w0 w1 w2 w3 lo hi : Int} {st ep hl hh mv ac pt tk et lm pE pA : Nat → Int} {B : Int} {S : (Nat → Int) → Prop} (I : Pin has V E H T oG oT w0 w1 w2 w3 lo hi st ep hl hh mv ac pt tk et lm pE pA B S) (h : Nat) (m : (Nat → Int)) (hS : S m) (hk : (m 0) = 7) (hto : (h : Int) = (m 1)) (hst : st h = 5) (hep : ep h = (m 3)) (hK : (m 3) = V ∧ w0 = V ∧ T < 0 ∧ (m 1) = H ∧ st h = 5 ∧ hl h = lo ∧ hh h = hi ∧ has ∧ E = V) : Q_n5 has V E H T oG oT w0 w1 w2 w3 lo hi (pfu st h 1) ep hl hh mv ac pt tk et lm pE pA (B + 2) S := by
  have i_n5 := Pin_n5 I
  clear I
  simp only [Q_n5, pokM, pown, prcv, pgiv, ppge, pfu] at *
  grind
set_option maxHeartbeats 400000 in
theorem pt_open_n6 {has : Prop} {V E H T oG oT w0 w1 w2 w3 lo hi : Int} {st ep hl hh mv ac pt tk et lm pE pA : Nat → Int} {B : Int} {S : (Nat → Int) → Prop} (I : Pin has V E H T oG oT w0 w1 w2 w3 lo hi st ep hl hh mv ac pt tk et lm pE pA B S) (h : Nat) (m : (Nat → Int)) (hS : S m) (hk : (m 0) = 7) (hto : (h : Int) = (m 1)) (hst : st h = 5) (hep : ep h = (m 3)) (hK : (m 3) = V ∧ w0 = V ∧ T < 0 ∧ (m 1) = H ∧ st h = 5 ∧ hl h = lo ∧ hh h = hi ∧ has ∧ E = V) : Q_n6 has V E H T oG oT w0 w1 w2 w3 lo hi (pfu st h 1) ep hl hh mv ac pt tk et lm pE pA (B + 2) S := by
  have i_n6 := Pin_n6 I
  clear I
  simp only [Q_n6, pokM, pown, prcv, pgiv, ppge, pfu] at *
  grind
set_option maxHeartbeats 400000 in
theorem pt_open_n7 {has : Prop} {V E H T oG oT w0 w1 w2 w3 lo hi : Int} {st ep hl hh mv ac pt tk et lm pE pA : Nat → Int} {B : Int} {S : (Nat → Int) → Prop} (I : Pin has V E H T oG oT w0 w1 w2 w3 lo hi st ep hl hh mv ac pt tk et lm pE pA B S) (h : Nat) (m : (Nat → Int)) (hS : S m) (hk : (m 0) = 7) (hto : (h : Int) = (m 1)) (hst : st h = 5) (hep : ep h = (m 3)) (hK : (m 3) = V ∧ w0 = V ∧ T < 0 ∧ (m 1) = H ∧ st h = 5 ∧ hl h = lo ∧ hh h = hi ∧ has ∧ E = V) : Q_n7 has V E H T oG oT w0 w1 w2 w3 lo hi (pfu st h 1) ep hl hh mv ac pt tk et lm pE pA (B + 2) S := by
  have i_n7 := Pin_n7 I
  clear I
  simp only [Q_n7, pokM, pown, prcv, pgiv, ppge, pfu] at *
  grind
set_option maxHeartbeats 400000 in
theorem pt_open_o {has : Prop} {V E H T oG oT w0 w1 w2 w3 lo hi : Int} {st ep hl hh mv ac pt tk et lm pE pA : Nat → Int} {B : Int} {S : (Nat → Int) → Prop} (I : Pin has V E H T oG oT w0 w1 w2 w3 lo hi st ep hl hh mv ac pt tk et lm pE pA B S) (h : Nat) (m : (Nat → Int)) (hS : S m) (hk : (m 0) = 7) (hto : (h : Int) = (m 1)) (hst : st h = 5) (hep : ep h = (m 3)) (hK : (m 3) = V ∧ w0 = V ∧ T < 0 ∧ (m 1) = H ∧ st h = 5 ∧ hl h = lo ∧ hh h = hi ∧ has ∧ E = V) : Q_o has V E H T oG oT w0 w1 w2 w3 lo hi (pfu st h 1) ep hl hh mv ac pt tk et lm pE pA (B + 2) S := by
  have i_o := Pin_o I
  clear I
  simp only [Q_o, pokM, pown, prcv, pgiv, ppge, pfu] at *
  grind
set_option maxHeartbeats 400000 in
theorem pt_open_p {has : Prop} {V E H T oG oT w0 w1 w2 w3 lo hi : Int} {st ep hl hh mv ac pt tk et lm pE pA : Nat → Int} {B : Int} {S : (Nat → Int) → Prop} (I : Pin has V E H T oG oT w0 w1 w2 w3 lo hi st ep hl hh mv ac pt tk et lm pE pA B S) (h : Nat) (m : (Nat → Int)) (hS : S m) (hk : (m 0) = 7) (hto : (h : Int) = (m 1)) (hst : st h = 5) (hep : ep h = (m 3)) (hK : (m 3) = V ∧ w0 = V ∧ T < 0 ∧ (m 1) = H ∧ st h = 5 ∧ hl h = lo ∧ hh h = hi ∧ has ∧ E = V) : Q_p has V E H T oG oT w0 w1 w2 w3 lo hi (pfu st h 1) ep hl hh mv ac pt tk et lm pE pA (B + 2) S := by
  have i_p := Pin_p I
  clear I
  simp only [Q_p, pokM, pown, prcv, pgiv, ppge, pfu] at *
  grind
set_option maxHeartbeats 400000 in
theorem pt_open_q {has : Prop} {V E H T oG oT w0 w1 w2 w3 lo hi : Int} {st ep hl hh mv ac pt tk et lm pE pA : Nat → Int} {B : Int} {S : (Nat → Int) → Prop} (I : Pin has V E H T oG oT w0 w1 w2 w3 lo hi st ep hl hh mv ac pt tk et lm pE pA B S) (h : Nat) (m : (Nat → Int)) (hS : S m) (hk : (m 0) = 7) (hto : (h : Int) = (m 1)) (hst : st h = 5) (hep : ep h = (m 3)) (hK : (m 3) = V ∧ w0 = V ∧ T < 0 ∧ (m 1) = H ∧ st h = 5 ∧ hl h = lo ∧ hh h = hi ∧ has ∧ E = V) : Q_q has V E H T oG oT w0 w1 w2 w3 lo hi (pfu st h 1) ep hl hh mv ac pt tk et lm pE pA (B + 2) S := by
  have i_q := Pin_q I
  clear I
  simp only [Q_q, pokM, pown, prcv, pgiv, ppge, pfu] at *
  grind
set_option maxHeartbeats 400000 in
theorem pt_open_q2 {has : Prop} {V E H T oG oT w0 w1 w2 w3 lo hi : Int} {st ep hl hh mv ac pt tk et lm pE pA : Nat → Int} {B : Int} {S : (Nat → Int) → Prop} (I : Pin has V E H T oG oT w0 w1 w2 w3 lo hi st ep hl hh mv ac pt tk et lm pE pA B S) (h : Nat) (m : (Nat → Int)) (hS : S m) (hk : (m 0) = 7) (hto : (h : Int) = (m 1)) (hst : st h = 5) (hep : ep h = (m 3)) (hK : (m 3) = V ∧ w0 = V ∧ T < 0 ∧ (m 1) = H ∧ st h = 5 ∧ hl h = lo ∧ hh h = hi ∧ has ∧ E = V) : Q_q2 has V E H T oG oT w0 w1 w2 w3 lo hi (pfu st h 1) ep hl hh mv ac pt tk et lm pE pA (B + 2) S := by
  have i_q2 := Pin_q2 I
  clear I
  simp only [Q_q2, pokM, pown, prcv, pgiv, ppge, pfu] at *
  grind
set_option maxHeartbeats 400000 in
theorem pt_open_q3 {has : Prop} {V E H T oG oT w0 w1 w2 w3 lo hi : Int} {st ep hl hh mv ac pt tk et lm pE pA : Nat → Int} {B : Int} {S : (Nat → Int) → Prop} (I : Pin has V E H T oG oT w0 w1 w2 w3 lo hi st ep hl hh mv ac pt tk et lm pE pA B S) (h : Nat) (m : (Nat → Int)) (hS : S m) (hk : (m 0) = 7) (hto : (h : Int) = (m 1)) (hst : st h = 5) (hep : ep h = (m 3)) (hK : (m 3) = V ∧ w0 = V ∧ T < 0 ∧ (m 1) = H ∧ st h = 5 ∧ hl h = lo ∧ hh h = hi ∧ has ∧ E = V) : Q_q3 has V E H T oG oT w0 w1 w2 w3 lo hi (pfu st h 1) ep hl hh mv ac pt tk et lm pE pA (B + 2) S := by
  have i_q3 := Pin_q3 I
  clear I
  simp only [Q_q3, pokM, pown, prcv, pgiv, ppge, pfu] at *
  grind
set_option maxHeartbeats 400000 in
theorem pt_open_w {has : Prop} {V E H T oG oT w0 w1 w2 w3 lo hi : Int} {st ep hl hh mv ac pt tk et lm pE pA : Nat → Int} {B : Int} {S : (Nat → Int) → Prop} (I : Pin has V E H T oG oT w0 w1 w2 w3 lo hi st ep hl hh mv ac pt tk et lm pE pA B S) (h : Nat) (m : (Nat → Int)) (hS : S m) (hk : (m 0) = 7) (hto : (h : Int) = (m 1)) (hst : st h = 5) (hep : ep h = (m 3)) (hK : (m 3) = V ∧ w0 = V ∧ T < 0 ∧ (m 1) = H ∧ st h = 5 ∧ hl h = lo ∧ hh h = hi ∧ has ∧ E = V) : Q_w has V E H T oG oT w0 w1 w2 w3 lo hi (pfu st h 1) ep hl hh mv ac pt tk et lm pE pA (B + 2) S := by
  have i_w := Pin_w I
  clear I
  simp only [Q_w, pokM, pown, prcv, pgiv, ppge, pfu] at *
  grind
theorem pt_open {has : Prop} {V E H T oG oT w0 w1 w2 w3 lo hi : Int} {st ep hl hh mv ac pt tk et lm pE pA : Nat → Int} {B : Int} {S : (Nat → Int) → Prop} (I : Pin has V E H T oG oT w0 w1 w2 w3 lo hi st ep hl hh mv ac pt tk et lm pE pA B S) (h : Nat) (m : (Nat → Int)) (hS : S m) (hk : (m 0) = 7) (hto : (h : Int) = (m 1)) (hst : st h = 5) (hep : ep h = (m 3)) : Pin has V E H T oG oT w0 w1 w2 w3 lo hi (pfu st h 1) ep hl hh mv ac pt tk et lm pE pA (B + 2) S := by
  have hK := pt_open_hK_d I h m hS hk hto hst hep 
  exact ⟨pt_open_v0 I h m hS hk hto hst hep hK, pt_open_a I h m hS hk hto hst hep hK, pt_open_b I h m hS hk hto hst hep hK, pt_open_c I h m hS hk hto hst hep hK, pt_open_d I h m hS hk hto hst hep hK, pt_open_e I h m hS hk hto hst hep hK, pt_open_f I h m hS hk hto hst hep hK, pt_open_f2 I h m hS hk hto hst hep hK, pt_open_f3 I h m hS hk hto hst hep hK, pt_open_g I h m hS hk hto hst hep hK, pt_open_g0 I h m hS hk hto hst hep hK, pt_open_g1 I h m hS hk hto hst hep hK, pt_open_g2 I h m hS hk hto hst hep hK, pt_open_h7 I h m hS hk hto hst hep hK, pt_open_h9 I h m hS hk hto hst hep hK, pt_open_h10 I h m hS hk hto hst hep hK, pt_open_h11 I h m hS hk hto hst hep hK, pt_open_h12 I h m hS hk hto hst hep hK, pt_open_k1 I h m hS hk hto hst hep hK, pt_open_k2 I h m hS hk hto hst hep hK, pt_open_k8 I h m hS hk hto hst hep hK, pt_open_l4 I h m hS hk hto hst hep hK, pt_open_l5 I h m hS hk hto hst hep hK, pt_open_l3 I h m hS hk hto hst hep hK, pt_open_m1 I h m hS hk hto hst hep hK, pt_open_m2 I h m hS hk hto hst hep hK, pt_open_m3 I h m hS hk hto hst hep hK, pt_open_n0 I h m hS hk hto hst hep hK, pt_open_n1 I h m hS hk hto hst hep hK, pt_open_n2 I h m hS hk hto hst hep hK, pt_open_n3 I h m hS hk hto hst hep hK, pt_open_n4 I h m hS hk hto hst hep hK, pt_open_n5 I h m hS hk hto hst hep hK, pt_open_n6 I h m hS hk hto hst hep hK, pt_open_n7 I h m hS hk hto hst hep hK, pt_open_o I h m hS hk hto hst hep hK, pt_open_p I h m hS hk hto hst hep hK, pt_open_q I h m hS hk hto hst hep hK, pt_open_q2 I h m hS hk hto hst hep hK, pt_open_q3 I h m hS hk hto hst hep hK, pt_open_w I h m hS hk hto hst hep hK⟩
set_option maxHeartbeats 400000 in
theorem pt_go_hV_d {has : Prop} {V E H T oG oT w0 w1 w2 w3 lo hi : Int} {st ep hl hh mv ac pt tk et lm pE pA : Nat → Int} {B : Int} {S : (Nat → Int) → Prop} (I : Pin has V E H T oG oT w0 w1 w2 w3 lo hi st ep hl hh mv ac pt tk et lm pE pA B S) (h : Nat) (m : (Nat → Int)) (hS : S m) (hk : (m 0) = 9) (hto : (h : Int) = (m 1)) (hst : st h = 3) (hep : ep h + 1 = (m 3))  : (m 3) = V := by
  have i_e := Pin_e I
  clear I
  try simp only [Q_e, pown, prcv, pgiv, ppge, pfu] at *
  grind
set_option maxHeartbeats 400000 in
theorem pt_go_hT_d {has : Prop} {V E H T oG oT w0 w1 w2 w3 lo hi : Int} {st ep hl hh mv ac pt tk et lm pE pA : Nat → Int} {B : Int} {S : (Nat → Int) → Prop} (I : Pin has V E H T oG oT w0 w1 w2 w3 lo hi st ep hl hh mv ac pt tk et lm pE pA B S) (h : Nat) (m : (Nat → Int)) (hS : S m) (hk : (m 0) = 9) (hto : (h : Int) = (m 1)) (hst : st h = 3) (hep : ep h + 1 = (m 3)) (hV : (m 3) = V) : T < 0 := by
  have i_h9 := Pin_h9 I
  clear I
  try simp only [Q_h9, pown, prcv, pgiv, ppge, pfu] at *
  grind
set_option maxHeartbeats 400000 in
theorem pt_go_v0 {has : Prop} {V E H T oG oT w0 w1 w2 w3 lo hi : Int} {st ep hl hh mv ac pt tk et lm pE pA : Nat → Int} {B : Int} {S : (Nat → Int) → Prop} (I : Pin has V E H T oG oT w0 w1 w2 w3 lo hi st ep hl hh mv ac pt tk et lm pE pA B S) (h : Nat) (m : (Nat → Int)) (hS : S m) (hk : (m 0) = 9) (hto : (h : Int) = (m 1)) (hst : st h = 3) (hep : ep h + 1 = (m 3)) (hV : (m 3) = V) (hT : T < 0) : Q_v0 has V E H T oG oT w0 w1 w2 w3 lo hi (pfu st h 0) ep hl hh mv ac pt tk et lm pE pA (B + 2) S := by
  have i_v0 := Pin_v0 I
  clear I
  simp only [Q_v0, pokM, pown, prcv, pgiv, ppge, pfu] at *
  grind
set_option maxHeartbeats 400000 in
theorem pt_go_a {has : Prop} {V E H T oG oT w0 w1 w2 w3 lo hi : Int} {st ep hl hh mv ac pt tk et lm pE pA : Nat → Int} {B : Int} {S : (Nat → Int) → Prop} (I : Pin has V E H T oG oT w0 w1 w2 w3 lo hi st ep hl hh mv ac pt tk et lm pE pA B S) (h : Nat) (m : (Nat → Int)) (hS : S m) (hk : (m 0) = 9) (hto : (h : Int) = (m 1)) (hst : st h = 3) (hep : ep h + 1 = (m 3)) (hV : (m 3) = V) (hT : T < 0) : Q_a has V E H T oG oT w0 w1 w2 w3 lo hi (pfu st h 0) ep hl hh mv ac pt tk et lm pE pA (B + 2) S := by
  have i_a := Pin_a I
  clear I
  simp only [Q_a, pokM, pown, prcv, pgiv, ppge, pfu] at *
  grind
set_option maxHeartbeats 400000 in
theorem pt_go_b {has : Prop} {V E H T oG oT w0 w1 w2 w3 lo hi : Int} {st ep hl hh mv ac pt tk et lm pE pA : Nat → Int} {B : Int} {S : (Nat → Int) → Prop} (I : Pin has V E H T oG oT w0 w1 w2 w3 lo hi st ep hl hh mv ac pt tk et lm pE pA B S) (h : Nat) (m : (Nat → Int)) (hS : S m) (hk : (m 0) = 9) (hto : (h : Int) = (m 1)) (hst : st h = 3) (hep : ep h + 1 = (m 3)) (hV : (m 3) = V) (hT : T < 0) : Q_b has V E H T oG oT w0 w1 w2 w3 lo hi (pfu st h 0) ep hl hh mv ac pt tk et lm pE pA (B + 2) S := by
  have i_b := Pin_b I
  clear I
  simp only [Q_b, pokM, pown, prcv, pgiv, ppge, pfu] at *
  grind
set_option maxHeartbeats 400000 in
theorem pt_go_c {has : Prop} {V E H T oG oT w0 w1 w2 w3 lo hi : Int} {st ep hl hh mv ac pt tk et lm pE pA : Nat → Int} {B : Int} {S : (Nat → Int) → Prop} (I : Pin has V E H T oG oT w0 w1 w2 w3 lo hi st ep hl hh mv ac pt tk et lm pE pA B S) (h : Nat) (m : (Nat → Int)) (hS : S m) (hk : (m 0) = 9) (hto : (h : Int) = (m 1)) (hst : st h = 3) (hep : ep h + 1 = (m 3)) (hV : (m 3) = V) (hT : T < 0) : Q_c has V E H T oG oT w0 w1 w2 w3 lo hi (pfu st h 0) ep hl hh mv ac pt tk et lm pE pA (B + 2) S := by
  have i_c := Pin_c I
  clear I
  simp only [Q_c, pokM, pown, prcv, pgiv, ppge, pfu] at *
  grind
set_option maxHeartbeats 400000 in
theorem pt_go_d {has : Prop} {V E H T oG oT w0 w1 w2 w3 lo hi : Int} {st ep hl hh mv ac pt tk et lm pE pA : Nat → Int} {B : Int} {S : (Nat → Int) → Prop} (I : Pin has V E H T oG oT w0 w1 w2 w3 lo hi st ep hl hh mv ac pt tk et lm pE pA B S) (h : Nat) (m : (Nat → Int)) (hS : S m) (hk : (m 0) = 9) (hto : (h : Int) = (m 1)) (hst : st h = 3) (hep : ep h + 1 = (m 3)) (hV : (m 3) = V) (hT : T < 0) : Q_d has V E H T oG oT w0 w1 w2 w3 lo hi (pfu st h 0) ep hl hh mv ac pt tk et lm pE pA (B + 2) S := by
  have i_d := Pin_d I
  clear I
  simp only [Q_d, pokM, pown, prcv, pgiv, ppge, pfu] at *
  grind
set_option maxHeartbeats 400000 in
theorem pt_go_e {has : Prop} {V E H T oG oT w0 w1 w2 w3 lo hi : Int} {st ep hl hh mv ac pt tk et lm pE pA : Nat → Int} {B : Int} {S : (Nat → Int) → Prop} (I : Pin has V E H T oG oT w0 w1 w2 w3 lo hi st ep hl hh mv ac pt tk et lm pE pA B S) (h : Nat) (m : (Nat → Int)) (hS : S m) (hk : (m 0) = 9) (hto : (h : Int) = (m 1)) (hst : st h = 3) (hep : ep h + 1 = (m 3)) (hV : (m 3) = V) (hT : T < 0) : Q_e has V E H T oG oT w0 w1 w2 w3 lo hi (pfu st h 0) ep hl hh mv ac pt tk et lm pE pA (B + 2) S := by
  have i_e := Pin_e I
  clear I
  simp only [Q_e, pokM, pown, prcv, pgiv, ppge, pfu] at *
  grind
set_option maxHeartbeats 400000 in
theorem pt_go_f {has : Prop} {V E H T oG oT w0 w1 w2 w3 lo hi : Int} {st ep hl hh mv ac pt tk et lm pE pA : Nat → Int} {B : Int} {S : (Nat → Int) → Prop} (I : Pin has V E H T oG oT w0 w1 w2 w3 lo hi st ep hl hh mv ac pt tk et lm pE pA B S) (h : Nat) (m : (Nat → Int)) (hS : S m) (hk : (m 0) = 9) (hto : (h : Int) = (m 1)) (hst : st h = 3) (hep : ep h + 1 = (m 3)) (hV : (m 3) = V) (hT : T < 0) : Q_f has V E H T oG oT w0 w1 w2 w3 lo hi (pfu st h 0) ep hl hh mv ac pt tk et lm pE pA (B + 2) S := by
  have i_f := Pin_f I
  clear I
  simp only [Q_f, pokM, pown, prcv, pgiv, ppge, pfu] at *
  grind
set_option maxHeartbeats 400000 in
theorem pt_go_f2 {has : Prop} {V E H T oG oT w0 w1 w2 w3 lo hi : Int} {st ep hl hh mv ac pt tk et lm pE pA : Nat → Int} {B : Int} {S : (Nat → Int) → Prop} (I : Pin has V E H T oG oT w0 w1 w2 w3 lo hi st ep hl hh mv ac pt tk et lm pE pA B S) (h : Nat) (m : (Nat → Int)) (hS : S m) (hk : (m 0) = 9) (hto : (h : Int) = (m 1)) (hst : st h = 3) (hep : ep h + 1 = (m 3)) (hV : (m 3) = V) (hT : T < 0) : Q_f2 has V E H T oG oT w0 w1 w2 w3 lo hi (pfu st h 0) ep hl hh mv ac pt tk et lm pE pA (B + 2) S := by
  have i_f2 := Pin_f2 I
  clear I
  simp only [Q_f2, pokM, pown, prcv, pgiv, ppge, pfu] at *
  grind
set_option maxHeartbeats 400000 in
theorem pt_go_f3 {has : Prop} {V E H T oG oT w0 w1 w2 w3 lo hi : Int} {st ep hl hh mv ac pt tk et lm pE pA : Nat → Int} {B : Int} {S : (Nat → Int) → Prop} (I : Pin has V E H T oG oT w0 w1 w2 w3 lo hi st ep hl hh mv ac pt tk et lm pE pA B S) (h : Nat) (m : (Nat → Int)) (hS : S m) (hk : (m 0) = 9) (hto : (h : Int) = (m 1)) (hst : st h = 3) (hep : ep h + 1 = (m 3)) (hV : (m 3) = V) (hT : T < 0) : Q_f3 has V E H T oG oT w0 w1 w2 w3 lo hi (pfu st h 0) ep hl hh mv ac pt tk et lm pE pA (B + 2) S := by
  have i_f3 := Pin_f3 I
  clear I
  simp only [Q_f3, pokM, pown, prcv, pgiv, ppge, pfu] at *
  grind
set_option maxHeartbeats 400000 in
theorem pt_go_g {has : Prop} {V E H T oG oT w0 w1 w2 w3 lo hi : Int} {st ep hl hh mv ac pt tk et lm pE pA : Nat → Int} {B : Int} {S : (Nat → Int) → Prop} (I : Pin has V E H T oG oT w0 w1 w2 w3 lo hi st ep hl hh mv ac pt tk et lm pE pA B S) (h : Nat) (m : (Nat → Int)) (hS : S m) (hk : (m 0) = 9) (hto : (h : Int) = (m 1)) (hst : st h = 3) (hep : ep h + 1 = (m 3)) (hV : (m 3) = V) (hT : T < 0) : Q_g has V E H T oG oT w0 w1 w2 w3 lo hi (pfu st h 0) ep hl hh mv ac pt tk et lm pE pA (B + 2) S := by
  have i_g := Pin_g I
  clear I
  simp only [Q_g, pokM, pown, prcv, pgiv, ppge, pfu] at *
  grind
set_option maxHeartbeats 400000 in
theorem pt_go_g0 {has : Prop} {V E H T oG oT w0 w1 w2 w3 lo hi : Int} {st ep hl hh mv ac pt tk et lm pE pA : Nat → Int} {B : Int} {S : (Nat → Int) → Prop} (I : Pin has V E H T oG oT w0 w1 w2 w3 lo hi st ep hl hh mv ac pt tk et lm pE pA B S) (h : Nat) (m : (Nat → Int)) (hS : S m) (hk : (m 0) = 9) (hto : (h : Int) = (m 1)) (hst : st h = 3) (hep : ep h + 1 = (m 3)) (hV : (m 3) = V) (hT : T < 0) : Q_g0 has V E H T oG oT w0 w1 w2 w3 lo hi (pfu st h 0) ep hl hh mv ac pt tk et lm pE pA (B + 2) S := by
  have i_g0 := Pin_g0 I
  clear I
  simp only [Q_g0, pokM, pown, prcv, pgiv, ppge, pfu] at *
  grind
set_option maxHeartbeats 400000 in
theorem pt_go_g1 {has : Prop} {V E H T oG oT w0 w1 w2 w3 lo hi : Int} {st ep hl hh mv ac pt tk et lm pE pA : Nat → Int} {B : Int} {S : (Nat → Int) → Prop} (I : Pin has V E H T oG oT w0 w1 w2 w3 lo hi st ep hl hh mv ac pt tk et lm pE pA B S) (h : Nat) (m : (Nat → Int)) (hS : S m) (hk : (m 0) = 9) (hto : (h : Int) = (m 1)) (hst : st h = 3) (hep : ep h + 1 = (m 3)) (hV : (m 3) = V) (hT : T < 0) : Q_g1 has V E H T oG oT w0 w1 w2 w3 lo hi (pfu st h 0) ep hl hh mv ac pt tk et lm pE pA (B + 2) S := by
  have i_g1 := Pin_g1 I
  clear I
  simp only [Q_g1, pokM, pown, prcv, pgiv, ppge, pfu] at *
  grind
set_option maxHeartbeats 400000 in
theorem pt_go_g2 {has : Prop} {V E H T oG oT w0 w1 w2 w3 lo hi : Int} {st ep hl hh mv ac pt tk et lm pE pA : Nat → Int} {B : Int} {S : (Nat → Int) → Prop} (I : Pin has V E H T oG oT w0 w1 w2 w3 lo hi st ep hl hh mv ac pt tk et lm pE pA B S) (h : Nat) (m : (Nat → Int)) (hS : S m) (hk : (m 0) = 9) (hto : (h : Int) = (m 1)) (hst : st h = 3) (hep : ep h + 1 = (m 3)) (hV : (m 3) = V) (hT : T < 0) : Q_g2 has V E H T oG oT w0 w1 w2 w3 lo hi (pfu st h 0) ep hl hh mv ac pt tk et lm pE pA (B + 2) S := by
  have i_g2 := Pin_g2 I
  clear I
  simp only [Q_g2, pokM, pown, prcv, pgiv, ppge, pfu] at *
  grind
set_option maxHeartbeats 400000 in
theorem pt_go_h7 {has : Prop} {V E H T oG oT w0 w1 w2 w3 lo hi : Int} {st ep hl hh mv ac pt tk et lm pE pA : Nat → Int} {B : Int} {S : (Nat → Int) → Prop} (I : Pin has V E H T oG oT w0 w1 w2 w3 lo hi st ep hl hh mv ac pt tk et lm pE pA B S) (h : Nat) (m : (Nat → Int)) (hS : S m) (hk : (m 0) = 9) (hto : (h : Int) = (m 1)) (hst : st h = 3) (hep : ep h + 1 = (m 3)) (hV : (m 3) = V) (hT : T < 0) : Q_h7 has V E H T oG oT w0 w1 w2 w3 lo hi (pfu st h 0) ep hl hh mv ac pt tk et lm pE pA (B + 2) S := by
  have i_h7 := Pin_h7 I
  clear I
  simp only [Q_h7, pokM, pown, prcv, pgiv, ppge, pfu] at *
  grind
set_option maxHeartbeats 400000 in
theorem pt_go_h9 {has : Prop} {V E H T oG oT w0 w1 w2 w3 lo hi : Int} {st ep hl hh mv ac pt tk et lm pE pA : Nat → Int} {B : Int} {S : (Nat → Int) → Prop} (I : Pin has V E H T oG oT w0 w1 w2 w3 lo hi st ep hl hh mv ac pt tk et lm pE pA B S) (h : Nat) (m : (Nat → Int)) (hS : S m) (hk : (m 0) = 9) (hto : (h : Int) = (m 1)) (hst : st h = 3) (hep : ep h + 1 = (m 3)) (hV : (m 3) = V) (hT : T < 0) : Q_h9 has V E H T oG oT w0 w1 w2 w3 lo hi (pfu st h 0) ep hl hh mv ac pt tk et lm pE pA (B + 2) S := by
  have i_h9 := Pin_h9 I
  clear I
  simp only [Q_h9, pokM, pown, prcv, pgiv, ppge, pfu] at *
  grind
set_option maxHeartbeats 400000 in
theorem pt_go_h10 {has : Prop} {V E H T oG oT w0 w1 w2 w3 lo hi : Int} {st ep hl hh mv ac pt tk et lm pE pA : Nat → Int} {B : Int} {S : (Nat → Int) → Prop} (I : Pin has V E H T oG oT w0 w1 w2 w3 lo hi st ep hl hh mv ac pt tk et lm pE pA B S) (h : Nat) (m : (Nat → Int)) (hS : S m) (hk : (m 0) = 9) (hto : (h : Int) = (m 1)) (hst : st h = 3) (hep : ep h + 1 = (m 3)) (hV : (m 3) = V) (hT : T < 0) : Q_h10 has V E H T oG oT w0 w1 w2 w3 lo hi (pfu st h 0) ep hl hh mv ac pt tk et lm pE pA (B + 2) S := by
  have i_h10 := Pin_h10 I
  clear I
  simp only [Q_h10, pokM, pown, prcv, pgiv, ppge, pfu] at *
  grind
set_option maxHeartbeats 400000 in
theorem pt_go_h11 {has : Prop} {V E H T oG oT w0 w1 w2 w3 lo hi : Int} {st ep hl hh mv ac pt tk et lm pE pA : Nat → Int} {B : Int} {S : (Nat → Int) → Prop} (I : Pin has V E H T oG oT w0 w1 w2 w3 lo hi st ep hl hh mv ac pt tk et lm pE pA B S) (h : Nat) (m : (Nat → Int)) (hS : S m) (hk : (m 0) = 9) (hto : (h : Int) = (m 1)) (hst : st h = 3) (hep : ep h + 1 = (m 3)) (hV : (m 3) = V) (hT : T < 0) : Q_h11 has V E H T oG oT w0 w1 w2 w3 lo hi (pfu st h 0) ep hl hh mv ac pt tk et lm pE pA (B + 2) S := by
  have i_h11 := Pin_h11 I
  clear I
  simp only [Q_h11, pokM, pown, prcv, pgiv, ppge, pfu] at *
  grind
set_option maxHeartbeats 400000 in
theorem pt_go_h12 {has : Prop} {V E H T oG oT w0 w1 w2 w3 lo hi : Int} {st ep hl hh mv ac pt tk et lm pE pA : Nat → Int} {B : Int} {S : (Nat → Int) → Prop} (I : Pin has V E H T oG oT w0 w1 w2 w3 lo hi st ep hl hh mv ac pt tk et lm pE pA B S) (h : Nat) (m : (Nat → Int)) (hS : S m) (hk : (m 0) = 9) (hto : (h : Int) = (m 1)) (hst : st h = 3) (hep : ep h + 1 = (m 3)) (hV : (m 3) = V) (hT : T < 0) : Q_h12 has V E H T oG oT w0 w1 w2 w3 lo hi (pfu st h 0) ep hl hh mv ac pt tk et lm pE pA (B + 2) S := by
  have i_h12 := Pin_h12 I
  clear I
  simp only [Q_h12, pokM, pown, prcv, pgiv, ppge, pfu] at *
  grind
set_option maxHeartbeats 400000 in
theorem pt_go_k1 {has : Prop} {V E H T oG oT w0 w1 w2 w3 lo hi : Int} {st ep hl hh mv ac pt tk et lm pE pA : Nat → Int} {B : Int} {S : (Nat → Int) → Prop} (I : Pin has V E H T oG oT w0 w1 w2 w3 lo hi st ep hl hh mv ac pt tk et lm pE pA B S) (h : Nat) (m : (Nat → Int)) (hS : S m) (hk : (m 0) = 9) (hto : (h : Int) = (m 1)) (hst : st h = 3) (hep : ep h + 1 = (m 3)) (hV : (m 3) = V) (hT : T < 0) : Q_k1 has V E H T oG oT w0 w1 w2 w3 lo hi (pfu st h 0) ep hl hh mv ac pt tk et lm pE pA (B + 2) S := by
  have i_k1 := Pin_k1 I
  clear I
  simp only [Q_k1, pokM, pown, prcv, pgiv, ppge, pfu] at *
  grind
set_option maxHeartbeats 400000 in
theorem pt_go_k2 {has : Prop} {V E H T oG oT w0 w1 w2 w3 lo hi : Int} {st ep hl hh mv ac pt tk et lm pE pA : Nat → Int} {B : Int} {S : (Nat → Int) → Prop} (I : Pin has V E H T oG oT w0 w1 w2 w3 lo hi st ep hl hh mv ac pt tk et lm pE pA B S) (h : Nat) (m : (Nat → Int)) (hS : S m) (hk : (m 0) = 9) (hto : (h : Int) = (m 1)) (hst : st h = 3) (hep : ep h + 1 = (m 3)) (hV : (m 3) = V) (hT : T < 0) : Q_k2 has V E H T oG oT w0 w1 w2 w3 lo hi (pfu st h 0) ep hl hh mv ac pt tk et lm pE pA (B + 2) S := by
  have i_k2 := Pin_k2 I
  clear I
  simp only [Q_k2, pokM, pown, prcv, pgiv, ppge, pfu] at *
  grind
set_option maxHeartbeats 400000 in
theorem pt_go_k8 {has : Prop} {V E H T oG oT w0 w1 w2 w3 lo hi : Int} {st ep hl hh mv ac pt tk et lm pE pA : Nat → Int} {B : Int} {S : (Nat → Int) → Prop} (I : Pin has V E H T oG oT w0 w1 w2 w3 lo hi st ep hl hh mv ac pt tk et lm pE pA B S) (h : Nat) (m : (Nat → Int)) (hS : S m) (hk : (m 0) = 9) (hto : (h : Int) = (m 1)) (hst : st h = 3) (hep : ep h + 1 = (m 3)) (hV : (m 3) = V) (hT : T < 0) : Q_k8 has V E H T oG oT w0 w1 w2 w3 lo hi (pfu st h 0) ep hl hh mv ac pt tk et lm pE pA (B + 2) S := by
  have i_k8 := Pin_k8 I
  clear I
  simp only [Q_k8, pokM, pown, prcv, pgiv, ppge, pfu] at *
  grind
set_option maxHeartbeats 400000 in
theorem pt_go_l4 {has : Prop} {V E H T oG oT w0 w1 w2 w3 lo hi : Int} {st ep hl hh mv ac pt tk et lm pE pA : Nat → Int} {B : Int} {S : (Nat → Int) → Prop} (I : Pin has V E H T oG oT w0 w1 w2 w3 lo hi st ep hl hh mv ac pt tk et lm pE pA B S) (h : Nat) (m : (Nat → Int)) (hS : S m) (hk : (m 0) = 9) (hto : (h : Int) = (m 1)) (hst : st h = 3) (hep : ep h + 1 = (m 3)) (hV : (m 3) = V) (hT : T < 0) : Q_l4 has V E H T oG oT w0 w1 w2 w3 lo hi (pfu st h 0) ep hl hh mv ac pt tk et lm pE pA (B + 2) S := by
  have i_l4 := Pin_l4 I
  clear I
  simp only [Q_l4, pokM, pown, prcv, pgiv, ppge, pfu] at *
  grind
set_option maxHeartbeats 400000 in
theorem pt_go_l5 {has : Prop} {V E H T oG oT w0 w1 w2 w3 lo hi : Int} {st ep hl hh mv ac pt tk et lm pE pA : Nat → Int} {B : Int} {S : (Nat → Int) → Prop} (I : Pin has V E H T oG oT w0 w1 w2 w3 lo hi st ep hl hh mv ac pt tk et lm pE pA B S) (h : Nat) (m : (Nat → Int)) (hS : S m) (hk : (m 0) = 9) (hto : (h : Int) = (m 1)) (hst : st h = 3) (hep : ep h + 1 = (m 3)) (hV : (m 3) = V) (hT : T < 0) : Q_l5 has V E H T oG oT w0 w1 w2 w3 lo hi (pfu st h 0) ep hl hh mv ac pt tk et lm pE pA (B + 2) S := by
  have i_l5 := Pin_l5 I
  clear I
  simp only [Q_l5, pokM, pown, prcv, pgiv, ppge, pfu] at *
  grind
set_option maxHeartbeats 400000 in
theorem pt_go_l3 {has : Prop} {V E H T oG oT w0 w1 w2 w3 lo hi : Int} {st ep hl hh mv ac pt tk et lm pE pA : Nat → Int} {B : Int} {S : (Nat → Int) → Prop} (I : Pin has V E H T oG oT w0 w1 w2 w3 lo hi st ep hl hh mv ac pt tk et lm pE pA B S) (h : Nat) (m : (Nat → Int)) (hS : S m) (hk : (m 0) = 9) (hto : (h : Int) = (m 1)) (hst : st h = 3) (hep : ep h + 1 = (m 3)) (hV : (m 3) = V) (hT : T < 0) : Q_l3 has V E H T oG oT w0 w1 w2 w3 lo hi (pfu st h 0) ep hl hh mv ac pt tk et lm pE pA (B + 2) S := by
  have i_l3 := Pin_l3 I
  clear I
  simp only [Q_l3, pokM, pown, prcv, pgiv, ppge, pfu] at *
  grind
set_option maxHeartbeats 400000 in
theorem pt_go_m1 {has : Prop} {V E H T oG oT w0 w1 w2 w3 lo hi : Int} {st ep hl hh mv ac pt tk et lm pE pA : Nat → Int} {B : Int} {S : (Nat → Int) → Prop} (I : Pin has V E H T oG oT w0 w1 w2 w3 lo hi st ep hl hh mv ac pt tk et lm pE pA B S) (h : Nat) (m : (Nat → Int)) (hS : S m) (hk : (m 0) = 9) (hto : (h : Int) = (m 1)) (hst : st h = 3) (hep : ep h + 1 = (m 3)) (hV : (m 3) = V) (hT : T < 0) : Q_m1 has V E H T oG oT w0 w1 w2 w3 lo hi (pfu st h 0) ep hl hh mv ac pt tk et lm pE pA (B + 2) S := by
  have i_m1 := Pin_m1 I
  clear I
  simp only [Q_m1, pokM, pown, prcv, pgiv, ppge, pfu] at *
  grind
set_option maxHeartbeats 400000 in
theorem pt_go_m2 {has : Prop} {V E H T oG oT w0 w1 w2 w3 lo hi : Int} {st ep hl hh mv ac pt tk et lm pE pA : Nat → Int} {B : Int} {S : (Nat → Int) → Prop} (I : Pin has V E H T oG oT w0 w1 w2 w3 lo hi st ep hl hh mv ac pt tk et lm pE pA B S) (h : Nat) (m : (Nat → Int)) (hS : S m) (hk : (m 0) = 9) (hto : (h : Int) = (m 1)) (hst : st h = 3) (hep : ep h + 1 = (m 3)) (hV : (m 3) = V) (hT : T < 0) : Q_m2 has V E H T oG oT w0 w1 w2 w3 lo hi (pfu st h 0) ep hl hh mv ac pt tk et lm pE pA (B + 2) S := by
  have i_m2 := Pin_m2 I
  clear I
  simp only [Q_m2, pokM, pown, prcv, pgiv, ppge, pfu] at *
  grind
set_option maxHeartbeats 400000 in
theorem pt_go_m3 {has : Prop} {V E H T oG oT w0 w1 w2 w3 lo hi : Int} {st ep hl hh mv ac pt tk et lm pE pA : Nat → Int} {B : Int} {S : (Nat → Int) → Prop} (I : Pin has V E H T oG oT w0 w1 w2 w3 lo hi st ep hl hh mv ac pt tk et lm pE pA B S) (h : Nat) (m : (Nat → Int)) (hS : S m) (hk : (m 0) = 9) (hto : (h : Int) = (m 1)) (hst : st h = 3) (hep : ep h + 1 = (m 3)) (hV : (m 3) = V) (hT : T < 0) : Q_m3 has V E H T oG oT w0 w1 w2 w3 lo hi (pfu st h 0) ep hl hh mv ac pt tk et lm pE pA (B + 2) S := by
  have i_m3 := Pin_m3 I
  clear I
  simp only [Q_m3, pokM, pown, prcv, pgiv, ppge, pfu] at *
  grind
set_option maxHeartbeats 400000 in
theorem pt_go_n0 {has : Prop} {V E H T oG oT w0 w1 w2 w3 lo hi : Int} {st ep hl hh mv ac pt tk et lm pE pA : Nat → Int} {B : Int} {S : (Nat → Int) → Prop} (I : Pin has V E H T oG oT w0 w1 w2 w3 lo hi st ep hl hh mv ac pt tk et lm pE pA B S) (h : Nat) (m : (Nat → Int)) (hS : S m) (hk : (m 0) = 9) (hto : (h : Int) = (m 1)) (hst : st h = 3) (hep : ep h + 1 = (m 3)) (hV : (m 3) = V) (hT : T < 0) : Q_n0 has V E H T oG oT w0 w1 w2 w3 lo hi (pfu st h 0) ep hl hh mv ac pt tk et lm pE pA (B + 2) S := by
  have i_n0 := Pin_n0 I
  clear I
  simp only [Q_n0, pokM, pown, prcv, pgiv, ppge, pfu] at *
  grind
set_option maxHeartbeats 400000 in
theorem pt_go_n1 {has : Prop} {V E H T oG oT w0 w1 w2 w3 lo hi : Int} {st ep hl hh mv ac pt tk et lm pE pA : Nat → Int} {B : Int} {S : (Nat → Int) → Prop} (I : Pin has V E H T oG oT w0 w1 w2 w3 lo hi st ep hl hh mv ac pt tk et lm pE pA B S) (h : Nat) (m : (Nat → Int)) (hS : S m) (hk : (m 0) = 9) (hto : (h : Int) = (m 1)) (hst : st h = 3) (hep : ep h + 1 = (m 3)) (hV : (m 3) = V) (hT : T < 0) : Q_n1 has V E H T oG oT w0 w1 w2 w3 lo hi (pfu st h 0) ep hl hh mv ac pt tk et lm pE pA (B + 2) S := by
  have i_n1 := Pin_n1 I
  clear I
  simp only [Q_n1, pokM, pown, prcv, pgiv, ppge, pfu] at *
  grind
set_option maxHeartbeats 400000 in
theorem pt_go_n2 {has : Prop} {V E H T oG oT w0 w1 w2 w3 lo hi : Int} {st ep hl hh mv ac pt tk et lm pE pA : Nat → Int} {B : Int} {S : (Nat → Int) → Prop} (I : Pin has V E H T oG oT w0 w1 w2 w3 lo hi st ep hl hh mv ac pt tk et lm pE pA B S) (h : Nat) (m : (Nat → Int)) (hS : S m) (hk : (m 0) = 9) (hto : (h : Int) = (m 1)) (hst : st h = 3) (hep : ep h + 1 = (m 3)) (hV : (m 3) = V) (hT : T < 0) : Q_n2 has V E H T oG oT w0 w1 w2 w3 lo hi (pfu st h 0) ep hl hh mv ac pt tk et lm pE pA (B + 2) S := by
  have i_n2 := Pin_n2 I
  clear I
  simp only [Q_n2, pokM, pown, prcv, pgiv, ppge, pfu] at *
  grind
set_option maxHeartbeats 400000 in
theorem pt_go_n3 {has : Prop} {V E H T oG oT w0 w1 w2 w3 lo hi : Int} {st ep hl hh mv ac pt tk et lm pE pA : Nat → Int} {B : Int} {S : (Nat → Int) → Prop} (I : Pin has V E H T oG oT w0 w1 w2 w3 lo hi st ep hl hh mv ac pt tk et lm pE pA B S) (h : Nat) (m : (Nat → Int)) (hS : S m) (hk : (m 0) = 9) (hto : (h : Int) = (m 1)) (hst : st h = 3) (hep : ep h + 1 = (m 3)) (hV : (m 3) = V) (hT : T < 0) : Q_n3 has V E H T oG oT w0 w1 w2 w3 lo hi (pfu st h 0) ep hl hh mv ac pt tk et lm pE pA (B + 2) S := by
  have i_n3 := Pin_n3 I
  clear I
  simp only [Q_n3, pokM, pown, prcv, pgiv, ppge, pfu] at *
  grind
set_option maxHeartbeats 400000 in
theorem pt_go_n4 {has : Prop} {V E H T oG oT w0 w1 w2 w3 lo hi : Int} {st ep hl hh mv ac pt tk et lm pE pA : Nat → Int} {B : Int} {S : (Nat → Int) → Prop} (I : Pin has V E H T oG oT w0 w1 w2 w3 lo hi st ep hl hh mv ac pt tk et lm pE pA B S) (h : Nat) (m : (Nat → Int)) (hS : S m) (hk : (m 0) = 9) (hto : (h : Int) = (m 1)) (hst : st h = 3) (hep : ep h + 1 = (m 3)) (hV : (m 3) = V) (hT : T < 0) : Q_n4 has V E H T oG oT w0 w1 w2 w3 lo hi (pfu st h 0) ep hl hh mv ac pt tk et lm pE pA (B + 2) S := by
  have i_n4 := Pin_n4 I
  clear I
  simp only [Q_n4, pokM, pown, prcv, pgiv, ppge, pfu] at *
  grind
set_option maxHeartbeats 400000 in
theorem pt_go_n5 {has : Prop} {V E H T oG oT w0 w1 w2 w3 lo hi : Int} {st ep hl hh mv ac pt tk et lm pE pA : Nat → Int} {B : Int} {S : (Nat → Int) → Prop} (I : Pin has V E H T oG oT w0 w1 w2 w3 lo hi st ep hl hh mv ac pt tk et lm pE pA B S) (h : Nat) (m : (Nat → Int)) (hS : S m) (hk : (m 0) = 9) (hto : (h : Int) = (m 1)) (hst : st h = 3) (hep : ep h + 1 = (m 3)) (hV : (m 3) = V) (hT : T < 0) : Q_n5 has V E H T oG oT w0 w1 w2 w3 lo hi (pfu st h 0) ep hl hh mv ac pt tk et lm pE pA (B + 2) S := by
  have i_n5 := Pin_n5 I
  clear I
  simp only [Q_n5, pokM, pown, prcv, pgiv, ppge, pfu] at *
  grind
set_option maxHeartbeats 400000 in
theorem pt_go_n6 {has : Prop} {V E H T oG oT w0 w1 w2 w3 lo hi : Int} {st ep hl hh mv ac pt tk et lm pE pA : Nat → Int} {B : Int} {S : (Nat → Int) → Prop} (I : Pin has V E H T oG oT w0 w1 w2 w3 lo hi st ep hl hh mv ac pt tk et lm pE pA B S) (h : Nat) (m : (Nat → Int)) (hS : S m) (hk : (m 0) = 9) (hto : (h : Int) = (m 1)) (hst : st h = 3) (hep : ep h + 1 = (m 3)) (hV : (m 3) = V) (hT : T < 0) : Q_n6 has V E H T oG oT w0 w1 w2 w3 lo hi (pfu st h 0) ep hl hh mv ac pt tk et lm pE pA (B + 2) S := by
  have i_n6 := Pin_n6 I
  clear I
  simp only [Q_n6, pokM, pown, prcv, pgiv, ppge, pfu] at *
  grind
set_option maxHeartbeats 400000 in
theorem pt_go_n7 {has : Prop} {V E H T oG oT w0 w1 w2 w3 lo hi : Int} {st ep hl hh mv ac pt tk et lm pE pA : Nat → Int} {B : Int} {S : (Nat → Int) → Prop} (I : Pin has V E H T oG oT w0 w1 w2 w3 lo hi st ep hl hh mv ac pt tk et lm pE pA B S) (h : Nat) (m : (Nat → Int)) (hS : S m) (hk : (m 0) = 9) (hto : (h : Int) = (m 1)) (hst : st h = 3) (hep : ep h + 1 = (m 3)) (hV : (m 3) = V) (hT : T < 0) : Q_n7 has V E H T oG oT w0 w1 w2 w3 lo hi (pfu st h 0) ep hl hh mv ac pt tk et lm pE pA (B + 2) S := by
  have i_n7 := Pin_n7 I
  clear I
  simp only [Q_n7, pokM, pown, prcv, pgiv, ppge, pfu] at *
  grind
set_option maxHeartbeats 400000 in
theorem pt_go_o {has : Prop} {V E H T oG oT w0 w1 w2 w3 lo hi : Int} {st ep hl hh mv ac pt tk et lm pE pA : Nat → Int} {B : Int} {S : (Nat → Int) → Prop} (I : Pin has V E H T oG oT w0 w1 w2 w3 lo hi st ep hl hh mv ac pt tk et lm pE pA B S) (h : Nat) (m : (Nat → Int)) (hS : S m) (hk : (m 0) = 9) (hto : (h : Int) = (m 1)) (hst : st h = 3) (hep : ep h + 1 = (m 3)) (hV : (m 3) = V) (hT : T < 0) : Q_o has V E H T oG oT w0 w1 w2 w3 lo hi (pfu st h 0) ep hl hh mv ac pt tk et lm pE pA (B + 2) S := by
  have i_o := Pin_o I
  clear I
  simp only [Q_o, pokM, pown, prcv, pgiv, ppge, pfu] at *
  grind
set_option maxHeartbeats 400000 in
theorem pt_go_p {has : Prop} {V E H T oG oT w0 w1 w2 w3 lo hi : Int} {st ep hl hh mv ac pt tk et lm pE pA : Nat → Int} {B : Int} {S : (Nat → Int) → Prop} (I : Pin has V E H T oG oT w0 w1 w2 w3 lo hi st ep hl hh mv ac pt tk et lm pE pA B S) (h : Nat) (m : (Nat → Int)) (hS : S m) (hk : (m 0) = 9) (hto : (h : Int) = (m 1)) (hst : st h = 3) (hep : ep h + 1 = (m 3)) (hV : (m 3) = V) (hT : T < 0) : Q_p has V E H T oG oT w0 w1 w2 w3 lo hi (pfu st h 0) ep hl hh mv ac pt tk et lm pE pA (B + 2) S := by
  have i_p := Pin_p I
  clear I
  simp only [Q_p, pokM, pown, prcv, pgiv, ppge, pfu] at *
  grind
set_option maxHeartbeats 400000 in
theorem pt_go_q {has : Prop} {V E H T oG oT w0 w1 w2 w3 lo hi : Int} {st ep hl hh mv ac pt tk et lm pE pA : Nat → Int} {B : Int} {S : (Nat → Int) → Prop} (I : Pin has V E H T oG oT w0 w1 w2 w3 lo hi st ep hl hh mv ac pt tk et lm pE pA B S) (h : Nat) (m : (Nat → Int)) (hS : S m) (hk : (m 0) = 9) (hto : (h : Int) = (m 1)) (hst : st h = 3) (hep : ep h + 1 = (m 3)) (hV : (m 3) = V) (hT : T < 0) : Q_q has V E H T oG oT w0 w1 w2 w3 lo hi (pfu st h 0) ep hl hh mv ac pt tk et lm pE pA (B + 2) S := by
  have i_q := Pin_q I
  clear I
  simp only [Q_q, pokM, pown, prcv, pgiv, ppge, pfu] at *
  grind
set_option maxHeartbeats 400000 in
theorem pt_go_q2 {has : Prop} {V E H T oG oT w0 w1 w2 w3 lo hi : Int} {st ep hl hh mv ac pt tk et lm pE pA : Nat → Int} {B : Int} {S : (Nat → Int) → Prop} (I : Pin has V E H T oG oT w0 w1 w2 w3 lo hi st ep hl hh mv ac pt tk et lm pE pA B S) (h : Nat) (m : (Nat → Int)) (hS : S m) (hk : (m 0) = 9) (hto : (h : Int) = (m 1)) (hst : st h = 3) (hep : ep h + 1 = (m 3)) (hV : (m 3) = V) (hT : T < 0) : Q_q2 has V E H T oG oT w0 w1 w2 w3 lo hi (pfu st h 0) ep hl hh mv ac pt tk et lm pE pA (B + 2) S := by
  have i_q2 := Pin_q2 I
  clear I
  simp only [Q_q2, pokM, pown, prcv, pgiv, ppge, pfu] at *
  grind
set_option maxHeartbeats 400000 in
theorem pt_go_q3 {has : Prop} {V E H T oG oT w0 w1 w2 w3 lo hi : Int} {st ep hl hh mv ac pt tk et lm pE pA : Nat → Int} {B : Int} {S : (Nat → Int) → Prop} (I : Pin has V E H T oG oT w0 w1 w2 w3 lo hi st ep hl hh mv ac pt tk et lm pE pA B S) (h : Nat) (m : (Nat → Int)) (hS : S m) (hk : (m 0) = 9) (hto : (h : Int) = (m 1)) (hst : st h = 3) (hep : ep h + 1 = (m 3)) (hV : (m 3) = V) (hT : T < 0) : Q_q3 has V E H T oG oT w0 w1 w2 w3 lo hi (pfu st h 0) ep hl hh mv ac pt tk et lm pE pA (B + 2) S := by
  have i_q3 := Pin_q3 I
  clear I
  simp only [Q_q3, pokM, pown, prcv, pgiv, ppge, pfu] at *
  grind
set_option maxHeartbeats 400000 in
theorem pt_go_w {has : Prop} {V E H T oG oT w0 w1 w2 w3 lo hi : Int} {st ep hl hh mv ac pt tk et lm pE pA : Nat → Int} {B : Int} {S : (Nat → Int) → Prop} (I : Pin has V E H T oG oT w0 w1 w2 w3 lo hi st ep hl hh mv ac pt tk et lm pE pA B S) (h : Nat) (m : (Nat → Int)) (hS : S m) (hk : (m 0) = 9) (hto : (h : Int) = (m 1)) (hst : st h = 3) (hep : ep h + 1 = (m 3)) (hV : (m 3) = V) (hT : T < 0) : Q_w has V E H T oG oT w0 w1 w2 w3 lo hi (pfu st h 0) ep hl hh mv ac pt tk et lm pE pA (B + 2) S := by
  have i_w := Pin_w I
  clear I
  simp only [Q_w, pokM, pown, prcv, pgiv, ppge, pfu] at *
  grind
theorem pt_go {has : Prop} {V E H T oG oT w0 w1 w2 w3 lo hi : Int} {st ep hl hh mv ac pt tk et lm pE pA : Nat → Int} {B : Int} {S : (Nat → Int) → Prop} (I : Pin has V E H T oG oT w0 w1 w2 w3 lo hi st ep hl hh mv ac pt tk et lm pE pA B S) (h : Nat) (m : (Nat → Int)) (hS : S m) (hk : (m 0) = 9) (hto : (h : Int) = (m 1)) (hst : st h = 3) (hep : ep h + 1 = (m 3)) : Pin has V E H T oG oT w0 w1 w2 w3 lo hi (pfu st h 0) ep hl hh mv ac pt tk et lm pE pA (B + 2) S := by
  have hV := pt_go_hV_d I h m hS hk hto hst hep 
  have hT := pt_go_hT_d I h m hS hk hto hst hep hV
  exact ⟨pt_go_v0 I h m hS hk hto hst hep hV hT, pt_go_a I h m hS hk hto hst hep hV hT, pt_go_b I h m hS hk hto hst hep hV hT, pt_go_c I h m hS hk hto hst hep hV hT, pt_go_d I h m hS hk hto hst hep hV hT, pt_go_e I h m hS hk hto hst hep hV hT, pt_go_f I h m hS hk hto hst hep hV hT, pt_go_f2 I h m hS hk hto hst hep hV hT, pt_go_f3 I h m hS hk hto hst hep hV hT, pt_go_g I h m hS hk hto hst hep hV hT, pt_go_g0 I h m hS hk hto hst hep hV hT, pt_go_g1 I h m hS hk hto hst hep hV hT, pt_go_g2 I h m hS hk hto hst hep hV hT, pt_go_h7 I h m hS hk hto hst hep hV hT, pt_go_h9 I h m hS hk hto hst hep hV hT, pt_go_h10 I h m hS hk hto hst hep hV hT, pt_go_h11 I h m hS hk hto hst hep hV hT, pt_go_h12 I h m hS hk hto hst hep hV hT, pt_go_k1 I h m hS hk hto hst hep hV hT, pt_go_k2 I h m hS hk hto hst hep hV hT, pt_go_k8 I h m hS hk hto hst hep hV hT, pt_go_l4 I h m hS hk hto hst hep hV hT, pt_go_l5 I h m hS hk hto hst hep hV hT, pt_go_l3 I h m hS hk hto hst hep hV hT, pt_go_m1 I h m hS hk hto hst hep hV hT, pt_go_m2 I h m hS hk hto hst hep hV hT, pt_go_m3 I h m hS hk hto hst hep hV hT, pt_go_n0 I h m hS hk hto hst hep hV hT, pt_go_n1 I h m hS hk hto hst hep hV hT, pt_go_n2 I h m hS hk hto hst hep hV hT, pt_go_n3 I h m hS hk hto hst hep hV hT, pt_go_n4 I h m hS hk hto hst hep hV hT, pt_go_n5 I h m hS hk hto hst hep hV hT, pt_go_n6 I h m hS hk hto hst hep hV hT, pt_go_n7 I h m hS hk hto hst hep hV hT, pt_go_o I h m hS hk hto hst hep hV hT, pt_go_p I h m hS hk hto hst hep hV hT, pt_go_q I h m hS hk hto hst hep hV hT, pt_go_q2 I h m hS hk hto hst hep hV hT, pt_go_q3 I h m hS hk hto hst hep hV hT, pt_go_w I h m hS hk hto hst hep hV hT⟩
set_option maxHeartbeats 400000 in
theorem pt_undoL_hV_d {has : Prop} {V E H T oG oT w0 w1 w2 w3 lo hi : Int} {st ep hl hh mv ac pt tk et lm pE pA : Nat → Int} {B : Int} {S : (Nat → Int) → Prop} (I : Pin has V E H T oG oT w0 w1 w2 w3 lo hi st ep hl hh mv ac pt tk et lm pE pA B S) (h : Nat) (m : (Nat → Int)) (hS : S m) (hk : (m 0) = 11) (hto : (h : Int) = (m 1)) (ho : pown st h) (hep : ep h = (m 3) - 1)  : (m 3) = V := by
  have i_b := Pin_b I
  have i_c := Pin_c I
  have i_d := Pin_d I
  have i_f := Pin_f I
  clear I
  try simp only [Q_b, Q_c, Q_d, Q_f, pown, prcv, pgiv, ppge, pfu] at *
  grind
set_option maxHeartbeats 400000 in
theorem pt_undoL_hT_d {has : Prop} {V E H T oG oT w0 w1 w2 w3 lo hi : Int} {st ep hl hh mv ac pt tk et lm pE pA : Nat → Int} {B : Int} {S : (Nat → Int) → Prop} (I : Pin has V E H T oG oT w0 w1 w2 w3 lo hi st ep hl hh mv ac pt tk et lm pE pA B S) (h : Nat) (m : (Nat → Int)) (hS : S m) (hk : (m 0) = 11) (hto : (h : Int) = (m 1)) (ho : pown st h) (hep : ep h = (m 3) - 1) (hV : (m 3) = V) : T < 0 ∧ (m 1) = H := by
  have i_h11 := Pin_h11 I
  clear I
  try simp only [Q_h11, pown, prcv, pgiv, ppge, pfu] at *
  grind
set_option maxHeartbeats 400000 in
theorem pt_undoL_hE_d {has : Prop} {V E H T oG oT w0 w1 w2 w3 lo hi : Int} {st ep hl hh mv ac pt tk et lm pE pA : Nat → Int} {B : Int} {S : (Nat → Int) → Prop} (I : Pin has V E H T oG oT w0 w1 w2 w3 lo hi st ep hl hh mv ac pt tk et lm pE pA B S) (h : Nat) (m : (Nat → Int)) (hS : S m) (hk : (m 0) = 11) (hto : (h : Int) = (m 1)) (ho : pown st h) (hep : ep h = (m 3) - 1) (hV : (m 3) = V) (hT : T < 0 ∧ (m 1) = H) : E = V + 1 ∧ w2 = V := by
  have i_d := Pin_d I
  clear I
  try simp only [Q_d, pown, prcv, pgiv, ppge, pfu] at *
  grind
set_option maxHeartbeats 400000 in
theorem pt_undoL_v0 {has : Prop} {V E H T oG oT w0 w1 w2 w3 lo hi : Int} {st ep hl hh mv ac pt tk et lm pE pA : Nat → Int} {B : Int} {S : (Nat → Int) → Prop} (I : Pin has V E H T oG oT w0 w1 w2 w3 lo hi st ep hl hh mv ac pt tk et lm pE pA B S) (h : Nat) (m : (Nat → Int)) (hS : S m) (hk : (m 0) = 11) (hto : (h : Int) = (m 1)) (ho : pown st h) (hep : ep h = (m 3) - 1) (hV : (m 3) = V) (hT : T < 0 ∧ (m 1) = H) (hE : E = V + 1 ∧ w2 = V) : Q_v0 has V E H T oG oT w0 w1 w2 w3 lo hi (pfu st h 1) (pfu ep h ((m 3) + 1)) hl hh mv ac pt tk et lm pE pA (B + 2) S := by
  have i_v0 := Pin_v0 I
  clear I
  simp only [Q_v0, pokM, pown, prcv, pgiv, ppge, pfu] at *
  grind
set_option maxHeartbeats 400000 in
theorem pt_undoL_a {has : Prop} {V E H T oG oT w0 w1 w2 w3 lo hi : Int} {st ep hl hh mv ac pt tk et lm pE pA : Nat → Int} {B : Int} {S : (Nat → Int) → Prop} (I : Pin has V E H T oG oT w0 w1 w2 w3 lo hi st ep hl hh mv ac pt tk et lm pE pA B S) (h : Nat) (m : (Nat → Int)) (hS : S m) (hk : (m 0) = 11) (hto : (h : Int) = (m 1)) (ho : pown st h) (hep : ep h = (m 3) - 1) (hV : (m 3) = V) (hT : T < 0 ∧ (m 1) = H) (hE : E = V + 1 ∧ w2 = V) : Q_a has V E H T oG oT w0 w1 w2 w3 lo hi (pfu st h 1) (pfu ep h ((m 3) + 1)) hl hh mv ac pt tk et lm pE pA (B + 2) S := by
  have i_a := Pin_a I
  clear I
  simp only [Q_a, pokM, pown, prcv, pgiv, ppge, pfu] at *
  grind
set_option maxHeartbeats 400000 in
theorem pt_undoL_b {has : Prop} {V E H T oG oT w0 w1 w2 w3 lo hi : Int} {st ep hl hh mv ac pt tk et lm pE pA : Nat → Int} {B : Int} {S : (Nat → Int) → Prop} (I : Pin has V E H T oG oT w0 w1 w2 w3 lo hi st ep hl hh mv ac pt tk et lm pE pA B S) (h : Nat) (m : (Nat → Int)) (hS : S m) (hk : (m 0) = 11) (hto : (h : Int) = (m 1)) (ho : pown st h) (hep : ep h = (m 3) - 1) (hV : (m 3) = V) (hT : T < 0 ∧ (m 1) = H) (hE : E = V + 1 ∧ w2 = V) : Q_b has V E H T oG oT w0 w1 w2 w3 lo hi (pfu st h 1) (pfu ep h ((m 3) + 1)) hl hh mv ac pt tk et lm pE pA (B + 2) S := by
  have i_b := Pin_b I
  clear I
  simp only [Q_b, pokM, pown, prcv, pgiv, ppge, pfu] at *
  grind
set_option maxHeartbeats 400000 in
theorem pt_undoL_c {has : Prop} {V E H T oG oT w0 w1 w2 w3 lo hi : Int} {st ep hl hh mv ac pt tk et lm pE pA : Nat → Int} {B : Int} {S : (Nat → Int) → Prop} (I : Pin has V E H T oG oT w0 w1 w2 w3 lo hi st ep hl hh mv ac pt tk et lm pE pA B S) (h : Nat) (m : (Nat → Int)) (hS : S m) (hk : (m 0) = 11) (hto : (h : Int) = (m 1)) (ho : pown st h) (hep : ep h = (m 3) - 1) (hV : (m 3) = V) (hT : T < 0 ∧ (m 1) = H) (hE : E = V + 1 ∧ w2 = V) : Q_c has V E H T oG oT w0 w1 w2 w3 lo hi (pfu st h 1) (pfu ep h ((m 3) + 1)) hl hh mv ac pt tk et lm pE pA (B + 2) S := by
  have i_c := Pin_c I
  clear I
  simp only [Q_c, pokM, pown, prcv, pgiv, ppge, pfu] at *
  grind
set_option maxHeartbeats 400000 in
theorem pt_undoL_d {has : Prop} {V E H T oG oT w0 w1 w2 w3 lo hi : Int} {st ep hl hh mv ac pt tk et lm pE pA : Nat → Int} {B : Int} {S : (Nat → Int) → Prop} (I : Pin has V E H T oG oT w0 w1 w2 w3 lo hi st ep hl hh mv ac pt tk et lm pE pA B S) (h : Nat) (m : (Nat → Int)) (hS : S m) (hk : (m 0) = 11) (hto : (h : Int) = (m 1)) (ho : pown st h) (hep : ep h = (m 3) - 1) (hV : (m 3) = V) (hT : T < 0 ∧ (m 1) = H) (hE : E = V + 1 ∧ w2 = V) : Q_d has V E H T oG oT w0 w1 w2 w3 lo hi (pfu st h 1) (pfu ep h ((m 3) + 1)) hl hh mv ac pt tk et lm pE pA (B + 2) S := by
  have i_d := Pin_d I
  clear I
  simp only [Q_d, pokM, pown, prcv, pgiv, ppge, pfu] at *
  grind
set_option maxHeartbeats 400000 in
theorem pt_undoL_e {has : Prop} {V E H T oG oT w0 w1 w2 w3 lo hi : Int} {st ep hl hh mv ac pt tk et lm pE pA : Nat → Int} {B : Int} {S : (Nat → Int) → Prop} (I : Pin has V E H T oG oT w0 w1 w2 w3 lo hi st ep hl hh mv ac pt tk et lm pE pA B S) (h : Nat) (m : (Nat → Int)) (hS : S m) (hk : (m 0) = 11) (hto : (h : Int) = (m 1)) (ho : pown st h) (hep : ep h = (m 3) - 1) (hV : (m 3) = V) (hT : T < 0 ∧ (m 1) = H) (hE : E = V + 1 ∧ w2 = V) : Q_e has V E H T oG oT w0 w1 w2 w3 lo hi (pfu st h 1) (pfu ep h ((m 3) + 1)) hl hh mv ac pt tk et lm pE pA (B + 2) S := by
  have i_e := Pin_e I
  clear I
  simp only [Q_e, pokM, pown, prcv, pgiv, ppge, pfu] at *
  grind
set_option maxHeartbeats 400000 in
theorem pt_undoL_f {has : Prop} {V E H T oG oT w0 w1 w2 w3 lo hi : Int} {st ep hl hh mv ac pt tk et lm pE pA : Nat → Int} {B : Int} {S : (Nat → Int) → Prop} (I : Pin has V E H T oG oT w0 w1 w2 w3 lo hi st ep hl hh mv ac pt tk et lm pE pA B S) (h : Nat) (m : (Nat → Int)) (hS : S m) (hk : (m 0) = 11) (hto : (h : Int) = (m 1)) (ho : pown st h) (hep : ep h = (m 3) - 1) (hV : (m 3) = V) (hT : T < 0 ∧ (m 1) = H) (hE : E = V + 1 ∧ w2 = V) : Q_f has V E H T oG oT w0 w1 w2 w3 lo hi (pfu st h 1) (pfu ep h ((m 3) + 1)) hl hh mv ac pt tk et lm pE pA (B + 2) S := by
  have i_f := Pin_f I
  clear I
  simp only [Q_f, pokM, pown, prcv, pgiv, ppge, pfu] at *
  grind
set_option maxHeartbeats 400000 in
theorem pt_undoL_f2 {has : Prop} {V E H T oG oT w0 w1 w2 w3 lo hi : Int} {st ep hl hh mv ac pt tk et lm pE pA : Nat → Int} {B : Int} {S : (Nat → Int) → Prop} (I : Pin has V E H T oG oT w0 w1 w2 w3 lo hi st ep hl hh mv ac pt tk et lm pE pA B S) (h : Nat) (m : (Nat → Int)) (hS : S m) (hk : (m 0) = 11) (hto : (h : Int) = (m 1)) (ho : pown st h) (hep : ep h = (m 3) - 1) (hV : (m 3) = V) (hT : T < 0 ∧ (m 1) = H) (hE : E = V + 1 ∧ w2 = V) : Q_f2 has V E H T oG oT w0 w1 w2 w3 lo hi (pfu st h 1) (pfu ep h ((m 3) + 1)) hl hh mv ac pt tk et lm pE pA (B + 2) S := by
  have i_f2 := Pin_f2 I
  clear I
  simp only [Q_f2, pokM, pown, prcv, pgiv, ppge, pfu] at *
  grind
set_option maxHeartbeats 400000 in
theorem pt_undoL_f3 {has : Prop} {V E H T oG oT w0 w1 w2 w3 lo hi : Int} {st ep hl hh mv ac pt tk et lm pE pA : Nat → Int} {B : Int} {S : (Nat → Int) → Prop} (I : Pin has V E H T oG oT w0 w1 w2 w3 lo hi st ep hl hh mv ac pt tk et lm pE pA B S) (h : Nat) (m : (Nat → Int)) (hS : S m) (hk : (m 0) = 11) (hto : (h : Int) = (m 1)) (ho : pown st h) (hep : ep h = (m 3) - 1) (hV : (m 3) = V) (hT : T < 0 ∧ (m 1) = H) (hE : E = V + 1 ∧ w2 = V) : Q_f3 has V E H T oG oT w0 w1 w2 w3 lo hi (pfu st h 1) (pfu ep h ((m 3) + 1)) hl hh mv ac pt tk et lm pE pA (B + 2) S := by
  have i_f3 := Pin_f3 I
  clear I
  simp only [Q_f3, pokM, pown, prcv, pgiv, ppge, pfu] at *
  grind
set_option maxHeartbeats 400000 in
theorem pt_undoL_g {has : Prop} {V E H T oG oT w0 w1 w2 w3 lo hi : Int} {st ep hl hh mv ac pt tk et lm pE pA : Nat → Int} {B : Int} {S : (Nat → Int) → Prop} (I : Pin has V E H T oG oT w0 w1 w2 w3 lo hi st ep hl hh mv ac pt tk et lm pE pA B S) (h : Nat) (m : (Nat → Int)) (hS : S m) (hk : (m 0) = 11) (hto : (h : Int) = (m 1)) (ho : pown st h) (hep : ep h = (m 3) - 1) (hV : (m 3) = V) (hT : T < 0 ∧ (m 1) = H) (hE : E = V + 1 ∧ w2 = V) : Q_g has V E H T oG oT w0 w1 w2 w3 lo hi (pfu st h 1) (pfu ep h ((m 3) + 1)) hl hh mv ac pt tk et lm pE pA (B + 2) S := by
  have i_g := Pin_g I
  clear I
  simp only [Q_g, pokM, pown, prcv, pgiv, ppge, pfu] at *
  grind
set_option maxHeartbeats 400000 in
theorem pt_undoL_g0 {has : Prop} {V E H T oG oT w0 w1 w2 w3 lo hi : Int} {st ep hl hh mv ac pt tk et lm pE pA : Nat → Int} {B : Int} {S : (Nat → Int) → Prop} (I : Pin has V E H T oG oT w0 w1 w2 w3 lo hi st ep hl hh mv ac pt tk et lm pE pA B S) (h : Nat) (m : (Nat → Int)) (hS : S m) (hk : (m 0) = 11) (hto : (h : Int) = (m 1)) (ho : pown st h) (hep : ep h = (m 3) - 1) (hV : (m 3) = V) (hT : T < 0 ∧ (m 1) = H) (hE : E = V + 1 ∧ w2 = V) : Q_g0 has V E H T oG oT w0 w1 w2 w3 lo hi (pfu st h 1) (pfu ep h ((m 3) + 1)) hl hh mv ac pt tk et lm pE pA (B + 2) S := by
  have i_g0 := Pin_g0 I
  clear I
  simp only [Q_g0, pokM, pown, prcv, pgiv, ppge, pfu] at *
  grind
set_option maxHeartbeats 400000 in
theorem pt_undoL_g1 {has : Prop} {V E H T oG oT w0 w1 w2 w3 lo hi : Int} {st ep hl hh mv ac pt tk et lm pE pA : Nat → Int} {B : Int} {S : (Nat → Int) → Prop} (I : Pin has V E H T oG oT w0 w1 w2 w3 lo hi st ep hl hh mv ac pt tk et lm pE pA B S) (h : Nat) (m : (Nat → Int)) (hS : S m) (hk : (m 0) = 11) (hto : (h : Int) = (m 1)) (ho : pown st h) (hep : ep h = (m 3) - 1) (hV : (m 3) = V) (hT : T < 0 ∧ (m 1) = H) (hE : E = V + 1 ∧ w2 = V) : Q_g1 has V E H T oG oT w0 w1 w2 w3 lo hi (pfu st h 1) (pfu ep h ((m 3) + 1)) hl hh mv ac pt tk et lm pE pA (B + 2) S := by
  have i_g1 := Pin_g1 I
  clear I
  simp only [Q_g1, pokM, pown, prcv, pgiv, ppge, pfu] at *
  grind
set_option maxHeartbeats 400000 in
theorem pt_undoL_g2 {has : Prop} {V E H T oG oT w0 w1 w2 w3 lo hi : Int} {st ep hl hh mv ac pt tk et lm pE pA : Nat → Int} {B : Int} {S : (Nat → Int) → Prop} (I : Pin has V E H T oG oT w0 w1 w2 w3 lo hi st ep hl hh mv ac pt tk et lm pE pA B S) (h : Nat) (m : (Nat → Int)) (hS : S m) (hk : (m 0) = 11) (hto : (h : Int) = (m 1)) (ho : pown st h) (hep : ep h = (m 3) - 1) (hV : (m 3) = V) (hT : T < 0 ∧ (m 1) = H) (hE : E = V + 1 ∧ w2 = V) : Q_g2 has V E H T oG oT w0 w1 w2 w3 lo hi (pfu st h 1) (pfu ep h ((m 3) + 1)) hl hh mv ac pt tk et lm pE pA (B + 2) S := by
  have i_g2 := Pin_g2 I
  clear I
  simp only [Q_g2, pokM, pown, prcv, pgiv, ppge, pfu] at *
  grind
set_option maxHeartbeats 400000 in
theorem pt_undoL_h7 {has : Prop} {V E H T oG oT w0 w1 w2 w3 lo hi : Int} {st ep hl hh mv ac pt tk et lm pE pA : Nat → Int} {B : Int} {S : (Nat → Int) → Prop} (I : Pin has V E H T oG oT w0 w1 w2 w3 lo hi st ep hl hh mv ac pt tk et lm pE pA B S) (h : Nat) (m : (Nat → Int)) (hS : S m) (hk : (m 0) = 11) (hto : (h : Int) = (m 1)) (ho : pown st h) (hep : ep h = (m 3) - 1) (hV : (m 3) = V) (hT : T < 0 ∧ (m 1) = H) (hE : E = V + 1 ∧ w2 = V) : Q_h7 has V E H T oG oT w0 w1 w2 w3 lo hi (pfu st h 1) (pfu ep h ((m 3) + 1)) hl hh mv ac pt tk et lm pE pA (B + 2) S := by
  have i_h7 := Pin_h7 I
  clear I
  simp only [Q_h7, pokM, pown, prcv, pgiv, ppge, pfu] at *
  grind
set_option maxHeartbeats 400000 in
theorem pt_undoL_h9 {has : Prop} {V E H T oG oT w0 w1 w2 w3 lo hi : Int} {st ep hl hh mv ac pt tk et lm pE pA : Nat → Int} {B : Int} {S : (Nat → Int) → Prop} (I : Pin has V E H T oG oT w0 w1 w2 w3 lo hi st ep hl hh mv ac pt tk et lm pE pA B S) (h : Nat) (m : (Nat → Int)) (hS : S m) (hk : (m 0) = 11) (hto : (h : Int) = (m 1)) (ho : pown st h) (hep : ep h = (m 3) - 1) (hV : (m 3) = V) (hT : T < 0 ∧ (m 1) = H) (hE : E = V + 1 ∧ w2 = V) : Q_h9 has V E H T oG oT w0 w1 w2 w3 lo hi (pfu st h 1) (pfu ep h ((m 3) + 1)) hl hh mv ac pt tk et lm pE pA (B + 2) S := by
  have i_h9 := Pin_h9 I
  clear I
  simp only [Q_h9, pokM, pown, prcv, pgiv, ppge, pfu] at *
  grind
set_option maxHeartbeats 400000 in
theorem pt_undoL_h10 {has : Prop} {V E H T oG oT w0 w1 w2 w3 lo hi : Int} {st ep hl hh mv ac pt tk et lm pE pA : Nat → Int} {B : Int} {S : (Nat → Int) → Prop} (I : Pin has V E H T oG oT w0 w1 w2 w3 lo hi st ep hl hh mv ac pt tk et lm pE pA B S) (h : Nat) (m : (Nat → Int)) (hS : S m) (hk : (m 0) = 11) (hto : (h : Int) = (m 1)) (ho : pown st h) (hep : ep h = (m 3) - 1) (hV : (m 3) = V) (hT : T < 0 ∧ (m 1) = H) (hE : E = V + 1 ∧ w2 = V) : Q_h10 has V E H T oG oT w0 w1 w2 w3 lo hi (pfu st h 1) (pfu ep h ((m 3) + 1)) hl hh mv ac pt tk et lm pE pA (B + 2) S := by
  have i_h10 := Pin_h10 I
  clear I
  simp only [Q_h10, pokM, pown, prcv, pgiv, ppge, pfu] at *
  grind
set_option maxHeartbeats 400000 in
theorem pt_undoL_h11 {has : Prop} {V E H T oG oT w0 w1 w2 w3 lo hi : Int} {st ep hl hh mv ac pt tk et lm pE pA : Nat → Int} {B : Int} {S : (Nat → Int) → Prop} (I : Pin has V E H T oG oT w0 w1 w2 w3 lo hi st ep hl hh mv ac pt tk et lm pE pA B S) (h : Nat) (m : (Nat → Int)) (hS : S m) (hk : (m 0) = 11) (hto : (h : Int) = (m 1)) (ho : pown st h) (hep : ep h = (m 3) - 1) (hV : (m 3) = V) (hT : T < 0 ∧ (m 1) = H) (hE : E = V + 1 ∧ w2 = V) : Q_h11 has V E H T oG oT w0 w1 w2 w3 lo hi (pfu st h 1) (pfu ep h ((m 3) + 1)) hl hh mv ac pt tk et lm pE pA (B + 2) S := by
  have i_h11 := Pin_h11 I
  clear I
  simp only [Q_h11, pokM, pown, prcv, pgiv, ppge, pfu] at *
  grind
set_option maxHeartbeats 400000 in
theorem pt_undoL_h12 {has : Prop} {V E H T oG oT w0 w1 w2 w3 lo hi : Int} {st ep hl hh mv ac pt tk et lm pE pA : Nat → Int} {B : Int} {S : (Nat → Int) → Prop} (I : Pin has V E H T oG oT w0 w1 w2 w3 lo hi st ep hl hh mv ac pt tk et lm pE pA B S) (h : Nat) (m : (Nat → Int)) (hS : S m) (hk : (m 0) = 11) (hto : (h : Int) = (m 1)) (ho : pown st h) (hep : ep h = (m 3) - 1) (hV : (m 3) = V) (hT : T < 0 ∧ (m 1) = H) (hE : E = V + 1 ∧ w2 = V) : Q_h12 has V E H T oG oT w0 w1 w2 w3 lo hi (pfu st h 1) (pfu ep h ((m 3) + 1)) hl hh mv ac pt tk et lm pE pA (B + 2) S := by
  have i_h12 := Pin_h12 I
  clear I
  simp only [Q_h12, pokM, pown, prcv, pgiv, ppge, pfu] at *
  grind
set_option maxHeartbeats 400000 in
theorem pt_undoL_k1 {has : Prop} {V E H T oG oT w0 w1 w2 w3 lo hi : Int} {st ep hl hh mv ac pt tk et lm pE pA : Nat → Int} {B : Int} {S : (Nat → Int) → Prop} (I : Pin has V E H T oG oT w0 w1 w2 w3 lo hi st ep hl hh mv ac pt tk et lm pE pA B S) (h : Nat) (m : (Nat → Int)) (hS : S m) (hk : (m 0) = 11) (hto : (h : Int) = (m 1)) (ho : pown st h) (hep : ep h = (m 3) - 1) (hV : (m 3) = V) (hT : T < 0 ∧ (m 1) = H) (hE : E = V + 1 ∧ w2 = V) : Q_k1 has V E H T oG oT w0 w1 w2 w3 lo hi (pfu st h 1) (pfu ep h ((m 3) + 1)) hl hh mv ac pt tk et lm pE pA (B + 2) S := by
  have i_k1 := Pin_k1 I
  clear I
  simp only [Q_k1, pokM, pown, prcv, pgiv, ppge, pfu] at *
  grind
set_option maxHeartbeats 400000 in
theorem pt_undoL_k2 {has : Prop} {V E H T oG oT w0 w1 w2 w3 lo hi : Int} {st ep hl hh mv ac pt tk et lm pE pA : Nat → Int} {B : Int} {S : (Nat → Int) → Prop} (I : Pin has V E H T oG oT w0 w1 w2 w3 lo hi st ep hl hh mv ac pt tk et lm pE pA B S) (h : Nat) (m : (Nat → Int)) (hS : S m) (hk : (m 0) = 11) (hto : (h : Int) = (m 1)) (ho : pown st h) (hep : ep h = (m 3) - 1) (hV : (m 3) = V) (hT : T < 0 ∧ (m 1) = H) (hE : E = V + 1 ∧ w2 = V) : Q_k2 has V E H T oG oT w0 w1 w2 w3 lo hi (pfu st h 1) (pfu ep h ((m 3) + 1)) hl hh mv ac pt tk et lm pE pA (B + 2) S := by
  have i_k2 := Pin_k2 I
  clear I
  simp only [Q_k2, pokM, pown, prcv, pgiv, ppge, pfu] at *
  grind
set_option maxHeartbeats 400000 in
theorem pt_undoL_k8 {has : Prop} {V E H T oG oT w0 w1 w2 w3 lo hi : Int} {st ep hl hh mv ac pt tk et lm pE pA : Nat → Int} {B : Int} {S : (Nat → Int) → Prop} (I : Pin has V E H T oG oT w0 w1 w2 w3 lo hi st ep hl hh mv ac pt tk et lm pE pA B S) (h : Nat) (m : (Nat → Int)) (hS : S m) (hk : (m 0) = 11) (hto : (h : Int) = (m 1)) (ho : pown st h) (hep : ep h = (m 3) - 1) (hV : (m 3) = V) (hT : T < 0 ∧ (m 1) = H) (hE : E = V + 1 ∧ w2 = V) : Q_k8 has V E H T oG oT w0 w1 w2 w3 lo hi (pfu st h 1) (pfu ep h ((m 3) + 1)) hl hh mv ac pt tk et lm pE pA (B + 2) S := by
  have i_k8 := Pin_k8 I
  clear I
  simp only [Q_k8, pokM, pown, prcv, pgiv, ppge, pfu] at *
  grind
set_option maxHeartbeats 400000 in
theorem pt_undoL_l4 {has : Prop} {V E H T oG oT w0 w1 w2 w3 lo hi : Int} {st ep hl hh mv ac pt tk et lm pE pA : Nat → Int} {B : Int} {S : (Nat → Int) → Prop} (I : Pin has V E H T oG oT w0 w1 w2 w3 lo hi st ep hl hh mv ac pt tk et lm pE pA B S) (h : Nat) (m : (Nat → Int)) (hS : S m) (hk : (m 0) = 11) (hto : (h : Int) = (m 1)) (ho : pown st h) (hep : ep h = (m 3) - 1) (hV : (m 3) = V) (hT : T < 0 ∧ (m 1) = H) (hE : E = V + 1 ∧ w2 = V) : Q_l4 has V E H T oG oT w0 w1 w2 w3 lo hi (pfu st h 1) (pfu ep h ((m 3) + 1)) hl hh mv ac pt tk et lm pE pA (B + 2) S := by
  have i_l4 := Pin_l4 I
  clear I
  simp only [Q_l4, pokM, pown, prcv, pgiv, ppge, pfu] at *
  grind
set_option maxHeartbeats 400000 in
theorem pt_undoL_l5 {has : Prop} {V E H T oG oT w0 w1 w2 w3 lo hi : Int} {st ep hl hh mv ac pt tk et lm pE pA : Nat → Int} {B : Int} {S : (Nat → Int) → Prop} (I : Pin has V E H T oG oT w0 w1 w2 w3 lo hi st ep hl hh mv ac pt tk et lm pE pA B S) (h : Nat) (m : (Nat → Int)) (hS : S m) (hk : (m 0) = 11) (hto : (h : Int) = (m 1)) (ho : pown st h) (hep : ep h = (m 3) - 1) (hV : (m 3) = V) (hT : T < 0 ∧ (m 1) = H) (hE : E = V + 1 ∧ w2 = V) : Q_l5 has V E H T oG oT w0 w1 w2 w3 lo hi (pfu st h 1) (pfu ep h ((m 3) + 1)) hl hh mv ac pt tk et lm pE pA (B + 2) S := by
  have i_l5 := Pin_l5 I
  clear I
  simp only [Q_l5, pokM, pown, prcv, pgiv, ppge, pfu] at *
  grind
set_option maxHeartbeats 400000 in
theorem pt_undoL_l3 {has : Prop} {V E H T oG oT w0 w1 w2 w3 lo hi : Int} {st ep hl hh mv ac pt tk et lm pE pA : Nat → Int} {B : Int} {S : (Nat → Int) → Prop} (I : Pin has V E H T oG oT w0 w1 w2 w3 lo hi st ep hl hh mv ac pt tk et lm pE pA B S) (h : Nat) (m : (Nat → Int)) (hS : S m) (hk : (m 0) = 11) (hto : (h : Int) = (m 1)) (ho : pown st h) (hep : ep h = (m 3) - 1) (hV : (m 3) = V) (hT : T < 0 ∧ (m 1) = H) (hE : E = V + 1 ∧ w2 = V) : Q_l3 has V E H T oG oT w0 w1 w2 w3 lo hi (pfu st h 1) (pfu ep h ((m 3) + 1)) hl hh mv ac pt tk et lm pE pA (B + 2) S := by
  have i_l3 := Pin_l3 I
  clear I
  simp only [Q_l3, pokM, pown, prcv, pgiv, ppge, pfu] at *
  grind
set_option maxHeartbeats 400000 in
theorem pt_undoL_m1 {has : Prop} {V E H T oG oT w0 w1 w2 w3 lo hi : Int} {st ep hl hh mv ac pt tk et lm pE pA : Nat → Int} {B : Int} {S : (Nat → Int) → Prop} (I : Pin has V E H T oG oT w0 w1 w2 w3 lo hi st ep hl hh mv ac pt tk et lm pE pA B S) (h : Nat) (m : (Nat → Int)) (hS : S m) (hk : (m 0) = 11) (hto : (h : Int) = (m 1)) (ho : pown st h) (hep : ep h = (m 3) - 1) (hV : (m 3) = V) (hT : T < 0 ∧ (m 1) = H) (hE : E = V + 1 ∧ w2 = V) : Q_m1 has V E H T oG oT w0 w1 w2 w3 lo hi (pfu st h 1) (pfu ep h ((m 3) + 1)) hl hh mv ac pt tk et lm pE pA (B + 2) S := by
  have i_m1 := Pin_m1 I
  clear I
  simp only [Q_m1, pokM, pown, prcv, pgiv, ppge, pfu] at *
  grind
set_option maxHeartbeats 400000 in
theorem pt_undoL_m2 {has : Prop} {V E H T oG oT w0 w1 w2 w3 lo hi : Int} {st ep hl hh mv ac pt tk et lm pE pA : Nat → Int} {B : Int} {S : (Nat → Int) → Prop} (I : Pin has V E H T oG oT w0 w1 w2 w3 lo hi st ep hl hh mv ac pt tk et lm pE pA B S) (h : Nat) (m : (Nat → Int)) (hS : S m) (hk : (m 0) = 11) (hto : (h : Int) = (m 1)) (ho : pown st h) (hep : ep h = (m 3) - 1) (hV : (m 3) = V) (hT : T < 0 ∧ (m 1) = H) (hE : E = V + 1 ∧ w2 = V) : Q_m2 has V E H T oG oT w0 w1 w2 w3 lo hi (pfu st h 1) (pfu ep h ((m 3) + 1)) hl hh mv ac pt tk et lm pE pA (B + 2) S := by
  have i_m2 := Pin_m2 I
  clear I
  simp only [Q_m2, pokM, pown, prcv, pgiv, ppge, pfu] at *
  grind
set_option maxHeartbeats 400000 in
theorem pt_undoL_m3 {has : Prop} {V E H T oG oT w0 w1 w2 w3 lo hi : Int} {st ep hl hh mv ac pt tk et lm pE pA : Nat → Int} {B : Int} {S : (Nat → Int) → Prop} (I : Pin has V E H T oG oT w0 w1 w2 w3 lo hi st ep hl hh mv ac pt tk et lm pE pA B S) (h : Nat) (m : (Nat → Int)) (hS : S m) (hk : (m 0) = 11) (hto : (h : Int) = (m 1)) (ho : pown st h) (hep : ep h = (m 3) - 1) (hV : (m 3) = V) (hT : T < 0 ∧ (m 1) = H) (hE : E = V + 1 ∧ w2 = V) : Q_m3 has V E H T oG oT w0 w1 w2 w3 lo hi (pfu st h 1) (pfu ep h ((m 3) + 1)) hl hh mv ac pt tk et lm pE pA (B + 2) S := by
  have i_m3 := Pin_m3 I
  clear I
  simp only [Q_m3, pokM, pown, prcv, pgiv, ppge, pfu] at *
  grind
set_option maxHeartbeats 400000 in
theorem pt_undoL_n0 {has : Prop} {V E H T oG oT w0 w1 w2 w3 lo hi : Int} {st ep hl hh mv ac pt tk et lm pE pA : Nat → Int} {B : Int} {S : (Nat → Int) → Prop} (I : Pin has V E H T oG oT w0 w1 w2 w3 lo hi st ep hl hh mv ac pt tk et lm pE pA B S) (h : Nat) (m : (Nat → Int)) (hS : S m) (hk : (m 0) = 11) (hto : (h : Int) = (m 1)) (ho : pown st h) (hep : ep h = (m 3) - 1) (hV : (m 3) = V) (hT : T < 0 ∧ (m 1) = H) (hE : E = V + 1 ∧ w2 = V) : Q_n0 has V E H T oG oT w0 w1 w2 w3 lo hi (pfu st h 1) (pfu ep h ((m 3) + 1)) hl hh mv ac pt tk et lm pE pA (B + 2) S := by
  have i_n0 := Pin_n0 I
  clear I
  simp only [Q_n0, pokM, pown, prcv, pgiv, ppge, pfu] at *
  grind
set_option maxHeartbeats 400000 in
theorem pt_undoL_n1 {has : Prop} {V E H T oG oT w0 w1 w2 w3 lo hi : Int} {st ep hl hh mv ac pt tk et lm pE pA : Nat → Int} {B : Int} {S : (Nat → Int) → Prop} (I : Pin has V E H T oG oT w0 w1 w2 w3 lo hi st ep hl hh mv ac pt tk et lm pE pA B S) (h : Nat) (m : (Nat → Int)) (hS : S m) (hk : (m 0) = 11) (hto : (h : Int) = (m 1)) (ho : pown st h) (hep : ep h = (m 3) - 1) (hV : (m 3) = V) (hT : T < 0 ∧ (m 1) = H) (hE : E = V + 1 ∧ w2 = V) : Q_n1 has V E H T oG oT w0 w1 w2 w3 lo hi (pfu st h 1) (pfu ep h ((m 3) + 1)) hl hh mv ac pt tk et lm pE pA (B + 2) S := by
  have i_n1 := Pin_n1 I
  clear I
  simp only [Q_n1, pokM, pown, prcv, pgiv, ppge, pfu] at *
  grind
set_option maxHeartbeats 400000 in
theorem pt_undoL_n2 {has : Prop} {V E H T oG oT w0 w1 w2 w3 lo hi : Int} {st ep hl hh mv ac pt tk et lm pE pA : Nat → Int} {B : Int} {S : (Nat → Int) → Prop} (I : Pin has V E H T oG oT w0 w1 w2 w3 lo hi st ep hl hh mv ac pt tk et lm pE pA B S) (h : Nat) (m : (Nat → Int)) (hS : S m) (hk : (m 0) = 11) (hto : (h : Int) = (m 1)) (ho : pown st h) (hep : ep h = (m 3) - 1) (hV : (m 3) = V) (hT : T < 0 ∧ (m 1) = H) (hE : E = V + 1 ∧ w2 = V) : Q_n2 has V E H T oG oT w0 w1 w2 w3 lo hi (pfu st h 1) (pfu ep h ((m 3) + 1)) hl hh mv ac pt tk et lm pE pA (B + 2) S := by
  have i_n2 := Pin_n2 I
  clear I
  simp only [Q_n2, pokM, pown, prcv, pgiv, ppge, pfu] at *
  grind
set_option maxHeartbeats 400000 in
theorem pt_undoL_n3 {has : Prop} {V E H T oG oT w0 w1 w2 w3 lo hi : Int} {st ep hl hh mv ac pt tk et lm pE pA : Nat → Int} {B : Int} {S : (Nat → Int) → Prop} (I : Pin has V E H T oG oT w0 w1 w2 w3 lo hi st ep hl hh mv ac pt tk et lm pE pA B S) (h : Nat) (m : (Nat → Int)) (hS : S m) (hk : (m 0) = 11) (hto : (h : Int) = (m 1)) (ho : pown st h) (hep : ep h = (m 3) - 1) (hV : (m 3) = V) (hT : T < 0 ∧ (m 1) = H) (hE : E = V + 1 ∧ w2 = V) : Q_n3 has V E H T oG oT w0 w1 w2 w3 lo hi (pfu st h 1) (pfu ep h ((m 3) + 1)) hl hh mv ac pt tk et lm pE pA (B + 2) S := by
  have i_n3 := Pin_n3 I
  clear I
  simp only [Q_n3, pokM, pown, prcv, pgiv, ppge, pfu] at *
  grind
set_option maxHeartbeats 400000 in
theorem pt_undoL_n4 {has : Prop} {V E H T oG oT w0 w1 w2 w3 lo hi : Int} {st ep hl hh mv ac pt tk et lm pE pA : Nat → Int} {B : Int} {S : (Nat → Int) → Prop} (I : Pin has V E H T oG oT w0 w1 w2 w3 lo hi st ep hl hh mv ac pt tk et lm pE pA B S) (h : Nat) (m : (Nat → Int)) (hS : S m) (hk : (m 0) = 11) (hto : (h : Int) = (m 1)) (ho : pown st h) (hep : ep h = (m 3) - 1) (hV : (m 3) = V) (hT : T < 0 ∧ (m 1) = H) (hE : E = V + 1 ∧ w2 = V) : Q_n4 has V E H T oG oT w0 w1 w2 w3 lo hi (pfu st h 1) (pfu ep h ((m 3) + 1)) hl hh mv ac pt tk et lm pE pA (B + 2) S := by
  have i_n4 := Pin_n4 I
  clear I
  simp only [Q_n4, pokM, pown, prcv, pgiv, ppge, pfu] at *
  grind
set_option maxHeartbeats 400000 in
theorem pt_undoL_n5 {has : Prop} {V E H T oG oT w0 w1 w2 w3 lo hi : Int} {st ep hl hh mv ac pt tk et lm pE pA : Nat → Int} {B : Int} {S : (Nat → Int) → Prop} (I : Pin has V E H T oG oT w0 w1 w2 w3 lo hi st ep hl hh mv ac pt tk et lm pE pA B S) (h : Nat) (m : (Nat → Int)) (hS : S m) (hk : (m 0) = 11) (hto : (h : Int) = (m 1)) (ho : pown st h) (hep : ep h = (m 3) - 1) (hV : (m 3) = V) (hT : T < 0 ∧ (m 1) = H) (hE : E = V + 1 ∧ w2 = V) : Q_n5 has V E H T oG oT w0 w1 w2 w3 lo hi (pfu st h 1) (pfu ep h ((m 3) + 1)) hl hh mv ac pt tk et lm pE pA (B + 2) S := by
  have i_n5 := Pin_n5 I
  clear I
  simp only [Q_n5, pokM, pown, prcv, pgiv, ppge, pfu] at *
  grind
set_option maxHeartbeats 400000 in
theorem pt_undoL_n6 {has : Prop} {V E H T oG oT w0 w1 w2 w3 lo hi : Int} {st ep hl hh mv ac pt tk et lm pE pA : Nat → Int} {B : Int} {S : (Nat → Int) → Prop} (I : Pin has V E H T oG oT w0 w1 w2 w3 lo hi st ep hl hh mv ac pt tk et lm pE pA B S) (h : Nat) (m : (Nat → Int)) (hS : S m) (hk : (m 0) = 11) (hto : (h : Int) = (m 1)) (ho : pown st h) (hep : ep h = (m 3) - 1) (hV : (m 3) = V) (hT : T < 0 ∧ (m 1) = H) (hE : E = V + 1 ∧ w2 = V) : Q_n6 has V E H T oG oT w0 w1 w2 w3 lo hi (pfu st h 1) (pfu ep h ((m 3) + 1)) hl hh mv ac pt tk et lm pE pA (B + 2) S := by
  have i_n6 := Pin_n6 I
  clear I
  simp only [Q_n6, pokM, pown, prcv, pgiv, ppge, pfu] at *
  grind
set_option maxHeartbeats 400000 in
theorem pt_undoL_n7 {has : Prop} {V E H T oG oT w0 w1 w2 w3 lo hi : Int} {st ep hl hh mv ac pt tk et lm pE pA : Nat → Int} {B : Int} {S : (Nat → Int) → Prop} (I : Pin has V E H T oG oT w0 w1 w2 w3 lo hi st ep hl hh mv ac pt tk et lm pE pA B S) (h : Nat) (m : (Nat → Int)) (hS : S m) (hk : (m 0) = 11) (hto : (h : Int) = (m 1)) (ho : pown st h) (hep : ep h = (m 3) - 1) (hV : (m 3) = V) (hT : T < 0 ∧ (m 1) = H) (hE : E = V + 1 ∧ w2 = V) : Q_n7 has V E H T oG oT w0 w1 w2 w3 lo hi (pfu st h 1) (pfu ep h ((m 3) + 1)) hl hh mv ac pt tk et lm pE pA (B + 2) S := by
  have i_n7 := Pin_n7 I
  clear I
  simp only [Q_n7, pokM, pown, prcv, pgiv, ppge, pfu] at *
  grind
set_option maxHeartbeats 400000 in
theorem pt_undoL_o {has : Prop} {V E H T oG oT w0 w1 w2 w3 lo hi : Int} {st ep hl hh mv ac pt tk et lm pE pA : Nat → Int} {B : Int} {S : (Nat → Int) → Prop} (I : Pin has V E H T oG oT w0 w1 w2 w3 lo hi st ep hl hh mv ac pt tk et lm pE pA B S) (h : Nat) (m : (Nat → Int)) (hS : S m) (hk : (m 0) = 11) (hto : (h : Int) = (m 1)) (ho : pown st h) (hep : ep h = (m 3) - 1) (hV : (m 3) = V) (hT : T < 0 ∧ (m 1) = H) (hE : E = V + 1 ∧ w2 = V) : Q_o has V E H T oG oT w0 w1 w2 w3 lo hi (pfu st h 1) (pfu ep h ((m 3) + 1)) hl hh mv ac pt tk et lm pE pA (B + 2) S := by
  have i_o := Pin_o I
  clear I
  simp only [Q_o, pokM, pown, prcv, pgiv, ppge, pfu] at *
  grind
set_option maxHeartbeats 400000 in
theorem pt_undoL_p {has : Prop} {V E H T oG oT w0 w1 w2 w3 lo hi : Int} {st ep hl hh mv ac pt tk et lm pE pA : Nat → Int} {B : Int} {S : (Nat → Int) → Prop} (I : Pin has V E H T oG oT w0 w1 w2 w3 lo hi st ep hl hh mv ac pt tk et lm pE pA B S) (h : Nat) (m : (Nat → Int)) (hS : S m) (hk : (m 0) = 11) (hto : (h : Int) = (m 1)) (ho : pown st h) (hep : ep h = (m 3) - 1) (hV : (m 3) = V) (hT : T < 0 ∧ (m 1) = H) (hE : E = V + 1 ∧ w2 = V) : Q_p has V E H T oG oT w0 w1 w2 w3 lo hi (pfu st h 1) (pfu ep h ((m 3) + 1)) hl hh mv ac pt tk et lm pE pA (B + 2) S := by
  have i_p := Pin_p I
  clear I
  simp only [Q_p, pokM, pown, prcv, pgiv, ppge, pfu] at *
  grind
set_option maxHeartbeats 400000 in
theorem pt_undoL_q {has : Prop} {V E H T oG oT w0 w1 w2 w3 lo hi : Int} {st ep hl hh mv ac pt tk et lm pE pA : Nat → Int} {B : Int} {S : (Nat → Int) → Prop} (I : Pin has V E H T oG oT w0 w1 w2 w3 lo hi st ep hl hh mv ac pt tk et lm pE pA B S) (h : Nat) (m : (Nat → Int)) (hS : S m) (hk : (m 0) = 11) (hto : (h : Int) = (m 1)) (ho : pown st h) (hep : ep h = (m 3) - 1) (hV : (m 3) = V) (hT : T < 0 ∧ (m 1) = H) (hE : E = V + 1 ∧ w2 = V) : Q_q has V E H T oG oT w0 w1 w2 w3 lo hi (pfu st h 1) (pfu ep h ((m 3) + 1)) hl hh mv ac pt tk et lm pE pA (B + 2) S := by
  have i_q := Pin_q I
  clear I
  simp only [Q_q, pokM, pown, prcv, pgiv, ppge, pfu] at *
  grind
set_option maxHeartbeats 400000 in
theorem pt_undoL_q2 {has : Prop} {V E H T oG oT w0 w1 w2 w3 lo hi : Int} {st ep hl hh mv ac pt tk et lm pE pA : Nat → Int} {B : Int} {S : (Nat → Int) → Prop} (I : Pin has V E H T oG oT w0 w1 w2 w3 lo hi st ep hl hh mv ac pt tk et lm pE pA B S) (h : Nat) (m : (Nat → Int)) (hS : S m) (hk : (m 0) = 11) (hto : (h : Int) = (m 1)) (ho : pown st h) (hep : ep h = (m 3) - 1) (hV : (m 3) = V) (hT : T < 0 ∧ (m 1) = H) (hE : E = V + 1 ∧ w2 = V) : Q_q2 has V E H T oG oT w0 w1 w2 w3 lo hi (pfu st h 1) (pfu ep h ((m 3) + 1)) hl hh mv ac pt tk et lm pE pA (B + 2) S := by
  have i_q2 := Pin_q2 I
  clear I
  simp only [Q_q2, pokM, pown, prcv, pgiv, ppge, pfu] at *
  grind
set_option maxHeartbeats 400000 in
theorem pt_undoL_q3 {has : Prop} {V E H T oG oT w0 w1 w2 w3 lo hi : Int} {st ep hl hh mv ac pt tk et lm pE pA : Nat → Int} {B : Int} {S : (Nat → Int) → Prop} (I : Pin has V E H T oG oT w0 w1 w2 w3 lo hi st ep hl hh mv ac pt tk et lm pE pA B S) (h : Nat) (m : (Nat → Int)) (hS : S m) (hk : (m 0) = 11) (hto : (h : Int) = (m 1)) (ho : pown st h) (hep : ep h = (m 3) - 1) (hV : (m 3) = V) (hT : T < 0 ∧ (m 1) = H) (hE : E = V + 1 ∧ w2 = V) : Q_q3 has V E H T oG oT w0 w1 w2 w3 lo hi (pfu st h 1) (pfu ep h ((m 3) + 1)) hl hh mv ac pt tk et lm pE pA (B + 2) S := by
  have i_q3 := Pin_q3 I
  clear I
  simp only [Q_q3, pokM, pown, prcv, pgiv, ppge, pfu] at *
  grind
set_option maxHeartbeats 400000 in
theorem pt_undoL_w {has : Prop} {V E H T oG oT w0 w1 w2 w3 lo hi : Int} {st ep hl hh mv ac pt tk et lm pE pA : Nat → Int} {B : Int} {S : (Nat → Int) → Prop} (I : Pin has V E H T oG oT w0 w1 w2 w3 lo hi st ep hl hh mv ac pt tk et lm pE pA B S) (h : Nat) (m : (Nat → Int)) (hS : S m) (hk : (m 0) = 11) (hto : (h : Int) = (m 1)) (ho : pown st h) (hep : ep h = (m 3) - 1) (hV : (m 3) = V) (hT : T < 0 ∧ (m 1) = H) (hE : E = V + 1 ∧ w2 = V) : Q_w has V E H T oG oT w0 w1 w2 w3 lo hi (pfu st h 1) (pfu ep h ((m 3) + 1)) hl hh mv ac pt tk et lm pE pA (B + 2) S := by
  have i_w := Pin_w I
  clear I
  simp only [Q_w, pokM, pown, prcv, pgiv, ppge, pfu] at *
  grind
theorem pt_undoL {has : Prop} {V E H T oG oT w0 w1 w2 w3 lo hi : Int} {st ep hl hh mv ac pt tk et lm pE pA : Nat → Int} {B : Int} {S : (Nat → Int) → Prop} (I : Pin has V E H T oG oT w0 w1 w2 w3 lo hi st ep hl hh mv ac pt tk et lm pE pA B S) (h : Nat) (m : (Nat → Int)) (hS : S m) (hk : (m 0) = 11) (hto : (h : Int) = (m 1)) (ho : pown st h) (hep : ep h = (m 3) - 1) : Pin has V E H T oG oT w0 w1 w2 w3 lo hi (pfu st h 1) (pfu ep h ((m 3) + 1)) hl hh mv ac pt tk et lm pE pA (B + 2) S := by
  have hV := pt_undoL_hV_d I h m hS hk hto ho hep 
  have hT := pt_undoL_hT_d I h m hS hk hto ho hep hV
  have hE := pt_undoL_hE_d I h m hS hk hto ho hep hV hT
  exact ⟨pt_undoL_v0 I h m hS hk hto ho hep hV hT hE, pt_undoL_a I h m hS hk hto ho hep hV hT hE, pt_undoL_b I h m hS hk hto ho hep hV hT hE, pt_undoL_c I h m hS hk hto ho hep hV hT hE, pt_undoL_d I h m hS hk hto ho hep hV hT hE, pt_undoL_e I h m hS hk hto ho hep hV hT hE, pt_undoL_f I h m hS hk hto ho hep hV hT hE, pt_undoL_f2 I h m hS hk hto ho hep hV hT hE, pt_undoL_f3 I h m hS hk hto ho hep hV hT hE, pt_undoL_g I h m hS hk hto ho hep hV hT hE, pt_undoL_g0 I h m hS hk hto ho hep hV hT hE, pt_undoL_g1 I h m hS hk hto ho hep hV hT hE, pt_undoL_g2 I h m hS hk hto ho hep hV hT hE, pt_undoL_h7 I h m hS hk hto ho hep hV hT hE, pt_undoL_h9 I h m hS hk hto ho hep hV hT hE, pt_undoL_h10 I h m hS hk hto ho hep hV hT hE, pt_undoL_h11 I h m hS hk hto ho hep hV hT hE, pt_undoL_h12 I h m hS hk hto ho hep hV hT hE, pt_undoL_k1 I h m hS hk hto ho hep hV hT hE, pt_undoL_k2 I h m hS hk hto ho hep hV hT hE, pt_undoL_k8 I h m hS hk hto ho hep hV hT hE, pt_undoL_l4 I h m hS hk hto ho hep hV hT hE, pt_undoL_l5 I h m hS hk hto ho hep hV hT hE, pt_undoL_l3 I h m hS hk hto ho hep hV hT hE, pt_undoL_m1 I h m hS hk hto ho hep hV hT hE, pt_undoL_m2 I h m hS hk hto ho hep hV hT hE, pt_undoL_m3 I h m hS hk hto ho hep hV hT hE, pt_undoL_n0 I h m hS hk hto ho hep hV hT hE, pt_undoL_n1 I h m hS hk hto ho hep hV hT hE, pt_undoL_n2 I h m hS hk hto ho hep hV hT hE, pt_undoL_n3 I h m hS hk hto ho hep hV hT hE, pt_undoL_n4 I h m hS hk hto ho hep hV hT hE, pt_undoL_n5 I h m hS hk hto ho hep hV hT hE, pt_undoL_n6 I h m hS hk hto ho hep hV hT hE, pt_undoL_n7 I h m hS hk hto ho hep hV hT hE, pt_undoL_o I h m hS hk hto ho hep hV hT hE, pt_undoL_p I h m hS hk hto ho hep hV hT hE, pt_undoL_q I h m hS hk hto ho hep hV hT hE, pt_undoL_q2 I h m hS hk hto ho hep hV hT hE, pt_undoL_q3 I h m hS hk hto ho hep hV hT hE, pt_undoL_w I h m hS hk hto ho hep hV hT hE⟩
set_option maxHeartbeats 400000 in
theorem pt_drop_v0 {has : Prop} {V E H T oG oT w0 w1 w2 w3 lo hi : Int} {st ep hl hh mv ac pt tk et lm pE pA : Nat → Int} {B : Int} {S : (Nat → Int) → Prop} (I : Pin has V E H T oG oT w0 w1 w2 w3 lo hi st ep hl hh mv ac pt tk et lm pE pA B S) (h : Nat) (hr : prcv st h)  : Q_v0 has V E H T oG oT w0 w1 w2 w3 lo hi (pfu st h 0) ep hl hh mv ac pt tk et lm pE pA (B + 2) S := by
  have i_v0 := Pin_v0 I
  clear I
  simp only [Q_v0, pokM, pown, prcv, pgiv, ppge, pfu] at *
  grind
set_option maxHeartbeats 400000 in
theorem pt_drop_a {has : Prop} {V E H T oG oT w0 w1 w2 w3 lo hi : Int} {st ep hl hh mv ac pt tk et lm pE pA : Nat → Int} {B : Int} {S : (Nat → Int) → Prop} (I : Pin has V E H T oG oT w0 w1 w2 w3 lo hi st ep hl hh mv ac pt tk et lm pE pA B S) (h : Nat) (hr : prcv st h)  : Q_a has V E H T oG oT w0 w1 w2 w3 lo hi (pfu st h 0) ep hl hh mv ac pt tk et lm pE pA (B + 2) S := by
  have i_a := Pin_a I
  clear I
  simp only [Q_a, pokM, pown, prcv, pgiv, ppge, pfu] at *
  grind
set_option maxHeartbeats 400000 in
theorem pt_drop_b {has : Prop} {V E H T oG oT w0 w1 w2 w3 lo hi : Int} {st ep hl hh mv ac pt tk et lm pE pA : Nat → Int} {B : Int} {S : (Nat → Int) → Prop} (I : Pin has V E H T oG oT w0 w1 w2 w3 lo hi st ep hl hh mv ac pt tk et lm pE pA B S) (h : Nat) (hr : prcv st h)  : Q_b has V E H T oG oT w0 w1 w2 w3 lo hi (pfu st h 0) ep hl hh mv ac pt tk et lm pE pA (B + 2) S := by
  have i_b := Pin_b I
  clear I
  simp only [Q_b, pokM, pown, prcv, pgiv, ppge, pfu] at *
  grind
set_option maxHeartbeats 400000 in
theorem pt_drop_c {has : Prop} {V E H T oG oT w0 w1 w2 w3 lo hi : Int} {st ep hl hh mv ac pt tk et lm pE pA : Nat → Int} {B : Int} {S : (Nat → Int) → Prop} (I : Pin has V E H T oG oT w0 w1 w2 w3 lo hi st ep hl hh mv ac pt tk et lm pE pA B S) (h : Nat) (hr : prcv st h)  : Q_c has V E H T oG oT w0 w1 w2 w3 lo hi (pfu st h 0) ep hl hh mv ac pt tk et lm pE pA (B + 2) S := by
  have i_c := Pin_c I
  clear I
  simp only [Q_c, pokM, pown, prcv, pgiv, ppge, pfu] at *
  grind
set_option maxHeartbeats 400000 in
theorem pt_drop_d {has : Prop} {V E H T oG oT w0 w1 w2 w3 lo hi : Int} {st ep hl hh mv ac pt tk et lm pE pA : Nat → Int} {B : Int} {S : (Nat → Int) → Prop} (I : Pin has V E H T oG oT w0 w1 w2 w3 lo hi st ep hl hh mv ac pt tk et lm pE pA B S) (h : Nat) (hr : prcv st h)  : Q_d has V E H T oG oT w0 w1 w2 w3 lo hi (pfu st h 0) ep hl hh mv ac pt tk et lm pE pA (B + 2) S := by
  have i_d := Pin_d I
  clear I
  simp only [Q_d, pokM, pown, prcv, pgiv, ppge, pfu] at *
  grind
set_option maxHeartbeats 400000 in
theorem pt_drop_e {has : Prop} {V E H T oG oT w0 w1 w2 w3 lo hi : Int} {st ep hl hh mv ac pt tk et lm pE pA : Nat → Int} {B : Int} {S : (Nat → Int) → Prop} (I : Pin has V E H T oG oT w0 w1 w2 w3 lo hi st ep hl hh mv ac pt tk et lm pE pA B S) (h : Nat) (hr : prcv st h)  : Q_e has V E H T oG oT w0 w1 w2 w3 lo hi (pfu st h 0) ep hl hh mv ac pt tk et lm pE pA (B + 2) S := by
  have i_e := Pin_e I
  clear I
  simp only [Q_e, pokM, pown, prcv, pgiv, ppge, pfu] at *
  grind
set_option maxHeartbeats 400000 in
theorem pt_drop_f {has : Prop} {V E H T oG oT w0 w1 w2 w3 lo hi : Int} {st ep hl hh mv ac pt tk et lm pE pA : Nat → Int} {B : Int} {S : (Nat → Int) → Prop} (I : Pin has V E H T oG oT w0 w1 w2 w3 lo hi st ep hl hh mv ac pt tk et lm pE pA B S) (h : Nat) (hr : prcv st h)  : Q_f has V E H T oG oT w0 w1 w2 w3 lo hi (pfu st h 0) ep hl hh mv ac pt tk et lm pE pA (B + 2) S := by
  have i_f := Pin_f I
  clear I
  simp only [Q_f, pokM, pown, prcv, pgiv, ppge, pfu] at *
  grind
set_option maxHeartbeats 400000 in
theorem pt_drop_f2 {has : Prop} {V E H T oG oT w0 w1 w2 w3 lo hi : Int} {st ep hl hh mv ac pt tk et lm pE pA : Nat → Int} {B : Int} {S : (Nat → Int) → Prop} (I : Pin has V E H T oG oT w0 w1 w2 w3 lo hi st ep hl hh mv ac pt tk et lm pE pA B S) (h : Nat) (hr : prcv st h)  : Q_f2 has V E H T oG oT w0 w1 w2 w3 lo hi (pfu st h 0) ep hl hh mv ac pt tk et lm pE pA (B + 2) S := by
  have i_f2 := Pin_f2 I
  clear I
  simp only [Q_f2, pokM, pown, prcv, pgiv, ppge, pfu] at *
  grind
set_option maxHeartbeats 400000 in
theorem pt_drop_f3 {has : Prop} {V E H T oG oT w0 w1 w2 w3 lo hi : Int} {st ep hl hh mv ac pt tk et lm pE pA : Nat → Int} {B : Int} {S : (Nat → Int) → Prop} (I : Pin has V E H T oG oT w0 w1 w2 w3 lo hi st ep hl hh mv ac pt tk et lm pE pA B S) (h : Nat) (hr : prcv st h)  : Q_f3 has V E H T oG oT w0 w1 w2 w3 lo hi (pfu st h 0) ep hl hh mv ac pt tk et lm pE pA (B + 2) S := by
  have i_f3 := Pin_f3 I
  clear I
  simp only [Q_f3, pokM, pown, prcv, pgiv, ppge, pfu] at *
  grind
set_option maxHeartbeats 400000 in
theorem pt_drop_g {has : Prop} {V E H T oG oT w0 w1 w2 w3 lo hi : Int} {st ep hl hh mv ac pt tk et lm pE pA : Nat → Int} {B : Int} {S : (Nat → Int) → Prop} (I : Pin has V E H T oG oT w0 w1 w2 w3 lo hi st ep hl hh mv ac pt tk et lm pE pA B S) (h : Nat) (hr : prcv st h)  : Q_g has V E H T oG oT w0 w1 w2 w3 lo hi (pfu st h 0) ep hl hh mv ac pt tk et lm pE pA (B + 2) S := by
  have i_g := Pin_g I
  clear I
  simp only [Q_g, pokM, pown, prcv, pgiv, ppge, pfu] at *
  grind
set_option maxHeartbeats 400000 in
theorem pt_drop_g0 {has : Prop} {V E H T oG oT w0 w1 w2 w3 lo hi : Int} {st ep hl hh mv ac pt tk et lm pE pA : Nat → Int} {B : Int} {S : (Nat → Int) → Prop} (I : Pin has V E H T oG oT w0 w1 w2 w3 lo hi st ep hl hh mv ac pt tk et lm pE pA B S) (h : Nat) (hr : prcv st h)  : Q_g0 has V E H T oG oT w0 w1 w2 w3 lo hi (pfu st h 0) ep hl hh mv ac pt tk et lm pE pA (B + 2) S := by
  have i_g0 := Pin_g0 I
  clear I
  simp only [Q_g0, pokM, pown, prcv, pgiv, ppge, pfu] at *
  grind
set_option maxHeartbeats 400000 in
theorem pt_drop_g1 {has : Prop} {V E H T oG oT w0 w1 w2 w3 lo hi : Int} {st ep hl hh mv ac pt tk et lm pE pA : Nat → Int} {B : Int} {S : (Nat → Int) → Prop} (I : Pin has V E H T oG oT w0 w1 w2 w3 lo hi st ep hl hh mv ac pt tk et lm pE pA B S) (h : Nat) (hr : prcv st h)  : Q_g1 has V E H T oG oT w0 w1 w2 w3 lo hi (pfu st h 0) ep hl hh mv ac pt tk et lm pE pA (B + 2) S := by
  have i_g1 := Pin_g1 I
  clear I
  simp only [Q_g1, pokM, pown, prcv, pgiv, ppge, pfu] at *
  grind
set_option maxHeartbeats 400000 in
theorem pt_drop_g2 {has : Prop} {V E H T oG oT w0 w1 w2 w3 lo hi : Int} {st ep hl hh mv ac pt tk et lm pE pA : Nat → Int} {B : Int} {S : (Nat → Int) → Prop} (I : Pin has V E H T oG oT w0 w1 w2 w3 lo hi st ep hl hh mv ac pt tk et lm pE pA B S) (h : Nat) (hr : prcv st h)  : Q_g2 has V E H T oG oT w0 w1 w2 w3 lo hi (pfu st h 0) ep hl hh mv ac pt tk et lm pE pA (B + 2) S := by
  have i_g2 := Pin_g2 I
  clear I
  simp only [Q_g2, pokM, pown, prcv, pgiv, ppge, pfu] at *
  grind
set_option maxHeartbeats 400000 in
theorem pt_drop_h7 {has : Prop} {V E H T oG oT w0 w1 w2 w3 lo hi : Int} {st ep hl hh mv ac pt tk et lm pE pA : Nat → Int} {B : Int} {S : (Nat → Int) → Prop} (I : Pin has V E H T oG oT w0 w1 w2 w3 lo hi st ep hl hh mv ac pt tk et lm pE pA B S) (h : Nat) (hr : prcv st h)  : Q_h7 has V E H T oG oT w0 w1 w2 w3 lo hi (pfu st h 0) ep hl hh mv ac pt tk et lm pE pA (B + 2) S := by
  have i_h7 := Pin_h7 I
  clear I
  simp only [Q_h7, pokM, pown, prcv, pgiv, ppge, pfu] at *
  grind
set_option maxHeartbeats 400000 in
theorem pt_drop_h9 {has : Prop} {V E H T oG oT w0 w1 w2 w3 lo hi : Int} {st ep hl hh mv ac pt tk et lm pE pA : Nat → Int} {B : Int} {S : (Nat → Int) → Prop} (I : Pin has V E H T oG oT w0 w1 w2 w3 lo hi st ep hl hh mv ac pt tk et lm pE pA B S) (h : Nat) (hr : prcv st h)  : Q_h9 has V E H T oG oT w0 w1 w2 w3 lo hi (pfu st h 0) ep hl hh mv ac pt tk et lm pE pA (B + 2) S := by
  have i_h9 := Pin_h9 I
  clear I
  simp only [Q_h9, pokM, pown, prcv, pgiv, ppge, pfu] at *
  grind
set_option maxHeartbeats 400000 in
theorem pt_drop_h10 {has : Prop} {V E H T oG oT w0 w1 w2 w3 lo hi : Int} {st ep hl hh mv ac pt tk et lm pE pA : Nat → Int} {B : Int} {S : (Nat → Int) → Prop} (I : Pin has V E H T oG oT w0 w1 w2 w3 lo hi st ep hl hh mv ac pt tk et lm pE pA B S) (h : Nat) (hr : prcv st h)  : Q_h10 has V E H T oG oT w0 w1 w2 w3 lo hi (pfu st h 0) ep hl hh mv ac pt tk et lm pE pA (B + 2) S := by
  have i_h10 := Pin_h10 I
  clear I
  simp only [Q_h10, pokM, pown, prcv, pgiv, ppge, pfu] at *
  grind
set_option maxHeartbeats 400000 in
theorem pt_drop_h11 {has : Prop} {V E H T oG oT w0 w1 w2 w3 lo hi : Int} {st ep hl hh mv ac pt tk et lm pE pA : Nat → Int} {B : Int} {S : (Nat → Int) → Prop} (I : Pin has V E H T oG oT w0 w1 w2 w3 lo hi st ep hl hh mv ac pt tk et lm pE pA B S) (h : Nat) (hr : prcv st h)  : Q_h11 has V E H T oG oT w0 w1 w2 w3 lo hi (pfu st h 0) ep hl hh mv ac pt tk et lm pE pA (B + 2) S := by
  have i_h11 := Pin_h11 I
  clear I
  simp only [Q_h11, pokM, pown, prcv, pgiv, ppge, pfu] at *
  grind
set_option maxHeartbeats 400000 in
theorem pt_drop_h12 {has : Prop} {V E H T oG oT w0 w1 w2 w3 lo hi : Int} {st ep hl hh mv ac pt tk et lm pE pA : Nat → Int} {B : Int} {S : (Nat → Int) → Prop} (I : Pin has V E H T oG oT w0 w1 w2 w3 lo hi st ep hl hh mv ac pt tk et lm pE pA B S) (h : Nat) (hr : prcv st h)  : Q_h12 has V E H T oG oT w0 w1 w2 w3 lo hi (pfu st h 0) ep hl hh mv ac pt tk et lm pE pA (B + 2) S := by
  have i_h12 := Pin_h12 I
  clear I
  simp only [Q_h12, pokM, pown, prcv, pgiv, ppge, pfu] at *
  grind
set_option maxHeartbeats 400000 in
theorem pt_drop_k1 {has : Prop} {V E H T oG oT w0 w1 w2 w3 lo hi : Int} {st ep hl hh mv ac pt tk et lm pE pA : Nat → Int} {B : Int} {S : (Nat → Int) → Prop} (I : Pin has V E H T oG oT w0 w1 w2 w3 lo hi st ep hl hh mv ac pt tk et lm pE pA B S) (h : Nat) (hr : prcv st h)  : Q_k1 has V E H T oG oT w0 w1 w2 w3 lo hi (pfu st h 0) ep hl hh mv ac pt tk et lm pE pA (B + 2) S := by
  have i_k1 := Pin_k1 I
  clear I
  simp only [Q_k1, pokM, pown, prcv, pgiv, ppge, pfu] at *
  grind
set_option maxHeartbeats 400000 in
theorem pt_drop_k2 {has : Prop} {V E H T oG oT w0 w1 w2 w3 lo hi : Int} {st ep hl hh mv ac pt tk et lm pE pA : Nat → Int} {B : Int} {S : (Nat → Int) → Prop} (I : Pin has V E H T oG oT w0 w1 w2 w3 lo hi st ep hl hh mv ac pt tk et lm pE pA B S) (h : Nat) (hr : prcv st h)  : Q_k2 has V E H T oG oT w0 w1 w2 w3 lo hi (pfu st h 0) ep hl hh mv ac pt tk et lm pE pA (B + 2) S := by
  have i_k2 := Pin_k2 I
  clear I
  simp only [Q_k2, pokM, pown, prcv, pgiv, ppge, pfu] at *
  grind
set_option maxHeartbeats 400000 in
theorem pt_drop_k8 {has : Prop} {V E H T oG oT w0 w1 w2 w3 lo hi : Int} {st ep hl hh mv ac pt tk et lm pE pA : Nat → Int} {B : Int} {S : (Nat → Int) → Prop} (I : Pin has V E H T oG oT w0 w1 w2 w3 lo hi st ep hl hh mv ac pt tk et lm pE pA B S) (h : Nat) (hr : prcv st h)  : Q_k8 has V E H T oG oT w0 w1 w2 w3 lo hi (pfu st h 0) ep hl hh mv ac pt tk et lm pE pA (B + 2) S := by
  have i_k8 := Pin_k8 I
  clear I
  simp only [Q_k8, pokM, pown, prcv, pgiv, ppge, pfu] at *
  grind
set_option maxHeartbeats 400000 in
theorem pt_drop_l4 {has : Prop} {V E H T oG oT w0 w1 w2 w3 lo hi : Int} {st ep hl hh mv ac pt tk et lm pE pA : Nat → Int} {B : Int} {S : (Nat → Int) → Prop} (I : Pin has V E H T oG oT w0 w1 w2 w3 lo hi st ep hl hh mv ac pt tk et lm pE pA B S) (h : Nat) (hr : prcv st h)  : Q_l4 has V E H T oG oT w0 w1 w2 w3 lo hi (pfu st h 0) ep hl hh mv ac pt tk et lm pE pA (B + 2) S := by
  have i_l4 := Pin_l4 I
  clear I
  simp only [Q_l4, pokM, pown, prcv, pgiv, ppge, pfu] at *
  grind
set_option maxHeartbeats 400000 in
theorem pt_drop_l5 {has : Prop} {V E H T oG oT w0 w1 w2 w3 lo hi : Int} {st ep hl hh mv ac pt tk et lm pE pA : Nat → Int} {B : Int} {S : (Nat → Int) → Prop} (I : Pin has V E H T oG oT w0 w1 w2 w3 lo hi st ep hl hh mv ac pt tk et lm pE pA B S) (h : Nat) (hr : prcv st h)  : Q_l5 has V E H T oG oT w0 w1 w2 w3 lo hi (pfu st h 0) ep hl hh mv ac pt tk et lm pE pA (B + 2) S := by
  have i_l5 := Pin_l5 I
  clear I
  simp only [Q_l5, pokM, pown, prcv, pgiv, ppge, pfu] at *
  grind
set_option maxHeartbeats 400000 in
theorem pt_drop_l3 {has : Prop} {V E H T oG oT w0 w1 w2 w3 lo hi : Int} {st ep hl hh mv ac pt tk et lm pE pA : Nat → Int} {B : Int} {S : (Nat → Int) → Prop} (I : Pin has V E H T oG oT w0 w1 w2 w3 lo hi st ep hl hh mv ac pt tk et lm pE pA B S) (h : Nat) (hr : prcv st h)  : Q_l3 has V E H T oG oT w0 w1 w2 w3 lo hi (pfu st h 0) ep hl hh mv ac pt tk et lm pE pA (B + 2) S := by
  have i_l3 := Pin_l3 I
  clear I
  simp only [Q_l3, pokM, pown, prcv, pgiv, ppge, pfu] at *
  grind
set_option maxHeartbeats 400000 in
theorem pt_drop_m1 {has : Prop} {V E H T oG oT w0 w1 w2 w3 lo hi : Int} {st ep hl hh mv ac pt tk et lm pE pA : Nat → Int} {B : Int} {S : (Nat → Int) → Prop} (I : Pin has V E H T oG oT w0 w1 w2 w3 lo hi st ep hl hh mv ac pt tk et lm pE pA B S) (h : Nat) (hr : prcv st h)  : Q_m1 has V E H T oG oT w0 w1 w2 w3 lo hi (pfu st h 0) ep hl hh mv ac pt tk et lm pE pA (B + 2) S := by
  have i_m1 := Pin_m1 I
  clear I
  simp only [Q_m1, pokM, pown, prcv, pgiv, ppge, pfu] at *
  grind
set_option maxHeartbeats 400000 in
theorem pt_drop_m2 {has : Prop} {V E H T oG oT w0 w1 w2 w3 lo hi : Int} {st ep hl hh mv ac pt tk et lm pE pA : Nat → Int} {B : Int} {S : (Nat → Int) → Prop} (I : Pin has V E H T oG oT w0 w1 w2 w3 lo hi st ep hl hh mv ac pt tk et lm pE pA B S) (h : Nat) (hr : prcv st h)  : Q_m2 has V E H T oG oT w0 w1 w2 w3 lo hi (pfu st h 0) ep hl hh mv ac pt tk et lm pE pA (B + 2) S := by
  have i_m2 := Pin_m2 I
  clear I
  simp only [Q_m2, pokM, pown, prcv, pgiv, ppge, pfu] at *
  grind
set_option maxHeartbeats 400000 in
theorem pt_drop_m3 {has : Prop} {V E H T oG oT w0 w1 w2 w3 lo hi : Int} {st ep hl hh mv ac pt tk et lm pE pA : Nat → Int} {B : Int} {S : (Nat → Int) → Prop} (I : Pin has V E H T oG oT w0 w1 w2 w3 lo hi st ep hl hh mv ac pt tk et lm pE pA B S) (h : Nat) (hr : prcv st h)  : Q_m3 has V E H T oG oT w0 w1 w2 w3 lo hi (pfu st h 0) ep hl hh mv ac pt tk et lm pE pA (B + 2) S := by
  have i_m3 := Pin_m3 I
  clear I
  simp only [Q_m3, pokM, pown, prcv, pgiv, ppge, pfu] at *
  grind
set_option maxHeartbeats 400000 in
theorem pt_drop_n0 {has : Prop} {V E H T oG oT w0 w1 w2 w3 lo hi : Int} {st ep hl hh mv ac pt tk et lm pE pA : Nat → Int} {B : Int} {S : (Nat → Int) → Prop} (I : Pin has V E H T oG oT w0 w1 w2 w3 lo hi st ep hl hh mv ac pt tk et lm pE pA B S) (h : Nat) (hr : prcv st h)  : Q_n0 has V E H T oG oT w0 w1 w2 w3 lo hi (pfu st h 0) ep hl hh mv ac pt tk et lm pE pA (B + 2) S := by
  have i_n0 := Pin_n0 I
  clear I
  simp only [Q_n0, pokM, pown, prcv, pgiv, ppge, pfu] at *
  grind
set_option maxHeartbeats 400000 in
theorem pt_drop_n1 {has : Prop} {V E H T oG oT w0 w1 w2 w3 lo hi : Int} {st ep hl hh mv ac pt tk et lm pE pA : Nat → Int} {B : Int} {S : (Nat → Int) → Prop} (I : Pin has V E H T oG oT w0 w1 w2 w3 lo hi st ep hl hh mv ac pt tk et lm pE pA B S) (h : Nat) (hr : prcv st h)  : Q_n1 has V E H T oG oT w0 w1 w2 w3 lo hi (pfu st h 0) ep hl hh mv ac pt tk et lm pE pA (B + 2) S := by
  have i_n1 := Pin_n1 I
  clear I
  simp only [Q_n1, pokM, pown, prcv, pgiv, ppge, pfu] at *
  grind
set_option maxHeartbeats 400000 in
theorem pt_drop_n2 {has : Prop} {V E H T oG oT w0 w1 w2 w3 lo hi : Int} {st ep hl hh mv ac pt tk et lm pE pA : Nat → Int} {B : Int} {S : (Nat → Int) → Prop} (I : Pin has V E H T oG oT w0 w1 w2 w3 lo hi st ep hl hh mv ac pt tk et lm pE pA B S) (h : Nat) (hr : prcv st h)  : Q_n2 has V E H T oG oT w0 w1 w2 w3 lo hi (pfu st h 0) ep hl hh mv ac pt tk et lm pE pA (B + 2) S := by
  have i_n2 := Pin_n2 I
  clear I
  simp only [Q_n2, pokM, pown, prcv, pgiv, ppge, pfu] at *
  grind
set_option maxHeartbeats 400000 in
theorem pt_drop_n3 {has : Prop} {V E H T oG oT w0 w1 w2 w3 lo hi : Int} {st ep hl hh mv ac pt tk et lm pE pA : Nat → Int} {B : Int} {S : (Nat → Int) → Prop} (I : Pin has V E H T oG oT w0 w1 w2 w3 lo hi st ep hl hh mv ac pt tk et lm pE pA B S) (h : Nat) (hr : prcv st h)  : Q_n3 has V E H T oG oT w0 w1 w2 w3 lo hi (pfu st h 0) ep hl hh mv ac pt tk et lm pE pA (B + 2) S := by
  have i_n3 := Pin_n3 I
  clear I
  simp only [Q_n3, pokM, pown, prcv, pgiv, ppge, pfu] at *
  grind
set_option maxHeartbeats 400000 in
theorem pt_drop_n4 {has : Prop} {V E H T oG oT w0 w1 w2 w3 lo hi : Int} {st ep hl hh mv ac pt tk et lm pE pA : Nat → Int} {B : Int} {S : (Nat → Int) → Prop} (I : Pin has V E H T oG oT w0 w1 w2 w3 lo hi st ep hl hh mv ac pt tk et lm pE pA B S) (h : Nat) (hr : prcv st h)  : Q_n4 has V E H T oG oT w0 w1 w2 w3 lo hi (pfu st h 0) ep hl hh mv ac pt tk et lm pE pA (B + 2) S := by
  have i_n4 := Pin_n4 I
  clear I
  simp only [Q_n4, pokM, pown, prcv, pgiv, ppge, pfu] at *
  grind
set_option maxHeartbeats 400000 in
theorem pt_drop_n5 {has : Prop} {V E H T oG oT w0 w1 w2 w3 lo hi : Int} {st ep hl hh mv ac pt tk et lm pE pA : Nat → Int} {B : Int} {S : (Nat → Int) → Prop} (I : Pin has V E H T oG oT w0 w1 w2 w3 lo hi st ep hl hh mv ac pt tk et lm pE pA B S) (h : Nat) (hr : prcv st h)  : Q_n5 has V E H T oG oT w0 w1 w2 w3 lo hi (pfu st h 0) ep hl hh mv ac pt tk et lm pE pA (B + 2) S := by
  have i_n5 := Pin_n5 I
  clear I
  simp only [Q_n5, pokM, pown, prcv, pgiv, ppge, pfu] at *
  grind
set_option maxHeartbeats 400000 in
theorem pt_drop_n6 {has : Prop} {V E H T oG oT w0 w1 w2 w3 lo hi : Int} {st ep hl hh mv ac pt tk et lm pE pA : Nat → Int} {B : Int} {S : (Nat → Int) → Prop} (I : Pin has V E H T oG oT w0 w1 w2 w3 lo hi st ep hl hh mv ac pt tk et lm pE pA B S) (h : Nat) (hr : prcv st h)  : Q_n6 has V E H T oG oT w0 w1 w2 w3 lo hi (pfu st h 0) ep hl hh mv ac pt tk et lm pE pA (B + 2) S := by
  have i_n6 := Pin_n6 I
  clear I
  simp only [Q_n6, pokM, pown, prcv, pgiv, ppge, pfu] at *
  grind
set_option maxHeartbeats 400000 in
theorem pt_drop_n7 {has : Prop} {V E H T oG oT w0 w1 w2 w3 lo hi : Int} {st ep hl hh mv ac pt tk et lm pE pA : Nat → Int} {B : Int} {S : (Nat → Int) → Prop} (I : Pin has V E H T oG oT w0 w1 w2 w3 lo hi st ep hl hh mv ac pt tk et lm pE pA B S) (h : Nat) (hr : prcv st h)  : Q_n7 has V E H T oG oT w0 w1 w2 w3 lo hi (pfu st h 0) ep hl hh mv ac pt tk et lm pE pA (B + 2) S := by
  have i_n7 := Pin_n7 I
  clear I
  simp only [Q_n7, pokM, pown, prcv, pgiv, ppge, pfu] at *
  grind
set_option maxHeartbeats 400000 in
theorem pt_drop_o {has : Prop} {V E H T oG oT w0 w1 w2 w3 lo hi : Int} {st ep hl hh mv ac pt tk et lm pE pA : Nat → Int} {B : Int} {S : (Nat → Int) → Prop} (I : Pin has V E H T oG oT w0 w1 w2 w3 lo hi st ep hl hh mv ac pt tk et lm pE pA B S) (h : Nat) (hr : prcv st h)  : Q_o has V E H T oG oT w0 w1 w2 w3 lo hi (pfu st h 0) ep hl hh mv ac pt tk et lm pE pA (B + 2) S := by
  have i_o := Pin_o I
  clear I
  simp only [Q_o, pokM, pown, prcv, pgiv, ppge, pfu] at *
  grind
set_option maxHeartbeats 400000 in
theorem pt_drop_p {has : Prop} {V E H T oG oT w0 w1 w2 w3 lo hi : Int} {st ep hl hh mv ac pt tk et lm pE pA : Nat → Int} {B : Int} {S : (Nat → Int) → Prop} (I : Pin has V E H T oG oT w0 w1 w2 w3 lo hi st ep hl hh mv ac pt tk et lm pE pA B S) (h : Nat) (hr : prcv st h)  : Q_p has V E H T oG oT w0 w1 w2 w3 lo hi (pfu st h 0) ep hl hh mv ac pt tk et lm pE pA (B + 2) S := by
  have i_p := Pin_p I
  clear I
  simp only [Q_p, pokM, pown, prcv, pgiv, ppge, pfu] at *
  grind
set_option maxHeartbeats 400000 in
theorem pt_drop_q {has : Prop} {V E H T oG oT w0 w1 w2 w3 lo hi : Int} {st ep hl hh mv ac pt tk et lm pE pA : Nat → Int} {B : Int} {S : (Nat → Int) → Prop} (I : Pin has V E H T oG oT w0 w1 w2 w3 lo hi st ep hl hh mv ac pt tk et lm pE pA B S) (h : Nat) (hr : prcv st h)  : Q_q has V E H T oG oT w0 w1 w2 w3 lo hi (pfu st h 0) ep hl hh mv ac pt tk et lm pE pA (B + 2) S := by
  have i_q := Pin_q I
  clear I
  simp only [Q_q, pokM, pown, prcv, pgiv, ppge, pfu] at *
  grind
set_option maxHeartbeats 400000 in
theorem pt_drop_q2 {has : Prop} {V E H T oG oT w0 w1 w2 w3 lo hi : Int} {st ep hl hh mv ac pt tk et lm pE pA : Nat → Int} {B : Int} {S : (Nat → Int) → Prop} (I : Pin has V E H T oG oT w0 w1 w2 w3 lo hi st ep hl hh mv ac pt tk et lm pE pA B S) (h : Nat) (hr : prcv st h)  : Q_q2 has V E H T oG oT w0 w1 w2 w3 lo hi (pfu st h 0) ep hl hh mv ac pt tk et lm pE pA (B + 2) S := by
  have i_q2 := Pin_q2 I
  clear I
  simp only [Q_q2, pokM, pown, prcv, pgiv, ppge, pfu] at *
  grind
set_option maxHeartbeats 400000 in
theorem pt_drop_q3 {has : Prop} {V E H T oG oT w0 w1 w2 w3 lo hi : Int} {st ep hl hh mv ac pt tk et lm pE pA : Nat → Int} {B : Int} {S : (Nat → Int) → Prop} (I : Pin has V E H T oG oT w0 w1 w2 w3 lo hi st ep hl hh mv ac pt tk et lm pE pA B S) (h : Nat) (hr : prcv st h)  : Q_q3 has V E H T oG oT w0 w1 w2 w3 lo hi (pfu st h 0) ep hl hh mv ac pt tk et lm pE pA (B + 2) S := by
  have i_q3 := Pin_q3 I
  clear I
  simp only [Q_q3, pokM, pown, prcv, pgiv, ppge, pfu] at *
  grind
set_option maxHeartbeats 400000 in
theorem pt_drop_w {has : Prop} {V E H T oG oT w0 w1 w2 w3 lo hi : Int} {st ep hl hh mv ac pt tk et lm pE pA : Nat → Int} {B : Int} {S : (Nat → Int) → Prop} (I : Pin has V E H T oG oT w0 w1 w2 w3 lo hi st ep hl hh mv ac pt tk et lm pE pA B S) (h : Nat) (hr : prcv st h)  : Q_w has V E H T oG oT w0 w1 w2 w3 lo hi (pfu st h 0) ep hl hh mv ac pt tk et lm pE pA (B + 2) S := by
  have i_w := Pin_w I
  clear I
  simp only [Q_w, pokM, pown, prcv, pgiv, ppge, pfu] at *
  grind
theorem pt_drop {has : Prop} {V E H T oG oT w0 w1 w2 w3 lo hi : Int} {st ep hl hh mv ac pt tk et lm pE pA : Nat → Int} {B : Int} {S : (Nat → Int) → Prop} (I : Pin has V E H T oG oT w0 w1 w2 w3 lo hi st ep hl hh mv ac pt tk et lm pE pA B S) (h : Nat) (hr : prcv st h) : Pin has V E H T oG oT w0 w1 w2 w3 lo hi (pfu st h 0) ep hl hh mv ac pt tk et lm pE pA (B + 2) S := by
  exact ⟨pt_drop_v0 I h hr , pt_drop_a I h hr , pt_drop_b I h hr , pt_drop_c I h hr , pt_drop_d I h hr , pt_drop_e I h hr , pt_drop_f I h hr , pt_drop_f2 I h hr , pt_drop_f3 I h hr , pt_drop_g I h hr , pt_drop_g0 I h hr , pt_drop_g1 I h hr , pt_drop_g2 I h hr , pt_drop_h7 I h hr , pt_drop_h9 I h hr , pt_drop_h10 I h hr , pt_drop_h11 I h hr , pt_drop_h12 I h hr , pt_drop_k1 I h hr , pt_drop_k2 I h hr , pt_drop_k8 I h hr , pt_drop_l4 I h hr , pt_drop_l5 I h hr , pt_drop_l3 I h hr , pt_drop_m1 I h hr , pt_drop_m2 I h hr , pt_drop_m3 I h hr , pt_drop_n0 I h hr , pt_drop_n1 I h hr , pt_drop_n2 I h hr , pt_drop_n3 I h hr , pt_drop_n4 I h hr , pt_drop_n5 I h hr , pt_drop_n6 I h hr , pt_drop_n7 I h hr , pt_drop_o I h hr , pt_drop_p I h hr , pt_drop_q I h hr , pt_drop_q2 I h hr , pt_drop_q3 I h hr , pt_drop_w I h hr ⟩
set_option maxHeartbeats 400000 in
theorem pt_clr0_v0 {has : Prop} {V E H T oG oT w0 w1 w2 w3 lo hi : Int} {st ep hl hh mv ac pt tk et lm pE pA : Nat → Int} {B : Int} {S : (Nat → Int) → Prop} (I : Pin has V E H T oG oT w0 w1 w2 w3 lo hi st ep hl hh mv ac pt tk et lm pE pA B S) (m : (Nat → Int)) (hS : S m) (hk : (m 0) = 8) (he : (m 3) = w0) (hw : w0 = V)  : Q_v0 has V E H T oG oT (-1) w1 w2 w3 lo hi st ep hl hh mv ac pt tk et lm pE pA (B + 2) S := by
  have i_v0 := Pin_v0 I
  clear I
  simp only [Q_v0, pokM, pown, prcv, pgiv, ppge, pfu] at *
  grind
set_option maxHeartbeats 400000 in
theorem pt_clr0_a {has : Prop} {V E H T oG oT w0 w1 w2 w3 lo hi : Int} {st ep hl hh mv ac pt tk et lm pE pA : Nat → Int} {B : Int} {S : (Nat → Int) → Prop} (I : Pin has V E H T oG oT w0 w1 w2 w3 lo hi st ep hl hh mv ac pt tk et lm pE pA B S) (m : (Nat → Int)) (hS : S m) (hk : (m 0) = 8) (he : (m 3) = w0) (hw : w0 = V)  : Q_a has V E H T oG oT (-1) w1 w2 w3 lo hi st ep hl hh mv ac pt tk et lm pE pA (B + 2) S := by
  have i_a := Pin_a I
  clear I
  simp only [Q_a, pokM, pown, prcv, pgiv, ppge, pfu] at *
  grind
set_option maxHeartbeats 400000 in
theorem pt_clr0_b {has : Prop} {V E H T oG oT w0 w1 w2 w3 lo hi : Int} {st ep hl hh mv ac pt tk et lm pE pA : Nat → Int} {B : Int} {S : (Nat → Int) → Prop} (I : Pin has V E H T oG oT w0 w1 w2 w3 lo hi st ep hl hh mv ac pt tk et lm pE pA B S) (m : (Nat → Int)) (hS : S m) (hk : (m 0) = 8) (he : (m 3) = w0) (hw : w0 = V)  : Q_b has V E H T oG oT (-1) w1 w2 w3 lo hi st ep hl hh mv ac pt tk et lm pE pA (B + 2) S := by
  have i_b := Pin_b I
  clear I
  simp only [Q_b, pokM, pown, prcv, pgiv, ppge, pfu] at *
  grind
set_option maxHeartbeats 400000 in
theorem pt_clr0_c {has : Prop} {V E H T oG oT w0 w1 w2 w3 lo hi : Int} {st ep hl hh mv ac pt tk et lm pE pA : Nat → Int} {B : Int} {S : (Nat → Int) → Prop} (I : Pin has V E H T oG oT w0 w1 w2 w3 lo hi st ep hl hh mv ac pt tk et lm pE pA B S) (m : (Nat → Int)) (hS : S m) (hk : (m 0) = 8) (he : (m 3) = w0) (hw : w0 = V)  : Q_c has V E H T oG oT (-1) w1 w2 w3 lo hi st ep hl hh mv ac pt tk et lm pE pA (B + 2) S := by
  have i_c := Pin_c I
  clear I
  simp only [Q_c, pokM, pown, prcv, pgiv, ppge, pfu] at *
  grind
set_option maxHeartbeats 400000 in
theorem pt_clr0_d {has : Prop} {V E H T oG oT w0 w1 w2 w3 lo hi : Int} {st ep hl hh mv ac pt tk et lm pE pA : Nat → Int} {B : Int} {S : (Nat → Int) → Prop} (I : Pin has V E H T oG oT w0 w1 w2 w3 lo hi st ep hl hh mv ac pt tk et lm pE pA B S) (m : (Nat → Int)) (hS : S m) (hk : (m 0) = 8) (he : (m 3) = w0) (hw : w0 = V)  : Q_d has V E H T oG oT (-1) w1 w2 w3 lo hi st ep hl hh mv ac pt tk et lm pE pA (B + 2) S := by
  have i_d := Pin_d I
  clear I
  simp only [Q_d, pokM, pown, prcv, pgiv, ppge, pfu] at *
  grind
set_option maxHeartbeats 400000 in
theorem pt_clr0_e {has : Prop} {V E H T oG oT w0 w1 w2 w3 lo hi : Int} {st ep hl hh mv ac pt tk et lm pE pA : Nat → Int} {B : Int} {S : (Nat → Int) → Prop} (I : Pin has V E H T oG oT w0 w1 w2 w3 lo hi st ep hl hh mv ac pt tk et lm pE pA B S) (m : (Nat → Int)) (hS : S m) (hk : (m 0) = 8) (he : (m 3) = w0) (hw : w0 = V)  : Q_e has V E H T oG oT (-1) w1 w2 w3 lo hi st ep hl hh mv ac pt tk et lm pE pA (B + 2) S := by
  have i_e := Pin_e I
  clear I
  simp only [Q_e, pokM, pown, prcv, pgiv, ppge, pfu] at *
  grind
set_option maxHeartbeats 400000 in
theorem pt_clr0_f {has : Prop} {V E H T oG oT w0 w1 w2 w3 lo hi : Int} {st ep hl hh mv ac pt tk et lm pE pA : Nat → Int} {B : Int} {S : (Nat → Int) → Prop} (I : Pin has V E H T oG oT w0 w1 w2 w3 lo hi st ep hl hh mv ac pt tk et lm pE pA B S) (m : (Nat → Int)) (hS : S m) (hk : (m 0) = 8) (he : (m 3) = w0) (hw : w0 = V)  : Q_f has V E H T oG oT (-1) w1 w2 w3 lo hi st ep hl hh mv ac pt tk et lm pE pA (B + 2) S := by
  have i_f := Pin_f I
  clear I
  simp only [Q_f, pokM, pown, prcv, pgiv, ppge, pfu] at *
  grind
set_option maxHeartbeats 400000 in
theorem pt_clr0_f2 {has : Prop} {V E H T oG oT w0 w1 w2 w3 lo hi : Int} {st ep hl hh mv ac pt tk et lm pE pA : Nat → Int} {B : Int} {S : (Nat → Int) → Prop} (I : Pin has V E H T oG oT w0 w1 w2 w3 lo hi st ep hl hh mv ac pt tk et lm pE pA B S) (m : (Nat → Int)) (hS : S m) (hk : (m 0) = 8) (he : (m 3) = w0) (hw : w0 = V)  : Q_f2 has V E H T oG oT (-1) w1 w2 w3 lo hi st ep hl hh mv ac pt tk et lm pE pA (B + 2) S := by
  have i_f2 := Pin_f2 I
  clear I
  simp only [Q_f2, pokM, pown, prcv, pgiv, ppge, pfu] at *
  grind
set_option maxHeartbeats 400000 in
theorem pt_clr0_f3 {has : Prop} {V E H T oG oT w0 w1 w2 w3 lo hi : Int} {st ep hl hh mv ac pt tk et lm pE pA : Nat → Int} {B : Int} {S : (Nat → Int) → Prop} (I : Pin has V E H T oG oT w0 w1 w2 w3 lo hi st ep hl hh mv ac pt tk et lm pE pA B S) (m : (Nat → Int)) (hS : S m) (hk : (m 0) = 8) (he : (m 3) = w0) (hw : w0 = V)  : Q_f3 has V E H T oG oT (-1) w1 w2 w3 lo hi st ep hl hh mv ac pt tk et lm pE pA (B + 2) S := by
  have i_f3 := Pin_f3 I
  clear I
  simp only [Q_f3, pokM, pown, prcv, pgiv, ppge, pfu] at *
  grind
set_option maxHeartbeats 400000 in
theorem pt_clr0_g {has : Prop} {V E H T oG oT w0 w1 w2 w3 lo hi : Int} {st ep hl hh mv ac pt tk et lm pE pA : Nat → Int} {B : Int} {S : (Nat → Int) → Prop} (I : Pin has V E H T oG oT w0 w1 w2 w3 lo hi st ep hl hh mv ac pt tk et lm pE pA B S) (m : (Nat → Int)) (hS : S m) (hk : (m 0) = 8) (he : (m 3) = w0) (hw : w0 = V)  : Q_g has V E H T oG oT (-1) w1 w2 w3 lo hi st ep hl hh mv ac pt tk et lm pE pA (B + 2) S := by
  have i_g := Pin_g I
  clear I
  simp only [Q_g, pokM, pown, prcv, pgiv, ppge, pfu] at *
  grind
set_option maxHeartbeats 400000 in
theorem pt_clr0_g0 {has : Prop} {V E H T oG oT w0 w1 w2 w3 lo hi : Int} {st ep hl hh mv ac pt tk et lm pE pA : Nat → Int} {B : Int} {S : (Nat → Int) → Prop} (I : Pin has V E H T oG oT w0 w1 w2 w3 lo hi st ep hl hh mv ac pt tk et lm pE pA B S) (m : (Nat → Int)) (hS : S m) (hk : (m 0) = 8) (he : (m 3) = w0) (hw : w0 = V)  : Q_g0 has V E H T oG oT (-1) w1 w2 w3 lo hi st ep hl hh mv ac pt tk et lm pE pA (B + 2) S := by
  have i_g0 := Pin_g0 I
  clear I
  simp only [Q_g0, pokM, pown, prcv, pgiv, ppge, pfu] at *
  grind
set_option maxHeartbeats 400000 in
theorem pt_clr0_g1 {has : Prop} {V E H T oG oT w0 w1 w2 w3 lo hi : Int} {st ep hl hh mv ac pt tk et lm pE pA : Nat → Int} {B : Int} {S : (Nat → Int) → Prop} (I : Pin has V E H T oG oT w0 w1 w2 w3 lo hi st ep hl hh mv ac pt tk et lm pE pA B S) (m : (Nat → Int)) (hS : S m) (hk : (m 0) = 8) (he : (m 3) = w0) (hw : w0 = V)  : Q_g1 has V E H T oG oT (-1) w1 w2 w3 lo hi st ep hl hh mv ac pt tk et lm pE pA (B + 2) S := by
  have i_g1 := Pin_g1 I
  clear I
  simp only [Q_g1, pokM, pown, prcv, pgiv, ppge, pfu] at *
  grind
set_option maxHeartbeats 400000 in
theorem pt_clr0_g2 {has : Prop} {V E H T oG oT w0 w1 w2 w3 lo hi : Int} {st ep hl hh mv ac pt tk et lm pE pA : Nat → Int} {B : Int} {S : (Nat → Int) → Prop} (I : Pin has V E H T oG oT w0 w1 w2 w3 lo hi st ep hl hh mv ac pt tk et lm pE pA B S) (m : (Nat → Int)) (hS : S m) (hk : (m 0) = 8) (he : (m 3) = w0) (hw : w0 = V)  : Q_g2 has V E H T oG oT (-1) w1 w2 w3 lo hi st ep hl hh mv ac pt tk et lm pE pA (B + 2) S := by
  have i_g2 := Pin_g2 I
  clear I
  simp only [Q_g2, pokM, pown, prcv, pgiv, ppge, pfu] at *
  grind
set_option maxHeartbeats 400000 in
theorem pt_clr0_h7 {has : Prop} {V E H T oG oT w0 w1 w2 w3 lo hi : Int} {st ep hl hh mv ac pt tk et lm pE pA : Nat → Int} {B : Int} {S : (Nat → Int) → Prop} (I : Pin has V E H T oG oT w0 w1 w2 w3 lo hi st ep hl hh mv ac pt tk et lm pE pA B S) (m : (Nat → Int)) (hS : S m) (hk : (m 0) = 8) (he : (m 3) = w0) (hw : w0 = V)  : Q_h7 has V E H T oG oT (-1) w1 w2 w3 lo hi st ep hl hh mv ac pt tk et lm pE pA (B + 2) S := by
  have i_h7 := Pin_h7 I
  clear I
  simp only [Q_h7, pokM, pown, prcv, pgiv, ppge, pfu] at *
  grind
set_option maxHeartbeats 400000 in
theorem pt_clr0_h9 {has : Prop} {V E H T oG oT w0 w1 w2 w3 lo hi : Int} {st ep hl hh mv ac pt tk et lm pE pA : Nat → Int} {B : Int} {S : (Nat → Int) → Prop} (I : Pin has V E H T oG oT w0 w1 w2 w3 lo hi st ep hl hh mv ac pt tk et lm pE pA B S) (m : (Nat → Int)) (hS : S m) (hk : (m 0) = 8) (he : (m 3) = w0) (hw : w0 = V)  : Q_h9 has V E H T oG oT (-1) w1 w2 w3 lo hi st ep hl hh mv ac pt tk et lm pE pA (B + 2) S := by
  have i_h9 := Pin_h9 I
  clear I
  simp only [Q_h9, pokM, pown, prcv, pgiv, ppge, pfu] at *
  grind
set_option maxHeartbeats 400000 in
theorem pt_clr0_h10 {has : Prop} {V E H T oG oT w0 w1 w2 w3 lo hi : Int} {st ep hl hh mv ac pt tk et lm pE pA : Nat → Int} {B : Int} {S : (Nat → Int) → Prop} (I : Pin has V E H T oG oT w0 w1 w2 w3 lo hi st ep hl hh mv ac pt tk et lm pE pA B S) (m : (Nat → Int)) (hS : S m) (hk : (m 0) = 8) (he : (m 3) = w0) (hw : w0 = V)  : Q_h10 has V E H T oG oT (-1) w1 w2 w3 lo hi st ep hl hh mv ac pt tk et lm pE pA (B + 2) S := by
  have i_h10 := Pin_h10 I
  clear I
  simp only [Q_h10, pokM, pown, prcv, pgiv, ppge, pfu] at *
  grind
set_option maxHeartbeats 400000 in
theorem pt_clr0_h11 {has : Prop} {V E H T oG oT w0 w1 w2 w3 lo hi : Int} {st ep hl hh mv ac pt tk et lm pE pA : Nat → Int} {B : Int} {S : (Nat → Int) → Prop} (I : Pin has V E H T oG oT w0 w1 w2 w3 lo hi st ep hl hh mv ac pt tk et lm pE pA B S) (m : (Nat → Int)) (hS : S m) (hk : (m 0) = 8) (he : (m 3) = w0) (hw : w0 = V)  : Q_h11 has V E H T oG oT (-1) w1 w2 w3 lo hi st ep hl hh mv ac pt tk et lm pE pA (B + 2) S := by
  have i_h11 := Pin_h11 I
  clear I
  simp only [Q_h11, pokM, pown, prcv, pgiv, ppge, pfu] at *
  grind
set_option maxHeartbeats 400000 in
theorem pt_clr0_h12 {has : Prop} {V E H T oG oT w0 w1 w2 w3 lo hi : Int} {st ep hl hh mv ac pt tk et lm pE pA : Nat → Int} {B : Int} {S : (Nat → Int) → Prop} (I : Pin has V E H T oG oT w0 w1 w2 w3 lo hi st ep hl hh mv ac pt tk et lm pE pA B S) (m : (Nat → Int)) (hS : S m) (hk : (m 0) = 8) (he : (m 3) = w0) (hw : w0 = V)  : Q_h12 has V E H T oG oT (-1) w1 w2 w3 lo hi st ep hl hh mv ac pt tk et lm pE pA (B + 2) S := by
  have i_h12 := Pin_h12 I
  clear I
  simp only [Q_h12, pokM, pown, prcv, pgiv, ppge, pfu] at *
  grind
set_option maxHeartbeats 400000 in
theorem pt_clr0_k1 {has : Prop} {V E H T oG oT w0 w1 w2 w3 lo hi : Int} {st ep hl hh mv ac pt tk et lm pE pA : Nat → Int} {B : Int} {S : (Nat → Int) → Prop} (I : Pin has V E H T oG oT w0 w1 w2 w3 lo hi st ep hl hh mv ac pt tk et lm pE pA B S) (m : (Nat → Int)) (hS : S m) (hk : (m 0) = 8) (he : (m 3) = w0) (hw : w0 = V)  : Q_k1 has V E H T oG oT (-1) w1 w2 w3 lo hi st ep hl hh mv ac pt tk et lm pE pA (B + 2) S := by
  have i_v0 := Pin_v0 I
  have i_a := Pin_a I
  have i_b := Pin_b I
  have i_c := Pin_c I
  have i_d := Pin_d I
  have i_e := Pin_e I
  have i_f := Pin_f I
  have i_f2 := Pin_f2 I
  have i_f3 := Pin_f3 I
  have i_g := Pin_g I
  have i_g0 := Pin_g0 I
  have i_g1 := Pin_g1 I
  have i_g2 := Pin_g2 I
  have i_h7 := Pin_h7 I
  have i_h9 := Pin_h9 I
  have i_h10 := Pin_h10 I
  have i_h11 := Pin_h11 I
  have i_h12 := Pin_h12 I
  have i_k1 := Pin_k1 I
  have i_k2 := Pin_k2 I
  have i_k8 := Pin_k8 I
  have i_l4 := Pin_l4 I
  have i_l5 := Pin_l5 I
  have i_l3 := Pin_l3 I
  have i_m1 := Pin_m1 I
  have i_m2 := Pin_m2 I
  have i_m3 := Pin_m3 I
  have i_n0 := Pin_n0 I
  have i_n1 := Pin_n1 I
  have i_n2 := Pin_n2 I
  have i_n3 := Pin_n3 I
  have i_n4 := Pin_n4 I
  have i_n5 := Pin_n5 I
  have i_n6 := Pin_n6 I
  have i_n7 := Pin_n7 I
  have i_o := Pin_o I
  have i_p := Pin_p I
  have i_q := Pin_q I
  have i_q2 := Pin_q2 I
  have i_q3 := Pin_q3 I
  have i_w := Pin_w I
  clear I
  simp only [Q_a, Q_b, Q_c, Q_d, Q_e, Q_f, Q_f2, Q_f3, Q_g, Q_g0, Q_g1, Q_g2, Q_h10, Q_h11, Q_h12, Q_h7, Q_h9, Q_k1, Q_k2, Q_k8, Q_l3, Q_l4, Q_l5, Q_m1, Q_m2, Q_m3, Q_n0, Q_n1, Q_n2, Q_n3, Q_n4, Q_n5, Q_n6, Q_n7, Q_o, Q_p, Q_q, Q_q2, Q_q3, Q_v0, Q_w, pokM, pown, prcv, pgiv, ppge, pfu] at *
  grind
set_option maxHeartbeats 400000 in
theorem pt_clr0_k2 {has : Prop} {V E H T oG oT w0 w1 w2 w3 lo hi : Int} {st ep hl hh mv ac pt tk et lm pE pA : Nat → Int} {B : Int} {S : (Nat → Int) → Prop} (I : Pin has V E H T oG oT w0 w1 w2 w3 lo hi st ep hl hh mv ac pt tk et lm pE pA B S) (m : (Nat → Int)) (hS : S m) (hk : (m 0) = 8) (he : (m 3) = w0) (hw : w0 = V)  : Q_k2 has V E H T oG oT (-1) w1 w2 w3 lo hi st ep hl hh mv ac pt tk et lm pE pA (B + 2) S := by
  have i_k2 := Pin_k2 I
  clear I
  simp only [Q_k2, pokM, pown, prcv, pgiv, ppge, pfu] at *
  grind
set_option maxHeartbeats 400000 in
theorem pt_clr0_k8 {has : Prop} {V E H T oG oT w0 w1 w2 w3 lo hi : Int} {st ep hl hh mv ac pt tk et lm pE pA : Nat → Int} {B : Int} {S : (Nat → Int) → Prop} (I : Pin has V E H T oG oT w0 w1 w2 w3 lo hi st ep hl hh mv ac pt tk et lm pE pA B S) (m : (Nat → Int)) (hS : S m) (hk : (m 0) = 8) (he : (m 3) = w0) (hw : w0 = V)  : Q_k8 has V E H T oG oT (-1) w1 w2 w3 lo hi st ep hl hh mv ac pt tk et lm pE pA (B + 2) S := by
  have i_k8 := Pin_k8 I
  clear I
  simp only [Q_k8, pokM, pown, prcv, pgiv, ppge, pfu] at *
  grind
set_option maxHeartbeats 400000 in
theorem pt_clr0_l4 {has : Prop} {V E H T oG oT w0 w1 w2 w3 lo hi : Int} {st ep hl hh mv ac pt tk et lm pE pA : Nat → Int} {B : Int} {S : (Nat → Int) → Prop} (I : Pin has V E H T oG oT w0 w1 w2 w3 lo hi st ep hl hh mv ac pt tk et lm pE pA B S) (m : (Nat → Int)) (hS : S m) (hk : (m 0) = 8) (he : (m 3) = w0) (hw : w0 = V)  : Q_l4 has V E H T oG oT (-1) w1 w2 w3 lo hi st ep hl hh mv ac pt tk et lm pE pA (B + 2) S := by
  have i_l4 := Pin_l4 I
  clear I
  simp only [Q_l4, pokM, pown, prcv, pgiv, ppge, pfu] at *
  grind
set_option maxHeartbeats 400000 in
theorem pt_clr0_l5 {has : Prop} {V E H T oG oT w0 w1 w2 w3 lo hi : Int} {st ep hl hh mv ac pt tk et lm pE pA : Nat → Int} {B : Int} {S : (Nat → Int) → Prop} (I : Pin has V E H T oG oT w0 w1 w2 w3 lo hi st ep hl hh mv ac pt tk et lm pE pA B S) (m : (Nat → Int)) (hS : S m) (hk : (m 0) = 8) (he : (m 3) = w0) (hw : w0 = V)  : Q_l5 has V E H T oG oT (-1) w1 w2 w3 lo hi st ep hl hh mv ac pt tk et lm pE pA (B + 2) S := by
  have i_l5 := Pin_l5 I
  clear I
  simp only [Q_l5, pokM, pown, prcv, pgiv, ppge, pfu] at *
  grind
set_option maxHeartbeats 400000 in
theorem pt_clr0_l3 {has : Prop} {V E H T oG oT w0 w1 w2 w3 lo hi : Int} {st ep hl hh mv ac pt tk et lm pE pA : Nat → Int} {B : Int} {S : (Nat → Int) → Prop} (I : Pin has V E H T oG oT w0 w1 w2 w3 lo hi st ep hl hh mv ac pt tk et lm pE pA B S) (m : (Nat → Int)) (hS : S m) (hk : (m 0) = 8) (he : (m 3) = w0) (hw : w0 = V)  : Q_l3 has V E H T oG oT (-1) w1 w2 w3 lo hi st ep hl hh mv ac pt tk et lm pE pA (B + 2) S := by
  have i_l3 := Pin_l3 I
  clear I
  simp only [Q_l3, pokM, pown, prcv, pgiv, ppge, pfu] at *
  grind
set_option maxHeartbeats 400000 in
theorem pt_clr0_m1 {has : Prop} {V E H T oG oT w0 w1 w2 w3 lo hi : Int} {st ep hl hh mv ac pt tk et lm pE pA : Nat → Int} {B : Int} {S : (Nat → Int) → Prop} (I : Pin has V E H T oG oT w0 w1 w2 w3 lo hi st ep hl hh mv ac pt tk et lm pE pA B S) (m : (Nat → Int)) (hS : S m) (hk : (m 0) = 8) (he : (m 3) = w0) (hw : w0 = V)  : Q_m1 has V E H T oG oT (-1) w1 w2 w3 lo hi st ep hl hh mv ac pt tk et lm pE pA (B + 2) S := by
  have i_m1 := Pin_m1 I
  clear I
  simp only [Q_m1, pokM, pown, prcv, pgiv, ppge, pfu] at *
  grind
set_option maxHeartbeats 400000 in
theorem pt_clr0_m2 {has : Prop} {V E H T oG oT w0 w1 w2 w3 lo hi : Int} {st ep hl hh mv ac pt tk et lm pE pA : Nat → Int} {B : Int} {S : (Nat → Int) → Prop} (I : Pin has V E H T oG oT w0 w1 w2 w3 lo hi st ep hl hh mv ac pt tk et lm pE pA B S) (m : (Nat → Int)) (hS : S m) (hk : (m 0) = 8) (he : (m 3) = w0) (hw : w0 = V)  : Q_m2 has V E H T oG oT (-1) w1 w2 w3 lo hi st ep hl hh mv ac pt tk et lm pE pA (B + 2) S := by
  have i_m2 := Pin_m2 I
  clear I
  simp only [Q_m2, pokM, pown, prcv, pgiv, ppge, pfu] at *
  grind
set_option maxHeartbeats 400000 in
theorem pt_clr0_m3 {has : Prop} {V E H T oG oT w0 w1 w2 w3 lo hi : Int} {st ep hl hh mv ac pt tk et lm pE pA : Nat → Int} {B : Int} {S : (Nat → Int) → Prop} (I : Pin has V E H T oG oT w0 w1 w2 w3 lo hi st ep hl hh mv ac pt tk et lm pE pA B S) (m : (Nat → Int)) (hS : S m) (hk : (m 0) = 8) (he : (m 3) = w0) (hw : w0 = V)  : Q_m3 has V E H T oG oT (-1) w1 w2 w3 lo hi st ep hl hh mv ac pt tk et lm pE pA (B + 2) S := by
  have i_m3 := Pin_m3 I
  clear I
  simp only [Q_m3, pokM, pown, prcv, pgiv, ppge, pfu] at *
  grind
set_option maxHeartbeats 400000 in
theorem pt_clr0_n0 {has : Prop} {V E H T oG oT w0 w1 w2 w3 lo hi : Int} {st ep hl hh mv ac pt tk et lm pE pA : Nat → Int} {B : Int} {S : (Nat → Int) → Prop} (I : Pin has V E H T oG oT w0 w1 w2 w3 lo hi st ep hl hh mv ac pt tk et lm pE pA B S) (m : (Nat → Int)) (hS : S m) (hk : (m 0) = 8) (he : (m 3) = w0) (hw : w0 = V)  : Q_n0 has V E H T oG oT (-1) w1 w2 w3 lo hi st ep hl hh mv ac pt tk et lm pE pA (B + 2) S := by
  have i_n0 := Pin_n0 I
  clear I
  simp only [Q_n0, pokM, pown, prcv, pgiv, ppge, pfu] at *
  grind
set_option maxHeartbeats 400000 in
theorem pt_clr0_n1 {has : Prop} {V E H T oG oT w0 w1 w2 w3 lo hi : Int} {st ep hl hh mv ac pt tk et lm pE pA : Nat → Int} {B : Int} {S : (Nat → Int) → Prop} (I : Pin has V E H T oG oT w0 w1 w2 w3 lo hi st ep hl hh mv ac pt tk et lm pE pA B S) (m : (Nat → Int)) (hS : S m) (hk : (m 0) = 8) (he : (m 3) = w0) (hw : w0 = V)  : Q_n1 has V E H T oG oT (-1) w1 w2 w3 lo hi st ep hl hh mv ac pt tk et lm pE pA (B + 2) S := by
  have i_n1 := Pin_n1 I
  clear I
  simp only [Q_n1, pokM, pown, prcv, pgiv, ppge, pfu] at *
  grind
set_option maxHeartbeats 400000 in
theorem pt_clr0_n2 {has : Prop} {V E H T oG oT w0 w1 w2 w3 lo hi : Int} {st ep hl hh mv ac pt tk et lm pE pA : Nat → Int} {B : Int} {S : (Nat → Int) → Prop} (I : Pin has V E H T oG oT w0 w1 w2 w3 lo hi st ep hl hh mv ac pt tk et lm pE pA B S) (m : (Nat → Int)) (hS : S m) (hk : (m 0) = 8) (he : (m 3) = w0) (hw : w0 = V)  : Q_n2 has V E H T oG oT (-1) w1 w2 w3 lo hi st ep hl hh mv ac pt tk et lm pE pA (B + 2) S := by
  have i_n2 := Pin_n2 I
  clear I
  simp only [Q_n2, pokM, pown, prcv, pgiv, ppge, pfu] at *
  grind
set_option maxHeartbeats 400000 in
theorem pt_clr0_n3 {has : Prop} {V E H T oG oT w0 w1 w2 w3 lo hi : Int} {st ep hl hh mv ac pt tk et lm pE pA : Nat → Int} {B : Int} {S : (Nat → Int) → Prop} (I : Pin has V E H T oG oT w0 w1 w2 w3 lo hi st ep hl hh mv ac pt tk et lm pE pA B S) (m : (Nat → Int)) (hS : S m) (hk : (m 0) = 8) (he : (m 3) = w0) (hw : w0 = V)  : Q_n3 has V E H T oG oT (-1) w1 w2 w3 lo hi st ep hl hh mv ac pt tk et lm pE pA (B + 2) S := by
  have i_n3 := Pin_n3 I
  clear I
  simp only [Q_n3, pokM, pown, prcv, pgiv, ppge, pfu] at *
  grind
set_option maxHeartbeats 400000 in
theorem pt_clr0_n4 {has : Prop} {V E H T oG oT w0 w1 w2 w3 lo hi : Int} {st ep hl hh mv ac pt tk et lm pE pA : Nat → Int} {B : Int} {S : (Nat → Int) → Prop} (I : Pin has V E H T oG oT w0 w1 w2 w3 lo hi st ep hl hh mv ac pt tk et lm pE pA B S) (m : (Nat → Int)) (hS : S m) (hk : (m 0) = 8) (he : (m 3) = w0) (hw : w0 = V)  : Q_n4 has V E H T oG oT (-1) w1 w2 w3 lo hi st ep hl hh mv ac pt tk et lm pE pA (B + 2) S := by
  have i_n4 := Pin_n4 I
  clear I
  simp only [Q_n4, pokM, pown, prcv, pgiv, ppge, pfu] at *
  grind
set_option maxHeartbeats 400000 in
theorem pt_clr0_n5 {has : Prop} {V E H T oG oT w0 w1 w2 w3 lo hi : Int} {st ep hl hh mv ac pt tk et lm pE pA : Nat → Int} {B : Int} {S : (Nat → Int) → Prop} (I : Pin has V E H T oG oT w0 w1 w2 w3 lo hi st ep hl hh mv ac pt tk et lm pE pA B S) (m : (Nat → Int)) (hS : S m) (hk : (m 0) = 8) (he : (m 3) = w0) (hw : w0 = V)  : Q_n5 has V E H T oG oT (-1) w1 w2 w3 lo hi st ep hl hh mv ac pt tk et lm pE pA (B + 2) S := by
  have i_n5 := Pin_n5 I
  clear I
  simp only [Q_n5, pokM, pown, prcv, pgiv, ppge, pfu] at *
  grind
set_option maxHeartbeats 400000 in
theorem pt_clr0_n6 {has : Prop} {V E H T oG oT w0 w1 w2 w3 lo hi : Int} {st ep hl hh mv ac pt tk et lm pE pA : Nat → Int} {B : Int} {S : (Nat → Int) → Prop} (I : Pin has V E H T oG oT w0 w1 w2 w3 lo hi st ep hl hh mv ac pt tk et lm pE pA B S) (m : (Nat → Int)) (hS : S m) (hk : (m 0) = 8) (he : (m 3) = w0) (hw : w0 = V)  : Q_n6 has V E H T oG oT (-1) w1 w2 w3 lo hi st ep hl hh mv ac pt tk et lm pE pA (B + 2) S := by
  have i_n6 := Pin_n6 I
  clear I
  simp only [Q_n6, pokM, pown, prcv, pgiv, ppge, pfu] at *
  grind
set_option maxHeartbeats 400000 in
theorem pt_clr0_n7 {has : Prop} {V E H T oG oT w0 w1 w2 w3 lo hi : Int} {st ep hl hh mv ac pt tk et lm pE pA : Nat → Int} {B : Int} {S : (Nat → Int) → Prop} (I : Pin has V E H T oG oT w0 w1 w2 w3 lo hi st ep hl hh mv ac pt tk et lm pE pA B S) (m : (Nat → Int)) (hS : S m) (hk : (m 0) = 8) (he : (m 3) = w0) (hw : w0 = V)  : Q_n7 has V E H T oG oT (-1) w1 w2 w3 lo hi st ep hl hh mv ac pt tk et lm pE pA (B + 2) S := by
  have i_n7 := Pin_n7 I
  clear I
  simp only [Q_n7, pokM, pown, prcv, pgiv, ppge, pfu] at *
  grind
set_option maxHeartbeats 400000 in
theorem pt_clr0_o {has : Prop} {V E H T oG oT w0 w1 w2 w3 lo hi : Int} {st ep hl hh mv ac pt tk et lm pE pA : Nat → Int} {B : Int} {S : (Nat → Int) → Prop} (I : Pin has V E H T oG oT w0 w1 w2 w3 lo hi st ep hl hh mv ac pt tk et lm pE pA B S) (m : (Nat → Int)) (hS : S m) (hk : (m 0) = 8) (he : (m 3) = w0) (hw : w0 = V)  : Q_o has V E H T oG oT (-1) w1 w2 w3 lo hi st ep hl hh mv ac pt tk et lm pE pA (B + 2) S := by
  have i_o := Pin_o I
  clear I
  simp only [Q_o, pokM, pown, prcv, pgiv, ppge, pfu] at *
  grind
set_option maxHeartbeats 400000 in
theorem pt_clr0_p {has : Prop} {V E H T oG oT w0 w1 w2 w3 lo hi : Int} {st ep hl hh mv ac pt tk et lm pE pA : Nat → Int} {B : Int} {S : (Nat → Int) → Prop} (I : Pin has V E H T oG oT w0 w1 w2 w3 lo hi st ep hl hh mv ac pt tk et lm pE pA B S) (m : (Nat → Int)) (hS : S m) (hk : (m 0) = 8) (he : (m 3) = w0) (hw : w0 = V)  : Q_p has V E H T oG oT (-1) w1 w2 w3 lo hi st ep hl hh mv ac pt tk et lm pE pA (B + 2) S := by
  have i_p := Pin_p I
  clear I
  simp only [Q_p, pokM, pown, prcv, pgiv, ppge, pfu] at *
  grind
set_option maxHeartbeats 400000 in
theorem pt_clr0_q {has : Prop} {V E H T oG oT w0 w1 w2 w3 lo hi : Int} {st ep hl hh mv ac pt tk et lm pE pA : Nat → Int} {B : Int} {S : (Nat → Int) → Prop} (I : Pin has V E H T oG oT w0 w1 w2 w3 lo hi st ep hl hh mv ac pt tk et lm pE pA B S) (m : (Nat → Int)) (hS : S m) (hk : (m 0) = 8) (he : (m 3) = w0) (hw : w0 = V)  : Q_q has V E H T oG oT (-1) w1 w2 w3 lo hi st ep hl hh mv ac pt tk et lm pE pA (B + 2) S := by
  have i_q := Pin_q I
  clear I
  simp only [Q_q, pokM, pown, prcv, pgiv, ppge, pfu] at *
  grind
set_option maxHeartbeats 400000 in
theorem pt_clr0_q2 {has : Prop} {V E H T oG oT w0 w1 w2 w3 lo hi : Int} {st ep hl hh mv ac pt tk et lm pE pA : Nat → Int} {B : Int} {S : (Nat → Int) → Prop} (I : Pin has V E H T oG oT w0 w1 w2 w3 lo hi st ep hl hh mv ac pt tk et lm pE pA B S) (m : (Nat → Int)) (hS : S m) (hk : (m 0) = 8) (he : (m 3) = w0) (hw : w0 = V)  : Q_q2 has V E H T oG oT (-1) w1 w2 w3 lo hi st ep hl hh mv ac pt tk et lm pE pA (B + 2) S := by
  have i_q2 := Pin_q2 I
  clear I
  simp only [Q_q2, pokM, pown, prcv, pgiv, ppge, pfu] at *
  grind
set_option maxHeartbeats 400000 in
theorem pt_clr0_q3 {has : Prop} {V E H T oG oT w0 w1 w2 w3 lo hi : Int} {st ep hl hh mv ac pt tk et lm pE pA : Nat → Int} {B : Int} {S : (Nat → Int) → Prop} (I : Pin has V E H T oG oT w0 w1 w2 w3 lo hi st ep hl hh mv ac pt tk et lm pE pA B S) (m : (Nat → Int)) (hS : S m) (hk : (m 0) = 8) (he : (m 3) = w0) (hw : w0 = V)  : Q_q3 has V E H T oG oT (-1) w1 w2 w3 lo hi st ep hl hh mv ac pt tk et lm pE pA (B + 2) S := by
  have i_q3 := Pin_q3 I
  clear I
  simp only [Q_q3, pokM, pown, prcv, pgiv, ppge, pfu] at *
  grind
set_option maxHeartbeats 400000 in
theorem pt_clr0_w {has : Prop} {V E H T oG oT w0 w1 w2 w3 lo hi : Int} {st ep hl hh mv ac pt tk et lm pE pA : Nat → Int} {B : Int} {S : (Nat → Int) → Prop} (I : Pin has V E H T oG oT w0 w1 w2 w3 lo hi st ep hl hh mv ac pt tk et lm pE pA B S) (m : (Nat → Int)) (hS : S m) (hk : (m 0) = 8) (he : (m 3) = w0) (hw : w0 = V)  : Q_w has V E H T oG oT (-1) w1 w2 w3 lo hi st ep hl hh mv ac pt tk et lm pE pA (B + 2) S := by
  have i_w := Pin_w I
  clear I
  simp only [Q_w, pokM, pown, prcv, pgiv, ppge, pfu] at *
  grind
theorem pt_clr0 {has : Prop} {V E H T oG oT w0 w1 w2 w3 lo hi : Int} {st ep hl hh mv ac pt tk et lm pE pA : Nat → Int} {B : Int} {S : (Nat → Int) → Prop} (I : Pin has V E H T oG oT w0 w1 w2 w3 lo hi st ep hl hh mv ac pt tk et lm pE pA B S) (m : (Nat → Int)) (hS : S m) (hk : (m 0) = 8) (he : (m 3) = w0) (hw : w0 = V) : Pin has V E H T oG oT (-1) w1 w2 w3 lo hi st ep hl hh mv ac pt tk et lm pE pA (B + 2) S := by
  exact ⟨pt_clr0_v0 I m hS hk he hw , pt_clr0_a I m hS hk he hw , pt_clr0_b I m hS hk he hw , pt_clr0_c I m hS hk he hw , pt_clr0_d I m hS hk he hw , pt_clr0_e I m hS hk he hw , pt_clr0_f I m hS hk he hw , pt_clr0_f2 I m hS hk he hw , pt_clr0_f3 I m hS hk he hw , pt_clr0_g I m hS hk he hw , pt_clr0_g0 I m hS hk he hw , pt_clr0_g1 I m hS hk he hw , pt_clr0_g2 I m hS hk he hw , pt_clr0_h7 I m hS hk he hw , pt_clr0_h9 I m hS hk he hw , pt_clr0_h10 I m hS hk he hw , pt_clr0_h11 I m hS hk he hw , pt_clr0_h12 I m hS hk he hw , pt_clr0_k1 I m hS hk he hw , pt_clr0_k2 I m hS hk he hw , pt_clr0_k8 I m hS hk he hw , pt_clr0_l4 I m hS hk he hw , pt_clr0_l5 I m hS hk he hw , pt_clr0_l3 I m hS hk he hw , pt_clr0_m1 I m hS hk he hw , pt_clr0_m2 I m hS hk he hw , pt_clr0_m3 I m hS hk he hw , pt_clr0_n0 I m hS hk he hw , pt_clr0_n1 I m hS hk he hw , pt_clr0_n2 I m hS hk he hw , pt_clr0_n3 I m hS hk he hw , pt_clr0_n4 I m hS hk he hw , pt_clr0_n5 I m hS hk he hw , pt_clr0_n6 I m hS hk he hw , pt_clr0_n7 I m hS hk he hw , pt_clr0_o I m hS hk he hw , pt_clr0_p I m hS hk he hw , pt_clr0_q I m hS hk he hw , pt_clr0_q2 I m hS hk he hw , pt_clr0_q3 I m hS hk he hw , pt_clr0_w I m hS hk he hw ⟩
set_option maxHeartbeats 400000 in
theorem pt_clr1_v0 {has : Prop} {V E H T oG oT w0 w1 w2 w3 lo hi : Int} {st ep hl hh mv ac pt tk et lm pE pA : Nat → Int} {B : Int} {S : (Nat → Int) → Prop} (I : Pin has V E H T oG oT w0 w1 w2 w3 lo hi st ep hl hh mv ac pt tk et lm pE pA B S) (m : (Nat → Int)) (hS : S m) (hk : (m 0) = 10) (he : (m 3) = w1) (hw : w1 = V)  : Q_v0 has V E H T oG oT w0 (-1) w2 w3 lo hi st ep hl hh mv ac pt tk et lm pE pA (B + 2) S := by
  have i_v0 := Pin_v0 I
  clear I
  simp only [Q_v0, pokM, pown, prcv, pgiv, ppge, pfu] at *
  grind
set_option maxHeartbeats 400000 in
theorem pt_clr1_a {has : Prop} {V E H T oG oT w0 w1 w2 w3 lo hi : Int} {st ep hl hh mv ac pt tk et lm pE pA : Nat → Int} {B : Int} {S : (Nat → Int) → Prop} (I : Pin has V E H T oG oT w0 w1 w2 w3 lo hi st ep hl hh mv ac pt tk et lm pE pA B S) (m : (Nat → Int)) (hS : S m) (hk : (m 0) = 10) (he : (m 3) = w1) (hw : w1 = V)  : Q_a has V E H T oG oT w0 (-1) w2 w3 lo hi st ep hl hh mv ac pt tk et lm pE pA (B + 2) S := by
  have i_a := Pin_a I
  clear I
  simp only [Q_a, pokM, pown, prcv, pgiv, ppge, pfu] at *
  grind
set_option maxHeartbeats 400000 in
theorem pt_clr1_b {has : Prop} {V E H T oG oT w0 w1 w2 w3 lo hi : Int} {st ep hl hh mv ac pt tk et lm pE pA : Nat → Int} {B : Int} {S : (Nat → Int) → Prop} (I : Pin has V E H T oG oT w0 w1 w2 w3 lo hi st ep hl hh mv ac pt tk et lm pE pA B S) (m : (Nat → Int)) (hS : S m) (hk : (m 0) = 10) (he : (m 3) = w1) (hw : w1 = V)  : Q_b has V E H T oG oT w0 (-1) w2 w3 lo hi st ep hl hh mv ac pt tk et lm pE pA (B + 2) S := by
  have i_b := Pin_b I
  have i_h10 := Pin_h10 I
  clear I
  simp only [Q_b, Q_h10, pokM, pown, prcv, pgiv, ppge, pfu] at *
  grind
set_option maxHeartbeats 400000 in
theorem pt_clr1_c {has : Prop} {V E H T oG oT w0 w1 w2 w3 lo hi : Int} {st ep hl hh mv ac pt tk et lm pE pA : Nat → Int} {B : Int} {S : (Nat → Int) → Prop} (I : Pin has V E H T oG oT w0 w1 w2 w3 lo hi st ep hl hh mv ac pt tk et lm pE pA B S) (m : (Nat → Int)) (hS : S m) (hk : (m 0) = 10) (he : (m 3) = w1) (hw : w1 = V)  : Q_c has V E H T oG oT w0 (-1) w2 w3 lo hi st ep hl hh mv ac pt tk et lm pE pA (B + 2) S := by
  have i_c := Pin_c I
  clear I
  simp only [Q_c, pokM, pown, prcv, pgiv, ppge, pfu] at *
  grind
set_option maxHeartbeats 400000 in
theorem pt_clr1_d {has : Prop} {V E H T oG oT w0 w1 w2 w3 lo hi : Int} {st ep hl hh mv ac pt tk et lm pE pA : Nat → Int} {B : Int} {S : (Nat → Int) → Prop} (I : Pin has V E H T oG oT w0 w1 w2 w3 lo hi st ep hl hh mv ac pt tk et lm pE pA B S) (m : (Nat → Int)) (hS : S m) (hk : (m 0) = 10) (he : (m 3) = w1) (hw : w1 = V)  : Q_d has V E H T oG oT w0 (-1) w2 w3 lo hi st ep hl hh mv ac pt tk et lm pE pA (B + 2) S := by
  have i_d := Pin_d I
  clear I
  simp only [Q_d, pokM, pown, prcv, pgiv, ppge, pfu] at *
  grind
set_option maxHeartbeats 400000 in
theorem pt_clr1_e {has : Prop} {V E H T oG oT w0 w1 w2 w3 lo hi : Int} {st ep hl hh mv ac pt tk et lm pE pA : Nat → Int} {B : Int} {S : (Nat → Int) → Prop} (I : Pin has V E H T oG oT w0 w1 w2 w3 lo hi st ep hl hh mv ac pt tk et lm pE pA B S) (m : (Nat → Int)) (hS : S m) (hk : (m 0) = 10) (he : (m 3) = w1) (hw : w1 = V)  : Q_e has V E H T oG oT w0 (-1) w2 w3 lo hi st ep hl hh mv ac pt tk et lm pE pA (B + 2) S := by
  have i_e := Pin_e I
  clear I
  simp only [Q_e, pokM, pown, prcv, pgiv, ppge, pfu] at *
  grind
set_option maxHeartbeats 400000 in
theorem pt_clr1_f {has : Prop} {V E H T oG oT w0 w1 w2 w3 lo hi : Int} {st ep hl hh mv ac pt tk et lm pE pA : Nat → Int} {B : Int} {S : (Nat → Int) → Prop} (I : Pin has V E H T oG oT w0 w1 w2 w3 lo hi st ep hl hh mv ac pt tk et lm pE pA B S) (m : (Nat → Int)) (hS : S m) (hk : (m 0) = 10) (he : (m 3) = w1) (hw : w1 = V)  : Q_f has V E H T oG oT w0 (-1) w2 w3 lo hi st ep hl hh mv ac pt tk et lm pE pA (B + 2) S := by
  have i_f := Pin_f I
  clear I
  simp only [Q_f, pokM, pown, prcv, pgiv, ppge, pfu] at *
  grind
set_option maxHeartbeats 400000 in
theorem pt_clr1_f2 {has : Prop} {V E H T oG oT w0 w1 w2 w3 lo hi : Int} {st ep hl hh mv ac pt tk et lm pE pA : Nat → Int} {B : Int} {S : (Nat → Int) → Prop} (I : Pin has V E H T oG oT w0 w1 w2 w3 lo hi st ep hl hh mv ac pt tk et lm pE pA B S) (m : (Nat → Int)) (hS : S m) (hk : (m 0) = 10) (he : (m 3) = w1) (hw : w1 = V)  : Q_f2 has V E H T oG oT w0 (-1) w2 w3 lo hi st ep hl hh mv ac pt tk et lm pE pA (B + 2) S := by
  have i_f2 := Pin_f2 I
  clear I
  simp only [Q_f2, pokM, pown, prcv, pgiv, ppge, pfu] at *
  grind
set_option maxHeartbeats 400000 in
theorem pt_clr1_f3 {has : Prop} {V E H T oG oT w0 w1 w2 w3 lo hi : Int} {st ep hl hh mv ac pt tk et lm pE pA : Nat → Int} {B : Int} {S : (Nat → Int) → Prop} (I : Pin has V E H T oG oT w0 w1 w2 w3 lo hi st ep hl hh mv ac pt tk et lm pE pA B S) (m : (Nat → Int)) (hS : S m) (hk : (m 0) = 10) (he : (m 3) = w1) (hw : w1 = V)  : Q_f3 has V E H T oG oT w0 (-1) w2 w3 lo hi st ep hl hh mv ac pt tk et lm pE pA (B + 2) S := by
  have i_f3 := Pin_f3 I
  clear I
  simp only [Q_f3, pokM, pown, prcv, pgiv, ppge, pfu] at *
  grind
set_option maxHeartbeats 400000 in
theorem pt_clr1_g {has : Prop} {V E H T oG oT w0 w1 w2 w3 lo hi : Int} {st ep hl hh mv ac pt tk et lm pE pA : Nat → Int} {B : Int} {S : (Nat → Int) → Prop} (I : Pin has V E H T oG oT w0 w1 w2 w3 lo hi st ep hl hh mv ac pt tk et lm pE pA B S) (m : (Nat → Int)) (hS : S m) (hk : (m 0) = 10) (he : (m 3) = w1) (hw : w1 = V)  : Q_g has V E H T oG oT w0 (-1) w2 w3 lo hi st ep hl hh mv ac pt tk et lm pE pA (B + 2) S := by
  have i_g := Pin_g I
  clear I
  simp only [Q_g, pokM, pown, prcv, pgiv, ppge, pfu] at *
  grind
set_option maxHeartbeats 400000 in
theorem pt_clr1_g0 {has : Prop} {V E H T oG oT w0 w1 w2 w3 lo hi : Int} {st ep hl hh mv ac pt tk et lm pE pA : Nat → Int} {B : Int} {S : (Nat → Int) → Prop} (I : Pin has V E H T oG oT w0 w1 w2 w3 lo hi st ep hl hh mv ac pt tk et lm pE pA B S) (m : (Nat → Int)) (hS : S m) (hk : (m 0) = 10) (he : (m 3) = w1) (hw : w1 = V)  : Q_g0 has V E H T oG oT w0 (-1) w2 w3 lo hi st ep hl hh mv ac pt tk et lm pE pA (B + 2) S := by
  have i_g0 := Pin_g0 I
  clear I
  simp only [Q_g0, pokM, pown, prcv, pgiv, ppge, pfu] at *
  grind
set_option maxHeartbeats 400000 in
theorem pt_clr1_g1 {has : Prop} {V E H T oG oT w0 w1 w2 w3 lo hi : Int} {st ep hl hh mv ac pt tk et lm pE pA : Nat → Int} {B : Int} {S : (Nat → Int) → Prop} (I : Pin has V E H T oG oT w0 w1 w2 w3 lo hi st ep hl hh mv ac pt tk et lm pE pA B S) (m : (Nat → Int)) (hS : S m) (hk : (m 0) = 10) (he : (m 3) = w1) (hw : w1 = V)  : Q_g1 has V E H T oG oT w0 (-1) w2 w3 lo hi st ep hl hh mv ac pt tk et lm pE pA (B + 2) S := by
  have i_g1 := Pin_g1 I
  clear I
  simp only [Q_g1, pokM, pown, prcv, pgiv, ppge, pfu] at *
  grind
set_option maxHeartbeats 400000 in
theorem pt_clr1_g2 {has : Prop} {V E H T oG oT w0 w1 w2 w3 lo hi : Int} {st ep hl hh mv ac pt tk et lm pE pA : Nat → Int} {B : Int} {S : (Nat → Int) → Prop} (I : Pin has V E H T oG oT w0 w1 w2 w3 lo hi st ep hl hh mv ac pt tk et lm pE pA B S) (m : (Nat → Int)) (hS : S m) (hk : (m 0) = 10) (he : (m 3) = w1) (hw : w1 = V)  : Q_g2 has V E H T oG oT w0 (-1) w2 w3 lo hi st ep hl hh mv ac pt tk et lm pE pA (B + 2) S := by
  have i_g2 := Pin_g2 I
  clear I
  simp only [Q_g2, pokM, pown, prcv, pgiv, ppge, pfu] at *
  grind
set_option maxHeartbeats 400000 in
theorem pt_clr1_h7 {has : Prop} {V E H T oG oT w0 w1 w2 w3 lo hi : Int} {st ep hl hh mv ac pt tk et lm pE pA : Nat → Int} {B : Int} {S : (Nat → Int) → Prop} (I : Pin has V E H T oG oT w0 w1 w2 w3 lo hi st ep hl hh mv ac pt tk et lm pE pA B S) (m : (Nat → Int)) (hS : S m) (hk : (m 0) = 10) (he : (m 3) = w1) (hw : w1 = V)  : Q_h7 has V E H T oG oT w0 (-1) w2 w3 lo hi st ep hl hh mv ac pt tk et lm pE pA (B + 2) S := by
  have i_h7 := Pin_h7 I
  clear I
  simp only [Q_h7, pokM, pown, prcv, pgiv, ppge, pfu] at *
  grind
set_option maxHeartbeats 400000 in
theorem pt_clr1_h9 {has : Prop} {V E H T oG oT w0 w1 w2 w3 lo hi : Int} {st ep hl hh mv ac pt tk et lm pE pA : Nat → Int} {B : Int} {S : (Nat → Int) → Prop} (I : Pin has V E H T oG oT w0 w1 w2 w3 lo hi st ep hl hh mv ac pt tk et lm pE pA B S) (m : (Nat → Int)) (hS : S m) (hk : (m 0) = 10) (he : (m 3) = w1) (hw : w1 = V)  : Q_h9 has V E H T oG oT w0 (-1) w2 w3 lo hi st ep hl hh mv ac pt tk et lm pE pA (B + 2) S := by
  have i_h9 := Pin_h9 I
  clear I
  simp only [Q_h9, pokM, pown, prcv, pgiv, ppge, pfu] at *
  grind
set_option maxHeartbeats 400000 in
theorem pt_clr1_h10 {has : Prop} {V E H T oG oT w0 w1 w2 w3 lo hi : Int} {st ep hl hh mv ac pt tk et lm pE pA : Nat → Int} {B : Int} {S : (Nat → Int) → Prop} (I : Pin has V E H T oG oT w0 w1 w2 w3 lo hi st ep hl hh mv ac pt tk et lm pE pA B S) (m : (Nat → Int)) (hS : S m) (hk : (m 0) = 10) (he : (m 3) = w1) (hw : w1 = V)  : Q_h10 has V E H T oG oT w0 (-1) w2 w3 lo hi st ep hl hh mv ac pt tk et lm pE pA (B + 2) S := by
  have i_h10 := Pin_h10 I
  clear I
  simp only [Q_h10, pokM, pown, prcv, pgiv, ppge, pfu] at *
  grind
set_option maxHeartbeats 400000 in
theorem pt_clr1_h11 {has : Prop} {V E H T oG oT w0 w1 w2 w3 lo hi : Int} {st ep hl hh mv ac pt tk et lm pE pA : Nat → Int} {B : Int} {S : (Nat → Int) → Prop} (I : Pin has V E H T oG oT w0 w1 w2 w3 lo hi st ep hl hh mv ac pt tk et lm pE pA B S) (m : (Nat → Int)) (hS : S m) (hk : (m 0) = 10) (he : (m 3) = w1) (hw : w1 = V)  : Q_h11 has V E H T oG oT w0 (-1) w2 w3 lo hi st ep hl hh mv ac pt tk et lm pE pA (B + 2) S := by
  have i_h11 := Pin_h11 I
  clear I
  simp only [Q_h11, pokM, pown, prcv, pgiv, ppge, pfu] at *
  grind
set_option maxHeartbeats 400000 in
theorem pt_clr1_h12 {has : Prop} {V E H T oG oT w0 w1 w2 w3 lo hi : Int} {st ep hl hh mv ac pt tk et lm pE pA : Nat → Int} {B : Int} {S : (Nat → Int) → Prop} (I : Pin has V E H T oG oT w0 w1 w2 w3 lo hi st ep hl hh mv ac pt tk et lm pE pA B S) (m : (Nat → Int)) (hS : S m) (hk : (m 0) = 10) (he : (m 3) = w1) (hw : w1 = V)  : Q_h12 has V E H T oG oT w0 (-1) w2 w3 lo hi st ep hl hh mv ac pt tk et lm pE pA (B + 2) S := by
  have i_h12 := Pin_h12 I
  clear I
  simp only [Q_h12, pokM, pown, prcv, pgiv, ppge, pfu] at *
  grind
set_option maxHeartbeats 400000 in
theorem pt_clr1_k1 {has : Prop} {V E H T oG oT w0 w1 w2 w3 lo hi : Int} {st ep hl hh mv ac pt tk et lm pE pA : Nat → Int} {B : Int} {S : (Nat → Int) → Prop} (I : Pin has V E H T oG oT w0 w1 w2 w3 lo hi st ep hl hh mv ac pt tk et lm pE pA B S) (m : (Nat → Int)) (hS : S m) (hk : (m 0) = 10) (he : (m 3) = w1) (hw : w1 = V)  : Q_k1 has V E H T oG oT w0 (-1) w2 w3 lo hi st ep hl hh mv ac pt tk et lm pE pA (B + 2) S := by
  have i_k1 := Pin_k1 I
  clear I
  simp only [Q_k1, pokM, pown, prcv, pgiv, ppge, pfu] at *
  grind
set_option maxHeartbeats 400000 in
theorem pt_clr1_k2 {has : Prop} {V E H T oG oT w0 w1 w2 w3 lo hi : Int} {st ep hl hh mv ac pt tk et lm pE pA : Nat → Int} {B : Int} {S : (Nat → Int) → Prop} (I : Pin has V E H T oG oT w0 w1 w2 w3 lo hi st ep hl hh mv ac pt tk et lm pE pA B S) (m : (Nat → Int)) (hS : S m) (hk : (m 0) = 10) (he : (m 3) = w1) (hw : w1 = V)  : Q_k2 has V E H T oG oT w0 (-1) w2 w3 lo hi st ep hl hh mv ac pt tk et lm pE pA (B + 2) S := by
  have i_k2 := Pin_k2 I
  clear I
  simp only [Q_k2, pokM, pown, prcv, pgiv, ppge, pfu] at *
  grind
set_option maxHeartbeats 400000 in
theorem pt_clr1_k8 {has : Prop} {V E H T oG oT w0 w1 w2 w3 lo hi : Int} {st ep hl hh mv ac pt tk et lm pE pA : Nat → Int} {B : Int} {S : (Nat → Int) → Prop} (I : Pin has V E H T oG oT w0 w1 w2 w3 lo hi st ep hl hh mv ac pt tk et lm pE pA B S) (m : (Nat → Int)) (hS : S m) (hk : (m 0) = 10) (he : (m 3) = w1) (hw : w1 = V)  : Q_k8 has V E H T oG oT w0 (-1) w2 w3 lo hi st ep hl hh mv ac pt tk et lm pE pA (B + 2) S := by
  have i_k8 := Pin_k8 I
  clear I
  simp only [Q_k8, pokM, pown, prcv, pgiv, ppge, pfu] at *
  grind
set_option maxHeartbeats 400000 in
theorem pt_clr1_l4 {has : Prop} {V E H T oG oT w0 w1 w2 w3 lo hi : Int} {st ep hl hh mv ac pt tk et lm pE pA : Nat → Int} {B : Int} {S : (Nat → Int) → Prop} (I : Pin has V E H T oG oT w0 w1 w2 w3 lo hi st ep hl hh mv ac pt tk et lm pE pA B S) (m : (Nat → Int)) (hS : S m) (hk : (m 0) = 10) (he : (m 3) = w1) (hw : w1 = V)  : Q_l4 has V E H T oG oT w0 (-1) w2 w3 lo hi st ep hl hh mv ac pt tk et lm pE pA (B + 2) S := by
  have i_l4 := Pin_l4 I
  clear I
  simp only [Q_l4, pokM, pown, prcv, pgiv, ppge, pfu] at *
  grind
set_option maxHeartbeats 400000 in
theorem pt_clr1_l5 {has : Prop} {V E H T oG oT w0 w1 w2 w3 lo hi : Int} {st ep hl hh mv ac pt tk et lm pE pA : Nat → Int} {B : Int} {S : (Nat → Int) → Prop} (I : Pin has V E H T oG oT w0 w1 w2 w3 lo hi st ep hl hh mv ac pt tk et lm pE pA B S) (m : (Nat → Int)) (hS : S m) (hk : (m 0) = 10) (he : (m 3) = w1) (hw : w1 = V)  : Q_l5 has V E H T oG oT w0 (-1) w2 w3 lo hi st ep hl hh mv ac pt tk et lm pE pA (B + 2) S := by
  have i_l5 := Pin_l5 I
  clear I
  simp only [Q_l5, pokM, pown, prcv, pgiv, ppge, pfu] at *
  grind
set_option maxHeartbeats 400000 in
theorem pt_clr1_l3 {has : Prop} {V E H T oG oT w0 w1 w2 w3 lo hi : Int} {st ep hl hh mv ac pt tk et lm pE pA : Nat → Int} {B : Int} {S : (Nat → Int) → Prop} (I : Pin has V E H T oG oT w0 w1 w2 w3 lo hi st ep hl hh mv ac pt tk et lm pE pA B S) (m : (Nat → Int)) (hS : S m) (hk : (m 0) = 10) (he : (m 3) = w1) (hw : w1 = V)  : Q_l3 has V E H T oG oT w0 (-1) w2 w3 lo hi st ep hl hh mv ac pt tk et lm pE pA (B + 2) S := by
  have i_l3 := Pin_l3 I
  clear I
  simp only [Q_l3, pokM, pown, prcv, pgiv, ppge, pfu] at *
  grind
set_option maxHeartbeats 400000 in
theorem pt_clr1_m1 {has : Prop} {V E H T oG oT w0 w1 w2 w3 lo hi : Int} {st ep hl hh mv ac pt tk et lm pE pA : Nat → Int} {B : Int} {S : (Nat → Int) → Prop} (I : Pin has V E H T oG oT w0 w1 w2 w3 lo hi st ep hl hh mv ac pt tk et lm pE pA B S) (m : (Nat → Int)) (hS : S m) (hk : (m 0) = 10) (he : (m 3) = w1) (hw : w1 = V)  : Q_m1 has V E H T oG oT w0 (-1) w2 w3 lo hi st ep hl hh mv ac pt tk et lm pE pA (B + 2) S := by
  have i_m1 := Pin_m1 I
  clear I
  simp only [Q_m1, pokM, pown, prcv, pgiv, ppge, pfu] at *
  grind
set_option maxHeartbeats 400000 in
theorem pt_clr1_m2 {has : Prop} {V E H T oG oT w0 w1 w2 w3 lo hi : Int} {st ep hl hh mv ac pt tk et lm pE pA : Nat → Int} {B : Int} {S : (Nat → Int) → Prop} (I : Pin has V E H T oG oT w0 w1 w2 w3 lo hi st ep hl hh mv ac pt tk et lm pE pA B S) (m : (Nat → Int)) (hS : S m) (hk : (m 0) = 10) (he : (m 3) = w1) (hw : w1 = V)  : Q_m2 has V E H T oG oT w0 (-1) w2 w3 lo hi st ep hl hh mv ac pt tk et lm pE pA (B + 2) S := by
  have i_m2 := Pin_m2 I
  clear I
  simp only [Q_m2, pokM, pown, prcv, pgiv, ppge, pfu] at *
  grind
set_option maxHeartbeats 400000 in
theorem pt_clr1_m3 {has : Prop} {V E H T oG oT w0 w1 w2 w3 lo hi : Int} {st ep hl hh mv ac pt tk et lm pE pA : Nat → Int} {B : Int} {S : (Nat → Int) → Prop} (I : Pin has V E H T oG oT w0 w1 w2 w3 lo hi st ep hl hh mv ac pt tk et lm pE pA B S) (m : (Nat → Int)) (hS : S m) (hk : (m 0) = 10) (he : (m 3) = w1) (hw : w1 = V)  : Q_m3 has V E H T oG oT w0 (-1) w2 w3 lo hi st ep hl hh mv ac pt tk et lm pE pA (B + 2) S := by
  have i_m3 := Pin_m3 I
  clear I
  simp only [Q_m3, pokM, pown, prcv, pgiv, ppge, pfu] at *
  grind
set_option maxHeartbeats 400000 in
theorem pt_clr1_n0 {has : Prop} {V E H T oG oT w0 w1 w2 w3 lo hi : Int} {st ep hl hh mv ac pt tk et lm pE pA : Nat → Int} {B : Int} {S : (Nat → Int) → Prop} (I : Pin has V E H T oG oT w0 w1 w2 w3 lo hi st ep hl hh mv ac pt tk et lm pE pA B S) (m : (Nat → Int)) (hS : S m) (hk : (m 0) = 10) (he : (m 3) = w1) (hw : w1 = V)  : Q_n0 has V E H T oG oT w0 (-1) w2 w3 lo hi st ep hl hh mv ac pt tk et lm pE pA (B + 2) S := by
  have i_n0 := Pin_n0 I
  clear I
  simp only [Q_n0, pokM, pown, prcv, pgiv, ppge, pfu] at *
  grind
set_option maxHeartbeats 400000 in
theorem pt_clr1_n1 {has : Prop} {V E H T oG oT w0 w1 w2 w3 lo hi : Int} {st ep hl hh mv ac pt tk et lm pE pA : Nat → Int} {B : Int} {S : (Nat → Int) → Prop} (I : Pin has V E H T oG oT w0 w1 w2 w3 lo hi st ep hl hh mv ac pt tk et lm pE pA B S) (m : (Nat → Int)) (hS : S m) (hk : (m 0) = 10) (he : (m 3) = w1) (hw : w1 = V)  : Q_n1 has V E H T oG oT w0 (-1) w2 w3 lo hi st ep hl hh mv ac pt tk et lm pE pA (B + 2) S := by
  have i_n1 := Pin_n1 I
  clear I
  simp only [Q_n1, pokM, pown, prcv, pgiv, ppge, pfu] at *
  grind
set_option maxHeartbeats 400000 in
theorem pt_clr1_n2 {has : Prop} {V E H T oG oT w0 w1 w2 w3 lo hi : Int} {st ep hl hh mv ac pt tk et lm pE pA : Nat → Int} {B : Int} {S : (Nat → Int) → Prop} (I : Pin has V E H T oG oT w0 w1 w2 w3 lo hi st ep hl hh mv ac pt tk et lm pE pA B S) (m : (Nat → Int)) (hS : S m) (hk : (m 0) = 10) (he : (m 3) = w1) (hw : w1 = V)  : Q_n2 has V E H T oG oT w0 (-1) w2 w3 lo hi st ep hl hh mv ac pt tk et lm pE pA (B + 2) S := by
  have i_n2 := Pin_n2 I
  clear I
  simp only [Q_n2, pokM, pown, prcv, pgiv, ppge, pfu] at *
  grind
set_option maxHeartbeats 400000 in
theorem pt_clr1_n3 {has : Prop} {V E H T oG oT w0 w1 w2 w3 lo hi : Int} {st ep hl hh mv ac pt tk et lm pE pA : Nat → Int} {B : Int} {S : (Nat → Int) → Prop} (I : Pin has V E H T oG oT w0 w1 w2 w3 lo hi st ep hl hh mv ac pt tk et lm pE pA B S) (m : (Nat → Int)) (hS : S m) (hk : (m 0) = 10) (he : (m 3) = w1) (hw : w1 = V)  : Q_n3 has V E H T oG oT w0 (-1) w2 w3 lo hi st ep hl hh mv ac pt tk et lm pE pA (B + 2) S := by
  have i_n3 := Pin_n3 I
  clear I
  simp only [Q_n3, pokM, pown, prcv, pgiv, ppge, pfu] at *
  grind
set_option maxHeartbeats 400000 in
theorem pt_clr1_n4 {has : Prop} {V E H T oG oT w0 w1 w2 w3 lo hi : Int} {st ep hl hh mv ac pt tk et lm pE pA : Nat → Int} {B : Int} {S : (Nat → Int) → Prop} (I : Pin has V E H T oG oT w0 w1 w2 w3 lo hi st ep hl hh mv ac pt tk et lm pE pA B S) (m : (Nat → Int)) (hS : S m) (hk : (m 0) = 10) (he : (m 3) = w1) (hw : w1 = V)  : Q_n4 has V E H T oG oT w0 (-1) w2 w3 lo hi st ep hl hh mv ac pt tk et lm pE pA (B + 2) S := by
  have i_n4 := Pin_n4 I
  clear I
  simp only [Q_n4, pokM, pown, prcv, pgiv, ppge, pfu] at *
  grind
set_option maxHeartbeats 400000 in
theorem pt_clr1_n5 {has : Prop} {V E H T oG oT w0 w1 w2 w3 lo hi : Int} {st ep hl hh mv ac pt tk et lm pE pA : Nat → Int} {B : Int} {S : (Nat → Int) → Prop} (I : Pin has V E H T oG oT w0 w1 w2 w3 lo hi st ep hl hh mv ac pt tk et lm pE pA B S) (m : (Nat → Int)) (hS : S m) (hk : (m 0) = 10) (he : (m 3) = w1) (hw : w1 = V)  : Q_n5 has V E H T oG oT w0 (-1) w2 w3 lo hi st ep hl hh mv ac pt tk et lm pE pA (B + 2) S := by
  have i_n5 := Pin_n5 I
  clear I
  simp only [Q_n5, pokM, pown, prcv, pgiv, ppge, pfu] at *
  grind
set_option maxHeartbeats 400000 in
theorem pt_clr1_n6 {has : Prop} {V E H T oG oT w0 w1 w2 w3 lo hi : Int} {st ep hl hh mv ac pt tk et lm pE pA : Nat → Int} {B : Int} {S : (Nat → Int) → Prop} (I : Pin has V E H T oG oT w0 w1 w2 w3 lo hi st ep hl hh mv ac pt tk et lm pE pA B S) (m : (Nat → Int)) (hS : S m) (hk : (m 0) = 10) (he : (m 3) = w1) (hw : w1 = V)  : Q_n6 has V E H T oG oT w0 (-1) w2 w3 lo hi st ep hl hh mv ac pt tk et lm pE pA (B + 2) S := by
  have i_n6 := Pin_n6 I
  clear I
  simp only [Q_n6, pokM, pown, prcv, pgiv, ppge, pfu] at *
  grind
set_option maxHeartbeats 400000 in
theorem pt_clr1_n7 {has : Prop} {V E H T oG oT w0 w1 w2 w3 lo hi : Int} {st ep hl hh mv ac pt tk et lm pE pA : Nat → Int} {B : Int} {S : (Nat → Int) → Prop} (I : Pin has V E H T oG oT w0 w1 w2 w3 lo hi st ep hl hh mv ac pt tk et lm pE pA B S) (m : (Nat → Int)) (hS : S m) (hk : (m 0) = 10) (he : (m 3) = w1) (hw : w1 = V)  : Q_n7 has V E H T oG oT w0 (-1) w2 w3 lo hi st ep hl hh mv ac pt tk et lm pE pA (B + 2) S := by
  have i_n7 := Pin_n7 I
  clear I
  simp only [Q_n7, pokM, pown, prcv, pgiv, ppge, pfu] at *
  grind
set_option maxHeartbeats 400000 in
theorem pt_clr1_o {has : Prop} {V E H T oG oT w0 w1 w2 w3 lo hi : Int} {st ep hl hh mv ac pt tk et lm pE pA : Nat → Int} {B : Int} {S : (Nat → Int) → Prop} (I : Pin has V E H T oG oT w0 w1 w2 w3 lo hi st ep hl hh mv ac pt tk et lm pE pA B S) (m : (Nat → Int)) (hS : S m) (hk : (m 0) = 10) (he : (m 3) = w1) (hw : w1 = V)  : Q_o has V E H T oG oT w0 (-1) w2 w3 lo hi st ep hl hh mv ac pt tk et lm pE pA (B + 2) S := by
  have i_o := Pin_o I
  clear I
  simp only [Q_o, pokM, pown, prcv, pgiv, ppge, pfu] at *
  grind
set_option maxHeartbeats 400000 in
theorem pt_clr1_p {has : Prop} {V E H T oG oT w0 w1 w2 w3 lo hi : Int} {st ep hl hh mv ac pt tk et lm pE pA : Nat → Int} {B : Int} {S : (Nat → Int) → Prop} (I : Pin has V E H T oG oT w0 w1 w2 w3 lo hi st ep hl hh mv ac pt tk et lm pE pA B S) (m : (Nat → Int)) (hS : S m) (hk : (m 0) = 10) (he : (m 3) = w1) (hw : w1 = V)  : Q_p has V E H T oG oT w0 (-1) w2 w3 lo hi st ep hl hh mv ac pt tk et lm pE pA (B + 2) S := by
  have i_p := Pin_p I
  clear I
  simp only [Q_p, pokM, pown, prcv, pgiv, ppge, pfu] at *
  grind
set_option maxHeartbeats 400000 in
theorem pt_clr1_q {has : Prop} {V E H T oG oT w0 w1 w2 w3 lo hi : Int} {st ep hl hh mv ac pt tk et lm pE pA : Nat → Int} {B : Int} {S : (Nat → Int) → Prop} (I : Pin has V E H T oG oT w0 w1 w2 w3 lo hi st ep hl hh mv ac pt tk et lm pE pA B S) (m : (Nat → Int)) (hS : S m) (hk : (m 0) = 10) (he : (m 3) = w1) (hw : w1 = V)  : Q_q has V E H T oG oT w0 (-1) w2 w3 lo hi st ep hl hh mv ac pt tk et lm pE pA (B + 2) S := by
  have i_q := Pin_q I
  clear I
  simp only [Q_q, pokM, pown, prcv, pgiv, ppge, pfu] at *
  grind
set_option maxHeartbeats 400000 in
theorem pt_clr1_q2 {has : Prop} {V E H T oG oT w0 w1 w2 w3 lo hi : Int} {st ep hl hh mv ac pt tk et lm pE pA : Nat → Int} {B : Int} {S : (Nat → Int) → Prop} (I : Pin has V E H T oG oT w0 w1 w2 w3 lo hi st ep hl hh mv ac pt tk et lm pE pA B S) (m : (Nat → Int)) (hS : S m) (hk : (m 0) = 10) (he : (m 3) = w1) (hw : w1 = V)  : Q_q2 has V E H T oG oT w0 (-1) w2 w3 lo hi st ep hl hh mv ac pt tk et lm pE pA (B + 2) S := by
  have i_q2 := Pin_q2 I
  clear I
  simp only [Q_q2, pokM, pown, prcv, pgiv, ppge, pfu] at *
  grind
set_option maxHeartbeats 400000 in
theorem pt_clr1_q3 {has : Prop} {V E H T oG oT w0 w1 w2 w3 lo hi : Int} {st ep hl hh mv ac pt tk et lm pE pA : Nat → Int} {B : Int} {S : (Nat → Int) → Prop} (I : Pin has V E H T oG oT w0 w1 w2 w3 lo hi st ep hl hh mv ac pt tk et lm pE pA B S) (m : (Nat → Int)) (hS : S m) (hk : (m 0) = 10) (he : (m 3) = w1) (hw : w1 = V)  : Q_q3 has V E H T oG oT w0 (-1) w2 w3 lo hi st ep hl hh mv ac pt tk et lm pE pA (B + 2) S := by
  have i_q3 := Pin_q3 I
  clear I
  simp only [Q_q3, pokM, pown, prcv, pgiv, ppge, pfu] at *
  grind
set_option maxHeartbeats 400000 in
theorem pt_clr1_w {has : Prop} {V E H T oG oT w0 w1 w2 w3 lo hi : Int} {st ep hl hh mv ac pt tk et lm pE pA : Nat → Int} {B : Int} {S : (Nat → Int) → Prop} (I : Pin has V E H T oG oT w0 w1 w2 w3 lo hi st ep hl hh mv ac pt tk et lm pE pA B S) (m : (Nat → Int)) (hS : S m) (hk : (m 0) = 10) (he : (m 3) = w1) (hw : w1 = V)  : Q_w has V E H T oG oT w0 (-1) w2 w3 lo hi st ep hl hh mv ac pt tk et lm pE pA (B + 2) S := by
  have i_w := Pin_w I
  clear I
  simp only [Q_w, pokM, pown, prcv, pgiv, ppge, pfu] at *
  grind
theorem pt_clr1 {has : Prop} {V E H T oG oT w0 w1 w2 w3 lo hi : Int} {st ep hl hh mv ac pt tk et lm pE pA : Nat → Int} {B : Int} {S : (Nat → Int) → Prop} (I : Pin has V E H T oG oT w0 w1 w2 w3 lo hi st ep hl hh mv ac pt tk et lm pE pA B S) (m : (Nat → Int)) (hS : S m) (hk : (m 0) = 10) (he : (m 3) = w1) (hw : w1 = V) : Pin has V E H T oG oT w0 (-1) w2 w3 lo hi st ep hl hh mv ac pt tk et lm pE pA (B + 2) S := by
  exact ⟨pt_clr1_v0 I m hS hk he hw , pt_clr1_a I m hS hk he hw , pt_clr1_b I m hS hk he hw , pt_clr1_c I m hS hk he hw , pt_clr1_d I m hS hk he hw , pt_clr1_e I m hS hk he hw , pt_clr1_f I m hS hk he hw , pt_clr1_f2 I m hS hk he hw , pt_clr1_f3 I m hS hk he hw , pt_clr1_g I m hS hk he hw , pt_clr1_g0 I m hS hk he hw , pt_clr1_g1 I m hS hk he hw , pt_clr1_g2 I m hS hk he hw , pt_clr1_h7 I m hS hk he hw , pt_clr1_h9 I m hS hk he hw , pt_clr1_h10 I m hS hk he hw , pt_clr1_h11 I m hS hk he hw , pt_clr1_h12 I m hS hk he hw , pt_clr1_k1 I m hS hk he hw , pt_clr1_k2 I m hS hk he hw , pt_clr1_k8 I m hS hk he hw , pt_clr1_l4 I m hS hk he hw , pt_clr1_l5 I m hS hk he hw , pt_clr1_l3 I m hS hk he hw , pt_clr1_m1 I m hS hk he hw , pt_clr1_m2 I m hS hk he hw , pt_clr1_m3 I m hS hk he hw , pt_clr1_n0 I m hS hk he hw , pt_clr1_n1 I m hS hk he hw , pt_clr1_n2 I m hS hk he hw , pt_clr1_n3 I m hS hk he hw , pt_clr1_n4 I m hS hk he hw , pt_clr1_n5 I m hS hk he hw , pt_clr1_n6 I m hS hk he hw , pt_clr1_n7 I m hS hk he hw , pt_clr1_o I m hS hk he hw , pt_clr1_p I m hS hk he hw , pt_clr1_q I m hS hk he hw , pt_clr1_q2 I m hS hk he hw , pt_clr1_q3 I m hS hk he hw , pt_clr1_w I m hS hk he hw ⟩
set_option maxHeartbeats 400000 in
theorem pt_clr2_v0 {has : Prop} {V E H T oG oT w0 w1 w2 w3 lo hi : Int} {st ep hl hh mv ac pt tk et lm pE pA : Nat → Int} {B : Int} {S : (Nat → Int) → Prop} (I : Pin has V E H T oG oT w0 w1 w2 w3 lo hi st ep hl hh mv ac pt tk et lm pE pA B S) (m : (Nat → Int)) (hS : S m) (hk : (m 0) = 12) (he : (m 3) = w2) (hw : w2 = V)  : Q_v0 has V E H T oG oT w0 w1 (-1) w3 lo hi st ep hl hh mv ac pt tk et lm pE pA (B + 2) S := by
  have i_v0 := Pin_v0 I
  clear I
  simp only [Q_v0, pokM, pown, prcv, pgiv, ppge, pfu] at *
  grind
set_option maxHeartbeats 400000 in
theorem pt_clr2_a {has : Prop} {V E H T oG oT w0 w1 w2 w3 lo hi : Int} {st ep hl hh mv ac pt tk et lm pE pA : Nat → Int} {B : Int} {S : (Nat → Int) → Prop} (I : Pin has V E H T oG oT w0 w1 w2 w3 lo hi st ep hl hh mv ac pt tk et lm pE pA B S) (m : (Nat → Int)) (hS : S m) (hk : (m 0) = 12) (he : (m 3) = w2) (hw : w2 = V)  : Q_a has V E H T oG oT w0 w1 (-1) w3 lo hi st ep hl hh mv ac pt tk et lm pE pA (B + 2) S := by
  have i_a := Pin_a I
  clear I
  simp only [Q_a, pokM, pown, prcv, pgiv, ppge, pfu] at *
  grind
set_option maxHeartbeats 400000 in
theorem pt_clr2_b {has : Prop} {V E H T oG oT w0 w1 w2 w3 lo hi : Int} {st ep hl hh mv ac pt tk et lm pE pA : Nat → Int} {B : Int} {S : (Nat → Int) → Prop} (I : Pin has V E H T oG oT w0 w1 w2 w3 lo hi st ep hl hh mv ac pt tk et lm pE pA B S) (m : (Nat → Int)) (hS : S m) (hk : (m 0) = 12) (he : (m 3) = w2) (hw : w2 = V)  : Q_b has V E H T oG oT w0 w1 (-1) w3 lo hi st ep hl hh mv ac pt tk et lm pE pA (B + 2) S := by
  have i_b := Pin_b I
  clear I
  simp only [Q_b, pokM, pown, prcv, pgiv, ppge, pfu] at *
  grind
set_option maxHeartbeats 400000 in
theorem pt_clr2_c {has : Prop} {V E H T oG oT w0 w1 w2 w3 lo hi : Int} {st ep hl hh mv ac pt tk et lm pE pA : Nat → Int} {B : Int} {S : (Nat → Int) → Prop} (I : Pin has V E H T oG oT w0 w1 w2 w3 lo hi st ep hl hh mv ac pt tk et lm pE pA B S) (m : (Nat → Int)) (hS : S m) (hk : (m 0) = 12) (he : (m 3) = w2) (hw : w2 = V)  : Q_c has V E H T oG oT w0 w1 (-1) w3 lo hi st ep hl hh mv ac pt tk et lm pE pA (B + 2) S := by
  have i_c := Pin_c I
  clear I
  simp only [Q_c, pokM, pown, prcv, pgiv, ppge, pfu] at *
  grind
set_option maxHeartbeats 400000 in
theorem pt_clr2_d {has : Prop} {V E H T oG oT w0 w1 w2 w3 lo hi : Int} {st ep hl hh mv ac pt tk et lm pE pA : Nat → Int} {B : Int} {S : (Nat → Int) → Prop} (I : Pin has V E H T oG oT w0 w1 w2 w3 lo hi st ep hl hh mv ac pt tk et lm pE pA B S) (m : (Nat → Int)) (hS : S m) (hk : (m 0) = 12) (he : (m 3) = w2) (hw : w2 = V)  : Q_d has V E H T oG oT w0 w1 (-1) w3 lo hi st ep hl hh mv ac pt tk et lm pE pA (B + 2) S := by
  have i_d := Pin_d I
  have i_h12 := Pin_h12 I
  clear I
  simp only [Q_d, Q_h12, pokM, pown, prcv, pgiv, ppge, pfu] at *
  grind
set_option maxHeartbeats 400000 in
theorem pt_clr2_e {has : Prop} {V E H T oG oT w0 w1 w2 w3 lo hi : Int} {st ep hl hh mv ac pt tk et lm pE pA : Nat → Int} {B : Int} {S : (Nat → Int) → Prop} (I : Pin has V E H T oG oT w0 w1 w2 w3 lo hi st ep hl hh mv ac pt tk et lm pE pA B S) (m : (Nat → Int)) (hS : S m) (hk : (m 0) = 12) (he : (m 3) = w2) (hw : w2 = V)  : Q_e has V E H T oG oT w0 w1 (-1) w3 lo hi st ep hl hh mv ac pt tk et lm pE pA (B + 2) S := by
  have i_e := Pin_e I
  clear I
  simp only [Q_e, pokM, pown, prcv, pgiv, ppge, pfu] at *
  grind
set_option maxHeartbeats 400000 in
theorem pt_clr2_f {has : Prop} {V E H T oG oT w0 w1 w2 w3 lo hi : Int} {st ep hl hh mv ac pt tk et lm pE pA : Nat → Int} {B : Int} {S : (Nat → Int) → Prop} (I : Pin has V E H T oG oT w0 w1 w2 w3 lo hi st ep hl hh mv ac pt tk et lm pE pA B S) (m : (Nat → Int)) (hS : S m) (hk : (m 0) = 12) (he : (m 3) = w2) (hw : w2 = V)  : Q_f has V E H T oG oT w0 w1 (-1) w3 lo hi st ep hl hh mv ac pt tk et lm pE pA (B + 2) S := by
  have i_f := Pin_f I
  clear I
  simp only [Q_f, pokM, pown, prcv, pgiv, ppge, pfu] at *
  grind
set_option maxHeartbeats 400000 in
theorem pt_clr2_f2 {has : Prop} {V E H T oG oT w0 w1 w2 w3 lo hi : Int} {st ep hl hh mv ac pt tk et lm pE pA : Nat → Int} {B : Int} {S : (Nat → Int) → Prop} (I : Pin has V E H T oG oT w0 w1 w2 w3 lo hi st ep hl hh mv ac pt tk et lm pE pA B S) (m : (Nat → Int)) (hS : S m) (hk : (m 0) = 12) (he : (m 3) = w2) (hw : w2 = V)  : Q_f2 has V E H T oG oT w0 w1 (-1) w3 lo hi st ep hl hh mv ac pt tk et lm pE pA (B + 2) S := by
  have i_f2 := Pin_f2 I
  clear I
  simp only [Q_f2, pokM, pown, prcv, pgiv, ppge, pfu] at *
  grind
set_option maxHeartbeats 400000 in
theorem pt_clr2_f3 {has : Prop} {V E H T oG oT w0 w1 w2 w3 lo hi : Int} {st ep hl hh mv ac pt tk et lm pE pA : Nat → Int} {B : Int} {S : (Nat → Int) → Prop} (I : Pin has V E H T oG oT w0 w1 w2 w3 lo hi st ep hl hh mv ac pt tk et lm pE pA B S) (m : (Nat → Int)) (hS : S m) (hk : (m 0) = 12) (he : (m 3) = w2) (hw : w2 = V)  : Q_f3 has V E H T oG oT w0 w1 (-1) w3 lo hi st ep hl hh mv ac pt tk et lm pE pA (B + 2) S := by
  have i_f3 := Pin_f3 I
  clear I
  simp only [Q_f3, pokM, pown, prcv, pgiv, ppge, pfu] at *
  grind
set_option maxHeartbeats 400000 in
theorem pt_clr2_g {has : Prop} {V E H T oG oT w0 w1 w2 w3 lo hi : Int} {st ep hl hh mv ac pt tk et lm pE pA : Nat → Int} {B : Int} {S : (Nat → Int) → Prop} (I : Pin has V E H T oG oT w0 w1 w2 w3 lo hi st ep hl hh mv ac pt tk et lm pE pA B S) (m : (Nat → Int)) (hS : S m) (hk : (m 0) = 12) (he : (m 3) = w2) (hw : w2 = V)  : Q_g has V E H T oG oT w0 w1 (-1) w3 lo hi st ep hl hh mv ac pt tk et lm pE pA (B + 2) S := by
  have i_g := Pin_g I
  clear I
  simp only [Q_g, pokM, pown, prcv, pgiv, ppge, pfu] at *
  grind
set_option maxHeartbeats 400000 in
theorem pt_clr2_g0 {has : Prop} {V E H T oG oT w0 w1 w2 w3 lo hi : Int} {st ep hl hh mv ac pt tk et lm pE pA : Nat → Int} {B : Int} {S : (Nat → Int) → Prop} (I : Pin has V E H T oG oT w0 w1 w2 w3 lo hi st ep hl hh mv ac pt tk et lm pE pA B S) (m : (Nat → Int)) (hS : S m) (hk : (m 0) = 12) (he : (m 3) = w2) (hw : w2 = V)  : Q_g0 has V E H T oG oT w0 w1 (-1) w3 lo hi st ep hl hh mv ac pt tk et lm pE pA (B + 2) S := by
  have i_g0 := Pin_g0 I
  clear I
  simp only [Q_g0, pokM, pown, prcv, pgiv, ppge, pfu] at *
  grind
set_option maxHeartbeats 400000 in
theorem pt_clr2_g1 {has : Prop} {V E H T oG oT w0 w1 w2 w3 lo hi : Int} {st ep hl hh mv ac pt tk et lm pE pA : Nat → Int} {B : Int} {S : (Nat → Int) → Prop} (I : Pin has V E H T oG oT w0 w1 w2 w3 lo hi st ep hl hh mv ac pt tk et lm pE pA B S) (m : (Nat → Int)) (hS : S m) (hk : (m 0) = 12) (he : (m 3) = w2) (hw : w2 = V)  : Q_g1 has V E H T oG oT w0 w1 (-1) w3 lo hi st ep hl hh mv ac pt tk et lm pE pA (B + 2) S := by
  have i_g1 := Pin_g1 I
  clear I
  simp only [Q_g1, pokM, pown, prcv, pgiv, ppge, pfu] at *
  grind
set_option maxHeartbeats 400000 in
theorem pt_clr2_g2 {has : Prop} {V E H T oG oT w0 w1 w2 w3 lo hi : Int} {st ep hl hh mv ac pt tk et lm pE pA : Nat → Int} {B : Int} {S : (Nat → Int) → Prop} (I : Pin has V E H T oG oT w0 w1 w2 w3 lo hi st ep hl hh mv ac pt tk et lm pE pA B S) (m : (Nat → Int)) (hS : S m) (hk : (m 0) = 12) (he : (m 3) = w2) (hw : w2 = V)  : Q_g2 has V E H T oG oT w0 w1 (-1) w3 lo hi st ep hl hh mv ac pt tk et lm pE pA (B + 2) S := by
  have i_g2 := Pin_g2 I
  clear I
  simp only [Q_g2, pokM, pown, prcv, pgiv, ppge, pfu] at *
  grind
set_option maxHeartbeats 400000 in
theorem pt_clr2_h7 {has : Prop} {V E H T oG oT w0 w1 w2 w3 lo hi : Int} {st ep hl hh mv ac pt tk et lm pE pA : Nat → Int} {B : Int} {S : (Nat → Int) → Prop} (I : Pin has V E H T oG oT w0 w1 w2 w3 lo hi st ep hl hh mv ac pt tk et lm pE pA B S) (m : (Nat → Int)) (hS : S m) (hk : (m 0) = 12) (he : (m 3) = w2) (hw : w2 = V)  : Q_h7 has V E H T oG oT w0 w1 (-1) w3 lo hi st ep hl hh mv ac pt tk et lm pE pA (B + 2) S := by
  have i_h7 := Pin_h7 I
  clear I
  simp only [Q_h7, pokM, pown, prcv, pgiv, ppge, pfu] at *
  grind
set_option maxHeartbeats 400000 in
theorem pt_clr2_h9 {has : Prop} {V E H T oG oT w0 w1 w2 w3 lo hi : Int} {st ep hl hh mv ac pt tk et lm pE pA : Nat → Int} {B : Int} {S : (Nat → Int) → Prop} (I : Pin has V E H T oG oT w0 w1 w2 w3 lo hi st ep hl hh mv ac pt tk et lm pE pA B S) (m : (Nat → Int)) (hS : S m) (hk : (m 0) = 12) (he : (m 3) = w2) (hw : w2 = V)  : Q_h9 has V E H T oG oT w0 w1 (-1) w3 lo hi st ep hl hh mv ac pt tk et lm pE pA (B + 2) S := by
  have i_h9 := Pin_h9 I
  clear I
  simp only [Q_h9, pokM, pown, prcv, pgiv, ppge, pfu] at *
  grind
set_option maxHeartbeats 400000 in
theorem pt_clr2_h10 {has : Prop} {V E H T oG oT w0 w1 w2 w3 lo hi : Int} {st ep hl hh mv ac pt tk et lm pE pA : Nat → Int} {B : Int} {S : (Nat → Int) → Prop} (I : Pin has V E H T oG oT w0 w1 w2 w3 lo hi st ep hl hh mv ac pt tk et lm pE pA B S) (m : (Nat → Int)) (hS : S m) (hk : (m 0) = 12) (he : (m 3) = w2) (hw : w2 = V)  : Q_h10 has V E H T oG oT w0 w1 (-1) w3 lo hi st ep hl hh mv ac pt tk et lm pE pA (B + 2) S := by
  have i_h10 := Pin_h10 I
  clear I
  simp only [Q_h10, pokM, pown, prcv, pgiv, ppge, pfu] at *
  grind
set_option maxHeartbeats 400000 in
theorem pt_clr2_h11 {has : Prop} {V E H T oG oT w0 w1 w2 w3 lo hi : Int} {st ep hl hh mv ac pt tk et lm pE pA : Nat → Int} {B : Int} {S : (Nat → Int) → Prop} (I : Pin has V E H T oG oT w0 w1 w2 w3 lo hi st ep hl hh mv ac pt tk et lm pE pA B S) (m : (Nat → Int)) (hS : S m) (hk : (m 0) = 12) (he : (m 3) = w2) (hw : w2 = V)  : Q_h11 has V E H T oG oT w0 w1 (-1) w3 lo hi st ep hl hh mv ac pt tk et lm pE pA (B + 2) S := by
  have i_h11 := Pin_h11 I
  clear I
  simp only [Q_h11, pokM, pown, prcv, pgiv, ppge, pfu] at *
  grind
set_option maxHeartbeats 400000 in
theorem pt_clr2_h12 {has : Prop} {V E H T oG oT w0 w1 w2 w3 lo hi : Int} {st ep hl hh mv ac pt tk et lm pE pA : Nat → Int} {B : Int} {S : (Nat → Int) → Prop} (I : Pin has V E H T oG oT w0 w1 w2 w3 lo hi st ep hl hh mv ac pt tk et lm pE pA B S) (m : (Nat → Int)) (hS : S m) (hk : (m 0) = 12) (he : (m 3) = w2) (hw : w2 = V)  : Q_h12 has V E H T oG oT w0 w1 (-1) w3 lo hi st ep hl hh mv ac pt tk et lm pE pA (B + 2) S := by
  have i_h12 := Pin_h12 I
  clear I
  simp only [Q_h12, pokM, pown, prcv, pgiv, ppge, pfu] at *
  grind
set_option maxHeartbeats 400000 in
theorem pt_clr2_k1 {has : Prop} {V E H T oG oT w0 w1 w2 w3 lo hi : Int} {st ep hl hh mv ac pt tk et lm pE pA : Nat → Int} {B : Int} {S : (Nat → Int) → Prop} (I : Pin has V E H T oG oT w0 w1 w2 w3 lo hi st ep hl hh mv ac pt tk et lm pE pA B S) (m : (Nat → Int)) (hS : S m) (hk : (m 0) = 12) (he : (m 3) = w2) (hw : w2 = V)  : Q_k1 has V E H T oG oT w0 w1 (-1) w3 lo hi st ep hl hh mv ac pt tk et lm pE pA (B + 2) S := by
  have i_k1 := Pin_k1 I
  clear I
  simp only [Q_k1, pokM, pown, prcv, pgiv, ppge, pfu] at *
  grind
set_option maxHeartbeats 400000 in
theorem pt_clr2_k2 {has : Prop} {V E H T oG oT w0 w1 w2 w3 lo hi : Int} {st ep hl hh mv ac pt tk et lm pE pA : Nat → Int} {B : Int} {S : (Nat → Int) → Prop} (I : Pin has V E H T oG oT w0 w1 w2 w3 lo hi st ep hl hh mv ac pt tk et lm pE pA B S) (m : (Nat → Int)) (hS : S m) (hk : (m 0) = 12) (he : (m 3) = w2) (hw : w2 = V)  : Q_k2 has V E H T oG oT w0 w1 (-1) w3 lo hi st ep hl hh mv ac pt tk et lm pE pA (B + 2) S := by
  have i_k2 := Pin_k2 I
  clear I
  simp only [Q_k2, pokM, pown, prcv, pgiv, ppge, pfu] at *
  grind
set_option maxHeartbeats 400000 in
theorem pt_clr2_k8 {has : Prop} {V E H T oG oT w0 w1 w2 w3 lo hi : Int} {st ep hl hh mv ac pt tk et lm pE pA : Nat → Int} {B : Int} {S : (Nat → Int) → Prop} (I : Pin has V E H T oG oT w0 w1 w2 w3 lo hi st ep hl hh mv ac pt tk et lm pE pA B S) (m : (Nat → Int)) (hS : S m) (hk : (m 0) = 12) (he : (m 3) = w2) (hw : w2 = V)  : Q_k8 has V E H T oG oT w0 w1 (-1) w3 lo hi st ep hl hh mv ac pt tk et lm pE pA (B + 2) S := by
  have i_k8 := Pin_k8 I
  clear I
  simp only [Q_k8, pokM, pown, prcv, pgiv, ppge, pfu] at *
  grind
set_option maxHeartbeats 400000 in
theorem pt_clr2_l4 {has : Prop} {V E H T oG oT w0 w1 w2 w3 lo hi : Int} {st ep hl hh mv ac pt tk et lm pE pA : Nat → Int} {B : Int} {S : (Nat → Int) → Prop} (I : Pin has V E H T oG oT w0 w1 w2 w3 lo hi st ep hl hh mv ac pt tk et lm pE pA B S) (m : (Nat → Int)) (hS : S m) (hk : (m 0) = 12) (he : (m 3) = w2) (hw : w2 = V)  : Q_l4 has V E H T oG oT w0 w1 (-1) w3 lo hi st ep hl hh mv ac pt tk et lm pE pA (B + 2) S := by
  have i_l4 := Pin_l4 I
  clear I
  simp only [Q_l4, pokM, pown, prcv, pgiv, ppge, pfu] at *
  grind
set_option maxHeartbeats 400000 in
theorem pt_clr2_l5 {has : Prop} {V E H T oG oT w0 w1 w2 w3 lo hi : Int} {st ep hl hh mv ac pt tk et lm pE pA : Nat → Int} {B : Int} {S : (Nat → Int) → Prop} (I : Pin has V E H T oG oT w0 w1 w2 w3 lo hi st ep hl hh mv ac pt tk et lm pE pA B S) (m : (Nat → Int)) (hS : S m) (hk : (m 0) = 12) (he : (m 3) = w2) (hw : w2 = V)  : Q_l5 has V E H T oG oT w0 w1 (-1) w3 lo hi st ep hl hh mv ac pt tk et lm pE pA (B + 2) S := by
  have i_l5 := Pin_l5 I
  clear I
  simp only [Q_l5, pokM, pown, prcv, pgiv, ppge, pfu] at *
  grind
set_option maxHeartbeats 400000 in
theorem pt_clr2_l3 {has : Prop} {V E H T oG oT w0 w1 w2 w3 lo hi : Int} {st ep hl hh mv ac pt tk et lm pE pA : Nat → Int} {B : Int} {S : (Nat → Int) → Prop} (I : Pin has V E H T oG oT w0 w1 w2 w3 lo hi st ep hl hh mv ac pt tk et lm pE pA B S) (m : (Nat → Int)) (hS : S m) (hk : (m 0) = 12) (he : (m 3) = w2) (hw : w2 = V)  : Q_l3 has V E H T oG oT w0 w1 (-1) w3 lo hi st ep hl hh mv ac pt tk et lm pE pA (B + 2) S := by
  have i_l3 := Pin_l3 I
  clear I
  simp only [Q_l3, pokM, pown, prcv, pgiv, ppge, pfu] at *
  grind
set_option maxHeartbeats 400000 in
theorem pt_clr2_m1 {has : Prop} {V E H T oG oT w0 w1 w2 w3 lo hi : Int} {st ep hl hh mv ac pt tk et lm pE pA : Nat → Int} {B : Int} {S : (Nat → Int) → Prop} (I : Pin has V E H T oG oT w0 w1 w2 w3 lo hi st ep hl hh mv ac pt tk et lm pE pA B S) (m : (Nat → Int)) (hS : S m) (hk : (m 0) = 12) (he : (m 3) = w2) (hw : w2 = V)  : Q_m1 has V E H T oG oT w0 w1 (-1) w3 lo hi st ep hl hh mv ac pt tk et lm pE pA (B + 2) S := by
  have i_m1 := Pin_m1 I
  clear I
  simp only [Q_m1, pokM, pown, prcv, pgiv, ppge, pfu] at *
  grind
set_option maxHeartbeats 400000 in
theorem pt_clr2_m2 {has : Prop} {V E H T oG oT w0 w1 w2 w3 lo hi : Int} {st ep hl hh mv ac pt tk et lm pE pA : Nat → Int} {B : Int} {S : (Nat → Int) → Prop} (I : Pin has V E H T oG oT w0 w1 w2 w3 lo hi st ep hl hh mv ac pt tk et lm pE pA B S) (m : (Nat → Int)) (hS : S m) (hk : (m 0) = 12) (he : (m 3) = w2) (hw : w2 = V)  : Q_m2 has V E H T oG oT w0 w1 (-1) w3 lo hi st ep hl hh mv ac pt tk et lm pE pA (B + 2) S := by
  have i_m2 := Pin_m2 I
  clear I
  simp only [Q_m2, pokM, pown, prcv, pgiv, ppge, pfu] at *
  grind
set_option maxHeartbeats 400000 in
theorem pt_clr2_m3 {has : Prop} {V E H T oG oT w0 w1 w2 w3 lo hi : Int} {st ep hl hh mv ac pt tk et lm pE pA : Nat → Int} {B : Int} {S : (Nat → Int) → Prop} (I : Pin has V E H T oG oT w0 w1 w2 w3 lo hi st ep hl hh mv ac pt tk et lm pE pA B S) (m : (Nat → Int)) (hS : S m) (hk : (m 0) = 12) (he : (m 3) = w2) (hw : w2 = V)  : Q_m3 has V E H T oG oT w0 w1 (-1) w3 lo hi st ep hl hh mv ac pt tk et lm pE pA (B + 2) S := by
  have i_m3 := Pin_m3 I
  clear I
  simp only [Q_m3, pokM, pown, prcv, pgiv, ppge, pfu] at *
  grind
set_option maxHeartbeats 400000 in
theorem pt_clr2_n0 {has : Prop} {V E H T oG oT w0 w1 w2 w3 lo hi : Int} {st ep hl hh mv ac pt tk et lm pE pA : Nat → Int} {B : Int} {S : (Nat → Int) → Prop} (I : Pin has V E H T oG oT w0 w1 w2 w3 lo hi st ep hl hh mv ac pt tk et lm pE pA B S) (m : (Nat → Int)) (hS : S m) (hk : (m 0) = 12) (he : (m 3) = w2) (hw : w2 = V)  : Q_n0 has V E H T oG oT w0 w1 (-1) w3 lo hi st ep hl hh mv ac pt tk et lm pE pA (B + 2) S := by
  have i_n0 := Pin_n0 I
  clear I
  simp only [Q_n0, pokM, pown, prcv, pgiv, ppge, pfu] at *
  grind
set_option maxHeartbeats 400000 in
theorem pt_clr2_n1 {has : Prop} {V E H T oG oT w0 w1 w2 w3 lo hi : Int} {st ep hl hh mv ac pt tk et lm pE pA : Nat → Int} {B : Int} {S : (Nat → Int) → Prop} (I : Pin has V E H T oG oT w0 w1 w2 w3 lo hi st ep hl hh mv ac pt tk et lm pE pA B S) (m : (Nat → Int)) (hS : S m) (hk : (m 0) = 12) (he : (m 3) = w2) (hw : w2 = V)  : Q_n1 has V E H T oG oT w0 w1 (-1) w3 lo hi st ep hl hh mv ac pt tk et lm pE pA (B + 2) S := by
  have i_n1 := Pin_n1 I
  clear I
  simp only [Q_n1, pokM, pown, prcv, pgiv, ppge, pfu] at *
  grind
set_option maxHeartbeats 400000 in
theorem pt_clr2_n2 {has : Prop} {V E H T oG oT w0 w1 w2 w3 lo hi : Int} {st ep hl hh mv ac pt tk et lm pE pA : Nat → Int} {B : Int} {S : (Nat → Int) → Prop} (I : Pin has V E H T oG oT w0 w1 w2 w3 lo hi st ep hl hh mv ac pt tk et lm pE pA B S) (m : (Nat → Int)) (hS : S m) (hk : (m 0) = 12) (he : (m 3) = w2) (hw : w2 = V)  : Q_n2 has V E H T oG oT w0 w1 (-1) w3 lo hi st ep hl hh mv ac pt tk et lm pE pA (B + 2) S := by
  have i_n2 := Pin_n2 I
  clear I
  simp only [Q_n2, pokM, pown, prcv, pgiv, ppge, pfu] at *
  grind
set_option maxHeartbeats 400000 in
theorem pt_clr2_n3 {has : Prop} {V E H T oG oT w0 w1 w2 w3 lo hi : Int} {st ep hl hh mv ac pt tk et lm pE pA : Nat → Int} {B : Int} {S : (Nat → Int) → Prop} (I : Pin has V E H T oG oT w0 w1 w2 w3 lo hi st ep hl hh mv ac pt tk et lm pE pA B S) (m : (Nat → Int)) (hS : S m) (hk : (m 0) = 12) (he : (m 3) = w2) (hw : w2 = V)  : Q_n3 has V E H T oG oT w0 w1 (-1) w3 lo hi st ep hl hh mv ac pt tk et lm pE pA (B + 2) S := by
  have i_n3 := Pin_n3 I
  clear I
  simp only [Q_n3, pokM, pown, prcv, pgiv, ppge, pfu] at *
  grind
set_option maxHeartbeats 400000 in
theorem pt_clr2_n4 {has : Prop} {V E H T oG oT w0 w1 w2 w3 lo hi : Int} {st ep hl hh mv ac pt tk et lm pE pA : Nat → Int} {B : Int} {S : (Nat → Int) → Prop} (I : Pin has V E H T oG oT w0 w1 w2 w3 lo hi st ep hl hh mv ac pt tk et lm pE pA B S) (m : (Nat → Int)) (hS : S m) (hk : (m 0) = 12) (he : (m 3) = w2) (hw : w2 = V)  : Q_n4 has V E H T oG oT w0 w1 (-1) w3 lo hi st ep hl hh mv ac pt tk et lm pE pA (B + 2) S := by
  have i_n4 := Pin_n4 I
  clear I
  simp only [Q_n4, pokM, pown, prcv, pgiv, ppge, pfu] at *
  grind
set_option maxHeartbeats 400000 in
theorem pt_clr2_n5 {has : Prop} {V E H T oG oT w0 w1 w2 w3 lo hi : Int} {st ep hl hh mv ac pt tk et lm pE pA : Nat → Int} {B : Int} {S : (Nat → Int) → Prop} (I : Pin has V E H T oG oT w0 w1 w2 w3 lo hi st ep hl hh mv ac pt tk et lm pE pA B S) (m : (Nat → Int)) (hS : S m) (hk : (m 0) = 12) (he : (m 3) = w2) (hw : w2 = V)  : Q_n5 has V E H T oG oT w0 w1 (-1) w3 lo hi st ep hl hh mv ac pt tk et lm pE pA (B + 2) S := by
  have i_n5 := Pin_n5 I
  clear I
  simp only [Q_n5, pokM, pown, prcv, pgiv, ppge, pfu] at *
  grind
set_option maxHeartbeats 400000 in
theorem pt_clr2_n6 {has : Prop} {V E H T oG oT w0 w1 w2 w3 lo hi : Int} {st ep hl hh mv ac pt tk et lm pE pA : Nat → Int} {B : Int} {S : (Nat → Int) → Prop} (I : Pin has V E H T oG oT w0 w1 w2 w3 lo hi st ep hl hh mv ac pt tk et lm pE pA B S) (m : (Nat → Int)) (hS : S m) (hk : (m 0) = 12) (he : (m 3) = w2) (hw : w2 = V)  : Q_n6 has V E H T oG oT w0 w1 (-1) w3 lo hi st ep hl hh mv ac pt tk et lm pE pA (B + 2) S := by
  have i_n6 := Pin_n6 I
  clear I
  simp only [Q_n6, pokM, pown, prcv, pgiv, ppge, pfu] at *
  grind
set_option maxHeartbeats 400000 in
theorem pt_clr2_n7 {has : Prop} {V E H T oG oT w0 w1 w2 w3 lo hi : Int} {st ep hl hh mv ac pt tk et lm pE pA : Nat → Int} {B : Int} {S : (Nat → Int) → Prop} (I : Pin has V E H T oG oT w0 w1 w2 w3 lo hi st ep hl hh mv ac pt tk et lm pE pA B S) (m : (Nat → Int)) (hS : S m) (hk : (m 0) = 12) (he : (m 3) = w2) (hw : w2 = V)  : Q_n7 has V E H T oG oT w0 w1 (-1) w3 lo hi st ep hl hh mv ac pt tk et lm pE pA (B + 2) S := by
  have i_n7 := Pin_n7 I
  clear I
  simp only [Q_n7, pokM, pown, prcv, pgiv, ppge, pfu] at *
  grind
set_option maxHeartbeats 400000 in
theorem pt_clr2_o {has : Prop} {V E H T oG oT w0 w1 w2 w3 lo hi : Int} {st ep hl hh mv ac pt tk et lm pE pA : Nat → Int} {B : Int} {S : (Nat → Int) → Prop} (I : Pin has V E H T oG oT w0 w1 w2 w3 lo hi st ep hl hh mv ac pt tk et lm pE pA B S) (m : (Nat → Int)) (hS : S m) (hk : (m 0) = 12) (he : (m 3) = w2) (hw : w2 = V)  : Q_o has V E H T oG oT w0 w1 (-1) w3 lo hi st ep hl hh mv ac pt tk et lm pE pA (B + 2) S := by
  have i_o := Pin_o I
  clear I
  simp only [Q_o, pokM, pown, prcv, pgiv, ppge, pfu] at *
  grind
set_option maxHeartbeats 400000 in
theorem pt_clr2_p {has : Prop} {V E H T oG oT w0 w1 w2 w3 lo hi : Int} {st ep hl hh mv ac pt tk et lm pE pA : Nat → Int} {B : Int} {S : (Nat → Int) → Prop} (I : Pin has V E H T oG oT w0 w1 w2 w3 lo hi st ep hl hh mv ac pt tk et lm pE pA B S) (m : (Nat → Int)) (hS : S m) (hk : (m 0) = 12) (he : (m 3) = w2) (hw : w2 = V)  : Q_p has V E H T oG oT w0 w1 (-1) w3 lo hi st ep hl hh mv ac pt tk et lm pE pA (B + 2) S := by
  have i_p := Pin_p I
  clear I
  simp only [Q_p, pokM, pown, prcv, pgiv, ppge, pfu] at *
  grind
set_option maxHeartbeats 400000 in
theorem pt_clr2_q {has : Prop} {V E H T oG oT w0 w1 w2 w3 lo hi : Int} {st ep hl hh mv ac pt tk et lm pE pA : Nat → Int} {B : Int} {S : (Nat → Int) → Prop} (I : Pin has V E H T oG oT w0 w1 w2 w3 lo hi st ep hl hh mv ac pt tk et lm pE pA B S) (m : (Nat → Int)) (hS : S m) (hk : (m 0) = 12) (he : (m 3) = w2) (hw : w2 = V)  : Q_q has V E H T oG oT w0 w1 (-1) w3 lo hi st ep hl hh mv ac pt tk et lm pE pA (B + 2) S := by
  have i_q := Pin_q I
  clear I
  simp only [Q_q, pokM, pown, prcv, pgiv, ppge, pfu] at *
  grind
set_option maxHeartbeats 400000 in
theorem pt_clr2_q2 {has : Prop} {V E H T oG oT w0 w1 w2 w3 lo hi : Int} {st ep hl hh mv ac pt tk et lm pE pA : Nat → Int} {B : Int} {S : (Nat → Int) → Prop} (I : Pin has V E H T oG oT w0 w1 w2 w3 lo hi st ep hl hh mv ac pt tk et lm pE pA B S) (m : (Nat → Int)) (hS : S m) (hk : (m 0) = 12) (he : (m 3) = w2) (hw : w2 = V)  : Q_q2 has V E H T oG oT w0 w1 (-1) w3 lo hi st ep hl hh mv ac pt tk et lm pE pA (B + 2) S := by
  have i_q2 := Pin_q2 I
  clear I
  simp only [Q_q2, pokM, pown, prcv, pgiv, ppge, pfu] at *
  grind
set_option maxHeartbeats 400000 in
theorem pt_clr2_q3 {has : Prop} {V E H T oG oT w0 w1 w2 w3 lo hi : Int} {st ep hl hh mv ac pt tk et lm pE pA : Nat → Int} {B : Int} {S : (Nat → Int) → Prop} (I : Pin has V E H T oG oT w0 w1 w2 w3 lo hi st ep hl hh mv ac pt tk et lm pE pA B S) (m : (Nat → Int)) (hS : S m) (hk : (m 0) = 12) (he : (m 3) = w2) (hw : w2 = V)  : Q_q3 has V E H T oG oT w0 w1 (-1) w3 lo hi st ep hl hh mv ac pt tk et lm pE pA (B + 2) S := by
  have i_q3 := Pin_q3 I
  clear I
  simp only [Q_q3, pokM, pown, prcv, pgiv, ppge, pfu] at *
  grind
set_option maxHeartbeats 400000 in
theorem pt_clr2_w {has : Prop} {V E H T oG oT w0 w1 w2 w3 lo hi : Int} {st ep hl hh mv ac pt tk et lm pE pA : Nat → Int} {B : Int} {S : (Nat → Int) → Prop} (I : Pin has V E H T oG oT w0 w1 w2 w3 lo hi st ep hl hh mv ac pt tk et lm pE pA B S) (m : (Nat → Int)) (hS : S m) (hk : (m 0) = 12) (he : (m 3) = w2) (hw : w2 = V)  : Q_w has V E H T oG oT w0 w1 (-1) w3 lo hi st ep hl hh mv ac pt tk et lm pE pA (B + 2) S := by
  have i_w := Pin_w I
  clear I
  simp only [Q_w, pokM, pown, prcv, pgiv, ppge, pfu] at *
  grind
theorem pt_clr2 {has : Prop} {V E H T oG oT w0 w1 w2 w3 lo hi : Int} {st ep hl hh mv ac pt tk et lm pE pA : Nat → Int} {B : Int} {S : (Nat → Int) → Prop} (I : Pin has V E H T oG oT w0 w1 w2 w3 lo hi st ep hl hh mv ac pt tk et lm pE pA B S) (m : (Nat → Int)) (hS : S m) (hk : (m 0) = 12) (he : (m 3) = w2) (hw : w2 = V) : Pin has V E H T oG oT w0 w1 (-1) w3 lo hi st ep hl hh mv ac pt tk et lm pE pA (B + 2) S := by
  exact ⟨pt_clr2_v0 I m hS hk he hw , pt_clr2_a I m hS hk he hw , pt_clr2_b I m hS hk he hw , pt_clr2_c I m hS hk he hw , pt_clr2_d I m hS hk he hw , pt_clr2_e I m hS hk he hw , pt_clr2_f I m hS hk he hw , pt_clr2_f2 I m hS hk he hw , pt_clr2_f3 I m hS hk he hw , pt_clr2_g I m hS hk he hw , pt_clr2_g0 I m hS hk he hw , pt_clr2_g1 I m hS hk he hw , pt_clr2_g2 I m hS hk he hw , pt_clr2_h7 I m hS hk he hw , pt_clr2_h9 I m hS hk he hw , pt_clr2_h10 I m hS hk he hw , pt_clr2_h11 I m hS hk he hw , pt_clr2_h12 I m hS hk he hw , pt_clr2_k1 I m hS hk he hw , pt_clr2_k2 I m hS hk he hw , pt_clr2_k8 I m hS hk he hw , pt_clr2_l4 I m hS hk he hw , pt_clr2_l5 I m hS hk he hw , pt_clr2_l3 I m hS hk he hw , pt_clr2_m1 I m hS hk he hw , pt_clr2_m2 I m hS hk he hw , pt_clr2_m3 I m hS hk he hw , pt_clr2_n0 I m hS hk he hw , pt_clr2_n1 I m hS hk he hw , pt_clr2_n2 I m hS hk he hw , pt_clr2_n3 I m hS hk he hw , pt_clr2_n4 I m hS hk he hw , pt_clr2_n5 I m hS hk he hw , pt_clr2_n6 I m hS hk he hw , pt_clr2_n7 I m hS hk he hw , pt_clr2_o I m hS hk he hw , pt_clr2_p I m hS hk he hw , pt_clr2_q I m hS hk he hw , pt_clr2_q2 I m hS hk he hw , pt_clr2_q3 I m hS hk he hw , pt_clr2_w I m hS hk he hw ⟩
set_option maxHeartbeats 400000 in
theorem pt_clr3_v0 {has : Prop} {V E H T oG oT w0 w1 w2 w3 lo hi : Int} {st ep hl hh mv ac pt tk et lm pE pA : Nat → Int} {B : Int} {S : (Nat → Int) → Prop} (I : Pin has V E H T oG oT w0 w1 w2 w3 lo hi st ep hl hh mv ac pt tk et lm pE pA B S)   : Q_v0 has V E H T oG oT w0 w1 w2 (-1) lo hi st ep hl hh mv ac pt tk et lm pE pA (B + 2) S := by
  have i_v0 := Pin_v0 I
  clear I
  simp only [Q_v0, pokM, pown, prcv, pgiv, ppge, pfu] at *
  grind
set_option maxHeartbeats 400000 in
theorem pt_clr3_a {has : Prop} {V E H T oG oT w0 w1 w2 w3 lo hi : Int} {st ep hl hh mv ac pt tk et lm pE pA : Nat → Int} {B : Int} {S : (Nat → Int) → Prop} (I : Pin has V E H T oG oT w0 w1 w2 w3 lo hi st ep hl hh mv ac pt tk et lm pE pA B S)   : Q_a has V E H T oG oT w0 w1 w2 (-1) lo hi st ep hl hh mv ac pt tk et lm pE pA (B + 2) S := by
  have i_a := Pin_a I
  clear I
  simp only [Q_a, pokM, pown, prcv, pgiv, ppge, pfu] at *
  grind
set_option maxHeartbeats 400000 in
theorem pt_clr3_b {has : Prop} {V E H T oG oT w0 w1 w2 w3 lo hi : Int} {st ep hl hh mv ac pt tk et lm pE pA : Nat → Int} {B : Int} {S : (Nat → Int) → Prop} (I : Pin has V E H T oG oT w0 w1 w2 w3 lo hi st ep hl hh mv ac pt tk et lm pE pA B S)   : Q_b has V E H T oG oT w0 w1 w2 (-1) lo hi st ep hl hh mv ac pt tk et lm pE pA (B + 2) S := by
  have i_b := Pin_b I
  clear I
  simp only [Q_b, pokM, pown, prcv, pgiv, ppge, pfu] at *
  grind
set_option maxHeartbeats 400000 in
theorem pt_clr3_c {has : Prop} {V E H T oG oT w0 w1 w2 w3 lo hi : Int} {st ep hl hh mv ac pt tk et lm pE pA : Nat → Int} {B : Int} {S : (Nat → Int) → Prop} (I : Pin has V E H T oG oT w0 w1 w2 w3 lo hi st ep hl hh mv ac pt tk et lm pE pA B S)   : Q_c has V E H T oG oT w0 w1 w2 (-1) lo hi st ep hl hh mv ac pt tk et lm pE pA (B + 2) S := by
  have i_c := Pin_c I
  clear I
  simp only [Q_c, pokM, pown, prcv, pgiv, ppge, pfu] at *
  grind
set_option maxHeartbeats 400000 in
theorem pt_clr3_d {has : Prop} {V E H T oG oT w0 w1 w2 w3 lo hi : Int} {st ep hl hh mv ac pt tk et lm pE pA : Nat → Int} {B : Int} {S : (Nat → Int) → Prop} (I : Pin has V E H T oG oT w0 w1 w2 w3 lo hi st ep hl hh mv ac pt tk et lm pE pA B S)   : Q_d has V E H T oG oT w0 w1 w2 (-1) lo hi st ep hl hh mv ac pt tk et lm pE pA (B + 2) S := by
  have i_d := Pin_d I
  clear I
  simp only [Q_d, pokM, pown, prcv, pgiv, ppge, pfu] at *
  grind
set_option maxHeartbeats 400000 in
theorem pt_clr3_e {has : Prop} {V E H T oG oT w0 w1 w2 w3 lo hi : Int} {st ep hl hh mv ac pt tk et lm pE pA : Nat → Int} {B : Int} {S : (Nat → Int) → Prop} (I : Pin has V E H T oG oT w0 w1 w2 w3 lo hi st ep hl hh mv ac pt tk et lm pE pA B S)   : Q_e has V E H T oG oT w0 w1 w2 (-1) lo hi st ep hl hh mv ac pt tk et lm pE pA (B + 2) S := by
  have i_e := Pin_e I
  clear I
  simp only [Q_e, pokM, pown, prcv, pgiv, ppge, pfu] at *
  grind
set_option maxHeartbeats 400000 in
theorem pt_clr3_f {has : Prop} {V E H T oG oT w0 w1 w2 w3 lo hi : Int} {st ep hl hh mv ac pt tk et lm pE pA : Nat → Int} {B : Int} {S : (Nat → Int) → Prop} (I : Pin has V E H T oG oT w0 w1 w2 w3 lo hi st ep hl hh mv ac pt tk et lm pE pA B S)   : Q_f has V E H T oG oT w0 w1 w2 (-1) lo hi st ep hl hh mv ac pt tk et lm pE pA (B + 2) S := by
  have i_f := Pin_f I
  clear I
  simp only [Q_f, pokM, pown, prcv, pgiv, ppge, pfu] at *
  grind
set_option maxHeartbeats 400000 in
theorem pt_clr3_f2 {has : Prop} {V E H T oG oT w0 w1 w2 w3 lo hi : Int} {st ep hl hh mv ac pt tk et lm pE pA : Nat → Int} {B : Int} {S : (Nat → Int) → Prop} (I : Pin has V E H T oG oT w0 w1 w2 w3 lo hi st ep hl hh mv ac pt tk et lm pE pA B S)   : Q_f2 has V E H T oG oT w0 w1 w2 (-1) lo hi st ep hl hh mv ac pt tk et lm pE pA (B + 2) S := by
  have i_f2 := Pin_f2 I
  clear I
  simp only [Q_f2, pokM, pown, prcv, pgiv, ppge, pfu] at *
  grind
set_option maxHeartbeats 400000 in
theorem pt_clr3_f3 {has : Prop} {V E H T oG oT w0 w1 w2 w3 lo hi : Int} {st ep hl hh mv ac pt tk et lm pE pA : Nat → Int} {B : Int} {S : (Nat → Int) → Prop} (I : Pin has V E H T oG oT w0 w1 w2 w3 lo hi st ep hl hh mv ac pt tk et lm pE pA B S)   : Q_f3 has V E H T oG oT w0 w1 w2 (-1) lo hi st ep hl hh mv ac pt tk et lm pE pA (B + 2) S := by
  have i_f3 := Pin_f3 I
  clear I
  simp only [Q_f3, pokM, pown, prcv, pgiv, ppge, pfu] at *
  grind
set_option maxHeartbeats 400000 in
theorem pt_clr3_g {has : Prop} {V E H T oG oT w0 w1 w2 w3 lo hi : Int} {st ep hl hh mv ac pt tk et lm pE pA : Nat → Int} {B : Int} {S : (Nat → Int) → Prop} (I : Pin has V E H T oG oT w0 w1 w2 w3 lo hi st ep hl hh mv ac pt tk et lm pE pA B S)   : Q_g has V E H T oG oT w0 w1 w2 (-1) lo hi st ep hl hh mv ac pt tk et lm pE pA (B + 2) S := by
  have i_g := Pin_g I
  clear I
  simp only [Q_g, pokM, pown, prcv, pgiv, ppge, pfu] at *
  grind
set_option maxHeartbeats 400000 in
theorem pt_clr3_g0 {has : Prop} {V E H T oG oT w0 w1 w2 w3 lo hi : Int} {st ep hl hh mv ac pt tk et lm pE pA : Nat → Int} {B : Int} {S : (Nat → Int) → Prop} (I : Pin has V E H T oG oT w0 w1 w2 w3 lo hi st ep hl hh mv ac pt tk et lm pE pA B S)   : Q_g0 has V E H T oG oT w0 w1 w2 (-1) lo hi st ep hl hh mv ac pt tk et lm pE pA (B + 2) S := by
  have i_g0 := Pin_g0 I
  clear I
  simp only [Q_g0, pokM, pown, prcv, pgiv, ppge, pfu] at *
  grind
set_option maxHeartbeats 400000 in
theorem pt_clr3_g1 {has : Prop} {V E H T oG oT w0 w1 w2 w3 lo hi : Int} {st ep hl hh mv ac pt tk et lm pE pA : Nat → Int} {B : Int} {S : (Nat → Int) → Prop} (I : Pin has V E H T oG oT w0 w1 w2 w3 lo hi st ep hl hh mv ac pt tk et lm pE pA B S)   : Q_g1 has V E H T oG oT w0 w1 w2 (-1) lo hi st ep hl hh mv ac pt tk et lm pE pA (B + 2) S := by
  have i_g1 := Pin_g1 I
  clear I
  simp only [Q_g1, pokM, pown, prcv, pgiv, ppge, pfu] at *
  grind
set_option maxHeartbeats 400000 in
theorem pt_clr3_g2 {has : Prop} {V E H T oG oT w0 w1 w2 w3 lo hi : Int} {st ep hl hh mv ac pt tk et lm pE pA : Nat → Int} {B : Int} {S : (Nat → Int) → Prop} (I : Pin has V E H T oG oT w0 w1 w2 w3 lo hi st ep hl hh mv ac pt tk et lm pE pA B S)   : Q_g2 has V E H T oG oT w0 w1 w2 (-1) lo hi st ep hl hh mv ac pt tk et lm pE pA (B + 2) S := by
  have i_g2 := Pin_g2 I
  clear I
  simp only [Q_g2, pokM, pown, prcv, pgiv, ppge, pfu] at *
  grind
set_option maxHeartbeats 400000 in
theorem pt_clr3_h7 {has : Prop} {V E H T oG oT w0 w1 w2 w3 lo hi : Int} {st ep hl hh mv ac pt tk et lm pE pA : Nat → Int} {B : Int} {S : (Nat → Int) → Prop} (I : Pin has V E H T oG oT w0 w1 w2 w3 lo hi st ep hl hh mv ac pt tk et lm pE pA B S)   : Q_h7 has V E H T oG oT w0 w1 w2 (-1) lo hi st ep hl hh mv ac pt tk et lm pE pA (B + 2) S := by
  have i_h7 := Pin_h7 I
  clear I
  simp only [Q_h7, pokM, pown, prcv, pgiv, ppge, pfu] at *
  grind
set_option maxHeartbeats 400000 in
theorem pt_clr3_h9 {has : Prop} {V E H T oG oT w0 w1 w2 w3 lo hi : Int} {st ep hl hh mv ac pt tk et lm pE pA : Nat → Int} {B : Int} {S : (Nat → Int) → Prop} (I : Pin has V E H T oG oT w0 w1 w2 w3 lo hi st ep hl hh mv ac pt tk et lm pE pA B S)   : Q_h9 has V E H T oG oT w0 w1 w2 (-1) lo hi st ep hl hh mv ac pt tk et lm pE pA (B + 2) S := by
  have i_h9 := Pin_h9 I
  clear I
  simp only [Q_h9, pokM, pown, prcv, pgiv, ppge, pfu] at *
  grind
set_option maxHeartbeats 400000 in
theorem pt_clr3_h10 {has : Prop} {V E H T oG oT w0 w1 w2 w3 lo hi : Int} {st ep hl hh mv ac pt tk et lm pE pA : Nat → Int} {B : Int} {S : (Nat → Int) → Prop} (I : Pin has V E H T oG oT w0 w1 w2 w3 lo hi st ep hl hh mv ac pt tk et lm pE pA B S)   : Q_h10 has V E H T oG oT w0 w1 w2 (-1) lo hi st ep hl hh mv ac pt tk et lm pE pA (B + 2) S := by
  have i_h10 := Pin_h10 I
  clear I
  simp only [Q_h10, pokM, pown, prcv, pgiv, ppge, pfu] at *
  grind
set_option maxHeartbeats 400000 in
theorem pt_clr3_h11 {has : Prop} {V E H T oG oT w0 w1 w2 w3 lo hi : Int} {st ep hl hh mv ac pt tk et lm pE pA : Nat → Int} {B : Int} {S : (Nat → Int) → Prop} (I : Pin has V E H T oG oT w0 w1 w2 w3 lo hi st ep hl hh mv ac pt tk et lm pE pA B S)   : Q_h11 has V E H T oG oT w0 w1 w2 (-1) lo hi st ep hl hh mv ac pt tk et lm pE pA (B + 2) S := by
  have i_h11 := Pin_h11 I
  clear I
  simp only [Q_h11, pokM, pown, prcv, pgiv, ppge, pfu] at *
  grind
set_option maxHeartbeats 400000 in
theorem pt_clr3_h12 {has : Prop} {V E H T oG oT w0 w1 w2 w3 lo hi : Int} {st ep hl hh mv ac pt tk et lm pE pA : Nat → Int} {B : Int} {S : (Nat → Int) → Prop} (I : Pin has V E H T oG oT w0 w1 w2 w3 lo hi st ep hl hh mv ac pt tk et lm pE pA B S)   : Q_h12 has V E H T oG oT w0 w1 w2 (-1) lo hi st ep hl hh mv ac pt tk et lm pE pA (B + 2) S := by
  have i_h12 := Pin_h12 I
  clear I
  simp only [Q_h12, pokM, pown, prcv, pgiv, ppge, pfu] at *
  grind
set_option maxHeartbeats 400000 in
theorem pt_clr3_k1 {has : Prop} {V E H T oG oT w0 w1 w2 w3 lo hi : Int} {st ep hl hh mv ac pt tk et lm pE pA : Nat → Int} {B : Int} {S : (Nat → Int) → Prop} (I : Pin has V E H T oG oT w0 w1 w2 w3 lo hi st ep hl hh mv ac pt tk et lm pE pA B S)   : Q_k1 has V E H T oG oT w0 w1 w2 (-1) lo hi st ep hl hh mv ac pt tk et lm pE pA (B + 2) S := by
  have i_k1 := Pin_k1 I
  clear I
  simp only [Q_k1, pokM, pown, prcv, pgiv, ppge, pfu] at *
  grind
set_option maxHeartbeats 400000 in
theorem pt_clr3_k2 {has : Prop} {V E H T oG oT w0 w1 w2 w3 lo hi : Int} {st ep hl hh mv ac pt tk et lm pE pA : Nat → Int} {B : Int} {S : (Nat → Int) → Prop} (I : Pin has V E H T oG oT w0 w1 w2 w3 lo hi st ep hl hh mv ac pt tk et lm pE pA B S)   : Q_k2 has V E H T oG oT w0 w1 w2 (-1) lo hi st ep hl hh mv ac pt tk et lm pE pA (B + 2) S := by
  have i_k2 := Pin_k2 I
  clear I
  simp only [Q_k2, pokM, pown, prcv, pgiv, ppge, pfu] at *
  grind
set_option maxHeartbeats 400000 in
theorem pt_clr3_k8 {has : Prop} {V E H T oG oT w0 w1 w2 w3 lo hi : Int} {st ep hl hh mv ac pt tk et lm pE pA : Nat → Int} {B : Int} {S : (Nat → Int) → Prop} (I : Pin has V E H T oG oT w0 w1 w2 w3 lo hi st ep hl hh mv ac pt tk et lm pE pA B S)   : Q_k8 has V E H T oG oT w0 w1 w2 (-1) lo hi st ep hl hh mv ac pt tk et lm pE pA (B + 2) S := by
  have i_k8 := Pin_k8 I
  clear I
  simp only [Q_k8, pokM, pown, prcv, pgiv, ppge, pfu] at *
  grind
set_option maxHeartbeats 400000 in
theorem pt_clr3_l4 {has : Prop} {V E H T oG oT w0 w1 w2 w3 lo hi : Int} {st ep hl hh mv ac pt tk et lm pE pA : Nat → Int} {B : Int} {S : (Nat → Int) → Prop} (I : Pin has V E H T oG oT w0 w1 w2 w3 lo hi st ep hl hh mv ac pt tk et lm pE pA B S)   : Q_l4 has V E H T oG oT w0 w1 w2 (-1) lo hi st ep hl hh mv ac pt tk et lm pE pA (B + 2) S := by
  have i_l4 := Pin_l4 I
  clear I
  simp only [Q_l4, pokM, pown, prcv, pgiv, ppge, pfu] at *
  grind
set_option maxHeartbeats 400000 in
theorem pt_clr3_l5 {has : Prop} {V E H T oG oT w0 w1 w2 w3 lo hi : Int} {st ep hl hh mv ac pt tk et lm pE pA : Nat → Int} {B : Int} {S : (Nat → Int) → Prop} (I : Pin has V E H T oG oT w0 w1 w2 w3 lo hi st ep hl hh mv ac pt tk et lm pE pA B S)   : Q_l5 has V E H T oG oT w0 w1 w2 (-1) lo hi st ep hl hh mv ac pt tk et lm pE pA (B + 2) S := by
  have i_l5 := Pin_l5 I
  clear I
  simp only [Q_l5, pokM, pown, prcv, pgiv, ppge, pfu] at *
  grind
set_option maxHeartbeats 400000 in
theorem pt_clr3_l3 {has : Prop} {V E H T oG oT w0 w1 w2 w3 lo hi : Int} {st ep hl hh mv ac pt tk et lm pE pA : Nat → Int} {B : Int} {S : (Nat → Int) → Prop} (I : Pin has V E H T oG oT w0 w1 w2 w3 lo hi st ep hl hh mv ac pt tk et lm pE pA B S)   : Q_l3 has V E H T oG oT w0 w1 w2 (-1) lo hi st ep hl hh mv ac pt tk et lm pE pA (B + 2) S := by
  have i_l3 := Pin_l3 I
  clear I
  simp only [Q_l3, pokM, pown, prcv, pgiv, ppge, pfu] at *
  grind
set_option maxHeartbeats 400000 in
theorem pt_clr3_m1 {has : Prop} {V E H T oG oT w0 w1 w2 w3 lo hi : Int} {st ep hl hh mv ac pt tk et lm pE pA : Nat → Int} {B : Int} {S : (Nat → Int) → Prop} (I : Pin has V E H T oG oT w0 w1 w2 w3 lo hi st ep hl hh mv ac pt tk et lm pE pA B S)   : Q_m1 has V E H T oG oT w0 w1 w2 (-1) lo hi st ep hl hh mv ac pt tk et lm pE pA (B + 2) S := by
  have i_m1 := Pin_m1 I
  clear I
  simp only [Q_m1, pokM, pown, prcv, pgiv, ppge, pfu] at *
  grind
set_option maxHeartbeats 400000 in
theorem pt_clr3_m2 {has : Prop} {V E H T oG oT w0 w1 w2 w3 lo hi : Int} {st ep hl hh mv ac pt tk et lm pE pA : Nat → Int} {B : Int} {S : (Nat → Int) → Prop} (I : Pin has V E H T oG oT w0 w1 w2 w3 lo hi st ep hl hh mv ac pt tk et lm pE pA B S)   : Q_m2 has V E H T oG oT w0 w1 w2 (-1) lo hi st ep hl hh mv ac pt tk et lm pE pA (B + 2) S := by
  have i_m2 := Pin_m2 I
  clear I
  simp only [Q_m2, pokM, pown, prcv, pgiv, ppge, pfu] at *
  grind
set_option maxHeartbeats 400000 in
theorem pt_clr3_m3 {has : Prop} {V E H T oG oT w0 w1 w2 w3 lo hi : Int} {st ep hl hh mv ac pt tk et lm pE pA : Nat → Int} {B : Int} {S : (Nat → Int) → Prop} (I : Pin has V E H T oG oT w0 w1 w2 w3 lo hi st ep hl hh mv ac pt tk et lm pE pA B S)   : Q_m3 has V E H T oG oT w0 w1 w2 (-1) lo hi st ep hl hh mv ac pt tk et lm pE pA (B + 2) S := by
  have i_m3 := Pin_m3 I
  clear I
  simp only [Q_m3, pokM, pown, prcv, pgiv, ppge, pfu] at *
  grind
set_option maxHeartbeats 400000 in
theorem pt_clr3_n0 {has : Prop} {V E H T oG oT w0 w1 w2 w3 lo hi : Int} {st ep hl hh mv ac pt tk et lm pE pA : Nat → Int} {B : Int} {S : (Nat → Int) → Prop} (I : Pin has V E H T oG oT w0 w1 w2 w3 lo hi st ep hl hh mv ac pt tk et lm pE pA B S)   : Q_n0 has V E H T oG oT w0 w1 w2 (-1) lo hi st ep hl hh mv ac pt tk et lm pE pA (B + 2) S := by
  have i_n0 := Pin_n0 I
  clear I
  simp only [Q_n0, pokM, pown, prcv, pgiv, ppge, pfu] at *
  grind
set_option maxHeartbeats 400000 in
theorem pt_clr3_n1 {has : Prop} {V E H T oG oT w0 w1 w2 w3 lo hi : Int} {st ep hl hh mv ac pt tk et lm pE pA : Nat → Int} {B : Int} {S : (Nat → Int) → Prop} (I : Pin has V E H T oG oT w0 w1 w2 w3 lo hi st ep hl hh mv ac pt tk et lm pE pA B S)   : Q_n1 has V E H T oG oT w0 w1 w2 (-1) lo hi st ep hl hh mv ac pt tk et lm pE pA (B + 2) S := by
  have i_n1 := Pin_n1 I
  clear I
  simp only [Q_n1, pokM, pown, prcv, pgiv, ppge, pfu] at *
  grind
set_option maxHeartbeats 400000 in
theorem pt_clr3_n2 {has : Prop} {V E H T oG oT w0 w1 w2 w3 lo hi : Int} {st ep hl hh mv ac pt tk et lm pE pA : Nat → Int} {B : Int} {S : (Nat → Int) → Prop} (I : Pin has V E H T oG oT w0 w1 w2 w3 lo hi st ep hl hh mv ac pt tk et lm pE pA B S)   : Q_n2 has V E H T oG oT w0 w1 w2 (-1) lo hi st ep hl hh mv ac pt tk et lm pE pA (B + 2) S := by
  have i_n2 := Pin_n2 I
  clear I
  simp only [Q_n2, pokM, pown, prcv, pgiv, ppge, pfu] at *
  grind
set_option maxHeartbeats 400000 in
theorem pt_clr3_n3 {has : Prop} {V E H T oG oT w0 w1 w2 w3 lo hi : Int} {st ep hl hh mv ac pt tk et lm pE pA : Nat → Int} {B : Int} {S : (Nat → Int) → Prop} (I : Pin has V E H T oG oT w0 w1 w2 w3 lo hi st ep hl hh mv ac pt tk et lm pE pA B S)   : Q_n3 has V E H T oG oT w0 w1 w2 (-1) lo hi st ep hl hh mv ac pt tk et lm pE pA (B + 2) S := by
  have i_n3 := Pin_n3 I
  clear I
  simp only [Q_n3, pokM, pown, prcv, pgiv, ppge, pfu] at *
  grind
set_option maxHeartbeats 400000 in
theorem pt_clr3_n4 {has : Prop} {V E H T oG oT w0 w1 w2 w3 lo hi : Int} {st ep hl hh mv ac pt tk et lm pE pA : Nat → Int} {B : Int} {S : (Nat → Int) → Prop} (I : Pin has V E H T oG oT w0 w1 w2 w3 lo hi st ep hl hh mv ac pt tk et lm pE pA B S)   : Q_n4 has V E H T oG oT w0 w1 w2 (-1) lo hi st ep hl hh mv ac pt tk et lm pE pA (B + 2) S := by
  have i_n4 := Pin_n4 I
  clear I
  simp only [Q_n4, pokM, pown, prcv, pgiv, ppge, pfu] at *
  grind
set_option maxHeartbeats 400000 in
theorem pt_clr3_n5 {has : Prop} {V E H T oG oT w0 w1 w2 w3 lo hi : Int} {st ep hl hh mv ac pt tk et lm pE pA : Nat → Int} {B : Int} {S : (Nat → Int) → Prop} (I : Pin has V E H T oG oT w0 w1 w2 w3 lo hi st ep hl hh mv ac pt tk et lm pE pA B S)   : Q_n5 has V E H T oG oT w0 w1 w2 (-1) lo hi st ep hl hh mv ac pt tk et lm pE pA (B + 2) S := by
  have i_n5 := Pin_n5 I
  clear I
  simp only [Q_n5, pokM, pown, prcv, pgiv, ppge, pfu] at *
  grind
set_option maxHeartbeats 400000 in
theorem pt_clr3_n6 {has : Prop} {V E H T oG oT w0 w1 w2 w3 lo hi : Int} {st ep hl hh mv ac pt tk et lm pE pA : Nat → Int} {B : Int} {S : (Nat → Int) → Prop} (I : Pin has V E H T oG oT w0 w1 w2 w3 lo hi st ep hl hh mv ac pt tk et lm pE pA B S)   : Q_n6 has V E H T oG oT w0 w1 w2 (-1) lo hi st ep hl hh mv ac pt tk et lm pE pA (B + 2) S := by
  have i_n6 := Pin_n6 I
  clear I
  simp only [Q_n6, pokM, pown, prcv, pgiv, ppge, pfu] at *
  grind
set_option maxHeartbeats 400000 in
theorem pt_clr3_n7 {has : Prop} {V E H T oG oT w0 w1 w2 w3 lo hi : Int} {st ep hl hh mv ac pt tk et lm pE pA : Nat → Int} {B : Int} {S : (Nat → Int) → Prop} (I : Pin has V E H T oG oT w0 w1 w2 w3 lo hi st ep hl hh mv ac pt tk et lm pE pA B S)   : Q_n7 has V E H T oG oT w0 w1 w2 (-1) lo hi st ep hl hh mv ac pt tk et lm pE pA (B + 2) S := by
  have i_n7 := Pin_n7 I
  clear I
  simp only [Q_n7, pokM, pown, prcv, pgiv, ppge, pfu] at *
  grind
set_option maxHeartbeats 400000 in
theorem pt_clr3_o {has : Prop} {V E H T oG oT w0 w1 w2 w3 lo hi : Int} {st ep hl hh mv ac pt tk et lm pE pA : Nat → Int} {B : Int} {S : (Nat → Int) → Prop} (I : Pin has V E H T oG oT w0 w1 w2 w3 lo hi st ep hl hh mv ac pt tk et lm pE pA B S)   : Q_o has V E H T oG oT w0 w1 w2 (-1) lo hi st ep hl hh mv ac pt tk et lm pE pA (B + 2) S := by
  have i_o := Pin_o I
  clear I
  simp only [Q_o, pokM, pown, prcv, pgiv, ppge, pfu] at *
  grind
set_option maxHeartbeats 400000 in
theorem pt_clr3_p {has : Prop} {V E H T oG oT w0 w1 w2 w3 lo hi : Int} {st ep hl hh mv ac pt tk et lm pE pA : Nat → Int} {B : Int} {S : (Nat → Int) → Prop} (I : Pin has V E H T oG oT w0 w1 w2 w3 lo hi st ep hl hh mv ac pt tk et lm pE pA B S)   : Q_p has V E H T oG oT w0 w1 w2 (-1) lo hi st ep hl hh mv ac pt tk et lm pE pA (B + 2) S := by
  have i_p := Pin_p I
  clear I
  simp only [Q_p, pokM, pown, prcv, pgiv, ppge, pfu] at *
  grind
set_option maxHeartbeats 400000 in
theorem pt_clr3_q {has : Prop} {V E H T oG oT w0 w1 w2 w3 lo hi : Int} {st ep hl hh mv ac pt tk et lm pE pA : Nat → Int} {B : Int} {S : (Nat → Int) → Prop} (I : Pin has V E H T oG oT w0 w1 w2 w3 lo hi st ep hl hh mv ac pt tk et lm pE pA B S)   : Q_q has V E H T oG oT w0 w1 w2 (-1) lo hi st ep hl hh mv ac pt tk et lm pE pA (B + 2) S := by
  have i_q := Pin_q I
  clear I
  simp only [Q_q, pokM, pown, prcv, pgiv, ppge, pfu] at *
  grind
set_option maxHeartbeats 400000 in
theorem pt_clr3_q2 {has : Prop} {V E H T oG oT w0 w1 w2 w3 lo hi : Int} {st ep hl hh mv ac pt tk et lm pE pA : Nat → Int} {B : Int} {S : (Nat → Int) → Prop} (I : Pin has V E H T oG oT w0 w1 w2 w3 lo hi st ep hl hh mv ac pt tk et lm pE pA B S)   : Q_q2 has V E H T oG oT w0 w1 w2 (-1) lo hi st ep hl hh mv ac pt tk et lm pE pA (B + 2) S := by
  have i_q2 := Pin_q2 I
  clear I
  simp only [Q_q2, pokM, pown, prcv, pgiv, ppge, pfu] at *
  grind
set_option maxHeartbeats 400000 in
theorem pt_clr3_q3 {has : Prop} {V E H T oG oT w0 w1 w2 w3 lo hi : Int} {st ep hl hh mv ac pt tk et lm pE pA : Nat → Int} {B : Int} {S : (Nat → Int) → Prop} (I : Pin has V E H T oG oT w0 w1 w2 w3 lo hi st ep hl hh mv ac pt tk et lm pE pA B S)   : Q_q3 has V E H T oG oT w0 w1 w2 (-1) lo hi st ep hl hh mv ac pt tk et lm pE pA (B + 2) S := by
  have i_q3 := Pin_q3 I
  clear I
  simp only [Q_q3, pokM, pown, prcv, pgiv, ppge, pfu] at *
  grind
set_option maxHeartbeats 400000 in
theorem pt_clr3_w {has : Prop} {V E H T oG oT w0 w1 w2 w3 lo hi : Int} {st ep hl hh mv ac pt tk et lm pE pA : Nat → Int} {B : Int} {S : (Nat → Int) → Prop} (I : Pin has V E H T oG oT w0 w1 w2 w3 lo hi st ep hl hh mv ac pt tk et lm pE pA B S)   : Q_w has V E H T oG oT w0 w1 w2 (-1) lo hi st ep hl hh mv ac pt tk et lm pE pA (B + 2) S := by
  have i_w := Pin_w I
  clear I
  simp only [Q_w, pokM, pown, prcv, pgiv, ppge, pfu] at *
  grind
theorem pt_clr3 {has : Prop} {V E H T oG oT w0 w1 w2 w3 lo hi : Int} {st ep hl hh mv ac pt tk et lm pE pA : Nat → Int} {B : Int} {S : (Nat → Int) → Prop} (I : Pin has V E H T oG oT w0 w1 w2 w3 lo hi st ep hl hh mv ac pt tk et lm pE pA B S)  : Pin has V E H T oG oT w0 w1 w2 (-1) lo hi st ep hl hh mv ac pt tk et lm pE pA (B + 2) S := by
  exact ⟨pt_clr3_v0 I  , pt_clr3_a I  , pt_clr3_b I  , pt_clr3_c I  , pt_clr3_d I  , pt_clr3_e I  , pt_clr3_f I  , pt_clr3_f2 I  , pt_clr3_f3 I  , pt_clr3_g I  , pt_clr3_g0 I  , pt_clr3_g1 I  , pt_clr3_g2 I  , pt_clr3_h7 I  , pt_clr3_h9 I  , pt_clr3_h10 I  , pt_clr3_h11 I  , pt_clr3_h12 I  , pt_clr3_k1 I  , pt_clr3_k2 I  , pt_clr3_k8 I  , pt_clr3_l4 I  , pt_clr3_l5 I  , pt_clr3_l3 I  , pt_clr3_m1 I  , pt_clr3_m2 I  , pt_clr3_m3 I  , pt_clr3_n0 I  , pt_clr3_n1 I  , pt_clr3_n2 I  , pt_clr3_n3 I  , pt_clr3_n4 I  , pt_clr3_n5 I  , pt_clr3_n6 I  , pt_clr3_n7 I  , pt_clr3_o I  , pt_clr3_p I  , pt_clr3_q I  , pt_clr3_q2 I  , pt_clr3_q3 I  , pt_clr3_w I  ⟩
