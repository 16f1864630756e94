set_option maxHeartbeats 400000 in
theorem pt_tookok_hV_d {has : Prop} {V E H T oG oT w0 w1 w2 w3 lo hi : Int} {st ep hl hh mv ac pt tk et lm pE pA : Nat → Int} {B : Int} {S : (Nat → Int) → Prop} (I : Pin has V E H T oG oT w0 w1 w2 w3 lo hi st ep hl hh mv ac pt tk et lm pE pA B S) (h : Nat) (m : (Nat → Int)) (hS : S m) (hk : (m 0) = 5) (hg : pgiv st h) (hep : ep h + 1 = (m 3)) (hac : ac h = (m 4)) (hm0 : 0 ≤ (m 5)) (htk : tk h = 0) (hm : (m 5) = pt h) (hlm : 0 ≤ lm h)  : (m 3) = V := by
  have i_e := Pin_e I
  clear I
  try simp only [Q_e, pown, prcv, pgiv, ppge, pfu] at *
  grind
set_option maxHeartbeats 400000 in
theorem pt_tookok_hH_d {has : Prop} {V E H T oG oT w0 w1 w2 w3 lo hi : Int} {st ep hl hh mv ac pt tk et lm pE pA : Nat → Int} {B : Int} {S : (Nat → Int) → Prop} (I : Pin has V E H T oG oT w0 w1 w2 w3 lo hi st ep hl hh mv ac pt tk et lm pE pA B S) (h : Nat) (m : (Nat → Int)) (hS : S m) (hk : (m 0) = 5) (hg : pgiv st h) (hep : ep h + 1 = (m 3)) (hac : ac h = (m 4)) (hm0 : 0 ≤ (m 5)) (htk : tk h = 0) (hm : (m 5) = pt h) (hlm : 0 ≤ lm h) (hV : (m 3) = V) : (h : Int) = H := by
  have i_b := Pin_b I
  have i_o := Pin_o I
  clear I
  try simp only [Q_b, Q_o, pown, prcv, pgiv, ppge, pfu] at *
  grind
set_option maxHeartbeats 400000 in
theorem pt_tookok_het_d {has : Prop} {V E H T oG oT w0 w1 w2 w3 lo hi : Int} {st ep hl hh mv ac pt tk et lm pE pA : Nat → Int} {B : Int} {S : (Nat → Int) → Prop} (I : Pin has V E H T oG oT w0 w1 w2 w3 lo hi st ep hl hh mv ac pt tk et lm pE pA B S) (h : Nat) (m : (Nat → Int)) (hS : S m) (hk : (m 0) = 5) (hg : pgiv st h) (hep : ep h + 1 = (m 3)) (hac : ac h = (m 4)) (hm0 : 0 ≤ (m 5)) (htk : tk h = 0) (hm : (m 5) = pt h) (hlm : 0 ≤ lm h) (hV : (m 3) = V) (hH : (h : Int) = H) : et h = 0 := by
  have i_o := Pin_o I
  clear I
  try simp only [Q_o, pown, prcv, pgiv, ppge, pfu] at *
  grind
set_option maxHeartbeats 400000 in
theorem pt_tookok_v0 {has : Prop} {V E H T oG oT w0 w1 w2 w3 lo hi : Int} {st ep hl hh mv ac pt tk et lm pE pA : Nat → Int} {B : Int} {S : (Nat → Int) → Prop} (I : Pin has V E H T oG oT w0 w1 w2 w3 lo hi st ep hl hh mv ac pt tk et lm pE pA B S) (h : Nat) (m : (Nat → Int)) (hS : S m) (hk : (m 0) = 5) (hg : pgiv st h) (hep : ep h + 1 = (m 3)) (hac : ac h = (m 4)) (hm0 : 0 ≤ (m 5)) (htk : tk h = 0) (hm : (m 5) = pt h) (hlm : 0 ≤ lm h) (hV : (m 3) = V) (hH : (h : Int) = H) (het : et h = 0) : Q_v0 has V E H T oG oT w0 w1 w2 w3 lo hi st ep hl hh mv ac (pfu pt h (pt h + 1)) (pfu tk h 1) et lm pE pA (B + 2) S := by
  have i_v0 := Pin_v0 I
  clear I
  simp only [Q_v0, pokM, pown, prcv, pgiv, ppge, pfu] at *
  grind
set_option maxHeartbeats 400000 in
theorem pt_tookok_a {has : Prop} {V E H T oG oT w0 w1 w2 w3 lo hi : Int} {st ep hl hh mv ac pt tk et lm pE pA : Nat → Int} {B : Int} {S : (Nat → Int) → Prop} (I : Pin has V E H T oG oT w0 w1 w2 w3 lo hi st ep hl hh mv ac pt tk et lm pE pA B S) (h : Nat) (m : (Nat → Int)) (hS : S m) (hk : (m 0) = 5) (hg : pgiv st h) (hep : ep h + 1 = (m 3)) (hac : ac h = (m 4)) (hm0 : 0 ≤ (m 5)) (htk : tk h = 0) (hm : (m 5) = pt h) (hlm : 0 ≤ lm h) (hV : (m 3) = V) (hH : (h : Int) = H) (het : et h = 0) : Q_a has V E H T oG oT w0 w1 w2 w3 lo hi st ep hl hh mv ac (pfu pt h (pt h + 1)) (pfu tk h 1) et lm pE pA (B + 2) S := by
  have i_a := Pin_a I
  clear I
  simp only [Q_a, pokM, pown, prcv, pgiv, ppge, pfu] at *
  grind
set_option maxHeartbeats 400000 in
theorem pt_tookok_b {has : Prop} {V E H T oG oT w0 w1 w2 w3 lo hi : Int} {st ep hl hh mv ac pt tk et lm pE pA : Nat → Int} {B : Int} {S : (Nat → Int) → Prop} (I : Pin has V E H T oG oT w0 w1 w2 w3 lo hi st ep hl hh mv ac pt tk et lm pE pA B S) (h : Nat) (m : (Nat → Int)) (hS : S m) (hk : (m 0) = 5) (hg : pgiv st h) (hep : ep h + 1 = (m 3)) (hac : ac h = (m 4)) (hm0 : 0 ≤ (m 5)) (htk : tk h = 0) (hm : (m 5) = pt h) (hlm : 0 ≤ lm h) (hV : (m 3) = V) (hH : (h : Int) = H) (het : et h = 0) : Q_b has V E H T oG oT w0 w1 w2 w3 lo hi st ep hl hh mv ac (pfu pt h (pt h + 1)) (pfu tk h 1) et lm pE pA (B + 2) S := by
  have i_b := Pin_b I
  clear I
  simp only [Q_b, pokM, pown, prcv, pgiv, ppge, pfu] at *
  grind
set_option maxHeartbeats 400000 in
theorem pt_tookok_c {has : Prop} {V E H T oG oT w0 w1 w2 w3 lo hi : Int} {st ep hl hh mv ac pt tk et lm pE pA : Nat → Int} {B : Int} {S : (Nat → Int) → Prop} (I : Pin has V E H T oG oT w0 w1 w2 w3 lo hi st ep hl hh mv ac pt tk et lm pE pA B S) (h : Nat) (m : (Nat → Int)) (hS : S m) (hk : (m 0) = 5) (hg : pgiv st h) (hep : ep h + 1 = (m 3)) (hac : ac h = (m 4)) (hm0 : 0 ≤ (m 5)) (htk : tk h = 0) (hm : (m 5) = pt h) (hlm : 0 ≤ lm h) (hV : (m 3) = V) (hH : (h : Int) = H) (het : et h = 0) : Q_c has V E H T oG oT w0 w1 w2 w3 lo hi st ep hl hh mv ac (pfu pt h (pt h + 1)) (pfu tk h 1) et lm pE pA (B + 2) S := by
  have i_c := Pin_c I
  clear I
  simp only [Q_c, pokM, pown, prcv, pgiv, ppge, pfu] at *
  grind
set_option maxHeartbeats 400000 in
theorem pt_tookok_d {has : Prop} {V E H T oG oT w0 w1 w2 w3 lo hi : Int} {st ep hl hh mv ac pt tk et lm pE pA : Nat → Int} {B : Int} {S : (Nat → Int) → Prop} (I : Pin has V E H T oG oT w0 w1 w2 w3 lo hi st ep hl hh mv ac pt tk et lm pE pA B S) (h : Nat) (m : (Nat → Int)) (hS : S m) (hk : (m 0) = 5) (hg : pgiv st h) (hep : ep h + 1 = (m 3)) (hac : ac h = (m 4)) (hm0 : 0 ≤ (m 5)) (htk : tk h = 0) (hm : (m 5) = pt h) (hlm : 0 ≤ lm h) (hV : (m 3) = V) (hH : (h : Int) = H) (het : et h = 0) : Q_d has V E H T oG oT w0 w1 w2 w3 lo hi st ep hl hh mv ac (pfu pt h (pt h + 1)) (pfu tk h 1) et lm pE pA (B + 2) S := by
  have i_d := Pin_d I
  clear I
  simp only [Q_d, pokM, pown, prcv, pgiv, ppge, pfu] at *
  grind
set_option maxHeartbeats 400000 in
theorem pt_tookok_e {has : Prop} {V E H T oG oT w0 w1 w2 w3 lo hi : Int} {st ep hl hh mv ac pt tk et lm pE pA : Nat → Int} {B : Int} {S : (Nat → Int) → Prop} (I : Pin has V E H T oG oT w0 w1 w2 w3 lo hi st ep hl hh mv ac pt tk et lm pE pA B S) (h : Nat) (m : (Nat → Int)) (hS : S m) (hk : (m 0) = 5) (hg : pgiv st h) (hep : ep h + 1 = (m 3)) (hac : ac h = (m 4)) (hm0 : 0 ≤ (m 5)) (htk : tk h = 0) (hm : (m 5) = pt h) (hlm : 0 ≤ lm h) (hV : (m 3) = V) (hH : (h : Int) = H) (het : et h = 0) : Q_e has V E H T oG oT w0 w1 w2 w3 lo hi st ep hl hh mv ac (pfu pt h (pt h + 1)) (pfu tk h 1) et lm pE pA (B + 2) S := by
  have i_e := Pin_e I
  clear I
  simp only [Q_e, pokM, pown, prcv, pgiv, ppge, pfu] at *
  grind
set_option maxHeartbeats 400000 in
theorem pt_tookok_f {has : Prop} {V E H T oG oT w0 w1 w2 w3 lo hi : Int} {st ep hl hh mv ac pt tk et lm pE pA : Nat → Int} {B : Int} {S : (Nat → Int) → Prop} (I : Pin has V E H T oG oT w0 w1 w2 w3 lo hi st ep hl hh mv ac pt tk et lm pE pA B S) (h : Nat) (m : (Nat → Int)) (hS : S m) (hk : (m 0) = 5) (hg : pgiv st h) (hep : ep h + 1 = (m 3)) (hac : ac h = (m 4)) (hm0 : 0 ≤ (m 5)) (htk : tk h = 0) (hm : (m 5) = pt h) (hlm : 0 ≤ lm h) (hV : (m 3) = V) (hH : (h : Int) = H) (het : et h = 0) : Q_f has V E H T oG oT w0 w1 w2 w3 lo hi st ep hl hh mv ac (pfu pt h (pt h + 1)) (pfu tk h 1) et lm pE pA (B + 2) S := by
  have i_f := Pin_f I
  clear I
  simp only [Q_f, pokM, pown, prcv, pgiv, ppge, pfu] at *
  grind
set_option maxHeartbeats 400000 in
theorem pt_tookok_f2 {has : Prop} {V E H T oG oT w0 w1 w2 w3 lo hi : Int} {st ep hl hh mv ac pt tk et lm pE pA : Nat → Int} {B : Int} {S : (Nat → Int) → Prop} (I : Pin has V E H T oG oT w0 w1 w2 w3 lo hi st ep hl hh mv ac pt tk et lm pE pA B S) (h : Nat) (m : (Nat → Int)) (hS : S m) (hk : (m 0) = 5) (hg : pgiv st h) (hep : ep h + 1 = (m 3)) (hac : ac h = (m 4)) (hm0 : 0 ≤ (m 5)) (htk : tk h = 0) (hm : (m 5) = pt h) (hlm : 0 ≤ lm h) (hV : (m 3) = V) (hH : (h : Int) = H) (het : et h = 0) : Q_f2 has V E H T oG oT w0 w1 w2 w3 lo hi st ep hl hh mv ac (pfu pt h (pt h + 1)) (pfu tk h 1) et lm pE pA (B + 2) S := by
  have i_f2 := Pin_f2 I
  clear I
  simp only [Q_f2, pokM, pown, prcv, pgiv, ppge, pfu] at *
  grind
set_option maxHeartbeats 400000 in
theorem pt_tookok_f3 {has : Prop} {V E H T oG oT w0 w1 w2 w3 lo hi : Int} {st ep hl hh mv ac pt tk et lm pE pA : Nat → Int} {B : Int} {S : (Nat → Int) → Prop} (I : Pin has V E H T oG oT w0 w1 w2 w3 lo hi st ep hl hh mv ac pt tk et lm pE pA B S) (h : Nat) (m : (Nat → Int)) (hS : S m) (hk : (m 0) = 5) (hg : pgiv st h) (hep : ep h + 1 = (m 3)) (hac : ac h = (m 4)) (hm0 : 0 ≤ (m 5)) (htk : tk h = 0) (hm : (m 5) = pt h) (hlm : 0 ≤ lm h) (hV : (m 3) = V) (hH : (h : Int) = H) (het : et h = 0) : Q_f3 has V E H T oG oT w0 w1 w2 w3 lo hi st ep hl hh mv ac (pfu pt h (pt h + 1)) (pfu tk h 1) et lm pE pA (B + 2) S := by
  have i_f3 := Pin_f3 I
  clear I
  simp only [Q_f3, pokM, pown, prcv, pgiv, ppge, pfu] at *
  grind
set_option maxHeartbeats 400000 in
theorem pt_tookok_g {has : Prop} {V E H T oG oT w0 w1 w2 w3 lo hi : Int} {st ep hl hh mv ac pt tk et lm pE pA : Nat → Int} {B : Int} {S : (Nat → Int) → Prop} (I : Pin has V E H T oG oT w0 w1 w2 w3 lo hi st ep hl hh mv ac pt tk et lm pE pA B S) (h : Nat) (m : (Nat → Int)) (hS : S m) (hk : (m 0) = 5) (hg : pgiv st h) (hep : ep h + 1 = (m 3)) (hac : ac h = (m 4)) (hm0 : 0 ≤ (m 5)) (htk : tk h = 0) (hm : (m 5) = pt h) (hlm : 0 ≤ lm h) (hV : (m 3) = V) (hH : (h : Int) = H) (het : et h = 0) : Q_g has V E H T oG oT w0 w1 w2 w3 lo hi st ep hl hh mv ac (pfu pt h (pt h + 1)) (pfu tk h 1) et lm pE pA (B + 2) S := by
  have i_g := Pin_g I
  clear I
  simp only [Q_g, pokM, pown, prcv, pgiv, ppge, pfu] at *
  grind
set_option maxHeartbeats 400000 in
theorem pt_tookok_g0 {has : Prop} {V E H T oG oT w0 w1 w2 w3 lo hi : Int} {st ep hl hh mv ac pt tk et lm pE pA : Nat → Int} {B : Int} {S : (Nat → Int) → Prop} (I : Pin has V E H T oG oT w0 w1 w2 w3 lo hi st ep hl hh mv ac pt tk et lm pE pA B S) (h : Nat) (m : (Nat → Int)) (hS : S m) (hk : (m 0) = 5) (hg : pgiv st h) (hep : ep h + 1 = (m 3)) (hac : ac h = (m 4)) (hm0 : 0 ≤ (m 5)) (htk : tk h = 0) (hm : (m 5) = pt h) (hlm : 0 ≤ lm h) (hV : (m 3) = V) (hH : (h : Int) = H) (het : et h = 0) : Q_g0 has V E H T oG oT w0 w1 w2 w3 lo hi st ep hl hh mv ac (pfu pt h (pt h + 1)) (pfu tk h 1) et lm pE pA (B + 2) S := by
  have i_g0 := Pin_g0 I
  clear I
  simp only [Q_g0, pokM, pown, prcv, pgiv, ppge, pfu] at *
  grind
set_option maxHeartbeats 400000 in
theorem pt_tookok_g1 {has : Prop} {V E H T oG oT w0 w1 w2 w3 lo hi : Int} {st ep hl hh mv ac pt tk et lm pE pA : Nat → Int} {B : Int} {S : (Nat → Int) → Prop} (I : Pin has V E H T oG oT w0 w1 w2 w3 lo hi st ep hl hh mv ac pt tk et lm pE pA B S) (h : Nat) (m : (Nat → Int)) (hS : S m) (hk : (m 0) = 5) (hg : pgiv st h) (hep : ep h + 1 = (m 3)) (hac : ac h = (m 4)) (hm0 : 0 ≤ (m 5)) (htk : tk h = 0) (hm : (m 5) = pt h) (hlm : 0 ≤ lm h) (hV : (m 3) = V) (hH : (h : Int) = H) (het : et h = 0) : Q_g1 has V E H T oG oT w0 w1 w2 w3 lo hi st ep hl hh mv ac (pfu pt h (pt h + 1)) (pfu tk h 1) et lm pE pA (B + 2) S := by
  have i_g1 := Pin_g1 I
  clear I
  simp only [Q_g1, pokM, pown, prcv, pgiv, ppge, pfu] at *
  grind
set_option maxHeartbeats 400000 in
theorem pt_tookok_g2 {has : Prop} {V E H T oG oT w0 w1 w2 w3 lo hi : Int} {st ep hl hh mv ac pt tk et lm pE pA : Nat → Int} {B : Int} {S : (Nat → Int) → Prop} (I : Pin has V E H T oG oT w0 w1 w2 w3 lo hi st ep hl hh mv ac pt tk et lm pE pA B S) (h : Nat) (m : (Nat → Int)) (hS : S m) (hk : (m 0) = 5) (hg : pgiv st h) (hep : ep h + 1 = (m 3)) (hac : ac h = (m 4)) (hm0 : 0 ≤ (m 5)) (htk : tk h = 0) (hm : (m 5) = pt h) (hlm : 0 ≤ lm h) (hV : (m 3) = V) (hH : (h : Int) = H) (het : et h = 0) : Q_g2 has V E H T oG oT w0 w1 w2 w3 lo hi st ep hl hh mv ac (pfu pt h (pt h + 1)) (pfu tk h 1) et lm pE pA (B + 2) S := by
  have i_g2 := Pin_g2 I
  clear I
  simp only [Q_g2, pokM, pown, prcv, pgiv, ppge, pfu] at *
  grind
set_option maxHeartbeats 400000 in
theorem pt_tookok_h7 {has : Prop} {V E H T oG oT w0 w1 w2 w3 lo hi : Int} {st ep hl hh mv ac pt tk et lm pE pA : Nat → Int} {B : Int} {S : (Nat → Int) → Prop} (I : Pin has V E H T oG oT w0 w1 w2 w3 lo hi st ep hl hh mv ac pt tk et lm pE pA B S) (h : Nat) (m : (Nat → Int)) (hS : S m) (hk : (m 0) = 5) (hg : pgiv st h) (hep : ep h + 1 = (m 3)) (hac : ac h = (m 4)) (hm0 : 0 ≤ (m 5)) (htk : tk h = 0) (hm : (m 5) = pt h) (hlm : 0 ≤ lm h) (hV : (m 3) = V) (hH : (h : Int) = H) (het : et h = 0) : Q_h7 has V E H T oG oT w0 w1 w2 w3 lo hi st ep hl hh mv ac (pfu pt h (pt h + 1)) (pfu tk h 1) et lm pE pA (B + 2) S := by
  have i_h7 := Pin_h7 I
  clear I
  simp only [Q_h7, pokM, pown, prcv, pgiv, ppge, pfu] at *
  grind
set_option maxHeartbeats 400000 in
theorem pt_tookok_h9 {has : Prop} {V E H T oG oT w0 w1 w2 w3 lo hi : Int} {st ep hl hh mv ac pt tk et lm pE pA : Nat → Int} {B : Int} {S : (Nat → Int) → Prop} (I : Pin has V E H T oG oT w0 w1 w2 w3 lo hi st ep hl hh mv ac pt tk et lm pE pA B S) (h : Nat) (m : (Nat → Int)) (hS : S m) (hk : (m 0) = 5) (hg : pgiv st h) (hep : ep h + 1 = (m 3)) (hac : ac h = (m 4)) (hm0 : 0 ≤ (m 5)) (htk : tk h = 0) (hm : (m 5) = pt h) (hlm : 0 ≤ lm h) (hV : (m 3) = V) (hH : (h : Int) = H) (het : et h = 0) : Q_h9 has V E H T oG oT w0 w1 w2 w3 lo hi st ep hl hh mv ac (pfu pt h (pt h + 1)) (pfu tk h 1) et lm pE pA (B + 2) S := by
  have i_h9 := Pin_h9 I
  clear I
  simp only [Q_h9, pokM, pown, prcv, pgiv, ppge, pfu] at *
  grind
set_option maxHeartbeats 400000 in
theorem pt_tookok_h10 {has : Prop} {V E H T oG oT w0 w1 w2 w3 lo hi : Int} {st ep hl hh mv ac pt tk et lm pE pA : Nat → Int} {B : Int} {S : (Nat → Int) → Prop} (I : Pin has V E H T oG oT w0 w1 w2 w3 lo hi st ep hl hh mv ac pt tk et lm pE pA B S) (h : Nat) (m : (Nat → Int)) (hS : S m) (hk : (m 0) = 5) (hg : pgiv st h) (hep : ep h + 1 = (m 3)) (hac : ac h = (m 4)) (hm0 : 0 ≤ (m 5)) (htk : tk h = 0) (hm : (m 5) = pt h) (hlm : 0 ≤ lm h) (hV : (m 3) = V) (hH : (h : Int) = H) (het : et h = 0) : Q_h10 has V E H T oG oT w0 w1 w2 w3 lo hi st ep hl hh mv ac (pfu pt h (pt h + 1)) (pfu tk h 1) et lm pE pA (B + 2) S := by
  have i_h10 := Pin_h10 I
  clear I
  simp only [Q_h10, pokM, pown, prcv, pgiv, ppge, pfu] at *
  grind
set_option maxHeartbeats 400000 in
theorem pt_tookok_h11 {has : Prop} {V E H T oG oT w0 w1 w2 w3 lo hi : Int} {st ep hl hh mv ac pt tk et lm pE pA : Nat → Int} {B : Int} {S : (Nat → Int) → Prop} (I : Pin has V E H T oG oT w0 w1 w2 w3 lo hi st ep hl hh mv ac pt tk et lm pE pA B S) (h : Nat) (m : (Nat → Int)) (hS : S m) (hk : (m 0) = 5) (hg : pgiv st h) (hep : ep h + 1 = (m 3)) (hac : ac h = (m 4)) (hm0 : 0 ≤ (m 5)) (htk : tk h = 0) (hm : (m 5) = pt h) (hlm : 0 ≤ lm h) (hV : (m 3) = V) (hH : (h : Int) = H) (het : et h = 0) : Q_h11 has V E H T oG oT w0 w1 w2 w3 lo hi st ep hl hh mv ac (pfu pt h (pt h + 1)) (pfu tk h 1) et lm pE pA (B + 2) S := by
  have i_h11 := Pin_h11 I
  clear I
  simp only [Q_h11, pokM, pown, prcv, pgiv, ppge, pfu] at *
  grind
set_option maxHeartbeats 400000 in
theorem pt_tookok_h12 {has : Prop} {V E H T oG oT w0 w1 w2 w3 lo hi : Int} {st ep hl hh mv ac pt tk et lm pE pA : Nat → Int} {B : Int} {S : (Nat → Int) → Prop} (I : Pin has V E H T oG oT w0 w1 w2 w3 lo hi st ep hl hh mv ac pt tk et lm pE pA B S) (h : Nat) (m : (Nat → Int)) (hS : S m) (hk : (m 0) = 5) (hg : pgiv st h) (hep : ep h + 1 = (m 3)) (hac : ac h = (m 4)) (hm0 : 0 ≤ (m 5)) (htk : tk h = 0) (hm : (m 5) = pt h) (hlm : 0 ≤ lm h) (hV : (m 3) = V) (hH : (h : Int) = H) (het : et h = 0) : Q_h12 has V E H T oG oT w0 w1 w2 w3 lo hi st ep hl hh mv ac (pfu pt h (pt h + 1)) (pfu tk h 1) et lm pE pA (B + 2) S := by
  have i_h12 := Pin_h12 I
  clear I
  simp only [Q_h12, pokM, pown, prcv, pgiv, ppge, pfu] at *
  grind
set_option maxHeartbeats 400000 in
theorem pt_tookok_k1 {has : Prop} {V E H T oG oT w0 w1 w2 w3 lo hi : Int} {st ep hl hh mv ac pt tk et lm pE pA : Nat → Int} {B : Int} {S : (Nat → Int) → Prop} (I : Pin has V E H T oG oT w0 w1 w2 w3 lo hi st ep hl hh mv ac pt tk et lm pE pA B S) (h : Nat) (m : (Nat → Int)) (hS : S m) (hk : (m 0) = 5) (hg : pgiv st h) (hep : ep h + 1 = (m 3)) (hac : ac h = (m 4)) (hm0 : 0 ≤ (m 5)) (htk : tk h = 0) (hm : (m 5) = pt h) (hlm : 0 ≤ lm h) (hV : (m 3) = V) (hH : (h : Int) = H) (het : et h = 0) : Q_k1 has V E H T oG oT w0 w1 w2 w3 lo hi st ep hl hh mv ac (pfu pt h (pt h + 1)) (pfu tk h 1) et lm pE pA (B + 2) S := by
  have i_k1 := Pin_k1 I
  clear I
  simp only [Q_k1, pokM, pown, prcv, pgiv, ppge, pfu] at *
  grind
set_option maxHeartbeats 400000 in
theorem pt_tookok_k2 {has : Prop} {V E H T oG oT w0 w1 w2 w3 lo hi : Int} {st ep hl hh mv ac pt tk et lm pE pA : Nat → Int} {B : Int} {S : (Nat → Int) → Prop} (I : Pin has V E H T oG oT w0 w1 w2 w3 lo hi st ep hl hh mv ac pt tk et lm pE pA B S) (h : Nat) (m : (Nat → Int)) (hS : S m) (hk : (m 0) = 5) (hg : pgiv st h) (hep : ep h + 1 = (m 3)) (hac : ac h = (m 4)) (hm0 : 0 ≤ (m 5)) (htk : tk h = 0) (hm : (m 5) = pt h) (hlm : 0 ≤ lm h) (hV : (m 3) = V) (hH : (h : Int) = H) (het : et h = 0) : Q_k2 has V E H T oG oT w0 w1 w2 w3 lo hi st ep hl hh mv ac (pfu pt h (pt h + 1)) (pfu tk h 1) et lm pE pA (B + 2) S := by
  have i_k2 := Pin_k2 I
  clear I
  simp only [Q_k2, pokM, pown, prcv, pgiv, ppge, pfu] at *
  grind
set_option maxHeartbeats 400000 in
theorem pt_tookok_k8 {has : Prop} {V E H T oG oT w0 w1 w2 w3 lo hi : Int} {st ep hl hh mv ac pt tk et lm pE pA : Nat → Int} {B : Int} {S : (Nat → Int) → Prop} (I : Pin has V E H T oG oT w0 w1 w2 w3 lo hi st ep hl hh mv ac pt tk et lm pE pA B S) (h : Nat) (m : (Nat → Int)) (hS : S m) (hk : (m 0) = 5) (hg : pgiv st h) (hep : ep h + 1 = (m 3)) (hac : ac h = (m 4)) (hm0 : 0 ≤ (m 5)) (htk : tk h = 0) (hm : (m 5) = pt h) (hlm : 0 ≤ lm h) (hV : (m 3) = V) (hH : (h : Int) = H) (het : et h = 0) : Q_k8 has V E H T oG oT w0 w1 w2 w3 lo hi st ep hl hh mv ac (pfu pt h (pt h + 1)) (pfu tk h 1) et lm pE pA (B + 2) S := by
  have i_k8 := Pin_k8 I
  clear I
  simp only [Q_k8, pokM, pown, prcv, pgiv, ppge, pfu] at *
  grind
set_option maxHeartbeats 400000 in
theorem pt_tookok_l4 {has : Prop} {V E H T oG oT w0 w1 w2 w3 lo hi : Int} {st ep hl hh mv ac pt tk et lm pE pA : Nat → Int} {B : Int} {S : (Nat → Int) → Prop} (I : Pin has V E H T oG oT w0 w1 w2 w3 lo hi st ep hl hh mv ac pt tk et lm pE pA B S) (h : Nat) (m : (Nat → Int)) (hS : S m) (hk : (m 0) = 5) (hg : pgiv st h) (hep : ep h + 1 = (m 3)) (hac : ac h = (m 4)) (hm0 : 0 ≤ (m 5)) (htk : tk h = 0) (hm : (m 5) = pt h) (hlm : 0 ≤ lm h) (hV : (m 3) = V) (hH : (h : Int) = H) (het : et h = 0) : Q_l4 has V E H T oG oT w0 w1 w2 w3 lo hi st ep hl hh mv ac (pfu pt h (pt h + 1)) (pfu tk h 1) et lm pE pA (B + 2) S := by
  have i_l4 := Pin_l4 I
  clear I
  simp only [Q_l4, pokM, pown, prcv, pgiv, ppge, pfu] at *
  grind
set_option maxHeartbeats 400000 in
theorem pt_tookok_l5 {has : Prop} {V E H T oG oT w0 w1 w2 w3 lo hi : Int} {st ep hl hh mv ac pt tk et lm pE pA : Nat → Int} {B : Int} {S : (Nat → Int) → Prop} (I : Pin has V E H T oG oT w0 w1 w2 w3 lo hi st ep hl hh mv ac pt tk et lm pE pA B S) (h : Nat) (m : (Nat → Int)) (hS : S m) (hk : (m 0) = 5) (hg : pgiv st h) (hep : ep h + 1 = (m 3)) (hac : ac h = (m 4)) (hm0 : 0 ≤ (m 5)) (htk : tk h = 0) (hm : (m 5) = pt h) (hlm : 0 ≤ lm h) (hV : (m 3) = V) (hH : (h : Int) = H) (het : et h = 0) : Q_l5 has V E H T oG oT w0 w1 w2 w3 lo hi st ep hl hh mv ac (pfu pt h (pt h + 1)) (pfu tk h 1) et lm pE pA (B + 2) S := by
  have i_l5 := Pin_l5 I
  clear I
  simp only [Q_l5, pokM, pown, prcv, pgiv, ppge, pfu] at *
  grind
set_option maxHeartbeats 400000 in
theorem pt_tookok_l3 {has : Prop} {V E H T oG oT w0 w1 w2 w3 lo hi : Int} {st ep hl hh mv ac pt tk et lm pE pA : Nat → Int} {B : Int} {S : (Nat → Int) → Prop} (I : Pin has V E H T oG oT w0 w1 w2 w3 lo hi st ep hl hh mv ac pt tk et lm pE pA B S) (h : Nat) (m : (Nat → Int)) (hS : S m) (hk : (m 0) = 5) (hg : pgiv st h) (hep : ep h + 1 = (m 3)) (hac : ac h = (m 4)) (hm0 : 0 ≤ (m 5)) (htk : tk h = 0) (hm : (m 5) = pt h) (hlm : 0 ≤ lm h) (hV : (m 3) = V) (hH : (h : Int) = H) (het : et h = 0) : Q_l3 has V E H T oG oT w0 w1 w2 w3 lo hi st ep hl hh mv ac (pfu pt h (pt h + 1)) (pfu tk h 1) et lm pE pA (B + 2) S := by
  have i_l3 := Pin_l3 I
  clear I
  simp only [Q_l3, pokM, pown, prcv, pgiv, ppge, pfu] at *
  grind
set_option maxHeartbeats 400000 in
theorem pt_tookok_m1 {has : Prop} {V E H T oG oT w0 w1 w2 w3 lo hi : Int} {st ep hl hh mv ac pt tk et lm pE pA : Nat → Int} {B : Int} {S : (Nat → Int) → Prop} (I : Pin has V E H T oG oT w0 w1 w2 w3 lo hi st ep hl hh mv ac pt tk et lm pE pA B S) (h : Nat) (m : (Nat → Int)) (hS : S m) (hk : (m 0) = 5) (hg : pgiv st h) (hep : ep h + 1 = (m 3)) (hac : ac h = (m 4)) (hm0 : 0 ≤ (m 5)) (htk : tk h = 0) (hm : (m 5) = pt h) (hlm : 0 ≤ lm h) (hV : (m 3) = V) (hH : (h : Int) = H) (het : et h = 0) : Q_m1 has V E H T oG oT w0 w1 w2 w3 lo hi st ep hl hh mv ac (pfu pt h (pt h + 1)) (pfu tk h 1) et lm pE pA (B + 2) S := by
  have i_m1 := Pin_m1 I
  clear I
  simp only [Q_m1, pokM, pown, prcv, pgiv, ppge, pfu] at *
  grind
set_option maxHeartbeats 400000 in
theorem pt_tookok_m2 {has : Prop} {V E H T oG oT w0 w1 w2 w3 lo hi : Int} {st ep hl hh mv ac pt tk et lm pE pA : Nat → Int} {B : Int} {S : (Nat → Int) → Prop} (I : Pin has V E H T oG oT w0 w1 w2 w3 lo hi st ep hl hh mv ac pt tk et lm pE pA B S) (h : Nat) (m : (Nat → Int)) (hS : S m) (hk : (m 0) = 5) (hg : pgiv st h) (hep : ep h + 1 = (m 3)) (hac : ac h = (m 4)) (hm0 : 0 ≤ (m 5)) (htk : tk h = 0) (hm : (m 5) = pt h) (hlm : 0 ≤ lm h) (hV : (m 3) = V) (hH : (h : Int) = H) (het : et h = 0) : Q_m2 has V E H T oG oT w0 w1 w2 w3 lo hi st ep hl hh mv ac (pfu pt h (pt h + 1)) (pfu tk h 1) et lm pE pA (B + 2) S := by
  have i_m2 := Pin_m2 I
  clear I
  simp only [Q_m2, pokM, pown, prcv, pgiv, ppge, pfu] at *
  grind
set_option maxHeartbeats 400000 in
theorem pt_tookok_m3 {has : Prop} {V E H T oG oT w0 w1 w2 w3 lo hi : Int} {st ep hl hh mv ac pt tk et lm pE pA : Nat → Int} {B : Int} {S : (Nat → Int) → Prop} (I : Pin has V E H T oG oT w0 w1 w2 w3 lo hi st ep hl hh mv ac pt tk et lm pE pA B S) (h : Nat) (m : (Nat → Int)) (hS : S m) (hk : (m 0) = 5) (hg : pgiv st h) (hep : ep h + 1 = (m 3)) (hac : ac h = (m 4)) (hm0 : 0 ≤ (m 5)) (htk : tk h = 0) (hm : (m 5) = pt h) (hlm : 0 ≤ lm h) (hV : (m 3) = V) (hH : (h : Int) = H) (het : et h = 0) : Q_m3 has V E H T oG oT w0 w1 w2 w3 lo hi st ep hl hh mv ac (pfu pt h (pt h + 1)) (pfu tk h 1) et lm pE pA (B + 2) S := by
  have i_m3 := Pin_m3 I
  clear I
  simp only [Q_m3, pokM, pown, prcv, pgiv, ppge, pfu] at *
  grind
set_option maxHeartbeats 400000 in
theorem pt_tookok_n0 {has : Prop} {V E H T oG oT w0 w1 w2 w3 lo hi : Int} {st ep hl hh mv ac pt tk et lm pE pA : Nat → Int} {B : Int} {S : (Nat → Int) → Prop} (I : Pin has V E H T oG oT w0 w1 w2 w3 lo hi st ep hl hh mv ac pt tk et lm pE pA B S) (h : Nat) (m : (Nat → Int)) (hS : S m) (hk : (m 0) = 5) (hg : pgiv st h) (hep : ep h + 1 = (m 3)) (hac : ac h = (m 4)) (hm0 : 0 ≤ (m 5)) (htk : tk h = 0) (hm : (m 5) = pt h) (hlm : 0 ≤ lm h) (hV : (m 3) = V) (hH : (h : Int) = H) (het : et h = 0) : Q_n0 has V E H T oG oT w0 w1 w2 w3 lo hi st ep hl hh mv ac (pfu pt h (pt h + 1)) (pfu tk h 1) et lm pE pA (B + 2) S := by
  have i_n0 := Pin_n0 I
  clear I
  simp only [Q_n0, pokM, pown, prcv, pgiv, ppge, pfu] at *
  grind
set_option maxHeartbeats 400000 in
theorem pt_tookok_n1 {has : Prop} {V E H T oG oT w0 w1 w2 w3 lo hi : Int} {st ep hl hh mv ac pt tk et lm pE pA : Nat → Int} {B : Int} {S : (Nat → Int) → Prop} (I : Pin has V E H T oG oT w0 w1 w2 w3 lo hi st ep hl hh mv ac pt tk et lm pE pA B S) (h : Nat) (m : (Nat → Int)) (hS : S m) (hk : (m 0) = 5) (hg : pgiv st h) (hep : ep h + 1 = (m 3)) (hac : ac h = (m 4)) (hm0 : 0 ≤ (m 5)) (htk : tk h = 0) (hm : (m 5) = pt h) (hlm : 0 ≤ lm h) (hV : (m 3) = V) (hH : (h : Int) = H) (het : et h = 0) : Q_n1 has V E H T oG oT w0 w1 w2 w3 lo hi st ep hl hh mv ac (pfu pt h (pt h + 1)) (pfu tk h 1) et lm pE pA (B + 2) S := by
  have i_n1 := Pin_n1 I
  clear I
  simp only [Q_n1, pokM, pown, prcv, pgiv, ppge, pfu] at *
  grind
set_option maxHeartbeats 400000 in
theorem pt_tookok_n2 {has : Prop} {V E H T oG oT w0 w1 w2 w3 lo hi : Int} {st ep hl hh mv ac pt tk et lm pE pA : Nat → Int} {B : Int} {S : (Nat → Int) → Prop} (I : Pin has V E H T oG oT w0 w1 w2 w3 lo hi st ep hl hh mv ac pt tk et lm pE pA B S) (h : Nat) (m : (Nat → Int)) (hS : S m) (hk : (m 0) = 5) (hg : pgiv st h) (hep : ep h + 1 = (m 3)) (hac : ac h = (m 4)) (hm0 : 0 ≤ (m 5)) (htk : tk h = 0) (hm : (m 5) = pt h) (hlm : 0 ≤ lm h) (hV : (m 3) = V) (hH : (h : Int) = H) (het : et h = 0) : Q_n2 has V E H T oG oT w0 w1 w2 w3 lo hi st ep hl hh mv ac (pfu pt h (pt h + 1)) (pfu tk h 1) et lm pE pA (B + 2) S := by
  have i_n2 := Pin_n2 I
  clear I
  simp only [Q_n2, pokM, pown, prcv, pgiv, ppge, pfu] at *
  grind
set_option maxHeartbeats 400000 in
theorem pt_tookok_n3 {has : Prop} {V E H T oG oT w0 w1 w2 w3 lo hi : Int} {st ep hl hh mv ac pt tk et lm pE pA : Nat → Int} {B : Int} {S : (Nat → Int) → Prop} (I : Pin has V E H T oG oT w0 w1 w2 w3 lo hi st ep hl hh mv ac pt tk et lm pE pA B S) (h : Nat) (m : (Nat → Int)) (hS : S m) (hk : (m 0) = 5) (hg : pgiv st h) (hep : ep h + 1 = (m 3)) (hac : ac h = (m 4)) (hm0 : 0 ≤ (m 5)) (htk : tk h = 0) (hm : (m 5) = pt h) (hlm : 0 ≤ lm h) (hV : (m 3) = V) (hH : (h : Int) = H) (het : et h = 0) : Q_n3 has V E H T oG oT w0 w1 w2 w3 lo hi st ep hl hh mv ac (pfu pt h (pt h + 1)) (pfu tk h 1) et lm pE pA (B + 2) S := by
  have i_n3 := Pin_n3 I
  clear I
  simp only [Q_n3, pokM, pown, prcv, pgiv, ppge, pfu] at *
  grind
set_option maxHeartbeats 400000 in
theorem pt_tookok_n4 {has : Prop} {V E H T oG oT w0 w1 w2 w3 lo hi : Int} {st ep hl hh mv ac pt tk et lm pE pA : Nat → Int} {B : Int} {S : (Nat → Int) → Prop} (I : Pin has V E H T oG oT w0 w1 w2 w3 lo hi st ep hl hh mv ac pt tk et lm pE pA B S) (h : Nat) (m : (Nat → Int)) (hS : S m) (hk : (m 0) = 5) (hg : pgiv st h) (hep : ep h + 1 = (m 3)) (hac : ac h = (m 4)) (hm0 : 0 ≤ (m 5)) (htk : tk h = 0) (hm : (m 5) = pt h) (hlm : 0 ≤ lm h) (hV : (m 3) = V) (hH : (h : Int) = H) (het : et h = 0) : Q_n4 has V E H T oG oT w0 w1 w2 w3 lo hi st ep hl hh mv ac (pfu pt h (pt h + 1)) (pfu tk h 1) et lm pE pA (B + 2) S := by
  have i_n4 := Pin_n4 I
  clear I
  simp only [Q_n4, pokM, pown, prcv, pgiv, ppge, pfu] at *
  grind
set_option maxHeartbeats 400000 in
theorem pt_tookok_n5 {has : Prop} {V E H T oG oT w0 w1 w2 w3 lo hi : Int} {st ep hl hh mv ac pt tk et lm pE pA : Nat → Int} {B : Int} {S : (Nat → Int) → Prop} (I : Pin has V E H T oG oT w0 w1 w2 w3 lo hi st ep hl hh mv ac pt tk et lm pE pA B S) (h : Nat) (m : (Nat → Int)) (hS : S m) (hk : (m 0) = 5) (hg : pgiv st h) (hep : ep h + 1 = (m 3)) (hac : ac h = (m 4)) (hm0 : 0 ≤ (m 5)) (htk : tk h = 0) (hm : (m 5) = pt h) (hlm : 0 ≤ lm h) (hV : (m 3) = V) (hH : (h : Int) = H) (het : et h = 0) : Q_n5 has V E H T oG oT w0 w1 w2 w3 lo hi st ep hl hh mv ac (pfu pt h (pt h + 1)) (pfu tk h 1) et lm pE pA (B + 2) S := by
  have i_n5 := Pin_n5 I
  clear I
  simp only [Q_n5, pokM, pown, prcv, pgiv, ppge, pfu] at *
  grind
set_option maxHeartbeats 400000 in
theorem pt_tookok_n6 {has : Prop} {V E H T oG oT w0 w1 w2 w3 lo hi : Int} {st ep hl hh mv ac pt tk et lm pE pA : Nat → Int} {B : Int} {S : (Nat → Int) → Prop} (I : Pin has V E H T oG oT w0 w1 w2 w3 lo hi st ep hl hh mv ac pt tk et lm pE pA B S) (h : Nat) (m : (Nat → Int)) (hS : S m) (hk : (m 0) = 5) (hg : pgiv st h) (hep : ep h + 1 = (m 3)) (hac : ac h = (m 4)) (hm0 : 0 ≤ (m 5)) (htk : tk h = 0) (hm : (m 5) = pt h) (hlm : 0 ≤ lm h) (hV : (m 3) = V) (hH : (h : Int) = H) (het : et h = 0) : Q_n6 has V E H T oG oT w0 w1 w2 w3 lo hi st ep hl hh mv ac (pfu pt h (pt h + 1)) (pfu tk h 1) et lm pE pA (B + 2) S := by
  have i_n6 := Pin_n6 I
  clear I
  simp only [Q_n6, pokM, pown, prcv, pgiv, ppge, pfu] at *
  grind
set_option maxHeartbeats 400000 in
theorem pt_tookok_n7 {has : Prop} {V E H T oG oT w0 w1 w2 w3 lo hi : Int} {st ep hl hh mv ac pt tk et lm pE pA : Nat → Int} {B : Int} {S : (Nat → Int) → Prop} (I : Pin has V E H T oG oT w0 w1 w2 w3 lo hi st ep hl hh mv ac pt tk et lm pE pA B S) (h : Nat) (m : (Nat → Int)) (hS : S m) (hk : (m 0) = 5) (hg : pgiv st h) (hep : ep h + 1 = (m 3)) (hac : ac h = (m 4)) (hm0 : 0 ≤ (m 5)) (htk : tk h = 0) (hm : (m 5) = pt h) (hlm : 0 ≤ lm h) (hV : (m 3) = V) (hH : (h : Int) = H) (het : et h = 0) : Q_n7 has V E H T oG oT w0 w1 w2 w3 lo hi st ep hl hh mv ac (pfu pt h (pt h + 1)) (pfu tk h 1) et lm pE pA (B + 2) S := by
  have i_v0 := Pin_v0 I
  have i_a := Pin_a I
  have i_b := Pin_b I
  have i_c := Pin_c I
  have i_d := Pin_d I
  have i_e := Pin_e I
  have i_f := Pin_f I
  have i_f2 := Pin_f2 I
  have i_f3 := Pin_f3 I
  have i_g := Pin_g I
  have i_l4 := Pin_l4 I
  have i_l5 := Pin_l5 I
  have i_l3 := Pin_l3 I
  have i_m1 := Pin_m1 I
  have i_m2 := Pin_m2 I
  have i_m3 := Pin_m3 I
  have i_n0 := Pin_n0 I
  have i_n1 := Pin_n1 I
  have i_n2 := Pin_n2 I
  have i_n3 := Pin_n3 I
  have i_n4 := Pin_n4 I
  have i_n5 := Pin_n5 I
  have i_n6 := Pin_n6 I
  have i_n7 := Pin_n7 I
  have i_o := Pin_o I
  have i_q := Pin_q I
  clear I
  simp only [Q_a, Q_b, Q_c, Q_d, Q_e, Q_f, Q_f2, Q_f3, Q_g, Q_l3, Q_l4, Q_l5, Q_m1, Q_m2, Q_m3, Q_n0, Q_n1, Q_n2, Q_n3, Q_n4, Q_n5, Q_n6, Q_n7, Q_o, Q_q, Q_v0, pokM, pown, prcv, pgiv, ppge, pfu] at *
  grind
set_option maxHeartbeats 400000 in
theorem pt_tookok_o {has : Prop} {V E H T oG oT w0 w1 w2 w3 lo hi : Int} {st ep hl hh mv ac pt tk et lm pE pA : Nat → Int} {B : Int} {S : (Nat → Int) → Prop} (I : Pin has V E H T oG oT w0 w1 w2 w3 lo hi st ep hl hh mv ac pt tk et lm pE pA B S) (h : Nat) (m : (Nat → Int)) (hS : S m) (hk : (m 0) = 5) (hg : pgiv st h) (hep : ep h + 1 = (m 3)) (hac : ac h = (m 4)) (hm0 : 0 ≤ (m 5)) (htk : tk h = 0) (hm : (m 5) = pt h) (hlm : 0 ≤ lm h) (hV : (m 3) = V) (hH : (h : Int) = H) (het : et h = 0) : Q_o has V E H T oG oT w0 w1 w2 w3 lo hi st ep hl hh mv ac (pfu pt h (pt h + 1)) (pfu tk h 1) et lm pE pA (B + 2) S := by
  have i_o := Pin_o I
  clear I
  simp only [Q_o, pokM, pown, prcv, pgiv, ppge, pfu] at *
  grind
set_option maxHeartbeats 400000 in
theorem pt_tookok_p {has : Prop} {V E H T oG oT w0 w1 w2 w3 lo hi : Int} {st ep hl hh mv ac pt tk et lm pE pA : Nat → Int} {B : Int} {S : (Nat → Int) → Prop} (I : Pin has V E H T oG oT w0 w1 w2 w3 lo hi st ep hl hh mv ac pt tk et lm pE pA B S) (h : Nat) (m : (Nat → Int)) (hS : S m) (hk : (m 0) = 5) (hg : pgiv st h) (hep : ep h + 1 = (m 3)) (hac : ac h = (m 4)) (hm0 : 0 ≤ (m 5)) (htk : tk h = 0) (hm : (m 5) = pt h) (hlm : 0 ≤ lm h) (hV : (m 3) = V) (hH : (h : Int) = H) (het : et h = 0) : Q_p has V E H T oG oT w0 w1 w2 w3 lo hi st ep hl hh mv ac (pfu pt h (pt h + 1)) (pfu tk h 1) et lm pE pA (B + 2) S := by
  have i_p := Pin_p I
  clear I
  simp only [Q_p, pokM, pown, prcv, pgiv, ppge, pfu] at *
  grind
set_option maxHeartbeats 400000 in
theorem pt_tookok_q {has : Prop} {V E H T oG oT w0 w1 w2 w3 lo hi : Int} {st ep hl hh mv ac pt tk et lm pE pA : Nat → Int} {B : Int} {S : (Nat → Int) → Prop} (I : Pin has V E H T oG oT w0 w1 w2 w3 lo hi st ep hl hh mv ac pt tk et lm pE pA B S) (h : Nat) (m : (Nat → Int)) (hS : S m) (hk : (m 0) = 5) (hg : pgiv st h) (hep : ep h + 1 = (m 3)) (hac : ac h = (m 4)) (hm0 : 0 ≤ (m 5)) (htk : tk h = 0) (hm : (m 5) = pt h) (hlm : 0 ≤ lm h) (hV : (m 3) = V) (hH : (h : Int) = H) (het : et h = 0) : Q_q has V E H T oG oT w0 w1 w2 w3 lo hi st ep hl hh mv ac (pfu pt h (pt h + 1)) (pfu tk h 1) et lm pE pA (B + 2) S := by
  have i_q := Pin_q I
  clear I
  simp only [Q_q, pokM, pown, prcv, pgiv, ppge, pfu] at *
  grind
set_option maxHeartbeats 400000 in
theorem pt_tookok_q2 {has : Prop} {V E H T oG oT w0 w1 w2 w3 lo hi : Int} {st ep hl hh mv ac pt tk et lm pE pA : Nat → Int} {B : Int} {S : (Nat → Int) → Prop} (I : Pin has V E H T oG oT w0 w1 w2 w3 lo hi st ep hl hh mv ac pt tk et lm pE pA B S) (h : Nat) (m : (Nat → Int)) (hS : S m) (hk : (m 0) = 5) (hg : pgiv st h) (hep : ep h + 1 = (m 3)) (hac : ac h = (m 4)) (hm0 : 0 ≤ (m 5)) (htk : tk h = 0) (hm : (m 5) = pt h) (hlm : 0 ≤ lm h) (hV : (m 3) = V) (hH : (h : Int) = H) (het : et h = 0) : Q_q2 has V E H T oG oT w0 w1 w2 w3 lo hi st ep hl hh mv ac (pfu pt h (pt h + 1)) (pfu tk h 1) et lm pE pA (B + 2) S := by
  have i_q2 := Pin_q2 I
  clear I
  simp only [Q_q2, pokM, pown, prcv, pgiv, ppge, pfu] at *
  grind
set_option maxHeartbeats 400000 in
theorem pt_tookok_q3 {has : Prop} {V E H T oG oT w0 w1 w2 w3 lo hi : Int} {st ep hl hh mv ac pt tk et lm pE pA : Nat → Int} {B : Int} {S : (Nat → Int) → Prop} (I : Pin has V E H T oG oT w0 w1 w2 w3 lo hi st ep hl hh mv ac pt tk et lm pE pA B S) (h : Nat) (m : (Nat → Int)) (hS : S m) (hk : (m 0) = 5) (hg : pgiv st h) (hep : ep h + 1 = (m 3)) (hac : ac h = (m 4)) (hm0 : 0 ≤ (m 5)) (htk : tk h = 0) (hm : (m 5) = pt h) (hlm : 0 ≤ lm h) (hV : (m 3) = V) (hH : (h : Int) = H) (het : et h = 0) : Q_q3 has V E H T oG oT w0 w1 w2 w3 lo hi st ep hl hh mv ac (pfu pt h (pt h + 1)) (pfu tk h 1) et lm pE pA (B + 2) S := by
  have i_q3 := Pin_q3 I
  clear I
  simp only [Q_q3, pokM, pown, prcv, pgiv, ppge, pfu] at *
  grind
set_option maxHeartbeats 400000 in
theorem pt_tookok_w {has : Prop} {V E H T oG oT w0 w1 w2 w3 lo hi : Int} {st ep hl hh mv ac pt tk et lm pE pA : Nat → Int} {B : Int} {S : (Nat → Int) → Prop} (I : Pin has V E H T oG oT w0 w1 w2 w3 lo hi st ep hl hh mv ac pt tk et lm pE pA B S) (h : Nat) (m : (Nat → Int)) (hS : S m) (hk : (m 0) = 5) (hg : pgiv st h) (hep : ep h + 1 = (m 3)) (hac : ac h = (m 4)) (hm0 : 0 ≤ (m 5)) (htk : tk h = 0) (hm : (m 5) = pt h) (hlm : 0 ≤ lm h) (hV : (m 3) = V) (hH : (h : Int) = H) (het : et h = 0) : Q_w has V E H T oG oT w0 w1 w2 w3 lo hi st ep hl hh mv ac (pfu pt h (pt h + 1)) (pfu tk h 1) et lm pE pA (B + 2) S := by
  have i_w := Pin_w I
  clear I
  simp only [Q_w, pokM, pown, prcv, pgiv, ppge, pfu] at *
  grind
theorem pt_tookok {has : Prop} {V E H T oG oT w0 w1 w2 w3 lo hi : Int} {st ep hl hh mv ac pt tk et lm pE pA : Nat → Int} {B : Int} {S : (Nat → Int) → Prop} (I : Pin has V E H T oG oT w0 w1 w2 w3 lo hi st ep hl hh mv ac pt tk et lm pE pA B S) (h : Nat) (m : (Nat → Int)) (hS : S m) (hk : (m 0) = 5) (hg : pgiv st h) (hep : ep h + 1 = (m 3)) (hac : ac h = (m 4)) (hm0 : 0 ≤ (m 5)) (htk : tk h = 0) (hm : (m 5) = pt h) (hlm : 0 ≤ lm h) : Pin has V E H T oG oT w0 w1 w2 w3 lo hi st ep hl hh mv ac (pfu pt h (pt h + 1)) (pfu tk h 1) et lm pE pA (B + 2) S := by
  have hV := pt_tookok_hV_d I h m hS hk hg hep hac hm0 htk hm hlm 
  have hH := pt_tookok_hH_d I h m hS hk hg hep hac hm0 htk hm hlm hV
  have het := pt_tookok_het_d I h m hS hk hg hep hac hm0 htk hm hlm hV hH
  exact ⟨pt_tookok_v0 I h m hS hk hg hep hac hm0 htk hm hlm hV hH het, pt_tookok_a I h m hS hk hg hep hac hm0 htk hm hlm hV hH het, pt_tookok_b I h m hS hk hg hep hac hm0 htk hm hlm hV hH het, pt_tookok_c I h m hS hk hg hep hac hm0 htk hm hlm hV hH het, pt_tookok_d I h m hS hk hg hep hac hm0 htk hm hlm hV hH het, pt_tookok_e I h m hS hk hg hep hac hm0 htk hm hlm hV hH het, pt_tookok_f I h m hS hk hg hep hac hm0 htk hm hlm hV hH het, pt_tookok_f2 I h m hS hk hg hep hac hm0 htk hm hlm hV hH het, pt_tookok_f3 I h m hS hk hg hep hac hm0 htk hm hlm hV hH het, pt_tookok_g I h m hS hk hg hep hac hm0 htk hm hlm hV hH het, pt_tookok_g0 I h m hS hk hg hep hac hm0 htk hm hlm hV hH het, pt_tookok_g1 I h m hS hk hg hep hac hm0 htk hm hlm hV hH het, pt_tookok_g2 I h m hS hk hg hep hac hm0 htk hm hlm hV hH het, pt_tookok_h7 I h m hS hk hg hep hac hm0 htk hm hlm hV hH het, pt_tookok_h9 I h m hS hk hg hep hac hm0 htk hm hlm hV hH het, pt_tookok_h10 I h m hS hk hg hep hac hm0 htk hm hlm hV hH het, pt_tookok_h11 I h m hS hk hg hep hac hm0 htk hm hlm hV hH het, pt_tookok_h12 I h m hS hk hg hep hac hm0 htk hm hlm hV hH het, pt_tookok_k1 I h m hS hk hg hep hac hm0 htk hm hlm hV hH het, pt_tookok_k2 I h m hS hk hg hep hac hm0 htk hm hlm hV hH het, pt_tookok_k8 I h m hS hk hg hep hac hm0 htk hm hlm hV hH het, pt_tookok_l4 I h m hS hk hg hep hac hm0 htk hm hlm hV hH het, pt_tookok_l5 I h m hS hk hg hep hac hm0 htk hm hlm hV hH het, pt_tookok_l3 I h m hS hk hg hep hac hm0 htk hm hlm hV hH het, pt_tookok_m1 I h m hS hk hg hep hac hm0 htk hm hlm hV hH het, pt_tookok_m2 I h m hS hk hg hep hac hm0 htk hm hlm hV hH het, pt_tookok_m3 I h m hS hk hg hep hac hm0 htk hm hlm hV hH het, pt_tookok_n0 I h m hS hk hg hep hac hm0 htk hm hlm hV hH het, pt_tookok_n1 I h m hS hk hg hep hac hm0 htk hm hlm hV hH het, pt_tookok_n2 I h m hS hk hg hep hac hm0 htk hm hlm hV hH het, pt_tookok_n3 I h m hS hk hg hep hac hm0 htk hm hlm hV hH het, pt_tookok_n4 I h m hS hk hg hep hac hm0 htk hm hlm hV hH het, pt_tookok_n5 I h m hS hk hg hep hac hm0 htk hm hlm hV hH het, pt_tookok_n6 I h m hS hk hg hep hac hm0 htk hm hlm hV hH het, pt_tookok_n7 I h m hS hk hg hep hac hm0 htk hm hlm hV hH het, pt_tookok_o I h m hS hk hg hep hac hm0 htk hm hlm hV hH het, pt_tookok_p I h m hS hk hg hep hac hm0 htk hm hlm hV hH het, pt_tookok_q I h m hS hk hg hep hac hm0 htk hm hlm hV hH het, pt_tookok_q2 I h m hS hk hg hep hac hm0 htk hm hlm hV hH het, pt_tookok_q3 I h m hS hk hg hep hac hm0 htk hm hlm hV hH het, pt_tookok_w I h m hS hk hg hep hac hm0 htk hm hlm hV hH het⟩
set_option maxHeartbeats 400000 in
theorem pt_tookend_hV_d {has : Prop} {V E H T oG oT w0 w1 w2 w3 lo hi : Int} {st ep hl hh mv ac pt tk et lm pE pA : Nat → Int} {B : Int} {S : (Nat → Int) → Prop} (I : Pin has V E H T oG oT w0 w1 w2 w3 lo hi st ep hl hh mv ac pt tk et lm pE pA B S) (h : Nat) (m : (Nat → Int)) (hS : S m) (hk : (m 0) = 5) (hg : pgiv st h) (hep : ep h + 1 = (m 3)) (hac : ac h = (m 4)) (hm0 : 0 ≤ (m 5)) (htk : tk h = 0) (hm : (m 5) = pt h) (hlm : lm h < 0)  : (m 3) = V := by
  have i_e := Pin_e I
  clear I
  try simp only [Q_e, pown, prcv, pgiv, ppge, pfu] at *
  grind
set_option maxHeartbeats 400000 in
theorem pt_tookend_hH_d {has : Prop} {V E H T oG oT w0 w1 w2 w3 lo hi : Int} {st ep hl hh mv ac pt tk et lm pE pA : Nat → Int} {B : Int} {S : (Nat → Int) → Prop} (I : Pin has V E H T oG oT w0 w1 w2 w3 lo hi st ep hl hh mv ac pt tk et lm pE pA B S) (h : Nat) (m : (Nat → Int)) (hS : S m) (hk : (m 0) = 5) (hg : pgiv st h) (hep : ep h + 1 = (m 3)) (hac : ac h = (m 4)) (hm0 : 0 ≤ (m 5)) (htk : tk h = 0) (hm : (m 5) = pt h) (hlm : lm h < 0) (hV : (m 3) = V) : (h : Int) = H := by
  have i_b := Pin_b I
  have i_o := Pin_o I
  clear I
  try simp only [Q_b, Q_o, pown, prcv, pgiv, ppge, pfu] at *
  grind
set_option maxHeartbeats 400000 in
theorem pt_tookend_h3_d {has : Prop} {V E H T oG oT w0 w1 w2 w3 lo hi : Int} {st ep hl hh mv ac pt tk et lm pE pA : Nat → Int} {B : Int} {S : (Nat → Int) → Prop} (I : Pin has V E H T oG oT w0 w1 w2 w3 lo hi st ep hl hh mv ac pt tk et lm pE pA B S) (h : Nat) (m : (Nat → Int)) (hS : S m) (hk : (m 0) = 5) (hg : pgiv st h) (hep : ep h + 1 = (m 3)) (hac : ac h = (m 4)) (hm0 : 0 ≤ (m 5)) (htk : tk h = 0) (hm : (m 5) = pt h) (hlm : lm h < 0) (hV : (m 3) = V) (hH : (h : Int) = H) : st h = 3 := by
  have i_o := Pin_o I
  clear I
  try simp only [Q_o, pown, prcv, pgiv, ppge, pfu] at *
  grind
set_option maxHeartbeats 400000 in
theorem pt_tookend_het_d {has : Prop} {V E H T oG oT w0 w1 w2 w3 lo hi : Int} {st ep hl hh mv ac pt tk et lm pE pA : Nat → Int} {B : Int} {S : (Nat → Int) → Prop} (I : Pin has V E H T oG oT w0 w1 w2 w3 lo hi st ep hl hh mv ac pt tk et lm pE pA B S) (h : Nat) (m : (Nat → Int)) (hS : S m) (hk : (m 0) = 5) (hg : pgiv st h) (hep : ep h + 1 = (m 3)) (hac : ac h = (m 4)) (hm0 : 0 ≤ (m 5)) (htk : tk h = 0) (hm : (m 5) = pt h) (hlm : lm h < 0) (hV : (m 3) = V) (hH : (h : Int) = H) (h3 : st h = 3) : et h = 0 := by
  have i_o := Pin_o I
  clear I
  try simp only [Q_o, pown, prcv, pgiv, ppge, pfu] at *
  grind
set_option maxHeartbeats 400000 in
theorem pt_tookend_v0 {has : Prop} {V E H T oG oT w0 w1 w2 w3 lo hi : Int} {st ep hl hh mv ac pt tk et lm pE pA : Nat → Int} {B : Int} {S : (Nat → Int) → Prop} (I : Pin has V E H T oG oT w0 w1 w2 w3 lo hi st ep hl hh mv ac pt tk et lm pE pA B S) (h : Nat) (m : (Nat → Int)) (hS : S m) (hk : (m 0) = 5) (hg : pgiv st h) (hep : ep h + 1 = (m 3)) (hac : ac h = (m 4)) (hm0 : 0 ≤ (m 5)) (htk : tk h = 0) (hm : (m 5) = pt h) (hlm : lm h < 0) (hV : (m 3) = V) (hH : (h : Int) = H) (h3 : st h = 3) (het : et h = 0) : Q_v0 has V E H T oG oT w0 w1 w2 w3 lo hi st ep hl hh mv ac (pfu pt h (pt h + 1)) (pfu tk h 1) (pfu et h 1) lm pE pA (B + 2) S := by
  have i_v0 := Pin_v0 I
  clear I
  simp only [Q_v0, pokM, pown, prcv, pgiv, ppge, pfu] at *
  grind
set_option maxHeartbeats 400000 in
theorem pt_tookend_a {has : Prop} {V E H T oG oT w0 w1 w2 w3 lo hi : Int} {st ep hl hh mv ac pt tk et lm pE pA : Nat → Int} {B : Int} {S : (Nat → Int) → Prop} (I : Pin has V E H T oG oT w0 w1 w2 w3 lo hi st ep hl hh mv ac pt tk et lm pE pA B S) (h : Nat) (m : (Nat → Int)) (hS : S m) (hk : (m 0) = 5) (hg : pgiv st h) (hep : ep h + 1 = (m 3)) (hac : ac h = (m 4)) (hm0 : 0 ≤ (m 5)) (htk : tk h = 0) (hm : (m 5) = pt h) (hlm : lm h < 0) (hV : (m 3) = V) (hH : (h : Int) = H) (h3 : st h = 3) (het : et h = 0) : Q_a has V E H T oG oT w0 w1 w2 w3 lo hi st ep hl hh mv ac (pfu pt h (pt h + 1)) (pfu tk h 1) (pfu et h 1) lm pE pA (B + 2) S := by
  have i_a := Pin_a I
  clear I
  simp only [Q_a, pokM, pown, prcv, pgiv, ppge, pfu] at *
  grind
set_option maxHeartbeats 400000 in
theorem pt_tookend_b {has : Prop} {V E H T oG oT w0 w1 w2 w3 lo hi : Int} {st ep hl hh mv ac pt tk et lm pE pA : Nat → Int} {B : Int} {S : (Nat → Int) → Prop} (I : Pin has V E H T oG oT w0 w1 w2 w3 lo hi st ep hl hh mv ac pt tk et lm pE pA B S) (h : Nat) (m : (Nat → Int)) (hS : S m) (hk : (m 0) = 5) (hg : pgiv st h) (hep : ep h + 1 = (m 3)) (hac : ac h = (m 4)) (hm0 : 0 ≤ (m 5)) (htk : tk h = 0) (hm : (m 5) = pt h) (hlm : lm h < 0) (hV : (m 3) = V) (hH : (h : Int) = H) (h3 : st h = 3) (het : et h = 0) : Q_b has V E H T oG oT w0 w1 w2 w3 lo hi st ep hl hh mv ac (pfu pt h (pt h + 1)) (pfu tk h 1) (pfu et h 1) lm pE pA (B + 2) S := by
  have i_b := Pin_b I
  clear I
  simp only [Q_b, pokM, pown, prcv, pgiv, ppge, pfu] at *
  grind
set_option maxHeartbeats 400000 in
theorem pt_tookend_c {has : Prop} {V E H T oG oT w0 w1 w2 w3 lo hi : Int} {st ep hl hh mv ac pt tk et lm pE pA : Nat → Int} {B : Int} {S : (Nat → Int) → Prop} (I : Pin has V E H T oG oT w0 w1 w2 w3 lo hi st ep hl hh mv ac pt tk et lm pE pA B S) (h : Nat) (m : (Nat → Int)) (hS : S m) (hk : (m 0) = 5) (hg : pgiv st h) (hep : ep h + 1 = (m 3)) (hac : ac h = (m 4)) (hm0 : 0 ≤ (m 5)) (htk : tk h = 0) (hm : (m 5) = pt h) (hlm : lm h < 0) (hV : (m 3) = V) (hH : (h : Int) = H) (h3 : st h = 3) (het : et h = 0) : Q_c has V E H T oG oT w0 w1 w2 w3 lo hi st ep hl hh mv ac (pfu pt h (pt h + 1)) (pfu tk h 1) (pfu et h 1) lm pE pA (B + 2) S := by
  have i_c := Pin_c I
  clear I
  simp only [Q_c, pokM, pown, prcv, pgiv, ppge, pfu] at *
  grind
set_option maxHeartbeats 400000 in
theorem pt_tookend_d {has : Prop} {V E H T oG oT w0 w1 w2 w3 lo hi : Int} {st ep hl hh mv ac pt tk et lm pE pA : Nat → Int} {B : Int} {S : (Nat → Int) → Prop} (I : Pin has V E H T oG oT w0 w1 w2 w3 lo hi st ep hl hh mv ac pt tk et lm pE pA B S) (h : Nat) (m : (Nat → Int)) (hS : S m) (hk : (m 0) = 5) (hg : pgiv st h) (hep : ep h + 1 = (m 3)) (hac : ac h = (m 4)) (hm0 : 0 ≤ (m 5)) (htk : tk h = 0) (hm : (m 5) = pt h) (hlm : lm h < 0) (hV : (m 3) = V) (hH : (h : Int) = H) (h3 : st h = 3) (het : et h = 0) : Q_d has V E H T oG oT w0 w1 w2 w3 lo hi st ep hl hh mv ac (pfu pt h (pt h + 1)) (pfu tk h 1) (pfu et h 1) lm pE pA (B + 2) S := by
  have i_d := Pin_d I
  clear I
  simp only [Q_d, pokM, pown, prcv, pgiv, ppge, pfu] at *
  grind
set_option maxHeartbeats 400000 in
theorem pt_tookend_e {has : Prop} {V E H T oG oT w0 w1 w2 w3 lo hi : Int} {st ep hl hh mv ac pt tk et lm pE pA : Nat → Int} {B : Int} {S : (Nat → Int) → Prop} (I : Pin has V E H T oG oT w0 w1 w2 w3 lo hi st ep hl hh mv ac pt tk et lm pE pA B S) (h : Nat) (m : (Nat → Int)) (hS : S m) (hk : (m 0) = 5) (hg : pgiv st h) (hep : ep h + 1 = (m 3)) (hac : ac h = (m 4)) (hm0 : 0 ≤ (m 5)) (htk : tk h = 0) (hm : (m 5) = pt h) (hlm : lm h < 0) (hV : (m 3) = V) (hH : (h : Int) = H) (h3 : st h = 3) (het : et h = 0) : Q_e has V E H T oG oT w0 w1 w2 w3 lo hi st ep hl hh mv ac (pfu pt h (pt h + 1)) (pfu tk h 1) (pfu et h 1) lm pE pA (B + 2) S := by
  have i_e := Pin_e I
  clear I
  simp only [Q_e, pokM, pown, prcv, pgiv, ppge, pfu] at *
  grind
set_option maxHeartbeats 400000 in
theorem pt_tookend_f {has : Prop} {V E H T oG oT w0 w1 w2 w3 lo hi : Int} {st ep hl hh mv ac pt tk et lm pE pA : Nat → Int} {B : Int} {S : (Nat → Int) → Prop} (I : Pin has V E H T oG oT w0 w1 w2 w3 lo hi st ep hl hh mv ac pt tk et lm pE pA B S) (h : Nat) (m : (Nat → Int)) (hS : S m) (hk : (m 0) = 5) (hg : pgiv st h) (hep : ep h + 1 = (m 3)) (hac : ac h = (m 4)) (hm0 : 0 ≤ (m 5)) (htk : tk h = 0) (hm : (m 5) = pt h) (hlm : lm h < 0) (hV : (m 3) = V) (hH : (h : Int) = H) (h3 : st h = 3) (het : et h = 0) : Q_f has V E H T oG oT w0 w1 w2 w3 lo hi st ep hl hh mv ac (pfu pt h (pt h + 1)) (pfu tk h 1) (pfu et h 1) lm pE pA (B + 2) S := by
  have i_f := Pin_f I
  clear I
  simp only [Q_f, pokM, pown, prcv, pgiv, ppge, pfu] at *
  grind
set_option maxHeartbeats 400000 in
theorem pt_tookend_f2 {has : Prop} {V E H T oG oT w0 w1 w2 w3 lo hi : Int} {st ep hl hh mv ac pt tk et lm pE pA : Nat → Int} {B : Int} {S : (Nat → Int) → Prop} (I : Pin has V E H T oG oT w0 w1 w2 w3 lo hi st ep hl hh mv ac pt tk et lm pE pA B S) (h : Nat) (m : (Nat → Int)) (hS : S m) (hk : (m 0) = 5) (hg : pgiv st h) (hep : ep h + 1 = (m 3)) (hac : ac h = (m 4)) (hm0 : 0 ≤ (m 5)) (htk : tk h = 0) (hm : (m 5) = pt h) (hlm : lm h < 0) (hV : (m 3) = V) (hH : (h : Int) = H) (h3 : st h = 3) (het : et h = 0) : Q_f2 has V E H T oG oT w0 w1 w2 w3 lo hi st ep hl hh mv ac (pfu pt h (pt h + 1)) (pfu tk h 1) (pfu et h 1) lm pE pA (B + 2) S := by
  have i_f2 := Pin_f2 I
  clear I
  simp only [Q_f2, pokM, pown, prcv, pgiv, ppge, pfu] at *
  grind
set_option maxHeartbeats 400000 in
theorem pt_tookend_f3 {has : Prop} {V E H T oG oT w0 w1 w2 w3 lo hi : Int} {st ep hl hh mv ac pt tk et lm pE pA : Nat → Int} {B : Int} {S : (Nat → Int) → Prop} (I : Pin has V E H T oG oT w0 w1 w2 w3 lo hi st ep hl hh mv ac pt tk et lm pE pA B S) (h : Nat) (m : (Nat → Int)) (hS : S m) (hk : (m 0) = 5) (hg : pgiv st h) (hep : ep h + 1 = (m 3)) (hac : ac h = (m 4)) (hm0 : 0 ≤ (m 5)) (htk : tk h = 0) (hm : (m 5) = pt h) (hlm : lm h < 0) (hV : (m 3) = V) (hH : (h : Int) = H) (h3 : st h = 3) (het : et h = 0) : Q_f3 has V E H T oG oT w0 w1 w2 w3 lo hi st ep hl hh mv ac (pfu pt h (pt h + 1)) (pfu tk h 1) (pfu et h 1) lm pE pA (B + 2) S := by
  have i_f3 := Pin_f3 I
  clear I
  simp only [Q_f3, pokM, pown, prcv, pgiv, ppge, pfu] at *
  grind
set_option maxHeartbeats 400000 in
theorem pt_tookend_g {has : Prop} {V E H T oG oT w0 w1 w2 w3 lo hi : Int} {st ep hl hh mv ac pt tk et lm pE pA : Nat → Int} {B : Int} {S : (Nat → Int) → Prop} (I : Pin has V E H T oG oT w0 w1 w2 w3 lo hi st ep hl hh mv ac pt tk et lm pE pA B S) (h : Nat) (m : (Nat → Int)) (hS : S m) (hk : (m 0) = 5) (hg : pgiv st h) (hep : ep h + 1 = (m 3)) (hac : ac h = (m 4)) (hm0 : 0 ≤ (m 5)) (htk : tk h = 0) (hm : (m 5) = pt h) (hlm : lm h < 0) (hV : (m 3) = V) (hH : (h : Int) = H) (h3 : st h = 3) (het : et h = 0) : Q_g has V E H T oG oT w0 w1 w2 w3 lo hi st ep hl hh mv ac (pfu pt h (pt h + 1)) (pfu tk h 1) (pfu et h 1) lm pE pA (B + 2) S := by
  have i_g := Pin_g I
  clear I
  simp only [Q_g, pokM, pown, prcv, pgiv, ppge, pfu] at *
  grind
set_option maxHeartbeats 400000 in
theorem pt_tookend_g0 {has : Prop} {V E H T oG oT w0 w1 w2 w3 lo hi : Int} {st ep hl hh mv ac pt tk et lm pE pA : Nat → Int} {B : Int} {S : (Nat → Int) → Prop} (I : Pin has V E H T oG oT w0 w1 w2 w3 lo hi st ep hl hh mv ac pt tk et lm pE pA B S) (h : Nat) (m : (Nat → Int)) (hS : S m) (hk : (m 0) = 5) (hg : pgiv st h) (hep : ep h + 1 = (m 3)) (hac : ac h = (m 4)) (hm0 : 0 ≤ (m 5)) (htk : tk h = 0) (hm : (m 5) = pt h) (hlm : lm h < 0) (hV : (m 3) = V) (hH : (h : Int) = H) (h3 : st h = 3) (het : et h = 0) : Q_g0 has V E H T oG oT w0 w1 w2 w3 lo hi st ep hl hh mv ac (pfu pt h (pt h + 1)) (pfu tk h 1) (pfu et h 1) lm pE pA (B + 2) S := by
  have i_g0 := Pin_g0 I
  clear I
  simp only [Q_g0, pokM, pown, prcv, pgiv, ppge, pfu] at *
  grind
set_option maxHeartbeats 400000 in
theorem pt_tookend_g1 {has : Prop} {V E H T oG oT w0 w1 w2 w3 lo hi : Int} {st ep hl hh mv ac pt tk et lm pE pA : Nat → Int} {B : Int} {S : (Nat → Int) → Prop} (I : Pin has V E H T oG oT w0 w1 w2 w3 lo hi st ep hl hh mv ac pt tk et lm pE pA B S) (h : Nat) (m : (Nat → Int)) (hS : S m) (hk : (m 0) = 5) (hg : pgiv st h) (hep : ep h + 1 = (m 3)) (hac : ac h = (m 4)) (hm0 : 0 ≤ (m 5)) (htk : tk h = 0) (hm : (m 5) = pt h) (hlm : lm h < 0) (hV : (m 3) = V) (hH : (h : Int) = H) (h3 : st h = 3) (het : et h = 0) : Q_g1 has V E H T oG oT w0 w1 w2 w3 lo hi st ep hl hh mv ac (pfu pt h (pt h + 1)) (pfu tk h 1) (pfu et h 1) lm pE pA (B + 2) S := by
  have i_g1 := Pin_g1 I
  clear I
  simp only [Q_g1, pokM, pown, prcv, pgiv, ppge, pfu] at *
  grind
set_option maxHeartbeats 400000 in
theorem pt_tookend_g2 {has : Prop} {V E H T oG oT w0 w1 w2 w3 lo hi : Int} {st ep hl hh mv ac pt tk et lm pE pA : Nat → Int} {B : Int} {S : (Nat → Int) → Prop} (I : Pin has V E H T oG oT w0 w1 w2 w3 lo hi st ep hl hh mv ac pt tk et lm pE pA B S) (h : Nat) (m : (Nat → Int)) (hS : S m) (hk : (m 0) = 5) (hg : pgiv st h) (hep : ep h + 1 = (m 3)) (hac : ac h = (m 4)) (hm0 : 0 ≤ (m 5)) (htk : tk h = 0) (hm : (m 5) = pt h) (hlm : lm h < 0) (hV : (m 3) = V) (hH : (h : Int) = H) (h3 : st h = 3) (het : et h = 0) : Q_g2 has V E H T oG oT w0 w1 w2 w3 lo hi st ep hl hh mv ac (pfu pt h (pt h + 1)) (pfu tk h 1) (pfu et h 1) lm pE pA (B + 2) S := by
  have i_g2 := Pin_g2 I
  clear I
  simp only [Q_g2, pokM, pown, prcv, pgiv, ppge, pfu] at *
  grind
set_option maxHeartbeats 400000 in
theorem pt_tookend_h7 {has : Prop} {V E H T oG oT w0 w1 w2 w3 lo hi : Int} {st ep hl hh mv ac pt tk et lm pE pA : Nat → Int} {B : Int} {S : (Nat → Int) → Prop} (I : Pin has V E H T oG oT w0 w1 w2 w3 lo hi st ep hl hh mv ac pt tk et lm pE pA B S) (h : Nat) (m : (Nat → Int)) (hS : S m) (hk : (m 0) = 5) (hg : pgiv st h) (hep : ep h + 1 = (m 3)) (hac : ac h = (m 4)) (hm0 : 0 ≤ (m 5)) (htk : tk h = 0) (hm : (m 5) = pt h) (hlm : lm h < 0) (hV : (m 3) = V) (hH : (h : Int) = H) (h3 : st h = 3) (het : et h = 0) : Q_h7 has V E H T oG oT w0 w1 w2 w3 lo hi st ep hl hh mv ac (pfu pt h (pt h + 1)) (pfu tk h 1) (pfu et h 1) lm pE pA (B + 2) S := by
  have i_h7 := Pin_h7 I
  clear I
  simp only [Q_h7, pokM, pown, prcv, pgiv, ppge, pfu] at *
  grind
set_option maxHeartbeats 400000 in
theorem pt_tookend_h9 {has : Prop} {V E H T oG oT w0 w1 w2 w3 lo hi : Int} {st ep hl hh mv ac pt tk et lm pE pA : Nat → Int} {B : Int} {S : (Nat → Int) → Prop} (I : Pin has V E H T oG oT w0 w1 w2 w3 lo hi st ep hl hh mv ac pt tk et lm pE pA B S) (h : Nat) (m : (Nat → Int)) (hS : S m) (hk : (m 0) = 5) (hg : pgiv st h) (hep : ep h + 1 = (m 3)) (hac : ac h = (m 4)) (hm0 : 0 ≤ (m 5)) (htk : tk h = 0) (hm : (m 5) = pt h) (hlm : lm h < 0) (hV : (m 3) = V) (hH : (h : Int) = H) (h3 : st h = 3) (het : et h = 0) : Q_h9 has V E H T oG oT w0 w1 w2 w3 lo hi st ep hl hh mv ac (pfu pt h (pt h + 1)) (pfu tk h 1) (pfu et h 1) lm pE pA (B + 2) S := by
  have i_h9 := Pin_h9 I
  clear I
  simp only [Q_h9, pokM, pown, prcv, pgiv, ppge, pfu] at *
  grind
set_option maxHeartbeats 400000 in
theorem pt_tookend_h10 {has : Prop} {V E H T oG oT w0 w1 w2 w3 lo hi : Int} {st ep hl hh mv ac pt tk et lm pE pA : Nat → Int} {B : Int} {S : (Nat → Int) → Prop} (I : Pin has V E H T oG oT w0 w1 w2 w3 lo hi st ep hl hh mv ac pt tk et lm pE pA B S) (h : Nat) (m : (Nat → Int)) (hS : S m) (hk : (m 0) = 5) (hg : pgiv st h) (hep : ep h + 1 = (m 3)) (hac : ac h = (m 4)) (hm0 : 0 ≤ (m 5)) (htk : tk h = 0) (hm : (m 5) = pt h) (hlm : lm h < 0) (hV : (m 3) = V) (hH : (h : Int) = H) (h3 : st h = 3) (het : et h = 0) : Q_h10 has V E H T oG oT w0 w1 w2 w3 lo hi st ep hl hh mv ac (pfu pt h (pt h + 1)) (pfu tk h 1) (pfu et h 1) lm pE pA (B + 2) S := by
  have i_h10 := Pin_h10 I
  clear I
  simp only [Q_h10, pokM, pown, prcv, pgiv, ppge, pfu] at *
  grind
set_option maxHeartbeats 400000 in
theorem pt_tookend_h11 {has : Prop} {V E H T oG oT w0 w1 w2 w3 lo hi : Int} {st ep hl hh mv ac pt tk et lm pE pA : Nat → Int} {B : Int} {S : (Nat → Int) → Prop} (I : Pin has V E H T oG oT w0 w1 w2 w3 lo hi st ep hl hh mv ac pt tk et lm pE pA B S) (h : Nat) (m : (Nat → Int)) (hS : S m) (hk : (m 0) = 5) (hg : pgiv st h) (hep : ep h + 1 = (m 3)) (hac : ac h = (m 4)) (hm0 : 0 ≤ (m 5)) (htk : tk h = 0) (hm : (m 5) = pt h) (hlm : lm h < 0) (hV : (m 3) = V) (hH : (h : Int) = H) (h3 : st h = 3) (het : et h = 0) : Q_h11 has V E H T oG oT w0 w1 w2 w3 lo hi st ep hl hh mv ac (pfu pt h (pt h + 1)) (pfu tk h 1) (pfu et h 1) lm pE pA (B + 2) S := by
  have i_h11 := Pin_h11 I
  clear I
  simp only [Q_h11, pokM, pown, prcv, pgiv, ppge, pfu] at *
  grind
set_option maxHeartbeats 400000 in
theorem pt_tookend_h12 {has : Prop} {V E H T oG oT w0 w1 w2 w3 lo hi : Int} {st ep hl hh mv ac pt tk et lm pE pA : Nat → Int} {B : Int} {S : (Nat → Int) → Prop} (I : Pin has V E H T oG oT w0 w1 w2 w3 lo hi st ep hl hh mv ac pt tk et lm pE pA B S) (h : Nat) (m : (Nat → Int)) (hS : S m) (hk : (m 0) = 5) (hg : pgiv st h) (hep : ep h + 1 = (m 3)) (hac : ac h = (m 4)) (hm0 : 0 ≤ (m 5)) (htk : tk h = 0) (hm : (m 5) = pt h) (hlm : lm h < 0) (hV : (m 3) = V) (hH : (h : Int) = H) (h3 : st h = 3) (het : et h = 0) : Q_h12 has V E H T oG oT w0 w1 w2 w3 lo hi st ep hl hh mv ac (pfu pt h (pt h + 1)) (pfu tk h 1) (pfu et h 1) lm pE pA (B + 2) S := by
  have i_h12 := Pin_h12 I
  clear I
  simp only [Q_h12, pokM, pown, prcv, pgiv, ppge, pfu] at *
  grind
set_option maxHeartbeats 400000 in
theorem pt_tookend_k1 {has : Prop} {V E H T oG oT w0 w1 w2 w3 lo hi : Int} {st ep hl hh mv ac pt tk et lm pE pA : Nat → Int} {B : Int} {S : (Nat → Int) → Prop} (I : Pin has V E H T oG oT w0 w1 w2 w3 lo hi st ep hl hh mv ac pt tk et lm pE pA B S) (h : Nat) (m : (Nat → Int)) (hS : S m) (hk : (m 0) = 5) (hg : pgiv st h) (hep : ep h + 1 = (m 3)) (hac : ac h = (m 4)) (hm0 : 0 ≤ (m 5)) (htk : tk h = 0) (hm : (m 5) = pt h) (hlm : lm h < 0) (hV : (m 3) = V) (hH : (h : Int) = H) (h3 : st h = 3) (het : et h = 0) : Q_k1 has V E H T oG oT w0 w1 w2 w3 lo hi st ep hl hh mv ac (pfu pt h (pt h + 1)) (pfu tk h 1) (pfu et h 1) lm pE pA (B + 2) S := by
  have i_k1 := Pin_k1 I
  clear I
  simp only [Q_k1, pokM, pown, prcv, pgiv, ppge, pfu] at *
  grind
set_option maxHeartbeats 400000 in
theorem pt_tookend_k2 {has : Prop} {V E H T oG oT w0 w1 w2 w3 lo hi : Int} {st ep hl hh mv ac pt tk et lm pE pA : Nat → Int} {B : Int} {S : (Nat → Int) → Prop} (I : Pin has V E H T oG oT w0 w1 w2 w3 lo hi st ep hl hh mv ac pt tk et lm pE pA B S) (h : Nat) (m : (Nat → Int)) (hS : S m) (hk : (m 0) = 5) (hg : pgiv st h) (hep : ep h + 1 = (m 3)) (hac : ac h = (m 4)) (hm0 : 0 ≤ (m 5)) (htk : tk h = 0) (hm : (m 5) = pt h) (hlm : lm h < 0) (hV : (m 3) = V) (hH : (h : Int) = H) (h3 : st h = 3) (het : et h = 0) : Q_k2 has V E H T oG oT w0 w1 w2 w3 lo hi st ep hl hh mv ac (pfu pt h (pt h + 1)) (pfu tk h 1) (pfu et h 1) lm pE pA (B + 2) S := by
  have i_k2 := Pin_k2 I
  clear I
  simp only [Q_k2, pokM, pown, prcv, pgiv, ppge, pfu] at *
  grind
set_option maxHeartbeats 400000 in
theorem pt_tookend_k8 {has : Prop} {V E H T oG oT w0 w1 w2 w3 lo hi : Int} {st ep hl hh mv ac pt tk et lm pE pA : Nat → Int} {B : Int} {S : (Nat → Int) → Prop} (I : Pin has V E H T oG oT w0 w1 w2 w3 lo hi st ep hl hh mv ac pt tk et lm pE pA B S) (h : Nat) (m : (Nat → Int)) (hS : S m) (hk : (m 0) = 5) (hg : pgiv st h) (hep : ep h + 1 = (m 3)) (hac : ac h = (m 4)) (hm0 : 0 ≤ (m 5)) (htk : tk h = 0) (hm : (m 5) = pt h) (hlm : lm h < 0) (hV : (m 3) = V) (hH : (h : Int) = H) (h3 : st h = 3) (het : et h = 0) : Q_k8 has V E H T oG oT w0 w1 w2 w3 lo hi st ep hl hh mv ac (pfu pt h (pt h + 1)) (pfu tk h 1) (pfu et h 1) lm pE pA (B + 2) S := by
  have i_k8 := Pin_k8 I
  clear I
  simp only [Q_k8, pokM, pown, prcv, pgiv, ppge, pfu] at *
  grind
set_option maxHeartbeats 400000 in
theorem pt_tookend_l4 {has : Prop} {V E H T oG oT w0 w1 w2 w3 lo hi : Int} {st ep hl hh mv ac pt tk et lm pE pA : Nat → Int} {B : Int} {S : (Nat → Int) → Prop} (I : Pin has V E H T oG oT w0 w1 w2 w3 lo hi st ep hl hh mv ac pt tk et lm pE pA B S) (h : Nat) (m : (Nat → Int)) (hS : S m) (hk : (m 0) = 5) (hg : pgiv st h) (hep : ep h + 1 = (m 3)) (hac : ac h = (m 4)) (hm0 : 0 ≤ (m 5)) (htk : tk h = 0) (hm : (m 5) = pt h) (hlm : lm h < 0) (hV : (m 3) = V) (hH : (h : Int) = H) (h3 : st h = 3) (het : et h = 0) : Q_l4 has V E H T oG oT w0 w1 w2 w3 lo hi st ep hl hh mv ac (pfu pt h (pt h + 1)) (pfu tk h 1) (pfu et h 1) lm pE pA (B + 2) S := by
  have i_l4 := Pin_l4 I
  clear I
  simp only [Q_l4, pokM, pown, prcv, pgiv, ppge, pfu] at *
  grind
set_option maxHeartbeats 400000 in
theorem pt_tookend_l5 {has : Prop} {V E H T oG oT w0 w1 w2 w3 lo hi : Int} {st ep hl hh mv ac pt tk et lm pE pA : Nat → Int} {B : Int} {S : (Nat → Int) → Prop} (I : Pin has V E H T oG oT w0 w1 w2 w3 lo hi st ep hl hh mv ac pt tk et lm pE pA B S) (h : Nat) (m : (Nat → Int)) (hS : S m) (hk : (m 0) = 5) (hg : pgiv st h) (hep : ep h + 1 = (m 3)) (hac : ac h = (m 4)) (hm0 : 0 ≤ (m 5)) (htk : tk h = 0) (hm : (m 5) = pt h) (hlm : lm h < 0) (hV : (m 3) = V) (hH : (h : Int) = H) (h3 : st h = 3) (het : et h = 0) : Q_l5 has V E H T oG oT w0 w1 w2 w3 lo hi st ep hl hh mv ac (pfu pt h (pt h + 1)) (pfu tk h 1) (pfu et h 1) lm pE pA (B + 2) S := by
  have i_l5 := Pin_l5 I
  clear I
  simp only [Q_l5, pokM, pown, prcv, pgiv, ppge, pfu] at *
  grind
set_option maxHeartbeats 400000 in
theorem pt_tookend_l3 {has : Prop} {V E H T oG oT w0 w1 w2 w3 lo hi : Int} {st ep hl hh mv ac pt tk et lm pE pA : Nat → Int} {B : Int} {S : (Nat → Int) → Prop} (I : Pin has V E H T oG oT w0 w1 w2 w3 lo hi st ep hl hh mv ac pt tk et lm pE pA B S) (h : Nat) (m : (Nat → Int)) (hS : S m) (hk : (m 0) = 5) (hg : pgiv st h) (hep : ep h + 1 = (m 3)) (hac : ac h = (m 4)) (hm0 : 0 ≤ (m 5)) (htk : tk h = 0) (hm : (m 5) = pt h) (hlm : lm h < 0) (hV : (m 3) = V) (hH : (h : Int) = H) (h3 : st h = 3) (het : et h = 0) : Q_l3 has V E H T oG oT w0 w1 w2 w3 lo hi st ep hl hh mv ac (pfu pt h (pt h + 1)) (pfu tk h 1) (pfu et h 1) lm pE pA (B + 2) S := by
  have i_l3 := Pin_l3 I
  clear I
  simp only [Q_l3, pokM, pown, prcv, pgiv, ppge, pfu] at *
  grind
set_option maxHeartbeats 400000 in
theorem pt_tookend_m1 {has : Prop} {V E H T oG oT w0 w1 w2 w3 lo hi : Int} {st ep hl hh mv ac pt tk et lm pE pA : Nat → Int} {B : Int} {S : (Nat → Int) → Prop} (I : Pin has V E H T oG oT w0 w1 w2 w3 lo hi st ep hl hh mv ac pt tk et lm pE pA B S) (h : Nat) (m : (Nat → Int)) (hS : S m) (hk : (m 0) = 5) (hg : pgiv st h) (hep : ep h + 1 = (m 3)) (hac : ac h = (m 4)) (hm0 : 0 ≤ (m 5)) (htk : tk h = 0) (hm : (m 5) = pt h) (hlm : lm h < 0) (hV : (m 3) = V) (hH : (h : Int) = H) (h3 : st h = 3) (het : et h = 0) : Q_m1 has V E H T oG oT w0 w1 w2 w3 lo hi st ep hl hh mv ac (pfu pt h (pt h + 1)) (pfu tk h 1) (pfu et h 1) lm pE pA (B + 2) S := by
  have i_m1 := Pin_m1 I
  clear I
  simp only [Q_m1, pokM, pown, prcv, pgiv, ppge, pfu] at *
  grind
set_option maxHeartbeats 400000 in
theorem pt_tookend_m2 {has : Prop} {V E H T oG oT w0 w1 w2 w3 lo hi : Int} {st ep hl hh mv ac pt tk et lm pE pA : Nat → Int} {B : Int} {S : (Nat → Int) → Prop} (I : Pin has V E H T oG oT w0 w1 w2 w3 lo hi st ep hl hh mv ac pt tk et lm pE pA B S) (h : Nat) (m : (Nat → Int)) (hS : S m) (hk : (m 0) = 5) (hg : pgiv st h) (hep : ep h + 1 = (m 3)) (hac : ac h = (m 4)) (hm0 : 0 ≤ (m 5)) (htk : tk h = 0) (hm : (m 5) = pt h) (hlm : lm h < 0) (hV : (m 3) = V) (hH : (h : Int) = H) (h3 : st h = 3) (het : et h = 0) : Q_m2 has V E H T oG oT w0 w1 w2 w3 lo hi st ep hl hh mv ac (pfu pt h (pt h + 1)) (pfu tk h 1) (pfu et h 1) lm pE pA (B + 2) S := by
  have i_m2 := Pin_m2 I
  clear I
  simp only [Q_m2, pokM, pown, prcv, pgiv, ppge, pfu] at *
  grind
set_option maxHeartbeats 400000 in
theorem pt_tookend_m3 {has : Prop} {V E H T oG oT w0 w1 w2 w3 lo hi : Int} {st ep hl hh mv ac pt tk et lm pE pA : Nat → Int} {B : Int} {S : (Nat → Int) → Prop} (I : Pin has V E H T oG oT w0 w1 w2 w3 lo hi st ep hl hh mv ac pt tk et lm pE pA B S) (h : Nat) (m : (Nat → Int)) (hS : S m) (hk : (m 0) = 5) (hg : pgiv st h) (hep : ep h + 1 = (m 3)) (hac : ac h = (m 4)) (hm0 : 0 ≤ (m 5)) (htk : tk h = 0) (hm : (m 5) = pt h) (hlm : lm h < 0) (hV : (m 3) = V) (hH : (h : Int) = H) (h3 : st h = 3) (het : et h = 0) : Q_m3 has V E H T oG oT w0 w1 w2 w3 lo hi st ep hl hh mv ac (pfu pt h (pt h + 1)) (pfu tk h 1) (pfu et h 1) lm pE pA (B + 2) S := by
  have i_m3 := Pin_m3 I
  clear I
  simp only [Q_m3, pokM, pown, prcv, pgiv, ppge, pfu] at *
  grind
set_option maxHeartbeats 400000 in
theorem pt_tookend_n0 {has : Prop} {V E H T oG oT w0 w1 w2 w3 lo hi : Int} {st ep hl hh mv ac pt tk et lm pE pA : Nat → Int} {B : Int} {S : (Nat → Int) → Prop} (I : Pin has V E H T oG oT w0 w1 w2 w3 lo hi st ep hl hh mv ac pt tk et lm pE pA B S) (h : Nat) (m : (Nat → Int)) (hS : S m) (hk : (m 0) = 5) (hg : pgiv st h) (hep : ep h + 1 = (m 3)) (hac : ac h = (m 4)) (hm0 : 0 ≤ (m 5)) (htk : tk h = 0) (hm : (m 5) = pt h) (hlm : lm h < 0) (hV : (m 3) = V) (hH : (h : Int) = H) (h3 : st h = 3) (het : et h = 0) : Q_n0 has V E H T oG oT w0 w1 w2 w3 lo hi st ep hl hh mv ac (pfu pt h (pt h + 1)) (pfu tk h 1) (pfu et h 1) lm pE pA (B + 2) S := by
  have i_n0 := Pin_n0 I
  clear I
  simp only [Q_n0, pokM, pown, prcv, pgiv, ppge, pfu] at *
  grind
set_option maxHeartbeats 400000 in
theorem pt_tookend_n1 {has : Prop} {V E H T oG oT w0 w1 w2 w3 lo hi : Int} {st ep hl hh mv ac pt tk et lm pE pA : Nat → Int} {B : Int} {S : (Nat → Int) → Prop} (I : Pin has V E H T oG oT w0 w1 w2 w3 lo hi st ep hl hh mv ac pt tk et lm pE pA B S) (h : Nat) (m : (Nat → Int)) (hS : S m) (hk : (m 0) = 5) (hg : pgiv st h) (hep : ep h + 1 = (m 3)) (hac : ac h = (m 4)) (hm0 : 0 ≤ (m 5)) (htk : tk h = 0) (hm : (m 5) = pt h) (hlm : lm h < 0) (hV : (m 3) = V) (hH : (h : Int) = H) (h3 : st h = 3) (het : et h = 0) : Q_n1 has V E H T oG oT w0 w1 w2 w3 lo hi st ep hl hh mv ac (pfu pt h (pt h + 1)) (pfu tk h 1) (pfu et h 1) lm pE pA (B + 2) S := by
  have i_n1 := Pin_n1 I
  clear I
  simp only [Q_n1, pokM, pown, prcv, pgiv, ppge, pfu] at *
  grind
set_option maxHeartbeats 400000 in
theorem pt_tookend_n2 {has : Prop} {V E H T oG oT w0 w1 w2 w3 lo hi : Int} {st ep hl hh mv ac pt tk et lm pE pA : Nat → Int} {B : Int} {S : (Nat → Int) → Prop} (I : Pin has V E H T oG oT w0 w1 w2 w3 lo hi st ep hl hh mv ac pt tk et lm pE pA B S) (h : Nat) (m : (Nat → Int)) (hS : S m) (hk : (m 0) = 5) (hg : pgiv st h) (hep : ep h + 1 = (m 3)) (hac : ac h = (m 4)) (hm0 : 0 ≤ (m 5)) (htk : tk h = 0) (hm : (m 5) = pt h) (hlm : lm h < 0) (hV : (m 3) = V) (hH : (h : Int) = H) (h3 : st h = 3) (het : et h = 0) : Q_n2 has V E H T oG oT w0 w1 w2 w3 lo hi st ep hl hh mv ac (pfu pt h (pt h + 1)) (pfu tk h 1) (pfu et h 1) lm pE pA (B + 2) S := by
  have i_n2 := Pin_n2 I
  clear I
  simp only [Q_n2, pokM, pown, prcv, pgiv, ppge, pfu] at *
  grind
set_option maxHeartbeats 400000 in
theorem pt_tookend_n3 {has : Prop} {V E H T oG oT w0 w1 w2 w3 lo hi : Int} {st ep hl hh mv ac pt tk et lm pE pA : Nat → Int} {B : Int} {S : (Nat → Int) → Prop} (I : Pin has V E H T oG oT w0 w1 w2 w3 lo hi st ep hl hh mv ac pt tk et lm pE pA B S) (h : Nat) (m : (Nat → Int)) (hS : S m) (hk : (m 0) = 5) (hg : pgiv st h) (hep : ep h + 1 = (m 3)) (hac : ac h = (m 4)) (hm0 : 0 ≤ (m 5)) (htk : tk h = 0) (hm : (m 5) = pt h) (hlm : lm h < 0) (hV : (m 3) = V) (hH : (h : Int) = H) (h3 : st h = 3) (het : et h = 0) : Q_n3 has V E H T oG oT w0 w1 w2 w3 lo hi st ep hl hh mv ac (pfu pt h (pt h + 1)) (pfu tk h 1) (pfu et h 1) lm pE pA (B + 2) S := by
  have i_n3 := Pin_n3 I
  clear I
  simp only [Q_n3, pokM, pown, prcv, pgiv, ppge, pfu] at *
  grind
set_option maxHeartbeats 400000 in
theorem pt_tookend_n4 {has : Prop} {V E H T oG oT w0 w1 w2 w3 lo hi : Int} {st ep hl hh mv ac pt tk et lm pE pA : Nat → Int} {B : Int} {S : (Nat → Int) → Prop} (I : Pin has V E H T oG oT w0 w1 w2 w3 lo hi st ep hl hh mv ac pt tk et lm pE pA B S) (h : Nat) (m : (Nat → Int)) (hS : S m) (hk : (m 0) = 5) (hg : pgiv st h) (hep : ep h + 1 = (m 3)) (hac : ac h = (m 4)) (hm0 : 0 ≤ (m 5)) (htk : tk h = 0) (hm : (m 5) = pt h) (hlm : lm h < 0) (hV : (m 3) = V) (hH : (h : Int) = H) (h3 : st h = 3) (het : et h = 0) : Q_n4 has V E H T oG oT w0 w1 w2 w3 lo hi st ep hl hh mv ac (pfu pt h (pt h + 1)) (pfu tk h 1) (pfu et h 1) lm pE pA (B + 2) S := by
  have i_n4 := Pin_n4 I
  clear I
  simp only [Q_n4, pokM, pown, prcv, pgiv, ppge, pfu] at *
  grind
set_option maxHeartbeats 400000 in
theorem pt_tookend_n5 {has : Prop} {V E H T oG oT w0 w1 w2 w3 lo hi : Int} {st ep hl hh mv ac pt tk et lm pE pA : Nat → Int} {B : Int} {S : (Nat → Int) → Prop} (I : Pin has V E H T oG oT w0 w1 w2 w3 lo hi st ep hl hh mv ac pt tk et lm pE pA B S) (h : Nat) (m : (Nat → Int)) (hS : S m) (hk : (m 0) = 5) (hg : pgiv st h) (hep : ep h + 1 = (m 3)) (hac : ac h = (m 4)) (hm0 : 0 ≤ (m 5)) (htk : tk h = 0) (hm : (m 5) = pt h) (hlm : lm h < 0) (hV : (m 3) = V) (hH : (h : Int) = H) (h3 : st h = 3) (het : et h = 0) : Q_n5 has V E H T oG oT w0 w1 w2 w3 lo hi st ep hl hh mv ac (pfu pt h (pt h + 1)) (pfu tk h 1) (pfu et h 1) lm pE pA (B + 2) S := by
  intro hT i t hiH hgi ht het'
  have n2 := Pin_n2 I hT h t hH hg ht m hS hk hV hm0
  have n3 := Pin_n3 I hT h t hH hg ht
  refine ⟨fun hr hv => ?_, fun m' hs' hk' he' => ?_⟩
  · have f2 := Pin_f2 I t hr
    have n4 := Pin_n4 I hT h t hH hg ht
    simp only [prcv, ppge] at *
    grind
  · have n1 := (Pin_n1 I hT h t hH hg ht m' hs' hk' he').1
    simp only [ppge] at *
    omega
set_option maxHeartbeats 400000 in
theorem pt_tookend_n6 {has : Prop} {V E H T oG oT w0 w1 w2 w3 lo hi : Int} {st ep hl hh mv ac pt tk et lm pE pA : Nat → Int} {B : Int} {S : (Nat → Int) → Prop} (I : Pin has V E H T oG oT w0 w1 w2 w3 lo hi st ep hl hh mv ac pt tk et lm pE pA B S) (h : Nat) (m : (Nat → Int)) (hS : S m) (hk : (m 0) = 5) (hg : pgiv st h) (hep : ep h + 1 = (m 3)) (hac : ac h = (m 4)) (hm0 : 0 ≤ (m 5)) (htk : tk h = 0) (hm : (m 5) = pt h) (hlm : lm h < 0) (hV : (m 3) = V) (hH : (h : Int) = H) (h3 : st h = 3) (het : et h = 0) : Q_n6 has V E H T oG oT w0 w1 w2 w3 lo hi st ep hl hh mv ac (pfu pt h (pt h + 1)) (pfu tk h 1) (pfu et h 1) lm pE pA (B + 2) S := by
  have i_n6 := Pin_n6 I
  clear I
  simp only [Q_n6, pokM, pown, prcv, pgiv, ppge, pfu] at *
  grind
set_option maxHeartbeats 400000 in
theorem pt_tookend_n7 {has : Prop} {V E H T oG oT w0 w1 w2 w3 lo hi : Int} {st ep hl hh mv ac pt tk et lm pE pA : Nat → Int} {B : Int} {S : (Nat → Int) → Prop} (I : Pin has V E H T oG oT w0 w1 w2 w3 lo hi st ep hl hh mv ac pt tk et lm pE pA B S) (h : Nat) (m : (Nat → Int)) (hS : S m) (hk : (m 0) = 5) (hg : pgiv st h) (hep : ep h + 1 = (m 3)) (hac : ac h = (m 4)) (hm0 : 0 ≤ (m 5)) (htk : tk h = 0) (hm : (m 5) = pt h) (hlm : lm h < 0) (hV : (m 3) = V) (hH : (h : Int) = H) (h3 : st h = 3) (het : et h = 0) : Q_n7 has V E H T oG oT w0 w1 w2 w3 lo hi st ep hl hh mv ac (pfu pt h (pt h + 1)) (pfu tk h 1) (pfu et h 1) lm pE pA (B + 2) S := by
  have i_v0 := Pin_v0 I
  have i_a := Pin_a I
  have i_b := Pin_b I
  have i_c := Pin_c I
  have i_d := Pin_d I
  have i_e := Pin_e I
  have i_f := Pin_f I
  have i_f2 := Pin_f2 I
  have i_f3 := Pin_f3 I
  have i_g := Pin_g I
  have i_l4 := Pin_l4 I
  have i_l5 := Pin_l5 I
  have i_l3 := Pin_l3 I
  have i_m1 := Pin_m1 I
  have i_m2 := Pin_m2 I
  have i_m3 := Pin_m3 I
  have i_n0 := Pin_n0 I
  have i_n1 := Pin_n1 I
  have i_n2 := Pin_n2 I
  have i_n3 := Pin_n3 I
  have i_n4 := Pin_n4 I
  have i_n5 := Pin_n5 I
  have i_n6 := Pin_n6 I
  have i_n7 := Pin_n7 I
  have i_o := Pin_o I
  have i_q := Pin_q I
  clear I
  simp only [Q_a, Q_b, Q_c, Q_d, Q_e, Q_f, Q_f2, Q_f3, Q_g, Q_l3, Q_l4, Q_l5, Q_m1, Q_m2, Q_m3, Q_n0, Q_n1, Q_n2, Q_n3, Q_n4, Q_n5, Q_n6, Q_n7, Q_o, Q_q, Q_v0, pokM, pown, prcv, pgiv, ppge, pfu] at *
  grind
set_option maxHeartbeats 400000 in
theorem pt_tookend_o {has : Prop} {V E H T oG oT w0 w1 w2 w3 lo hi : Int} {st ep hl hh mv ac pt tk et lm pE pA : Nat → Int} {B : Int} {S : (Nat → Int) → Prop} (I : Pin has V E H T oG oT w0 w1 w2 w3 lo hi st ep hl hh mv ac pt tk et lm pE pA B S) (h : Nat) (m : (Nat → Int)) (hS : S m) (hk : (m 0) = 5) (hg : pgiv st h) (hep : ep h + 1 = (m 3)) (hac : ac h = (m 4)) (hm0 : 0 ≤ (m 5)) (htk : tk h = 0) (hm : (m 5) = pt h) (hlm : lm h < 0) (hV : (m 3) = V) (hH : (h : Int) = H) (h3 : st h = 3) (het : et h = 0) : Q_o has V E H T oG oT w0 w1 w2 w3 lo hi st ep hl hh mv ac (pfu pt h (pt h + 1)) (pfu tk h 1) (pfu et h 1) lm pE pA (B + 2) S := by
  have i_o := Pin_o I
  clear I
  simp only [Q_o, pokM, pown, prcv, pgiv, ppge, pfu] at *
  grind
set_option maxHeartbeats 400000 in
theorem pt_tookend_p {has : Prop} {V E H T oG oT w0 w1 w2 w3 lo hi : Int} {st ep hl hh mv ac pt tk et lm pE pA : Nat → Int} {B : Int} {S : (Nat → Int) → Prop} (I : Pin has V E H T oG oT w0 w1 w2 w3 lo hi st ep hl hh mv ac pt tk et lm pE pA B S) (h : Nat) (m : (Nat → Int)) (hS : S m) (hk : (m 0) = 5) (hg : pgiv st h) (hep : ep h + 1 = (m 3)) (hac : ac h = (m 4)) (hm0 : 0 ≤ (m 5)) (htk : tk h = 0) (hm : (m 5) = pt h) (hlm : lm h < 0) (hV : (m 3) = V) (hH : (h : Int) = H) (h3 : st h = 3) (het : et h = 0) : Q_p has V E H T oG oT w0 w1 w2 w3 lo hi st ep hl hh mv ac (pfu pt h (pt h + 1)) (pfu tk h 1) (pfu et h 1) lm pE pA (B + 2) S := by
  have i_p := Pin_p I
  clear I
  simp only [Q_p, pokM, pown, prcv, pgiv, ppge, pfu] at *
  grind
set_option maxHeartbeats 400000 in
theorem pt_tookend_q {has : Prop} {V E H T oG oT w0 w1 w2 w3 lo hi : Int} {st ep hl hh mv ac pt tk et lm pE pA : Nat → Int} {B : Int} {S : (Nat → Int) → Prop} (I : Pin has V E H T oG oT w0 w1 w2 w3 lo hi st ep hl hh mv ac pt tk et lm pE pA B S) (h : Nat) (m : (Nat → Int)) (hS : S m) (hk : (m 0) = 5) (hg : pgiv st h) (hep : ep h + 1 = (m 3)) (hac : ac h = (m 4)) (hm0 : 0 ≤ (m 5)) (htk : tk h = 0) (hm : (m 5) = pt h) (hlm : lm h < 0) (hV : (m 3) = V) (hH : (h : Int) = H) (h3 : st h = 3) (het : et h = 0) : Q_q has V E H T oG oT w0 w1 w2 w3 lo hi st ep hl hh mv ac (pfu pt h (pt h + 1)) (pfu tk h 1) (pfu et h 1) lm pE pA (B + 2) S := by
  have i_q := Pin_q I
  clear I
  simp only [Q_q, pokM, pown, prcv, pgiv, ppge, pfu] at *
  grind
set_option maxHeartbeats 400000 in
theorem pt_tookend_q2 {has : Prop} {V E H T oG oT w0 w1 w2 w3 lo hi : Int} {st ep hl hh mv ac pt tk et lm pE pA : Nat → Int} {B : Int} {S : (Nat → Int) → Prop} (I : Pin has V E H T oG oT w0 w1 w2 w3 lo hi st ep hl hh mv ac pt tk et lm pE pA B S) (h : Nat) (m : (Nat → Int)) (hS : S m) (hk : (m 0) = 5) (hg : pgiv st h) (hep : ep h + 1 = (m 3)) (hac : ac h = (m 4)) (hm0 : 0 ≤ (m 5)) (htk : tk h = 0) (hm : (m 5) = pt h) (hlm : lm h < 0) (hV : (m 3) = V) (hH : (h : Int) = H) (h3 : st h = 3) (het : et h = 0) : Q_q2 has V E H T oG oT w0 w1 w2 w3 lo hi st ep hl hh mv ac (pfu pt h (pt h + 1)) (pfu tk h 1) (pfu et h 1) lm pE pA (B + 2) S := by
  have i_q2 := Pin_q2 I
  clear I
  simp only [Q_q2, pokM, pown, prcv, pgiv, ppge, pfu] at *
  grind
set_option maxHeartbeats 400000 in
theorem pt_tookend_q3 {has : Prop} {V E H T oG oT w0 w1 w2 w3 lo hi : Int} {st ep hl hh mv ac pt tk et lm pE pA : Nat → Int} {B : Int} {S : (Nat → Int) → Prop} (I : Pin has V E H T oG oT w0 w1 w2 w3 lo hi st ep hl hh mv ac pt tk et lm pE pA B S) (h : Nat) (m : (Nat → Int)) (hS : S m) (hk : (m 0) = 5) (hg : pgiv st h) (hep : ep h + 1 = (m 3)) (hac : ac h = (m 4)) (hm0 : 0 ≤ (m 5)) (htk : tk h = 0) (hm : (m 5) = pt h) (hlm : lm h < 0) (hV : (m 3) = V) (hH : (h : Int) = H) (h3 : st h = 3) (het : et h = 0) : Q_q3 has V E H T oG oT w0 w1 w2 w3 lo hi st ep hl hh mv ac (pfu pt h (pt h + 1)) (pfu tk h 1) (pfu et h 1) lm pE pA (B + 2) S := by
  have i_q3 := Pin_q3 I
  clear I
  simp only [Q_q3, pokM, pown, prcv, pgiv, ppge, pfu] at *
  grind
set_option maxHeartbeats 400000 in
theorem pt_tookend_w {has : Prop} {V E H T oG oT w0 w1 w2 w3 lo hi : Int} {st ep hl hh mv ac pt tk et lm pE pA : Nat → Int} {B : Int} {S : (Nat → Int) → Prop} (I : Pin has V E H T oG oT w0 w1 w2 w3 lo hi st ep hl hh mv ac pt tk et lm pE pA B S) (h : Nat) (m : (Nat → Int)) (hS : S m) (hk : (m 0) = 5) (hg : pgiv st h) (hep : ep h + 1 = (m 3)) (hac : ac h = (m 4)) (hm0 : 0 ≤ (m 5)) (htk : tk h = 0) (hm : (m 5) = pt h) (hlm : lm h < 0) (hV : (m 3) = V) (hH : (h : Int) = H) (h3 : st h = 3) (het : et h = 0) : Q_w has V E H T oG oT w0 w1 w2 w3 lo hi st ep hl hh mv ac (pfu pt h (pt h + 1)) (pfu tk h 1) (pfu et h 1) lm pE pA (B + 2) S := by
  have i_w := Pin_w I
  clear I
  simp only [Q_w, pokM, pown, prcv, pgiv, ppge, pfu] at *
  grind
theorem pt_tookend {has : Prop} {V E H T oG oT w0 w1 w2 w3 lo hi : Int} {st ep hl hh mv ac pt tk et lm pE pA : Nat → Int} {B : Int} {S : (Nat → Int) → Prop} (I : Pin has V E H T oG oT w0 w1 w2 w3 lo hi st ep hl hh mv ac pt tk et lm pE pA B S) (h : Nat) (m : (Nat → Int)) (hS : S m) (hk : (m 0) = 5) (hg : pgiv st h) (hep : ep h + 1 = (m 3)) (hac : ac h = (m 4)) (hm0 : 0 ≤ (m 5)) (htk : tk h = 0) (hm : (m 5) = pt h) (hlm : lm h < 0) : Pin has V E H T oG oT w0 w1 w2 w3 lo hi st ep hl hh mv ac (pfu pt h (pt h + 1)) (pfu tk h 1) (pfu et h 1) lm pE pA (B + 2) S := by
  have hV := pt_tookend_hV_d I h m hS hk hg hep hac hm0 htk hm hlm 
  have hH := pt_tookend_hH_d I h m hS hk hg hep hac hm0 htk hm hlm hV
  have h3 := pt_tookend_h3_d I h m hS hk hg hep hac hm0 htk hm hlm hV hH
  have het := pt_tookend_het_d I h m hS hk hg hep hac hm0 htk hm hlm hV hH h3
  exact ⟨pt_tookend_v0 I h m hS hk hg hep hac hm0 htk hm hlm hV hH h3 het, pt_tookend_a I h m hS hk hg hep hac hm0 htk hm hlm hV hH h3 het, pt_tookend_b I h m hS hk hg hep hac hm0 htk hm hlm hV hH h3 het, pt_tookend_c I h m hS hk hg hep hac hm0 htk hm hlm hV hH h3 het, pt_tookend_d I h m hS hk hg hep hac hm0 htk hm hlm hV hH h3 het, pt_tookend_e I h m hS hk hg hep hac hm0 htk hm hlm hV hH h3 het, pt_tookend_f I h m hS hk hg hep hac hm0 htk hm hlm hV hH h3 het, pt_tookend_f2 I h m hS hk hg hep hac hm0 htk hm hlm hV hH h3 het, pt_tookend_f3 I h m hS hk hg hep hac hm0 htk hm hlm hV hH h3 het, pt_tookend_g I h m hS hk hg hep hac hm0 htk hm hlm hV hH h3 het, pt_tookend_g0 I h m hS hk hg hep hac hm0 htk hm hlm hV hH h3 het, pt_tookend_g1 I h m hS hk hg hep hac hm0 htk hm hlm hV hH h3 het, pt_tookend_g2 I h m hS hk hg hep hac hm0 htk hm hlm hV hH h3 het, pt_tookend_h7 I h m hS hk hg hep hac hm0 htk hm hlm hV hH h3 het, pt_tookend_h9 I h m hS hk hg hep hac hm0 htk hm hlm hV hH h3 het, pt_tookend_h10 I h m hS hk hg hep hac hm0 htk hm hlm hV hH h3 het, pt_tookend_h11 I h m hS hk hg hep hac hm0 htk hm hlm hV hH h3 het, pt_tookend_h12 I h m hS hk hg hep hac hm0 htk hm hlm hV hH h3 het, pt_tookend_k1 I h m hS hk hg hep hac hm0 htk hm hlm hV hH h3 het, pt_tookend_k2 I h m hS hk hg hep hac hm0 htk hm hlm hV hH h3 het, pt_tookend_k8 I h m hS hk hg hep hac hm0 htk hm hlm hV hH h3 het, pt_tookend_l4 I h m hS hk hg hep hac hm0 htk hm hlm hV hH h3 het, pt_tookend_l5 I h m hS hk hg hep hac hm0 htk hm hlm hV hH h3 het, pt_tookend_l3 I h m hS hk hg hep hac hm0 htk hm hlm hV hH h3 het, pt_tookend_m1 I h m hS hk hg hep hac hm0 htk hm hlm hV hH h3 het, pt_tookend_m2 I h m hS hk hg hep hac hm0 htk hm hlm hV hH h3 het, pt_tookend_m3 I h m hS hk hg hep hac hm0 htk hm hlm hV hH h3 het, pt_tookend_n0 I h m hS hk hg hep hac hm0 htk hm hlm hV hH h3 het, pt_tookend_n1 I h m hS hk hg hep hac hm0 htk hm hlm hV hH h3 het, pt_tookend_n2 I h m hS hk hg hep hac hm0 htk hm hlm hV hH h3 het, pt_tookend_n3 I h m hS hk hg hep hac hm0 htk hm hlm hV hH h3 het, pt_tookend_n4 I h m hS hk hg hep hac hm0 htk hm hlm hV hH h3 het, pt_tookend_n5 I h m hS hk hg hep hac hm0 htk hm hlm hV hH h3 het, pt_tookend_n6 I h m hS hk hg hep hac hm0 htk hm hlm hV hH h3 het, pt_tookend_n7 I h m hS hk hg hep hac hm0 htk hm hlm hV hH h3 het, pt_tookend_o I h m hS hk hg hep hac hm0 htk hm hlm hV hH h3 het, pt_tookend_p I h m hS hk hg hep hac hm0 htk hm hlm hV hH h3 het, pt_tookend_q I h m hS hk hg hep hac hm0 htk hm hlm hV hH h3 het, pt_tookend_q2 I h m hS hk hg hep hac hm0 htk hm hlm hV hH h3 het, pt_tookend_q3 I h m hS hk hg hep hac hm0 htk hm hlm hV hH h3 het, pt_tookend_w I h m hS hk hg hep hac hm0 htk hm hlm hV hH h3 het⟩
set_option maxHeartbeats 400000 in
theorem pt_tookno_hV_d {has : Prop} {V E H T oG oT w0 w1 w2 w3 lo hi : Int} {st ep hl hh mv ac pt tk et lm pE pA : Nat → Int} {B : Int} {S : (Nat → Int) → Prop} (I : Pin has V E H T oG oT w0 w1 w2 w3 lo hi st ep hl hh mv ac pt tk et lm pE pA B S) (h : Nat) (m : (Nat → Int)) (hS : S m) (hk : (m 0) = 5) (hg : pgiv st h) (hep : ep h + 1 = (m 3)) (hac : ac h = (m 4)) (hm0 : (m 5) < 0) (het : et h = 0)  : (m 3) = V := by
  have i_e := Pin_e I
  clear I
  try simp only [Q_e, pown, prcv, pgiv, ppge, pfu] at *
  grind
set_option maxHeartbeats 400000 in
theorem pt_tookno_hH_d {has : Prop} {V E H T oG oT w0 w1 w2 w3 lo hi : Int} {st ep hl hh mv ac pt tk et lm pE pA : Nat → Int} {B : Int} {S : (Nat → Int) → Prop} (I : Pin has V E H T oG oT w0 w1 w2 w3 lo hi st ep hl hh mv ac pt tk et lm pE pA B S) (h : Nat) (m : (Nat → Int)) (hS : S m) (hk : (m 0) = 5) (hg : pgiv st h) (hep : ep h + 1 = (m 3)) (hac : ac h = (m 4)) (hm0 : (m 5) < 0) (het : et h = 0) (hV : (m 3) = V) : (h : Int) = H := by
  have i_b := Pin_b I
  clear I
  try simp only [Q_b, pown, prcv, pgiv, ppge, pfu] at *
  grind
set_option maxHeartbeats 400000 in
theorem pt_tookno_v0 {has : Prop} {V E H T oG oT w0 w1 w2 w3 lo hi : Int} {st ep hl hh mv ac pt tk et lm pE pA : Nat → Int} {B : Int} {S : (Nat → Int) → Prop} (I : Pin has V E H T oG oT w0 w1 w2 w3 lo hi st ep hl hh mv ac pt tk et lm pE pA B S) (h : Nat) (m : (Nat → Int)) (hS : S m) (hk : (m 0) = 5) (hg : pgiv st h) (hep : ep h + 1 = (m 3)) (hac : ac h = (m 4)) (hm0 : (m 5) < 0) (het : et h = 0) (hV : (m 3) = V) (hH : (h : Int) = H) : Q_v0 has V E H T oG oT w0 w1 w2 w3 lo hi (pfu st h 2) ep hl hh mv (pfu ac h (ac h + 1)) (pfu pt h 0) (pfu tk h 1) et lm pE pA (B + 2) S := by
  have i_v0 := Pin_v0 I
  clear I
  simp only [Q_v0, pokM, pown, prcv, pgiv, ppge, pfu] at *
  grind
set_option maxHeartbeats 400000 in
theorem pt_tookno_a {has : Prop} {V E H T oG oT w0 w1 w2 w3 lo hi : Int} {st ep hl hh mv ac pt tk et lm pE pA : Nat → Int} {B : Int} {S : (Nat → Int) → Prop} (I : Pin has V E H T oG oT w0 w1 w2 w3 lo hi st ep hl hh mv ac pt tk et lm pE pA B S) (h : Nat) (m : (Nat → Int)) (hS : S m) (hk : (m 0) = 5) (hg : pgiv st h) (hep : ep h + 1 = (m 3)) (hac : ac h = (m 4)) (hm0 : (m 5) < 0) (het : et h = 0) (hV : (m 3) = V) (hH : (h : Int) = H) : Q_a has V E H T oG oT w0 w1 w2 w3 lo hi (pfu st h 2) ep hl hh mv (pfu ac h (ac h + 1)) (pfu pt h 0) (pfu tk h 1) et lm pE pA (B + 2) S := by
  have i_a := Pin_a I
  clear I
  simp only [Q_a, pokM, pown, prcv, pgiv, ppge, pfu] at *
  grind
set_option maxHeartbeats 400000 in
theorem pt_tookno_b {has : Prop} {V E H T oG oT w0 w1 w2 w3 lo hi : Int} {st ep hl hh mv ac pt tk et lm pE pA : Nat → Int} {B : Int} {S : (Nat → Int) → Prop} (I : Pin has V E H T oG oT w0 w1 w2 w3 lo hi st ep hl hh mv ac pt tk et lm pE pA B S) (h : Nat) (m : (Nat → Int)) (hS : S m) (hk : (m 0) = 5) (hg : pgiv st h) (hep : ep h + 1 = (m 3)) (hac : ac h = (m 4)) (hm0 : (m 5) < 0) (het : et h = 0) (hV : (m 3) = V) (hH : (h : Int) = H) : Q_b has V E H T oG oT w0 w1 w2 w3 lo hi (pfu st h 2) ep hl hh mv (pfu ac h (ac h + 1)) (pfu pt h 0) (pfu tk h 1) et lm pE pA (B + 2) S := by
  have i_b := Pin_b I
  clear I
  simp only [Q_b, pokM, pown, prcv, pgiv, ppge, pfu] at *
  grind
set_option maxHeartbeats 400000 in
theorem pt_tookno_c {has : Prop} {V E H T oG oT w0 w1 w2 w3 lo hi : Int} {st ep hl hh mv ac pt tk et lm pE pA : Nat → Int} {B : Int} {S : (Nat → Int) → Prop} (I : Pin has V E H T oG oT w0 w1 w2 w3 lo hi st ep hl hh mv ac pt tk et lm pE pA B S) (h : Nat) (m : (Nat → Int)) (hS : S m) (hk : (m 0) = 5) (hg : pgiv st h) (hep : ep h + 1 = (m 3)) (hac : ac h = (m 4)) (hm0 : (m 5) < 0) (het : et h = 0) (hV : (m 3) = V) (hH : (h : Int) = H) : Q_c has V E H T oG oT w0 w1 w2 w3 lo hi (pfu st h 2) ep hl hh mv (pfu ac h (ac h + 1)) (pfu pt h 0) (pfu tk h 1) et lm pE pA (B + 2) S := by
  have i_c := Pin_c I
  clear I
  simp only [Q_c, pokM, pown, prcv, pgiv, ppge, pfu] at *
  grind
set_option maxHeartbeats 400000 in
theorem pt_tookno_d {has : Prop} {V E H T oG oT w0 w1 w2 w3 lo hi : Int} {st ep hl hh mv ac pt tk et lm pE pA : Nat → Int} {B : Int} {S : (Nat → Int) → Prop} (I : Pin has V E H T oG oT w0 w1 w2 w3 lo hi st ep hl hh mv ac pt tk et lm pE pA B S) (h : Nat) (m : (Nat → Int)) (hS : S m) (hk : (m 0) = 5) (hg : pgiv st h) (hep : ep h + 1 = (m 3)) (hac : ac h = (m 4)) (hm0 : (m 5) < 0) (het : et h = 0) (hV : (m 3) = V) (hH : (h : Int) = H) : Q_d has V E H T oG oT w0 w1 w2 w3 lo hi (pfu st h 2) ep hl hh mv (pfu ac h (ac h + 1)) (pfu pt h 0) (pfu tk h 1) et lm pE pA (B + 2) S := by
  have i_d := Pin_d I
  clear I
  simp only [Q_d, pokM, pown, prcv, pgiv, ppge, pfu] at *
  grind
set_option maxHeartbeats 400000 in
theorem pt_tookno_e {has : Prop} {V E H T oG oT w0 w1 w2 w3 lo hi : Int} {st ep hl hh mv ac pt tk et lm pE pA : Nat → Int} {B : Int} {S : (Nat → Int) → Prop} (I : Pin has V E H T oG oT w0 w1 w2 w3 lo hi st ep hl hh mv ac pt tk et lm pE pA B S) (h : Nat) (m : (Nat → Int)) (hS : S m) (hk : (m 0) = 5) (hg : pgiv st h) (hep : ep h + 1 = (m 3)) (hac : ac h = (m 4)) (hm0 : (m 5) < 0) (het : et h = 0) (hV : (m 3) = V) (hH : (h : Int) = H) : Q_e has V E H T oG oT w0 w1 w2 w3 lo hi (pfu st h 2) ep hl hh mv (pfu ac h (ac h + 1)) (pfu pt h 0) (pfu tk h 1) et lm pE pA (B + 2) S := by
  have i_e := Pin_e I
  clear I
  simp only [Q_e, pokM, pown, prcv, pgiv, ppge, pfu] at *
  grind
set_option maxHeartbeats 400000 in
theorem pt_tookno_f {has : Prop} {V E H T oG oT w0 w1 w2 w3 lo hi : Int} {st ep hl hh mv ac pt tk et lm pE pA : Nat → Int} {B : Int} {S : (Nat → Int) → Prop} (I : Pin has V E H T oG oT w0 w1 w2 w3 lo hi st ep hl hh mv ac pt tk et lm pE pA B S) (h : Nat) (m : (Nat → Int)) (hS : S m) (hk : (m 0) = 5) (hg : pgiv st h) (hep : ep h + 1 = (m 3)) (hac : ac h = (m 4)) (hm0 : (m 5) < 0) (het : et h = 0) (hV : (m 3) = V) (hH : (h : Int) = H) : Q_f has V E H T oG oT w0 w1 w2 w3 lo hi (pfu st h 2) ep hl hh mv (pfu ac h (ac h + 1)) (pfu pt h 0) (pfu tk h 1) et lm pE pA (B + 2) S := by
  have i_f := Pin_f I
  clear I
  simp only [Q_f, pokM, pown, prcv, pgiv, ppge, pfu] at *
  grind
set_option maxHeartbeats 400000 in
theorem pt_tookno_f2 {has : Prop} {V E H T oG oT w0 w1 w2 w3 lo hi : Int} {st ep hl hh mv ac pt tk et lm pE pA : Nat → Int} {B : Int} {S : (Nat → Int) → Prop} (I : Pin has V E H T oG oT w0 w1 w2 w3 lo hi st ep hl hh mv ac pt tk et lm pE pA B S) (h : Nat) (m : (Nat → Int)) (hS : S m) (hk : (m 0) = 5) (hg : pgiv st h) (hep : ep h + 1 = (m 3)) (hac : ac h = (m 4)) (hm0 : (m 5) < 0) (het : et h = 0) (hV : (m 3) = V) (hH : (h : Int) = H) : Q_f2 has V E H T oG oT w0 w1 w2 w3 lo hi (pfu st h 2) ep hl hh mv (pfu ac h (ac h + 1)) (pfu pt h 0) (pfu tk h 1) et lm pE pA (B + 2) S := by
  have i_f2 := Pin_f2 I
  clear I
  simp only [Q_f2, pokM, pown, prcv, pgiv, ppge, pfu] at *
  grind
set_option maxHeartbeats 400000 in
theorem pt_tookno_f3 {has : Prop} {V E H T oG oT w0 w1 w2 w3 lo hi : Int} {st ep hl hh mv ac pt tk et lm pE pA : Nat → Int} {B : Int} {S : (Nat → Int) → Prop} (I : Pin has V E H T oG oT w0 w1 w2 w3 lo hi st ep hl hh mv ac pt tk et lm pE pA B S) (h : Nat) (m : (Nat → Int)) (hS : S m) (hk : (m 0) = 5) (hg : pgiv st h) (hep : ep h + 1 = (m 3)) (hac : ac h = (m 4)) (hm0 : (m 5) < 0) (het : et h = 0) (hV : (m 3) = V) (hH : (h : Int) = H) : Q_f3 has V E H T oG oT w0 w1 w2 w3 lo hi (pfu st h 2) ep hl hh mv (pfu ac h (ac h + 1)) (pfu pt h 0) (pfu tk h 1) et lm pE pA (B + 2) S := by
  have i_f3 := Pin_f3 I
  clear I
  simp only [Q_f3, pokM, pown, prcv, pgiv, ppge, pfu] at *
  grind
set_option maxHeartbeats 400000 in
theorem pt_tookno_g {has : Prop} {V E H T oG oT w0 w1 w2 w3 lo hi : Int} {st ep hl hh mv ac pt tk et lm pE pA : Nat → Int} {B : Int} {S : (Nat → Int) → Prop} (I : Pin has V E H T oG oT w0 w1 w2 w3 lo hi st ep hl hh mv ac pt tk et lm pE pA B S) (h : Nat) (m : (Nat → Int)) (hS : S m) (hk : (m 0) = 5) (hg : pgiv st h) (hep : ep h + 1 = (m 3)) (hac : ac h = (m 4)) (hm0 : (m 5) < 0) (het : et h = 0) (hV : (m 3) = V) (hH : (h : Int) = H) : Q_g has V E H T oG oT w0 w1 w2 w3 lo hi (pfu st h 2) ep hl hh mv (pfu ac h (ac h + 1)) (pfu pt h 0) (pfu tk h 1) et lm pE pA (B + 2) S := by
  have i_g := Pin_g I
  clear I
  simp only [Q_g, pokM, pown, prcv, pgiv, ppge, pfu] at *
  grind
set_option maxHeartbeats 400000 in
theorem pt_tookno_g0 {has : Prop} {V E H T oG oT w0 w1 w2 w3 lo hi : Int} {st ep hl hh mv ac pt tk et lm pE pA : Nat → Int} {B : Int} {S : (Nat → Int) → Prop} (I : Pin has V E H T oG oT w0 w1 w2 w3 lo hi st ep hl hh mv ac pt tk et lm pE pA B S) (h : Nat) (m : (Nat → Int)) (hS : S m) (hk : (m 0) = 5) (hg : pgiv st h) (hep : ep h + 1 = (m 3)) (hac : ac h = (m 4)) (hm0 : (m 5) < 0) (het : et h = 0) (hV : (m 3) = V) (hH : (h : Int) = H) : Q_g0 has V E H T oG oT w0 w1 w2 w3 lo hi (pfu st h 2) ep hl hh mv (pfu ac h (ac h + 1)) (pfu pt h 0) (pfu tk h 1) et lm pE pA (B + 2) S := by
  have i_g0 := Pin_g0 I
  clear I
  simp only [Q_g0, pokM, pown, prcv, pgiv, ppge, pfu] at *
  grind
set_option maxHeartbeats 400000 in
theorem pt_tookno_g1 {has : Prop} {V E H T oG oT w0 w1 w2 w3 lo hi : Int} {st ep hl hh mv ac pt tk et lm pE pA : Nat → Int} {B : Int} {S : (Nat → Int) → Prop} (I : Pin has V E H T oG oT w0 w1 w2 w3 lo hi st ep hl hh mv ac pt tk et lm pE pA B S) (h : Nat) (m : (Nat → Int)) (hS : S m) (hk : (m 0) = 5) (hg : pgiv st h) (hep : ep h + 1 = (m 3)) (hac : ac h = (m 4)) (hm0 : (m 5) < 0) (het : et h = 0) (hV : (m 3) = V) (hH : (h : Int) = H) : Q_g1 has V E H T oG oT w0 w1 w2 w3 lo hi (pfu st h 2) ep hl hh mv (pfu ac h (ac h + 1)) (pfu pt h 0) (pfu tk h 1) et lm pE pA (B + 2) S := by
  have i_g1 := Pin_g1 I
  clear I
  simp only [Q_g1, pokM, pown, prcv, pgiv, ppge, pfu] at *
  grind
set_option maxHeartbeats 400000 in
theorem pt_tookno_g2 {has : Prop} {V E H T oG oT w0 w1 w2 w3 lo hi : Int} {st ep hl hh mv ac pt tk et lm pE pA : Nat → Int} {B : Int} {S : (Nat → Int) → Prop} (I : Pin has V E H T oG oT w0 w1 w2 w3 lo hi st ep hl hh mv ac pt tk et lm pE pA B S) (h : Nat) (m : (Nat → Int)) (hS : S m) (hk : (m 0) = 5) (hg : pgiv st h) (hep : ep h + 1 = (m 3)) (hac : ac h = (m 4)) (hm0 : (m 5) < 0) (het : et h = 0) (hV : (m 3) = V) (hH : (h : Int) = H) : Q_g2 has V E H T oG oT w0 w1 w2 w3 lo hi (pfu st h 2) ep hl hh mv (pfu ac h (ac h + 1)) (pfu pt h 0) (pfu tk h 1) et lm pE pA (B + 2) S := by
  have i_g2 := Pin_g2 I
  clear I
  simp only [Q_g2, pokM, pown, prcv, pgiv, ppge, pfu] at *
  grind
set_option maxHeartbeats 400000 in
theorem pt_tookno_h7 {has : Prop} {V E H T oG oT w0 w1 w2 w3 lo hi : Int} {st ep hl hh mv ac pt tk et lm pE pA : Nat → Int} {B : Int} {S : (Nat → Int) → Prop} (I : Pin has V E H T oG oT w0 w1 w2 w3 lo hi st ep hl hh mv ac pt tk et lm pE pA B S) (h : Nat) (m : (Nat → Int)) (hS : S m) (hk : (m 0) = 5) (hg : pgiv st h) (hep : ep h + 1 = (m 3)) (hac : ac h = (m 4)) (hm0 : (m 5) < 0) (het : et h = 0) (hV : (m 3) = V) (hH : (h : Int) = H) : Q_h7 has V E H T oG oT w0 w1 w2 w3 lo hi (pfu st h 2) ep hl hh mv (pfu ac h (ac h + 1)) (pfu pt h 0) (pfu tk h 1) et lm pE pA (B + 2) S := by
  have i_h7 := Pin_h7 I
  clear I
  simp only [Q_h7, pokM, pown, prcv, pgiv, ppge, pfu] at *
  grind
set_option maxHeartbeats 400000 in
theorem pt_tookno_h9 {has : Prop} {V E H T oG oT w0 w1 w2 w3 lo hi : Int} {st ep hl hh mv ac pt tk et lm pE pA : Nat → Int} {B : Int} {S : (Nat → Int) → Prop} (I : Pin has V E H T oG oT w0 w1 w2 w3 lo hi st ep hl hh mv ac pt tk et lm pE pA B S) (h : Nat) (m : (Nat → Int)) (hS : S m) (hk : (m 0) = 5) (hg : pgiv st h) (hep : ep h + 1 = (m 3)) (hac : ac h = (m 4)) (hm0 : (m 5) < 0) (het : et h = 0) (hV : (m 3) = V) (hH : (h : Int) = H) : Q_h9 has V E H T oG oT w0 w1 w2 w3 lo hi (pfu st h 2) ep hl hh mv (pfu ac h (ac h + 1)) (pfu pt h 0) (pfu tk h 1) et lm pE pA (B + 2) S := by
  have i_h9 := Pin_h9 I
  clear I
  simp only [Q_h9, pokM, pown, prcv, pgiv, ppge, pfu] at *
  grind
set_option maxHeartbeats 400000 in
theorem pt_tookno_h10 {has : Prop} {V E H T oG oT w0 w1 w2 w3 lo hi : Int} {st ep hl hh mv ac pt tk et lm pE pA : Nat → Int} {B : Int} {S : (Nat → Int) → Prop} (I : Pin has V E H T oG oT w0 w1 w2 w3 lo hi st ep hl hh mv ac pt tk et lm pE pA B S) (h : Nat) (m : (Nat → Int)) (hS : S m) (hk : (m 0) = 5) (hg : pgiv st h) (hep : ep h + 1 = (m 3)) (hac : ac h = (m 4)) (hm0 : (m 5) < 0) (het : et h = 0) (hV : (m 3) = V) (hH : (h : Int) = H) : Q_h10 has V E H T oG oT w0 w1 w2 w3 lo hi (pfu st h 2) ep hl hh mv (pfu ac h (ac h + 1)) (pfu pt h 0) (pfu tk h 1) et lm pE pA (B + 2) S := by
  have i_h10 := Pin_h10 I
  clear I
  simp only [Q_h10, pokM, pown, prcv, pgiv, ppge, pfu] at *
  grind
set_option maxHeartbeats 400000 in
theorem pt_tookno_h11 {has : Prop} {V E H T oG oT w0 w1 w2 w3 lo hi : Int} {st ep hl hh mv ac pt tk et lm pE pA : Nat → Int} {B : Int} {S : (Nat → Int) → Prop} (I : Pin has V E H T oG oT w0 w1 w2 w3 lo hi st ep hl hh mv ac pt tk et lm pE pA B S) (h : Nat) (m : (Nat → Int)) (hS : S m) (hk : (m 0) = 5) (hg : pgiv st h) (hep : ep h + 1 = (m 3)) (hac : ac h = (m 4)) (hm0 : (m 5) < 0) (het : et h = 0) (hV : (m 3) = V) (hH : (h : Int) = H) : Q_h11 has V E H T oG oT w0 w1 w2 w3 lo hi (pfu st h 2) ep hl hh mv (pfu ac h (ac h + 1)) (pfu pt h 0) (pfu tk h 1) et lm pE pA (B + 2) S := by
  have i_h11 := Pin_h11 I
  clear I
  simp only [Q_h11, pokM, pown, prcv, pgiv, ppge, pfu] at *
  grind
set_option maxHeartbeats 400000 in
theorem pt_tookno_h12 {has : Prop} {V E H T oG oT w0 w1 w2 w3 lo hi : Int} {st ep hl hh mv ac pt tk et lm pE pA : Nat → Int} {B : Int} {S : (Nat → Int) → Prop} (I : Pin has V E H T oG oT w0 w1 w2 w3 lo hi st ep hl hh mv ac pt tk et lm pE pA B S) (h : Nat) (m : (Nat → Int)) (hS : S m) (hk : (m 0) = 5) (hg : pgiv st h) (hep : ep h + 1 = (m 3)) (hac : ac h = (m 4)) (hm0 : (m 5) < 0) (het : et h = 0) (hV : (m 3) = V) (hH : (h : Int) = H) : Q_h12 has V E H T oG oT w0 w1 w2 w3 lo hi (pfu st h 2) ep hl hh mv (pfu ac h (ac h + 1)) (pfu pt h 0) (pfu tk h 1) et lm pE pA (B + 2) S := by
  have i_h12 := Pin_h12 I
  clear I
  simp only [Q_h12, pokM, pown, prcv, pgiv, ppge, pfu] at *
  grind
set_option maxHeartbeats 400000 in
theorem pt_tookno_k1 {has : Prop} {V E H T oG oT w0 w1 w2 w3 lo hi : Int} {st ep hl hh mv ac pt tk et lm pE pA : Nat → Int} {B : Int} {S : (Nat → Int) → Prop} (I : Pin has V E H T oG oT w0 w1 w2 w3 lo hi st ep hl hh mv ac pt tk et lm pE pA B S) (h : Nat) (m : (Nat → Int)) (hS : S m) (hk : (m 0) = 5) (hg : pgiv st h) (hep : ep h + 1 = (m 3)) (hac : ac h = (m 4)) (hm0 : (m 5) < 0) (het : et h = 0) (hV : (m 3) = V) (hH : (h : Int) = H) : Q_k1 has V E H T oG oT w0 w1 w2 w3 lo hi (pfu st h 2) ep hl hh mv (pfu ac h (ac h + 1)) (pfu pt h 0) (pfu tk h 1) et lm pE pA (B + 2) S := by
  have i_k1 := Pin_k1 I
  clear I
  simp only [Q_k1, pokM, pown, prcv, pgiv, ppge, pfu] at *
  grind
set_option maxHeartbeats 400000 in
theorem pt_tookno_k2 {has : Prop} {V E H T oG oT w0 w1 w2 w3 lo hi : Int} {st ep hl hh mv ac pt tk et lm pE pA : Nat → Int} {B : Int} {S : (Nat → Int) → Prop} (I : Pin has V E H T oG oT w0 w1 w2 w3 lo hi st ep hl hh mv ac pt tk et lm pE pA B S) (h : Nat) (m : (Nat → Int)) (hS : S m) (hk : (m 0) = 5) (hg : pgiv st h) (hep : ep h + 1 = (m 3)) (hac : ac h = (m 4)) (hm0 : (m 5) < 0) (het : et h = 0) (hV : (m 3) = V) (hH : (h : Int) = H) : Q_k2 has V E H T oG oT w0 w1 w2 w3 lo hi (pfu st h 2) ep hl hh mv (pfu ac h (ac h + 1)) (pfu pt h 0) (pfu tk h 1) et lm pE pA (B + 2) S := by
  have i_k2 := Pin_k2 I
  clear I
  simp only [Q_k2, pokM, pown, prcv, pgiv, ppge, pfu] at *
  grind
set_option maxHeartbeats 400000 in
theorem pt_tookno_k8 {has : Prop} {V E H T oG oT w0 w1 w2 w3 lo hi : Int} {st ep hl hh mv ac pt tk et lm pE pA : Nat → Int} {B : Int} {S : (Nat → Int) → Prop} (I : Pin has V E H T oG oT w0 w1 w2 w3 lo hi st ep hl hh mv ac pt tk et lm pE pA B S) (h : Nat) (m : (Nat → Int)) (hS : S m) (hk : (m 0) = 5) (hg : pgiv st h) (hep : ep h + 1 = (m 3)) (hac : ac h = (m 4)) (hm0 : (m 5) < 0) (het : et h = 0) (hV : (m 3) = V) (hH : (h : Int) = H) : Q_k8 has V E H T oG oT w0 w1 w2 w3 lo hi (pfu st h 2) ep hl hh mv (pfu ac h (ac h + 1)) (pfu pt h 0) (pfu tk h 1) et lm pE pA (B + 2) S := by
  have i_k8 := Pin_k8 I
  clear I
  simp only [Q_k8, pokM, pown, prcv, pgiv, ppge, pfu] at *
  grind
set_option maxHeartbeats 400000 in
theorem pt_tookno_l4 {has : Prop} {V E H T oG oT w0 w1 w2 w3 lo hi : Int} {st ep hl hh mv ac pt tk et lm pE pA : Nat → Int} {B : Int} {S : (Nat → Int) → Prop} (I : Pin has V E H T oG oT w0 w1 w2 w3 lo hi st ep hl hh mv ac pt tk et lm pE pA B S) (h : Nat) (m : (Nat → Int)) (hS : S m) (hk : (m 0) = 5) (hg : pgiv st h) (hep : ep h + 1 = (m 3)) (hac : ac h = (m 4)) (hm0 : (m 5) < 0) (het : et h = 0) (hV : (m 3) = V) (hH : (h : Int) = H) : Q_l4 has V E H T oG oT w0 w1 w2 w3 lo hi (pfu st h 2) ep hl hh mv (pfu ac h (ac h + 1)) (pfu pt h 0) (pfu tk h 1) et lm pE pA (B + 2) S := by
  have i_l4 := Pin_l4 I
  clear I
  simp only [Q_l4, pokM, pown, prcv, pgiv, ppge, pfu] at *
  grind
set_option maxHeartbeats 400000 in
theorem pt_tookno_l5 {has : Prop} {V E H T oG oT w0 w1 w2 w3 lo hi : Int} {st ep hl hh mv ac pt tk et lm pE pA : Nat → Int} {B : Int} {S : (Nat → Int) → Prop} (I : Pin has V E H T oG oT w0 w1 w2 w3 lo hi st ep hl hh mv ac pt tk et lm pE pA B S) (h : Nat) (m : (Nat → Int)) (hS : S m) (hk : (m 0) = 5) (hg : pgiv st h) (hep : ep h + 1 = (m 3)) (hac : ac h = (m 4)) (hm0 : (m 5) < 0) (het : et h = 0) (hV : (m 3) = V) (hH : (h : Int) = H) : Q_l5 has V E H T oG oT w0 w1 w2 w3 lo hi (pfu st h 2) ep hl hh mv (pfu ac h (ac h + 1)) (pfu pt h 0) (pfu tk h 1) et lm pE pA (B + 2) S := by
  have i_l5 := Pin_l5 I
  clear I
  simp only [Q_l5, pokM, pown, prcv, pgiv, ppge, pfu] at *
  grind
set_option maxHeartbeats 400000 in
theorem pt_tookno_l3 {has : Prop} {V E H T oG oT w0 w1 w2 w3 lo hi : Int} {st ep hl hh mv ac pt tk et lm pE pA : Nat → Int} {B : Int} {S : (Nat → Int) → Prop} (I : Pin has V E H T oG oT w0 w1 w2 w3 lo hi st ep hl hh mv ac pt tk et lm pE pA B S) (h : Nat) (m : (Nat → Int)) (hS : S m) (hk : (m 0) = 5) (hg : pgiv st h) (hep : ep h + 1 = (m 3)) (hac : ac h = (m 4)) (hm0 : (m 5) < 0) (het : et h = 0) (hV : (m 3) = V) (hH : (h : Int) = H) : Q_l3 has V E H T oG oT w0 w1 w2 w3 lo hi (pfu st h 2) ep hl hh mv (pfu ac h (ac h + 1)) (pfu pt h 0) (pfu tk h 1) et lm pE pA (B + 2) S := by
  have i_l3 := Pin_l3 I
  clear I
  simp only [Q_l3, pokM, pown, prcv, pgiv, ppge, pfu] at *
  grind
set_option maxHeartbeats 400000 in
theorem pt_tookno_m1 {has : Prop} {V E H T oG oT w0 w1 w2 w3 lo hi : Int} {st ep hl hh mv ac pt tk et lm pE pA : Nat → Int} {B : Int} {S : (Nat → Int) → Prop} (I : Pin has V E H T oG oT w0 w1 w2 w3 lo hi st ep hl hh mv ac pt tk et lm pE pA B S) (h : Nat) (m : (Nat → Int)) (hS : S m) (hk : (m 0) = 5) (hg : pgiv st h) (hep : ep h + 1 = (m 3)) (hac : ac h = (m 4)) (hm0 : (m 5) < 0) (het : et h = 0) (hV : (m 3) = V) (hH : (h : Int) = H) : Q_m1 has V E H T oG oT w0 w1 w2 w3 lo hi (pfu st h 2) ep hl hh mv (pfu ac h (ac h + 1)) (pfu pt h 0) (pfu tk h 1) et lm pE pA (B + 2) S := by
  have i_m1 := Pin_m1 I
  clear I
  simp only [Q_m1, pokM, pown, prcv, pgiv, ppge, pfu] at *
  grind
set_option maxHeartbeats 400000 in
theorem pt_tookno_m2 {has : Prop} {V E H T oG oT w0 w1 w2 w3 lo hi : Int} {st ep hl hh mv ac pt tk et lm pE pA : Nat → Int} {B : Int} {S : (Nat → Int) → Prop} (I : Pin has V E H T oG oT w0 w1 w2 w3 lo hi st ep hl hh mv ac pt tk et lm pE pA B S) (h : Nat) (m : (Nat → Int)) (hS : S m) (hk : (m 0) = 5) (hg : pgiv st h) (hep : ep h + 1 = (m 3)) (hac : ac h = (m 4)) (hm0 : (m 5) < 0) (het : et h = 0) (hV : (m 3) = V) (hH : (h : Int) = H) : Q_m2 has V E H T oG oT w0 w1 w2 w3 lo hi (pfu st h 2) ep hl hh mv (pfu ac h (ac h + 1)) (pfu pt h 0) (pfu tk h 1) et lm pE pA (B + 2) S := by
  have i_m2 := Pin_m2 I
  clear I
  simp only [Q_m2, pokM, pown, prcv, pgiv, ppge, pfu] at *
  grind
set_option maxHeartbeats 400000 in
theorem pt_tookno_m3 {has : Prop} {V E H T oG oT w0 w1 w2 w3 lo hi : Int} {st ep hl hh mv ac pt tk et lm pE pA : Nat → Int} {B : Int} {S : (Nat → Int) → Prop} (I : Pin has V E H T oG oT w0 w1 w2 w3 lo hi st ep hl hh mv ac pt tk et lm pE pA B S) (h : Nat) (m : (Nat → Int)) (hS : S m) (hk : (m 0) = 5) (hg : pgiv st h) (hep : ep h + 1 = (m 3)) (hac : ac h = (m 4)) (hm0 : (m 5) < 0) (het : et h = 0) (hV : (m 3) = V) (hH : (h : Int) = H) : Q_m3 has V E H T oG oT w0 w1 w2 w3 lo hi (pfu st h 2) ep hl hh mv (pfu ac h (ac h + 1)) (pfu pt h 0) (pfu tk h 1) et lm pE pA (B + 2) S := by
  have i_m3 := Pin_m3 I
  clear I
  simp only [Q_m3, pokM, pown, prcv, pgiv, ppge, pfu] at *
  grind
set_option maxHeartbeats 400000 in
theorem pt_tookno_n0 {has : Prop} {V E H T oG oT w0 w1 w2 w3 lo hi : Int} {st ep hl hh mv ac pt tk et lm pE pA : Nat → Int} {B : Int} {S : (Nat → Int) → Prop} (I : Pin has V E H T oG oT w0 w1 w2 w3 lo hi st ep hl hh mv ac pt tk et lm pE pA B S) (h : Nat) (m : (Nat → Int)) (hS : S m) (hk : (m 0) = 5) (hg : pgiv st h) (hep : ep h + 1 = (m 3)) (hac : ac h = (m 4)) (hm0 : (m 5) < 0) (het : et h = 0) (hV : (m 3) = V) (hH : (h : Int) = H) : Q_n0 has V E H T oG oT w0 w1 w2 w3 lo hi (pfu st h 2) ep hl hh mv (pfu ac h (ac h + 1)) (pfu pt h 0) (pfu tk h 1) et lm pE pA (B + 2) S := by
  have i_n0 := Pin_n0 I
  clear I
  simp only [Q_n0, pokM, pown, prcv, pgiv, ppge, pfu] at *
  grind
set_option maxHeartbeats 400000 in
theorem pt_tookno_n1 {has : Prop} {V E H T oG oT w0 w1 w2 w3 lo hi : Int} {st ep hl hh mv ac pt tk et lm pE pA : Nat → Int} {B : Int} {S : (Nat → Int) → Prop} (I : Pin has V E H T oG oT w0 w1 w2 w3 lo hi st ep hl hh mv ac pt tk et lm pE pA B S) (h : Nat) (m : (Nat → Int)) (hS : S m) (hk : (m 0) = 5) (hg : pgiv st h) (hep : ep h + 1 = (m 3)) (hac : ac h = (m 4)) (hm0 : (m 5) < 0) (het : et h = 0) (hV : (m 3) = V) (hH : (h : Int) = H) : Q_n1 has V E H T oG oT w0 w1 w2 w3 lo hi (pfu st h 2) ep hl hh mv (pfu ac h (ac h + 1)) (pfu pt h 0) (pfu tk h 1) et lm pE pA (B + 2) S := by
  have i_n1 := Pin_n1 I
  clear I
  simp only [Q_n1, pokM, pown, prcv, pgiv, ppge, pfu] at *
  grind
set_option maxHeartbeats 400000 in
theorem pt_tookno_n2 {has : Prop} {V E H T oG oT w0 w1 w2 w3 lo hi : Int} {st ep hl hh mv ac pt tk et lm pE pA : Nat → Int} {B : Int} {S : (Nat → Int) → Prop} (I : Pin has V E H T oG oT w0 w1 w2 w3 lo hi st ep hl hh mv ac pt tk et lm pE pA B S) (h : Nat) (m : (Nat → Int)) (hS : S m) (hk : (m 0) = 5) (hg : pgiv st h) (hep : ep h + 1 = (m 3)) (hac : ac h = (m 4)) (hm0 : (m 5) < 0) (het : et h = 0) (hV : (m 3) = V) (hH : (h : Int) = H) : Q_n2 has V E H T oG oT w0 w1 w2 w3 lo hi (pfu st h 2) ep hl hh mv (pfu ac h (ac h + 1)) (pfu pt h 0) (pfu tk h 1) et lm pE pA (B + 2) S := by
  have i_n2 := Pin_n2 I
  clear I
  simp only [Q_n2, pokM, pown, prcv, pgiv, ppge, pfu] at *
  grind
set_option maxHeartbeats 400000 in
theorem pt_tookno_n3 {has : Prop} {V E H T oG oT w0 w1 w2 w3 lo hi : Int} {st ep hl hh mv ac pt tk et lm pE pA : Nat → Int} {B : Int} {S : (Nat → Int) → Prop} (I : Pin has V E H T oG oT w0 w1 w2 w3 lo hi st ep hl hh mv ac pt tk et lm pE pA B S) (h : Nat) (m : (Nat → Int)) (hS : S m) (hk : (m 0) = 5) (hg : pgiv st h) (hep : ep h + 1 = (m 3)) (hac : ac h = (m 4)) (hm0 : (m 5) < 0) (het : et h = 0) (hV : (m 3) = V) (hH : (h : Int) = H) : Q_n3 has V E H T oG oT w0 w1 w2 w3 lo hi (pfu st h 2) ep hl hh mv (pfu ac h (ac h + 1)) (pfu pt h 0) (pfu tk h 1) et lm pE pA (B + 2) S := by
  have i_n3 := Pin_n3 I
  clear I
  simp only [Q_n3, pokM, pown, prcv, pgiv, ppge, pfu] at *
  grind
set_option maxHeartbeats 400000 in
theorem pt_tookno_n4 {has : Prop} {V E H T oG oT w0 w1 w2 w3 lo hi : Int} {st ep hl hh mv ac pt tk et lm pE pA : Nat → Int} {B : Int} {S : (Nat → Int) → Prop} (I : Pin has V E H T oG oT w0 w1 w2 w3 lo hi st ep hl hh mv ac pt tk et lm pE pA B S) (h : Nat) (m : (Nat → Int)) (hS : S m) (hk : (m 0) = 5) (hg : pgiv st h) (hep : ep h + 1 = (m 3)) (hac : ac h = (m 4)) (hm0 : (m 5) < 0) (het : et h = 0) (hV : (m 3) = V) (hH : (h : Int) = H) : Q_n4 has V E H T oG oT w0 w1 w2 w3 lo hi (pfu st h 2) ep hl hh mv (pfu ac h (ac h + 1)) (pfu pt h 0) (pfu tk h 1) et lm pE pA (B + 2) S := by
  have i_v0 := Pin_v0 I
  have i_a := Pin_a I
  have i_b := Pin_b I
  have i_c := Pin_c I
  have i_d := Pin_d I
  have i_e := Pin_e I
  have i_f := Pin_f I
  have i_f2 := Pin_f2 I
  have i_f3 := Pin_f3 I
  have i_g := Pin_g I
  have i_l4 := Pin_l4 I
  have i_l5 := Pin_l5 I
  have i_l3 := Pin_l3 I
  have i_m1 := Pin_m1 I
  have i_m2 := Pin_m2 I
  have i_m3 := Pin_m3 I
  have i_n0 := Pin_n0 I
  have i_n1 := Pin_n1 I
  have i_n2 := Pin_n2 I
  have i_n3 := Pin_n3 I
  have i_n4 := Pin_n4 I
  have i_n5 := Pin_n5 I
  have i_n6 := Pin_n6 I
  have i_n7 := Pin_n7 I
  have i_o := Pin_o I
  have i_q := Pin_q I
  clear I
  simp only [Q_a, Q_b, Q_c, Q_d, Q_e, Q_f, Q_f2, Q_f3, Q_g, Q_l3, Q_l4, Q_l5, Q_m1, Q_m2, Q_m3, Q_n0, Q_n1, Q_n2, Q_n3, Q_n4, Q_n5, Q_n6, Q_n7, Q_o, Q_q, Q_v0, pokM, pown, prcv, pgiv, ppge, pfu] at *
  grind
set_option maxHeartbeats 400000 in
theorem pt_tookno_n5 {has : Prop} {V E H T oG oT w0 w1 w2 w3 lo hi : Int} {st ep hl hh mv ac pt tk et lm pE pA : Nat → Int} {B : Int} {S : (Nat → Int) → Prop} (I : Pin has V E H T oG oT w0 w1 w2 w3 lo hi st ep hl hh mv ac pt tk et lm pE pA B S) (h : Nat) (m : (Nat → Int)) (hS : S m) (hk : (m 0) = 5) (hg : pgiv st h) (hep : ep h + 1 = (m 3)) (hac : ac h = (m 4)) (hm0 : (m 5) < 0) (het : et h = 0) (hV : (m 3) = V) (hH : (h : Int) = H) : Q_n5 has V E H T oG oT w0 w1 w2 w3 lo hi (pfu st h 2) ep hl hh mv (pfu ac h (ac h + 1)) (pfu pt h 0) (pfu tk h 1) et lm pE pA (B + 2) S := by
  have i_n5 := Pin_n5 I
  clear I
  simp only [Q_n5, pokM, pown, prcv, pgiv, ppge, pfu] at *
  grind
set_option maxHeartbeats 400000 in
theorem pt_tookno_n6 {has : Prop} {V E H T oG oT w0 w1 w2 w3 lo hi : Int} {st ep hl hh mv ac pt tk et lm pE pA : Nat → Int} {B : Int} {S : (Nat → Int) → Prop} (I : Pin has V E H T oG oT w0 w1 w2 w3 lo hi st ep hl hh mv ac pt tk et lm pE pA B S) (h : Nat) (m : (Nat → Int)) (hS : S m) (hk : (m 0) = 5) (hg : pgiv st h) (hep : ep h + 1 = (m 3)) (hac : ac h = (m 4)) (hm0 : (m 5) < 0) (het : et h = 0) (hV : (m 3) = V) (hH : (h : Int) = H) : Q_n6 has V E H T oG oT w0 w1 w2 w3 lo hi (pfu st h 2) ep hl hh mv (pfu ac h (ac h + 1)) (pfu pt h 0) (pfu tk h 1) et lm pE pA (B + 2) S := by
  have i_n6 := Pin_n6 I
  clear I
  simp only [Q_n6, pokM, pown, prcv, pgiv, ppge, pfu] at *
  grind
set_option maxHeartbeats 400000 in
theorem pt_tookno_n7 {has : Prop} {V E H T oG oT w0 w1 w2 w3 lo hi : Int} {st ep hl hh mv ac pt tk et lm pE pA : Nat → Int} {B : Int} {S : (Nat → Int) → Prop} (I : Pin has V E H T oG oT w0 w1 w2 w3 lo hi st ep hl hh mv ac pt tk et lm pE pA B S) (h : Nat) (m : (Nat → Int)) (hS : S m) (hk : (m 0) = 5) (hg : pgiv st h) (hep : ep h + 1 = (m 3)) (hac : ac h = (m 4)) (hm0 : (m 5) < 0) (het : et h = 0) (hV : (m 3) = V) (hH : (h : Int) = H) : Q_n7 has V E H T oG oT w0 w1 w2 w3 lo hi (pfu st h 2) ep hl hh mv (pfu ac h (ac h + 1)) (pfu pt h 0) (pfu tk h 1) et lm pE pA (B + 2) S := by
  have i_n7 := Pin_n7 I
  clear I
  simp only [Q_n7, pokM, pown, prcv, pgiv, ppge, pfu] at *
  grind
set_option maxHeartbeats 400000 in
theorem pt_tookno_o {has : Prop} {V E H T oG oT w0 w1 w2 w3 lo hi : Int} {st ep hl hh mv ac pt tk et lm pE pA : Nat → Int} {B : Int} {S : (Nat → Int) → Prop} (I : Pin has V E H T oG oT w0 w1 w2 w3 lo hi st ep hl hh mv ac pt tk et lm pE pA B S) (h : Nat) (m : (Nat → Int)) (hS : S m) (hk : (m 0) = 5) (hg : pgiv st h) (hep : ep h + 1 = (m 3)) (hac : ac h = (m 4)) (hm0 : (m 5) < 0) (het : et h = 0) (hV : (m 3) = V) (hH : (h : Int) = H) : Q_o has V E H T oG oT w0 w1 w2 w3 lo hi (pfu st h 2) ep hl hh mv (pfu ac h (ac h + 1)) (pfu pt h 0) (pfu tk h 1) et lm pE pA (B + 2) S := by
  have i_o := Pin_o I
  clear I
  simp only [Q_o, pokM, pown, prcv, pgiv, ppge, pfu] at *
  grind
set_option maxHeartbeats 400000 in
theorem pt_tookno_p {has : Prop} {V E H T oG oT w0 w1 w2 w3 lo hi : Int} {st ep hl hh mv ac pt tk et lm pE pA : Nat → Int} {B : Int} {S : (Nat → Int) → Prop} (I : Pin has V E H T oG oT w0 w1 w2 w3 lo hi st ep hl hh mv ac pt tk et lm pE pA B S) (h : Nat) (m : (Nat → Int)) (hS : S m) (hk : (m 0) = 5) (hg : pgiv st h) (hep : ep h + 1 = (m 3)) (hac : ac h = (m 4)) (hm0 : (m 5) < 0) (het : et h = 0) (hV : (m 3) = V) (hH : (h : Int) = H) : Q_p has V E H T oG oT w0 w1 w2 w3 lo hi (pfu st h 2) ep hl hh mv (pfu ac h (ac h + 1)) (pfu pt h 0) (pfu tk h 1) et lm pE pA (B + 2) S := by
  have i_p := Pin_p I
  clear I
  simp only [Q_p, pokM, pown, prcv, pgiv, ppge, pfu] at *
  grind
set_option maxHeartbeats 400000 in
theorem pt_tookno_q {has : Prop} {V E H T oG oT w0 w1 w2 w3 lo hi : Int} {st ep hl hh mv ac pt tk et lm pE pA : Nat → Int} {B : Int} {S : (Nat → Int) → Prop} (I : Pin has V E H T oG oT w0 w1 w2 w3 lo hi st ep hl hh mv ac pt tk et lm pE pA B S) (h : Nat) (m : (Nat → Int)) (hS : S m) (hk : (m 0) = 5) (hg : pgiv st h) (hep : ep h + 1 = (m 3)) (hac : ac h = (m 4)) (hm0 : (m 5) < 0) (het : et h = 0) (hV : (m 3) = V) (hH : (h : Int) = H) : Q_q has V E H T oG oT w0 w1 w2 w3 lo hi (pfu st h 2) ep hl hh mv (pfu ac h (ac h + 1)) (pfu pt h 0) (pfu tk h 1) et lm pE pA (B + 2) S := by
  have i_q := Pin_q I
  clear I
  simp only [Q_q, pokM, pown, prcv, pgiv, ppge, pfu] at *
  grind
set_option maxHeartbeats 400000 in
theorem pt_tookno_q2 {has : Prop} {V E H T oG oT w0 w1 w2 w3 lo hi : Int} {st ep hl hh mv ac pt tk et lm pE pA : Nat → Int} {B : Int} {S : (Nat → Int) → Prop} (I : Pin has V E H T oG oT w0 w1 w2 w3 lo hi st ep hl hh mv ac pt tk et lm pE pA B S) (h : Nat) (m : (Nat → Int)) (hS : S m) (hk : (m 0) = 5) (hg : pgiv st h) (hep : ep h + 1 = (m 3)) (hac : ac h = (m 4)) (hm0 : (m 5) < 0) (het : et h = 0) (hV : (m 3) = V) (hH : (h : Int) = H) : Q_q2 has V E H T oG oT w0 w1 w2 w3 lo hi (pfu st h 2) ep hl hh mv (pfu ac h (ac h + 1)) (pfu pt h 0) (pfu tk h 1) et lm pE pA (B + 2) S := by
  have i_v0 := Pin_v0 I
  have i_a := Pin_a I
  have i_b := Pin_b I
  have i_c := Pin_c I
  have i_d := Pin_d I
  have i_e := Pin_e I
  have i_q := Pin_q I
  have i_q2 := Pin_q2 I
  clear I
  simp only [Q_a, Q_b, Q_c, Q_d, Q_e, Q_q, Q_q2, Q_v0, pokM, pown, prcv, pgiv, ppge, pfu] at *
  grind
set_option maxHeartbeats 400000 in
theorem pt_tookno_q3 {has : Prop} {V E H T oG oT w0 w1 w2 w3 lo hi : Int} {st ep hl hh mv ac pt tk et lm pE pA : Nat → Int} {B : Int} {S : (Nat → Int) → Prop} (I : Pin has V E H T oG oT w0 w1 w2 w3 lo hi st ep hl hh mv ac pt tk et lm pE pA B S) (h : Nat) (m : (Nat → Int)) (hS : S m) (hk : (m 0) = 5) (hg : pgiv st h) (hep : ep h + 1 = (m 3)) (hac : ac h = (m 4)) (hm0 : (m 5) < 0) (het : et h = 0) (hV : (m 3) = V) (hH : (h : Int) = H) : Q_q3 has V E H T oG oT w0 w1 w2 w3 lo hi (pfu st h 2) ep hl hh mv (pfu ac h (ac h + 1)) (pfu pt h 0) (pfu tk h 1) et lm pE pA (B + 2) S := by
  have i_q3 := Pin_q3 I
  clear I
  simp only [Q_q3, pokM, pown, prcv, pgiv, ppge, pfu] at *
  grind
set_option maxHeartbeats 400000 in
theorem pt_tookno_w {has : Prop} {V E H T oG oT w0 w1 w2 w3 lo hi : Int} {st ep hl hh mv ac pt tk et lm pE pA : Nat → Int} {B : Int} {S : (Nat → Int) → Prop} (I : Pin has V E H T oG oT w0 w1 w2 w3 lo hi st ep hl hh mv ac pt tk et lm pE pA B S) (h : Nat) (m : (Nat → Int)) (hS : S m) (hk : (m 0) = 5) (hg : pgiv st h) (hep : ep h + 1 = (m 3)) (hac : ac h = (m 4)) (hm0 : (m 5) < 0) (het : et h = 0) (hV : (m 3) = V) (hH : (h : Int) = H) : Q_w has V E H T oG oT w0 w1 w2 w3 lo hi (pfu st h 2) ep hl hh mv (pfu ac h (ac h + 1)) (pfu pt h 0) (pfu tk h 1) et lm pE pA (B + 2) S := by
  have i_w := Pin_w I
  clear I
  simp only [Q_w, pokM, pown, prcv, pgiv, ppge, pfu] at *
  grind
theorem pt_tookno {has : Prop} {V E H T oG oT w0 w1 w2 w3 lo hi : Int} {st ep hl hh mv ac pt tk et lm pE pA : Nat → Int} {B : Int} {S : (Nat → Int) → Prop} (I : Pin has V E H T oG oT w0 w1 w2 w3 lo hi st ep hl hh mv ac pt tk et lm pE pA B S) (h : Nat) (m : (Nat → Int)) (hS : S m) (hk : (m 0) = 5) (hg : pgiv st h) (hep : ep h + 1 = (m 3)) (hac : ac h = (m 4)) (hm0 : (m 5) < 0) (het : et h = 0) : Pin has V E H T oG oT w0 w1 w2 w3 lo hi (pfu st h 2) ep hl hh mv (pfu ac h (ac h + 1)) (pfu pt h 0) (pfu tk h 1) et lm pE pA (B + 2) S := by
  have hV := pt_tookno_hV_d I h m hS hk hg hep hac hm0 het 
  have hH := pt_tookno_hH_d I h m hS hk hg hep hac hm0 het hV
  exact ⟨pt_tookno_v0 I h m hS hk hg hep hac hm0 het hV hH, pt_tookno_a I h m hS hk hg hep hac hm0 het hV hH, pt_tookno_b I h m hS hk hg hep hac hm0 het hV hH, pt_tookno_c I h m hS hk hg hep hac hm0 het hV hH, pt_tookno_d I h m hS hk hg hep hac hm0 het hV hH, pt_tookno_e I h m hS hk hg hep hac hm0 het hV hH, pt_tookno_f I h m hS hk hg hep hac hm0 het hV hH, pt_tookno_f2 I h m hS hk hg hep hac hm0 het hV hH, pt_tookno_f3 I h m hS hk hg hep hac hm0 het hV hH, pt_tookno_g I h m hS hk hg hep hac hm0 het hV hH, pt_tookno_g0 I h m hS hk hg hep hac hm0 het hV hH, pt_tookno_g1 I h m hS hk hg hep hac hm0 het hV hH, pt_tookno_g2 I h m hS hk hg hep hac hm0 het hV hH, pt_tookno_h7 I h m hS hk hg hep hac hm0 het hV hH, pt_tookno_h9 I h m hS hk hg hep hac hm0 het hV hH, pt_tookno_h10 I h m hS hk hg hep hac hm0 het hV hH, pt_tookno_h11 I h m hS hk hg hep hac hm0 het hV hH, pt_tookno_h12 I h m hS hk hg hep hac hm0 het hV hH, pt_tookno_k1 I h m hS hk hg hep hac hm0 het hV hH, pt_tookno_k2 I h m hS hk hg hep hac hm0 het hV hH, pt_tookno_k8 I h m hS hk hg hep hac hm0 het hV hH, pt_tookno_l4 I h m hS hk hg hep hac hm0 het hV hH, pt_tookno_l5 I h m hS hk hg hep hac hm0 het hV hH, pt_tookno_l3 I h m hS hk hg hep hac hm0 het hV hH, pt_tookno_m1 I h m hS hk hg hep hac hm0 het hV hH, pt_tookno_m2 I h m hS hk hg hep hac hm0 het hV hH, pt_tookno_m3 I h m hS hk hg hep hac hm0 het hV hH, pt_tookno_n0 I h m hS hk hg hep hac hm0 het hV hH, pt_tookno_n1 I h m hS hk hg hep hac hm0 het hV hH, pt_tookno_n2 I h m hS hk hg hep hac hm0 het hV hH, pt_tookno_n3 I h m hS hk hg hep hac hm0 het hV hH, pt_tookno_n4 I h m hS hk hg hep hac hm0 het hV hH, pt_tookno_n5 I h m hS hk hg hep hac hm0 het hV hH, pt_tookno_n6 I h m hS hk hg hep hac hm0 het hV hH, pt_tookno_n7 I h m hS hk hg hep hac hm0 het hV hH, pt_tookno_o I h m hS hk hg hep hac hm0 het hV hH, pt_tookno_p I h m hS hk hg hep hac hm0 het hV hH, pt_tookno_q I h m hS hk hg hep hac hm0 het hV hH, pt_tookno_q2 I h m hS hk hg hep hac hm0 het hV hH, pt_tookno_q3 I h m hS hk hg hep hac hm0 het hV hH, pt_tookno_w I h m hS hk hg hep hac hm0 het hV hH⟩
set_option maxHeartbeats 400000 in
theorem pt_done_hT_d {has : Prop} {V E H T oG oT w0 w1 w2 w3 lo hi : Int} {st ep hl hh mv ac pt tk et lm pE pA : Nat → Int} {B : Int} {S : (Nat → Int) → Prop} (I : Pin has V E H T oG oT w0 w1 w2 w3 lo hi st ep hl hh mv ac pt tk et lm pE pA B S) (h t : Nat) (hhH : (h : Int) = H) (ht : (t : Int) = T) (m x : (Nat → Int)) (hS : S m) (hk : (m 0) = 6) (he : (m 3) = V) (hx : (x 0) = 7) (hxe : (x 3) = V) (hxt : (x 1) = T) (hxa : (x 4) ≤ B) (hxm : (x 5) ≤ B)  : 0 ≤ T := by

  clear I
  try simp only [pokM, pown, prcv, pgiv, ppge, pfu] at *
  grind
set_option maxHeartbeats 400000 in
theorem pt_done_hn_d {has : Prop} {V E H T oG oT w0 w1 w2 w3 lo hi : Int} {st ep hl hh mv ac pt tk et lm pE pA : Nat → Int} {B : Int} {S : (Nat → Int) → Prop} (I : Pin has V E H T oG oT w0 w1 w2 w3 lo hi st ep hl hh mv ac pt tk et lm pE pA B S) (h t : Nat) (hhH : (h : Int) = H) (ht : (t : Int) = T) (m x : (Nat → Int)) (hS : S m) (hk : (m 0) = 6) (he : (m 3) = V) (hx : (x 0) = 7) (hxe : (x 3) = V) (hxt : (x 1) = T) (hxa : (x 4) ≤ B) (hxm : (x 5) ≤ B) (hT : 0 ≤ T) : pgiv st h ∧ et h ≠ 0 ∧ st h = 3 := by
  have i_c := Pin_c I
  have i_m1 := Pin_m1 I
  have i_n6 := Pin_n6 I
  have i_o := Pin_o I
  clear I
  try simp only [Q_c, Q_m1, Q_n6, Q_o, pown, prcv, pgiv, ppge, pfu] at *
  grind
set_option maxHeartbeats 400000 in
theorem pt_done_v0 {has : Prop} {V E H T oG oT w0 w1 w2 w3 lo hi : Int} {st ep hl hh mv ac pt tk et lm pE pA : Nat → Int} {B : Int} {S : (Nat → Int) → Prop} (I : Pin has V E H T oG oT w0 w1 w2 w3 lo hi st ep hl hh mv ac pt tk et lm pE pA B S) (h t : Nat) (hhH : (h : Int) = H) (ht : (t : Int) = T) (m x : (Nat → Int)) (hS : S m) (hk : (m 0) = 6) (he : (m 3) = V) (hx : (x 0) = 7) (hxe : (x 3) = V) (hxt : (x 1) = T) (hxa : (x 4) ≤ B) (hxm : (x 5) ≤ B) (hT : 0 ≤ T) (hn : pgiv st h ∧ et h ≠ 0 ∧ st h = 3) : Q_v0 has V (V) (T) (-1) (H) (T) (V) (V) w2 w3 lo hi st ep hl hh mv ac pt tk et lm pE pA (B + 2) (fun m => S m ∨ m = x) := by
  have i_v0 := Pin_v0 I
  clear I
  simp only [Q_v0, pokM, pown, prcv, pgiv, ppge, pfu] at *
  grind
set_option maxHeartbeats 400000 in
theorem pt_done_a {has : Prop} {V E H T oG oT w0 w1 w2 w3 lo hi : Int} {st ep hl hh mv ac pt tk et lm pE pA : Nat → Int} {B : Int} {S : (Nat → Int) → Prop} (I : Pin has V E H T oG oT w0 w1 w2 w3 lo hi st ep hl hh mv ac pt tk et lm pE pA B S) (h t : Nat) (hhH : (h : Int) = H) (ht : (t : Int) = T) (m x : (Nat → Int)) (hS : S m) (hk : (m 0) = 6) (he : (m 3) = V) (hx : (x 0) = 7) (hxe : (x 3) = V) (hxt : (x 1) = T) (hxa : (x 4) ≤ B) (hxm : (x 5) ≤ B) (hT : 0 ≤ T) (hn : pgiv st h ∧ et h ≠ 0 ∧ st h = 3) : Q_a has V (V) (T) (-1) (H) (T) (V) (V) w2 w3 lo hi st ep hl hh mv ac pt tk et lm pE pA (B + 2) (fun m => S m ∨ m = x) := by
  have i_a := Pin_a I
  clear I
  simp only [Q_a, pokM, pown, prcv, pgiv, ppge, pfu] at *
  grind
set_option maxHeartbeats 400000 in
theorem pt_done_b {has : Prop} {V E H T oG oT w0 w1 w2 w3 lo hi : Int} {st ep hl hh mv ac pt tk et lm pE pA : Nat → Int} {B : Int} {S : (Nat → Int) → Prop} (I : Pin has V E H T oG oT w0 w1 w2 w3 lo hi st ep hl hh mv ac pt tk et lm pE pA B S) (h t : Nat) (hhH : (h : Int) = H) (ht : (t : Int) = T) (m x : (Nat → Int)) (hS : S m) (hk : (m 0) = 6) (he : (m 3) = V) (hx : (x 0) = 7) (hxe : (x 3) = V) (hxt : (x 1) = T) (hxa : (x 4) ≤ B) (hxm : (x 5) ≤ B) (hT : 0 ≤ T) (hn : pgiv st h ∧ et h ≠ 0 ∧ st h = 3) : Q_b has V (V) (T) (-1) (H) (T) (V) (V) w2 w3 lo hi st ep hl hh mv ac pt tk et lm pE pA (B + 2) (fun m => S m ∨ m = x) := by
  intro i ho hne
  have e1 : (i : Int) = H := Classical.byContradiction fun hc => by
    have := (Pin_b I i ho hc).1
    omega
  have e : i = h := by omega
  subst e
  exact ⟨by omega, rfl, e1, hn.2.2, ((Pin_c I hT).2.2.2.1 i hhH).2, hn.2.1⟩
set_option maxHeartbeats 400000 in
theorem pt_done_c {has : Prop} {V E H T oG oT w0 w1 w2 w3 lo hi : Int} {st ep hl hh mv ac pt tk et lm pE pA : Nat → Int} {B : Int} {S : (Nat → Int) → Prop} (I : Pin has V E H T oG oT w0 w1 w2 w3 lo hi st ep hl hh mv ac pt tk et lm pE pA B S) (h t : Nat) (hhH : (h : Int) = H) (ht : (t : Int) = T) (m x : (Nat → Int)) (hS : S m) (hk : (m 0) = 6) (he : (m 3) = V) (hx : (x 0) = 7) (hxe : (x 3) = V) (hxt : (x 1) = T) (hxa : (x 4) ≤ B) (hxm : (x 5) ≤ B) (hT : 0 ≤ T) (hn : pgiv st h ∧ et h ≠ 0 ∧ st h = 3) : Q_c has V (V) (T) (-1) (H) (T) (V) (V) w2 w3 lo hi st ep hl hh mv ac pt tk et lm pE pA (B + 2) (fun m => S m ∨ m = x) := by
  have i_c := Pin_c I
  clear I
  simp only [Q_c, pokM, pown, prcv, pgiv, ppge, pfu] at *
  grind
set_option maxHeartbeats 400000 in
theorem pt_done_d {has : Prop} {V E H T oG oT w0 w1 w2 w3 lo hi : Int} {st ep hl hh mv ac pt tk et lm pE pA : Nat → Int} {B : Int} {S : (Nat → Int) → Prop} (I : Pin has V E H T oG oT w0 w1 w2 w3 lo hi st ep hl hh mv ac pt tk et lm pE pA B S) (h t : Nat) (hhH : (h : Int) = H) (ht : (t : Int) = T) (m x : (Nat → Int)) (hS : S m) (hk : (m 0) = 6) (he : (m 3) = V) (hx : (x 0) = 7) (hxe : (x 3) = V) (hxt : (x 1) = T) (hxa : (x 4) ≤ B) (hxm : (x 5) ≤ B) (hT : 0 ≤ T) (hn : pgiv st h ∧ et h ≠ 0 ∧ st h = 3) : Q_d has V (V) (T) (-1) (H) (T) (V) (V) w2 w3 lo hi st ep hl hh mv ac pt tk et lm pE pA (B + 2) (fun m => S m ∨ m = x) := by
  have i_v0 := Pin_v0 I
  have i_a := Pin_a I
  have i_b := Pin_b I
  have i_c := Pin_c I
  have i_d := Pin_d I
  have i_e := Pin_e I
  have i_q := Pin_q I
  clear I
  simp only [Q_a, Q_b, Q_c, Q_d, Q_e, Q_q, Q_v0, pokM, pown, prcv, pgiv, ppge, pfu] at *
  grind
set_option maxHeartbeats 400000 in
theorem pt_done_e {has : Prop} {V E H T oG oT w0 w1 w2 w3 lo hi : Int} {st ep hl hh mv ac pt tk et lm pE pA : Nat → Int} {B : Int} {S : (Nat → Int) → Prop} (I : Pin has V E H T oG oT w0 w1 w2 w3 lo hi st ep hl hh mv ac pt tk et lm pE pA B S) (h t : Nat) (hhH : (h : Int) = H) (ht : (t : Int) = T) (m x : (Nat → Int)) (hS : S m) (hk : (m 0) = 6) (he : (m 3) = V) (hx : (x 0) = 7) (hxe : (x 3) = V) (hxt : (x 1) = T) (hxa : (x 4) ≤ B) (hxm : (x 5) ≤ B) (hT : 0 ≤ T) (hn : pgiv st h ∧ et h ≠ 0 ∧ st h = 3) : Q_e has V (V) (T) (-1) (H) (T) (V) (V) w2 w3 lo hi st ep hl hh mv ac pt tk et lm pE pA (B + 2) (fun m => S m ∨ m = x) := by
  have i_e := Pin_e I
  clear I
  simp only [Q_e, pokM, pown, prcv, pgiv, ppge, pfu] at *
  grind
set_option maxHeartbeats 400000 in
theorem pt_done_f {has : Prop} {V E H T oG oT w0 w1 w2 w3 lo hi : Int} {st ep hl hh mv ac pt tk et lm pE pA : Nat → Int} {B : Int} {S : (Nat → Int) → Prop} (I : Pin has V E H T oG oT w0 w1 w2 w3 lo hi st ep hl hh mv ac pt tk et lm pE pA B S) (h t : Nat) (hhH : (h : Int) = H) (ht : (t : Int) = T) (m x : (Nat → Int)) (hS : S m) (hk : (m 0) = 6) (he : (m 3) = V) (hx : (x 0) = 7) (hxe : (x 3) = V) (hxt : (x 1) = T) (hxa : (x 4) ≤ B) (hxm : (x 5) ≤ B) (hT : 0 ≤ T) (hn : pgiv st h ∧ et h ≠ 0 ∧ st h = 3) : Q_f has V (V) (T) (-1) (H) (T) (V) (V) w2 w3 lo hi st ep hl hh mv ac pt tk et lm pE pA (B + 2) (fun m => S m ∨ m = x) := by
  have i_f := Pin_f I
  clear I
  simp only [Q_f, pokM, pown, prcv, pgiv, ppge, pfu] at *
  grind
set_option maxHeartbeats 400000 in
theorem pt_done_f2 {has : Prop} {V E H T oG oT w0 w1 w2 w3 lo hi : Int} {st ep hl hh mv ac pt tk et lm pE pA : Nat → Int} {B : Int} {S : (Nat → Int) → Prop} (I : Pin has V E H T oG oT w0 w1 w2 w3 lo hi st ep hl hh mv ac pt tk et lm pE pA B S) (h t : Nat) (hhH : (h : Int) = H) (ht : (t : Int) = T) (m x : (Nat → Int)) (hS : S m) (hk : (m 0) = 6) (he : (m 3) = V) (hx : (x 0) = 7) (hxe : (x 3) = V) (hxt : (x 1) = T) (hxa : (x 4) ≤ B) (hxm : (x 5) ≤ B) (hT : 0 ≤ T) (hn : pgiv st h ∧ et h ≠ 0 ∧ st h = 3) : Q_f2 has V (V) (T) (-1) (H) (T) (V) (V) w2 w3 lo hi st ep hl hh mv ac pt tk et lm pE pA (B + 2) (fun m => S m ∨ m = x) := by
  have i_f2 := Pin_f2 I
  clear I
  simp only [Q_f2, pokM, pown, prcv, pgiv, ppge, pfu] at *
  grind
set_option maxHeartbeats 400000 in
theorem pt_done_f3 {has : Prop} {V E H T oG oT w0 w1 w2 w3 lo hi : Int} {st ep hl hh mv ac pt tk et lm pE pA : Nat → Int} {B : Int} {S : (Nat → Int) → Prop} (I : Pin has V E H T oG oT w0 w1 w2 w3 lo hi st ep hl hh mv ac pt tk et lm pE pA B S) (h t : Nat) (hhH : (h : Int) = H) (ht : (t : Int) = T) (m x : (Nat → Int)) (hS : S m) (hk : (m 0) = 6) (he : (m 3) = V) (hx : (x 0) = 7) (hxe : (x 3) = V) (hxt : (x 1) = T) (hxa : (x 4) ≤ B) (hxm : (x 5) ≤ B) (hT : 0 ≤ T) (hn : pgiv st h ∧ et h ≠ 0 ∧ st h = 3) : Q_f3 has V (V) (T) (-1) (H) (T) (V) (V) w2 w3 lo hi st ep hl hh mv ac pt tk et lm pE pA (B + 2) (fun m => S m ∨ m = x) := by
  have i_f3 := Pin_f3 I
  clear I
  simp only [Q_f3, pokM, pown, prcv, pgiv, ppge, pfu] at *
  grind
set_option maxHeartbeats 400000 in
theorem pt_done_g {has : Prop} {V E H T oG oT w0 w1 w2 w3 lo hi : Int} {st ep hl hh mv ac pt tk et lm pE pA : Nat → Int} {B : Int} {S : (Nat → Int) → Prop} (I : Pin has V E H T oG oT w0 w1 w2 w3 lo hi st ep hl hh mv ac pt tk et lm pE pA B S) (h t : Nat) (hhH : (h : Int) = H) (ht : (t : Int) = T) (m x : (Nat → Int)) (hS : S m) (hk : (m 0) = 6) (he : (m 3) = V) (hx : (x 0) = 7) (hxe : (x 3) = V) (hxt : (x 1) = T) (hxa : (x 4) ≤ B) (hxm : (x 5) ≤ B) (hT : 0 ≤ T) (hn : pgiv st h ∧ et h ≠ 0 ∧ st h = 3) : Q_g has V (V) (T) (-1) (H) (T) (V) (V) w2 w3 lo hi st ep hl hh mv ac pt tk et lm pE pA (B + 2) (fun m => S m ∨ m = x) := by
  have i_g := Pin_g I
  clear I
  simp only [Q_g, pokM, pown, prcv, pgiv, ppge, pfu] at *
  grind
set_option maxHeartbeats 400000 in
theorem pt_done_g0 {has : Prop} {V E H T oG oT w0 w1 w2 w3 lo hi : Int} {st ep hl hh mv ac pt tk et lm pE pA : Nat → Int} {B : Int} {S : (Nat → Int) → Prop} (I : Pin has V E H T oG oT w0 w1 w2 w3 lo hi st ep hl hh mv ac pt tk et lm pE pA B S) (h t : Nat) (hhH : (h : Int) = H) (ht : (t : Int) = T) (m x : (Nat → Int)) (hS : S m) (hk : (m 0) = 6) (he : (m 3) = V) (hx : (x 0) = 7) (hxe : (x 3) = V) (hxt : (x 1) = T) (hxa : (x 4) ≤ B) (hxm : (x 5) ≤ B) (hT : 0 ≤ T) (hn : pgiv st h ∧ et h ≠ 0 ∧ st h = 3) : Q_g0 has V (V) (T) (-1) (H) (T) (V) (V) w2 w3 lo hi st ep hl hh mv ac pt tk et lm pE pA (B + 2) (fun m => S m ∨ m = x) := by
  exact fun _ => ⟨x, Or.inr rfl, hx, hxe, hxt⟩
set_option maxHeartbeats 400000 in
theorem pt_done_g1 {has : Prop} {V E H T oG oT w0 w1 w2 w3 lo hi : Int} {st ep hl hh mv ac pt tk et lm pE pA : Nat → Int} {B : Int} {S : (Nat → Int) → Prop} (I : Pin has V E H T oG oT w0 w1 w2 w3 lo hi st ep hl hh mv ac pt tk et lm pE pA B S) (h t : Nat) (hhH : (h : Int) = H) (ht : (t : Int) = T) (m x : (Nat → Int)) (hS : S m) (hk : (m 0) = 6) (he : (m 3) = V) (hx : (x 0) = 7) (hxe : (x 3) = V) (hxt : (x 1) = T) (hxa : (x 4) ≤ B) (hxm : (x 5) ≤ B) (hT : 0 ≤ T) (hn : pgiv st h ∧ et h ≠ 0 ∧ st h = 3) : Q_g1 has V (V) (T) (-1) (H) (T) (V) (V) w2 w3 lo hi st ep hl hh mv ac pt tk et lm pE pA (B + 2) (fun m => S m ∨ m = x) := by
  have i_g1 := Pin_g1 I
  clear I
  simp only [Q_g1, pokM, pown, prcv, pgiv, ppge, pfu] at *
  grind
set_option maxHeartbeats 400000 in
theorem pt_done_g2 {has : Prop} {V E H T oG oT w0 w1 w2 w3 lo hi : Int} {st ep hl hh mv ac pt tk et lm pE pA : Nat → Int} {B : Int} {S : (Nat → Int) → Prop} (I : Pin has V E H T oG oT w0 w1 w2 w3 lo hi st ep hl hh mv ac pt tk et lm pE pA B S) (h t : Nat) (hhH : (h : Int) = H) (ht : (t : Int) = T) (m x : (Nat → Int)) (hS : S m) (hk : (m 0) = 6) (he : (m 3) = V) (hx : (x 0) = 7) (hxe : (x 3) = V) (hxt : (x 1) = T) (hxa : (x 4) ≤ B) (hxm : (x 5) ≤ B) (hT : 0 ≤ T) (hn : pgiv st h ∧ et h ≠ 0 ∧ st h = 3) : Q_g2 has V (V) (T) (-1) (H) (T) (V) (V) w2 w3 lo hi st ep hl hh mv ac pt tk et lm pE pA (B + 2) (fun m => S m ∨ m = x) := by
  have i_g2 := Pin_g2 I
  clear I
  simp only [Q_g2, pokM, pown, prcv, pgiv, ppge, pfu] at *
  grind
set_option maxHeartbeats 400000 in
theorem pt_done_h7 {has : Prop} {V E H T oG oT w0 w1 w2 w3 lo hi : Int} {st ep hl hh mv ac pt tk et lm pE pA : Nat → Int} {B : Int} {S : (Nat → Int) → Prop} (I : Pin has V E H T oG oT w0 w1 w2 w3 lo hi st ep hl hh mv ac pt tk et lm pE pA B S) (h t : Nat) (hhH : (h : Int) = H) (ht : (t : Int) = T) (m x : (Nat → Int)) (hS : S m) (hk : (m 0) = 6) (he : (m 3) = V) (hx : (x 0) = 7) (hxe : (x 3) = V) (hxt : (x 1) = T) (hxa : (x 4) ≤ B) (hxm : (x 5) ≤ B) (hT : 0 ≤ T) (hn : pgiv st h ∧ et h ≠ 0 ∧ st h = 3) : Q_h7 has V (V) (T) (-1) (H) (T) (V) (V) w2 w3 lo hi st ep hl hh mv ac pt tk et lm pE pA (B + 2) (fun m => S m ∨ m = x) := by
  have i_v0 := Pin_v0 I
  have i_a := Pin_a I
  have i_b := Pin_b I
  have i_c := Pin_c I
  have i_d := Pin_d I
  have i_e := Pin_e I
  have i_h7 := Pin_h7 I
  have i_q := Pin_q I
  clear I
  simp only [Q_a, Q_b, Q_c, Q_d, Q_e, Q_h7, Q_q, Q_v0, pokM, pown, prcv, pgiv, ppge, pfu] at *
  grind
set_option maxHeartbeats 400000 in
theorem pt_done_h9 {has : Prop} {V E H T oG oT w0 w1 w2 w3 lo hi : Int} {st ep hl hh mv ac pt tk et lm pE pA : Nat → Int} {B : Int} {S : (Nat → Int) → Prop} (I : Pin has V E H T oG oT w0 w1 w2 w3 lo hi st ep hl hh mv ac pt tk et lm pE pA B S) (h t : Nat) (hhH : (h : Int) = H) (ht : (t : Int) = T) (m x : (Nat → Int)) (hS : S m) (hk : (m 0) = 6) (he : (m 3) = V) (hx : (x 0) = 7) (hxe : (x 3) = V) (hxt : (x 1) = T) (hxa : (x 4) ≤ B) (hxm : (x 5) ≤ B) (hT : 0 ≤ T) (hn : pgiv st h ∧ et h ≠ 0 ∧ st h = 3) : Q_h9 has V (V) (T) (-1) (H) (T) (V) (V) w2 w3 lo hi st ep hl hh mv ac pt tk et lm pE pA (B + 2) (fun m => S m ∨ m = x) := by
  have i_h9 := Pin_h9 I
  clear I
  simp only [Q_h9, pokM, pown, prcv, pgiv, ppge, pfu] at *
  grind
set_option maxHeartbeats 400000 in
theorem pt_done_h10 {has : Prop} {V E H T oG oT w0 w1 w2 w3 lo hi : Int} {st ep hl hh mv ac pt tk et lm pE pA : Nat → Int} {B : Int} {S : (Nat → Int) → Prop} (I : Pin has V E H T oG oT w0 w1 w2 w3 lo hi st ep hl hh mv ac pt tk et lm pE pA B S) (h t : Nat) (hhH : (h : Int) = H) (ht : (t : Int) = T) (m x : (Nat → Int)) (hS : S m) (hk : (m 0) = 6) (he : (m 3) = V) (hx : (x 0) = 7) (hxe : (x 3) = V) (hxt : (x 1) = T) (hxa : (x 4) ≤ B) (hxm : (x 5) ≤ B) (hT : 0 ≤ T) (hn : pgiv st h ∧ et h ≠ 0 ∧ st h = 3) : Q_h10 has V (V) (T) (-1) (H) (T) (V) (V) w2 w3 lo hi st ep hl hh mv ac pt tk et lm pE pA (B + 2) (fun m => S m ∨ m = x) := by
  have i_h10 := Pin_h10 I
  clear I
  simp only [Q_h10, pokM, pown, prcv, pgiv, ppge, pfu] at *
  grind
set_option maxHeartbeats 400000 in
theorem pt_done_h11 {has : Prop} {V E H T oG oT w0 w1 w2 w3 lo hi : Int} {st ep hl hh mv ac pt tk et lm pE pA : Nat → Int} {B : Int} {S : (Nat → Int) → Prop} (I : Pin has V E H T oG oT w0 w1 w2 w3 lo hi st ep hl hh mv ac pt tk et lm pE pA B S) (h t : Nat) (hhH : (h : Int) = H) (ht : (t : Int) = T) (m x : (Nat → Int)) (hS : S m) (hk : (m 0) = 6) (he : (m 3) = V) (hx : (x 0) = 7) (hxe : (x 3) = V) (hxt : (x 1) = T) (hxa : (x 4) ≤ B) (hxm : (x 5) ≤ B) (hT : 0 ≤ T) (hn : pgiv st h ∧ et h ≠ 0 ∧ st h = 3) : Q_h11 has V (V) (T) (-1) (H) (T) (V) (V) w2 w3 lo hi st ep hl hh mv ac pt tk et lm pE pA (B + 2) (fun m => S m ∨ m = x) := by
  have i_h11 := Pin_h11 I
  clear I
  simp only [Q_h11, pokM, pown, prcv, pgiv, ppge, pfu] at *
  grind
set_option maxHeartbeats 400000 in
theorem pt_done_h12 {has : Prop} {V E H T oG oT w0 w1 w2 w3 lo hi : Int} {st ep hl hh mv ac pt tk et lm pE pA : Nat → Int} {B : Int} {S : (Nat → Int) → Prop} (I : Pin has V E H T oG oT w0 w1 w2 w3 lo hi st ep hl hh mv ac pt tk et lm pE pA B S) (h t : Nat) (hhH : (h : Int) = H) (ht : (t : Int) = T) (m x : (Nat → Int)) (hS : S m) (hk : (m 0) = 6) (he : (m 3) = V) (hx : (x 0) = 7) (hxe : (x 3) = V) (hxt : (x 1) = T) (hxa : (x 4) ≤ B) (hxm : (x 5) ≤ B) (hT : 0 ≤ T) (hn : pgiv st h ∧ et h ≠ 0 ∧ st h = 3) : Q_h12 has V (V) (T) (-1) (H) (T) (V) (V) w2 w3 lo hi st ep hl hh mv ac pt tk et lm pE pA (B + 2) (fun m => S m ∨ m = x) := by
  have i_h12 := Pin_h12 I
  clear I
  simp only [Q_h12, pokM, pown, prcv, pgiv, ppge, pfu] at *
  grind
set_option maxHeartbeats 400000 in
theorem pt_done_k1 {has : Prop} {V E H T oG oT w0 w1 w2 w3 lo hi : Int} {st ep hl hh mv ac pt tk et lm pE pA : Nat → Int} {B : Int} {S : (Nat → Int) → Prop} (I : Pin has V E H T oG oT w0 w1 w2 w3 lo hi st ep hl hh mv ac pt tk et lm pE pA B S) (h t : Nat) (hhH : (h : Int) = H) (ht : (t : Int) = T) (m x : (Nat → Int)) (hS : S m) (hk : (m 0) = 6) (he : (m 3) = V) (hx : (x 0) = 7) (hxe : (x 3) = V) (hxt : (x 1) = T) (hxa : (x 4) ≤ B) (hxm : (x 5) ≤ B) (hT : 0 ≤ T) (hn : pgiv st h ∧ et h ≠ 0 ∧ st h = 3) : Q_k1 has V (V) (T) (-1) (H) (T) (V) (V) w2 w3 lo hi st ep hl hh mv ac pt tk et lm pE pA (B + 2) (fun m => S m ∨ m = x) := by
  intro m' i hS' h7 hto hr he'
  rcases hS' with hs | hs
  · have := (Pin_k1 I m' i hs h7 hto hr he').2.2.1
    omega
  · subst hs
    have hv : ep i = V := he'.trans hxe
    have l := Pin_l5 I hT i hr hv
    have n := (Pin_n5 I hT h i hhH hn.1 (hto.trans hxt) hn.2.1).1 hr hv
    exact ⟨hxe, rfl, by omega, hxt, n, l.2.1, l.2.2, (Pin_c I hT).1, rfl⟩
set_option maxHeartbeats 400000 in
theorem pt_done_k2 {has : Prop} {V E H T oG oT w0 w1 w2 w3 lo hi : Int} {st ep hl hh mv ac pt tk et lm pE pA : Nat → Int} {B : Int} {S : (Nat → Int) → Prop} (I : Pin has V E H T oG oT w0 w1 w2 w3 lo hi st ep hl hh mv ac pt tk et lm pE pA B S) (h t : Nat) (hhH : (h : Int) = H) (ht : (t : Int) = T) (m x : (Nat → Int)) (hS : S m) (hk : (m 0) = 6) (he : (m 3) = V) (hx : (x 0) = 7) (hxe : (x 3) = V) (hxt : (x 1) = T) (hxa : (x 4) ≤ B) (hxm : (x 5) ≤ B) (hT : 0 ≤ T) (hn : pgiv st h ∧ et h ≠ 0 ∧ st h = 3) : Q_k2 has V (V) (T) (-1) (H) (T) (V) (V) w2 w3 lo hi st ep hl hh mv ac pt tk et lm pE pA (B + 2) (fun m => S m ∨ m = x) := by
  have i_k2 := Pin_k2 I
  have i_n5 := Pin_n5 I
  clear I
  simp only [Q_k2, Q_n5, pokM, pown, prcv, pgiv, ppge, pfu] at *
  grind
set_option maxHeartbeats 400000 in
theorem pt_done_k8 {has : Prop} {V E H T oG oT w0 w1 w2 w3 lo hi : Int} {st ep hl hh mv ac pt tk et lm pE pA : Nat → Int} {B : Int} {S : (Nat → Int) → Prop} (I : Pin has V E H T oG oT w0 w1 w2 w3 lo hi st ep hl hh mv ac pt tk et lm pE pA B S) (h t : Nat) (hhH : (h : Int) = H) (ht : (t : Int) = T) (m x : (Nat → Int)) (hS : S m) (hk : (m 0) = 6) (he : (m 3) = V) (hx : (x 0) = 7) (hxe : (x 3) = V) (hxt : (x 1) = T) (hxa : (x 4) ≤ B) (hxm : (x 5) ≤ B) (hT : 0 ≤ T) (hn : pgiv st h ∧ et h ≠ 0 ∧ st h = 3) : Q_k8 has V (V) (T) (-1) (H) (T) (V) (V) w2 w3 lo hi st ep hl hh mv ac pt tk et lm pE pA (B + 2) (fun m => S m ∨ m = x) := by
  have i_k8 := Pin_k8 I
  clear I
  simp only [Q_k8, pokM, pown, prcv, pgiv, ppge, pfu] at *
  grind
set_option maxHeartbeats 400000 in
theorem pt_done_l4 {has : Prop} {V E H T oG oT w0 w1 w2 w3 lo hi : Int} {st ep hl hh mv ac pt tk et lm pE pA : Nat → Int} {B : Int} {S : (Nat → Int) → Prop} (I : Pin has V E H T oG oT w0 w1 w2 w3 lo hi st ep hl hh mv ac pt tk et lm pE pA B S) (h t : Nat) (hhH : (h : Int) = H) (ht : (t : Int) = T) (m x : (Nat → Int)) (hS : S m) (hk : (m 0) = 6) (he : (m 3) = V) (hx : (x 0) = 7) (hxe : (x 3) = V) (hxt : (x 1) = T) (hxa : (x 4) ≤ B) (hxm : (x 5) ≤ B) (hT : 0 ≤ T) (hn : pgiv st h ∧ et h ≠ 0 ∧ st h = 3) : Q_l4 has V (V) (T) (-1) (H) (T) (V) (V) w2 w3 lo hi st ep hl hh mv ac pt tk et lm pE pA (B + 2) (fun m => S m ∨ m = x) := by
  have i_l4 := Pin_l4 I
  clear I
  simp only [Q_l4, pokM, pown, prcv, pgiv, ppge, pfu] at *
  grind
set_option maxHeartbeats 400000 in
theorem pt_done_l5 {has : Prop} {V E H T oG oT w0 w1 w2 w3 lo hi : Int} {st ep hl hh mv ac pt tk et lm pE pA : Nat → Int} {B : Int} {S : (Nat → Int) → Prop} (I : Pin has V E H T oG oT w0 w1 w2 w3 lo hi st ep hl hh mv ac pt tk et lm pE pA B S) (h t : Nat) (hhH : (h : Int) = H) (ht : (t : Int) = T) (m x : (Nat → Int)) (hS : S m) (hk : (m 0) = 6) (he : (m 3) = V) (hx : (x 0) = 7) (hxe : (x 3) = V) (hxt : (x 1) = T) (hxa : (x 4) ≤ B) (hxm : (x 5) ≤ B) (hT : 0 ≤ T) (hn : pgiv st h ∧ et h ≠ 0 ∧ st h = 3) : Q_l5 has V (V) (T) (-1) (H) (T) (V) (V) w2 w3 lo hi st ep hl hh mv ac pt tk et lm pE pA (B + 2) (fun m => S m ∨ m = x) := by
  have i_l5 := Pin_l5 I
  clear I
  simp only [Q_l5, pokM, pown, prcv, pgiv, ppge, pfu] at *
  grind
set_option maxHeartbeats 400000 in
theorem pt_done_l3 {has : Prop} {V E H T oG oT w0 w1 w2 w3 lo hi : Int} {st ep hl hh mv ac pt tk et lm pE pA : Nat → Int} {B : Int} {S : (Nat → Int) → Prop} (I : Pin has V E H T oG oT w0 w1 w2 w3 lo hi st ep hl hh mv ac pt tk et lm pE pA B S) (h t : Nat) (hhH : (h : Int) = H) (ht : (t : Int) = T) (m x : (Nat → Int)) (hS : S m) (hk : (m 0) = 6) (he : (m 3) = V) (hx : (x 0) = 7) (hxe : (x 3) = V) (hxt : (x 1) = T) (hxa : (x 4) ≤ B) (hxm : (x 5) ≤ B) (hT : 0 ≤ T) (hn : pgiv st h ∧ et h ≠ 0 ∧ st h = 3) : Q_l3 has V (V) (T) (-1) (H) (T) (V) (V) w2 w3 lo hi st ep hl hh mv ac pt tk et lm pE pA (B + 2) (fun m => S m ∨ m = x) := by
  have i_l3 := Pin_l3 I
  clear I
  simp only [Q_l3, pokM, pown, prcv, pgiv, ppge, pfu] at *
  grind
set_option maxHeartbeats 400000 in
theorem pt_done_m1 {has : Prop} {V E H T oG oT w0 w1 w2 w3 lo hi : Int} {st ep hl hh mv ac pt tk et lm pE pA : Nat → Int} {B : Int} {S : (Nat → Int) → Prop} (I : Pin has V E H T oG oT w0 w1 w2 w3 lo hi st ep hl hh mv ac pt tk et lm pE pA B S) (h t : Nat) (hhH : (h : Int) = H) (ht : (t : Int) = T) (m x : (Nat → Int)) (hS : S m) (hk : (m 0) = 6) (he : (m 3) = V) (hx : (x 0) = 7) (hxe : (x 3) = V) (hxt : (x 1) = T) (hxa : (x 4) ≤ B) (hxm : (x 5) ≤ B) (hT : 0 ≤ T) (hn : pgiv st h ∧ et h ≠ 0 ∧ st h = 3) : Q_m1 has V (V) (T) (-1) (H) (T) (V) (V) w2 w3 lo hi st ep hl hh mv ac pt tk et lm pE pA (B + 2) (fun m => S m ∨ m = x) := by
  have i_m1 := Pin_m1 I
  clear I
  simp only [Q_m1, pokM, pown, prcv, pgiv, ppge, pfu] at *
  grind
set_option maxHeartbeats 400000 in
theorem pt_done_m2 {has : Prop} {V E H T oG oT w0 w1 w2 w3 lo hi : Int} {st ep hl hh mv ac pt tk et lm pE pA : Nat → Int} {B : Int} {S : (Nat → Int) → Prop} (I : Pin has V E H T oG oT w0 w1 w2 w3 lo hi st ep hl hh mv ac pt tk et lm pE pA B S) (h t : Nat) (hhH : (h : Int) = H) (ht : (t : Int) = T) (m x : (Nat → Int)) (hS : S m) (hk : (m 0) = 6) (he : (m 3) = V) (hx : (x 0) = 7) (hxe : (x 3) = V) (hxt : (x 1) = T) (hxa : (x 4) ≤ B) (hxm : (x 5) ≤ B) (hT : 0 ≤ T) (hn : pgiv st h ∧ et h ≠ 0 ∧ st h = 3) : Q_m2 has V (V) (T) (-1) (H) (T) (V) (V) w2 w3 lo hi st ep hl hh mv ac pt tk et lm pE pA (B + 2) (fun m => S m ∨ m = x) := by
  have i_m2 := Pin_m2 I
  clear I
  simp only [Q_m2, pokM, pown, prcv, pgiv, ppge, pfu] at *
  grind
set_option maxHeartbeats 400000 in
theorem pt_done_m3 {has : Prop} {V E H T oG oT w0 w1 w2 w3 lo hi : Int} {st ep hl hh mv ac pt tk et lm pE pA : Nat → Int} {B : Int} {S : (Nat → Int) → Prop} (I : Pin has V E H T oG oT w0 w1 w2 w3 lo hi st ep hl hh mv ac pt tk et lm pE pA B S) (h t : Nat) (hhH : (h : Int) = H) (ht : (t : Int) = T) (m x : (Nat → Int)) (hS : S m) (hk : (m 0) = 6) (he : (m 3) = V) (hx : (x 0) = 7) (hxe : (x 3) = V) (hxt : (x 1) = T) (hxa : (x 4) ≤ B) (hxm : (x 5) ≤ B) (hT : 0 ≤ T) (hn : pgiv st h ∧ et h ≠ 0 ∧ st h = 3) : Q_m3 has V (V) (T) (-1) (H) (T) (V) (V) w2 w3 lo hi st ep hl hh mv ac pt tk et lm pE pA (B + 2) (fun m => S m ∨ m = x) := by
  have i_m3 := Pin_m3 I
  clear I
  simp only [Q_m3, pokM, pown, prcv, pgiv, ppge, pfu] at *
  grind
set_option maxHeartbeats 400000 in
theorem pt_done_n0 {has : Prop} {V E H T oG oT w0 w1 w2 w3 lo hi : Int} {st ep hl hh mv ac pt tk et lm pE pA : Nat → Int} {B : Int} {S : (Nat → Int) → Prop} (I : Pin has V E H T oG oT w0 w1 w2 w3 lo hi st ep hl hh mv ac pt tk et lm pE pA B S) (h t : Nat) (hhH : (h : Int) = H) (ht : (t : Int) = T) (m x : (Nat → Int)) (hS : S m) (hk : (m 0) = 6) (he : (m 3) = V) (hx : (x 0) = 7) (hxe : (x 3) = V) (hxt : (x 1) = T) (hxa : (x 4) ≤ B) (hxm : (x 5) ≤ B) (hT : 0 ≤ T) (hn : pgiv st h ∧ et h ≠ 0 ∧ st h = 3) : Q_n0 has V (V) (T) (-1) (H) (T) (V) (V) w2 w3 lo hi st ep hl hh mv ac pt tk et lm pE pA (B + 2) (fun m => S m ∨ m = x) := by
  have i_n0 := Pin_n0 I
  clear I
  simp only [Q_n0, pokM, pown, prcv, pgiv, ppge, pfu] at *
  grind
set_option maxHeartbeats 400000 in
theorem pt_done_n1 {has : Prop} {V E H T oG oT w0 w1 w2 w3 lo hi : Int} {st ep hl hh mv ac pt tk et lm pE pA : Nat → Int} {B : Int} {S : (Nat → Int) → Prop} (I : Pin has V E H T oG oT w0 w1 w2 w3 lo hi st ep hl hh mv ac pt tk et lm pE pA B S) (h t : Nat) (hhH : (h : Int) = H) (ht : (t : Int) = T) (m x : (Nat → Int)) (hS : S m) (hk : (m 0) = 6) (he : (m 3) = V) (hx : (x 0) = 7) (hxe : (x 3) = V) (hxt : (x 1) = T) (hxa : (x 4) ≤ B) (hxm : (x 5) ≤ B) (hT : 0 ≤ T) (hn : pgiv st h ∧ et h ≠ 0 ∧ st h = 3) : Q_n1 has V (V) (T) (-1) (H) (T) (V) (V) w2 w3 lo hi st ep hl hh mv ac pt tk et lm pE pA (B + 2) (fun m => S m ∨ m = x) := by
  have i_n1 := Pin_n1 I
  clear I
  simp only [Q_n1, pokM, pown, prcv, pgiv, ppge, pfu] at *
  grind
set_option maxHeartbeats 400000 in
theorem pt_done_n2 {has : Prop} {V E H T oG oT w0 w1 w2 w3 lo hi : Int} {st ep hl hh mv ac pt tk et lm pE pA : Nat → Int} {B : Int} {S : (Nat → Int) → Prop} (I : Pin has V E H T oG oT w0 w1 w2 w3 lo hi st ep hl hh mv ac pt tk et lm pE pA B S) (h t : Nat) (hhH : (h : Int) = H) (ht : (t : Int) = T) (m x : (Nat → Int)) (hS : S m) (hk : (m 0) = 6) (he : (m 3) = V) (hx : (x 0) = 7) (hxe : (x 3) = V) (hxt : (x 1) = T) (hxa : (x 4) ≤ B) (hxm : (x 5) ≤ B) (hT : 0 ≤ T) (hn : pgiv st h ∧ et h ≠ 0 ∧ st h = 3) : Q_n2 has V (V) (T) (-1) (H) (T) (V) (V) w2 w3 lo hi st ep hl hh mv ac pt tk et lm pE pA (B + 2) (fun m => S m ∨ m = x) := by
  have i_n2 := Pin_n2 I
  clear I
  simp only [Q_n2, pokM, pown, prcv, pgiv, ppge, pfu] at *
  grind
set_option maxHeartbeats 400000 in
theorem pt_done_n3 {has : Prop} {V E H T oG oT w0 w1 w2 w3 lo hi : Int} {st ep hl hh mv ac pt tk et lm pE pA : Nat → Int} {B : Int} {S : (Nat → Int) → Prop} (I : Pin has V E H T oG oT w0 w1 w2 w3 lo hi st ep hl hh mv ac pt tk et lm pE pA B S) (h t : Nat) (hhH : (h : Int) = H) (ht : (t : Int) = T) (m x : (Nat → Int)) (hS : S m) (hk : (m 0) = 6) (he : (m 3) = V) (hx : (x 0) = 7) (hxe : (x 3) = V) (hxt : (x 1) = T) (hxa : (x 4) ≤ B) (hxm : (x 5) ≤ B) (hT : 0 ≤ T) (hn : pgiv st h ∧ et h ≠ 0 ∧ st h = 3) : Q_n3 has V (V) (T) (-1) (H) (T) (V) (V) w2 w3 lo hi st ep hl hh mv ac pt tk et lm pE pA (B + 2) (fun m => S m ∨ m = x) := by
  have i_n3 := Pin_n3 I
  clear I
  simp only [Q_n3, pokM, pown, prcv, pgiv, ppge, pfu] at *
  grind
set_option maxHeartbeats 400000 in
theorem pt_done_n4 {has : Prop} {V E H T oG oT w0 w1 w2 w3 lo hi : Int} {st ep hl hh mv ac pt tk et lm pE pA : Nat → Int} {B : Int} {S : (Nat → Int) → Prop} (I : Pin has V E H T oG oT w0 w1 w2 w3 lo hi st ep hl hh mv ac pt tk et lm pE pA B S) (h t : Nat) (hhH : (h : Int) = H) (ht : (t : Int) = T) (m x : (Nat → Int)) (hS : S m) (hk : (m 0) = 6) (he : (m 3) = V) (hx : (x 0) = 7) (hxe : (x 3) = V) (hxt : (x 1) = T) (hxa : (x 4) ≤ B) (hxm : (x 5) ≤ B) (hT : 0 ≤ T) (hn : pgiv st h ∧ et h ≠ 0 ∧ st h = 3) : Q_n4 has V (V) (T) (-1) (H) (T) (V) (V) w2 w3 lo hi st ep hl hh mv ac pt tk et lm pE pA (B + 2) (fun m => S m ∨ m = x) := by
  have i_n4 := Pin_n4 I
  clear I
  simp only [Q_n4, pokM, pown, prcv, pgiv, ppge, pfu] at *
  grind
set_option maxHeartbeats 400000 in
theorem pt_done_n5 {has : Prop} {V E H T oG oT w0 w1 w2 w3 lo hi : Int} {st ep hl hh mv ac pt tk et lm pE pA : Nat → Int} {B : Int} {S : (Nat → Int) → Prop} (I : Pin has V E H T oG oT w0 w1 w2 w3 lo hi st ep hl hh mv ac pt tk et lm pE pA B S) (h t : Nat) (hhH : (h : Int) = H) (ht : (t : Int) = T) (m x : (Nat → Int)) (hS : S m) (hk : (m 0) = 6) (he : (m 3) = V) (hx : (x 0) = 7) (hxe : (x 3) = V) (hxt : (x 1) = T) (hxa : (x 4) ≤ B) (hxm : (x 5) ≤ B) (hT : 0 ≤ T) (hn : pgiv st h ∧ et h ≠ 0 ∧ st h = 3) : Q_n5 has V (V) (T) (-1) (H) (T) (V) (V) w2 w3 lo hi st ep hl hh mv ac pt tk et lm pE pA (B + 2) (fun m => S m ∨ m = x) := by
  have i_n5 := Pin_n5 I
  clear I
  simp only [Q_n5, pokM, pown, prcv, pgiv, ppge, pfu] at *
  grind
set_option maxHeartbeats 400000 in
theorem pt_done_n6 {has : Prop} {V E H T oG oT w0 w1 w2 w3 lo hi : Int} {st ep hl hh mv ac pt tk et lm pE pA : Nat → Int} {B : Int} {S : (Nat → Int) → Prop} (I : Pin has V E H T oG oT w0 w1 w2 w3 lo hi st ep hl hh mv ac pt tk et lm pE pA B S) (h t : Nat) (hhH : (h : Int) = H) (ht : (t : Int) = T) (m x : (Nat → Int)) (hS : S m) (hk : (m 0) = 6) (he : (m 3) = V) (hx : (x 0) = 7) (hxe : (x 3) = V) (hxt : (x 1) = T) (hxa : (x 4) ≤ B) (hxm : (x 5) ≤ B) (hT : 0 ≤ T) (hn : pgiv st h ∧ et h ≠ 0 ∧ st h = 3) : Q_n6 has V (V) (T) (-1) (H) (T) (V) (V) w2 w3 lo hi st ep hl hh mv ac pt tk et lm pE pA (B + 2) (fun m => S m ∨ m = x) := by
  have i_n6 := Pin_n6 I
  clear I
  simp only [Q_n6, pokM, pown, prcv, pgiv, ppge, pfu] at *
  grind
set_option maxHeartbeats 400000 in
theorem pt_done_n7 {has : Prop} {V E H T oG oT w0 w1 w2 w3 lo hi : Int} {st ep hl hh mv ac pt tk et lm pE pA : Nat → Int} {B : Int} {S : (Nat → Int) → Prop} (I : Pin has V E H T oG oT w0 w1 w2 w3 lo hi st ep hl hh mv ac pt tk et lm pE pA B S) (h t : Nat) (hhH : (h : Int) = H) (ht : (t : Int) = T) (m x : (Nat → Int)) (hS : S m) (hk : (m 0) = 6) (he : (m 3) = V) (hx : (x 0) = 7) (hxe : (x 3) = V) (hxt : (x 1) = T) (hxa : (x 4) ≤ B) (hxm : (x 5) ≤ B) (hT : 0 ≤ T) (hn : pgiv st h ∧ et h ≠ 0 ∧ st h = 3) : Q_n7 has V (V) (T) (-1) (H) (T) (V) (V) w2 w3 lo hi st ep hl hh mv ac pt tk et lm pE pA (B + 2) (fun m => S m ∨ m = x) := by
  have i_n7 := Pin_n7 I
  clear I
  simp only [Q_n7, pokM, pown, prcv, pgiv, ppge, pfu] at *
  grind
set_option maxHeartbeats 400000 in
theorem pt_done_o {has : Prop} {V E H T oG oT w0 w1 w2 w3 lo hi : Int} {st ep hl hh mv ac pt tk et lm pE pA : Nat → Int} {B : Int} {S : (Nat → Int) → Prop} (I : Pin has V E H T oG oT w0 w1 w2 w3 lo hi st ep hl hh mv ac pt tk et lm pE pA B S) (h t : Nat) (hhH : (h : Int) = H) (ht : (t : Int) = T) (m x : (Nat → Int)) (hS : S m) (hk : (m 0) = 6) (he : (m 3) = V) (hx : (x 0) = 7) (hxe : (x 3) = V) (hxt : (x 1) = T) (hxa : (x 4) ≤ B) (hxm : (x 5) ≤ B) (hT : 0 ≤ T) (hn : pgiv st h ∧ et h ≠ 0 ∧ st h = 3) : Q_o has V (V) (T) (-1) (H) (T) (V) (V) w2 w3 lo hi st ep hl hh mv ac pt tk et lm pE pA (B + 2) (fun m => S m ∨ m = x) := by
  have i_o := Pin_o I
  clear I
  simp only [Q_o, pokM, pown, prcv, pgiv, ppge, pfu] at *
  grind
set_option maxHeartbeats 400000 in
theorem pt_done_p {has : Prop} {V E H T oG oT w0 w1 w2 w3 lo hi : Int} {st ep hl hh mv ac pt tk et lm pE pA : Nat → Int} {B : Int} {S : (Nat → Int) → Prop} (I : Pin has V E H T oG oT w0 w1 w2 w3 lo hi st ep hl hh mv ac pt tk et lm pE pA B S) (h t : Nat) (hhH : (h : Int) = H) (ht : (t : Int) = T) (m x : (Nat → Int)) (hS : S m) (hk : (m 0) = 6) (he : (m 3) = V) (hx : (x 0) = 7) (hxe : (x 3) = V) (hxt : (x 1) = T) (hxa : (x 4) ≤ B) (hxm : (x 5) ≤ B) (hT : 0 ≤ T) (hn : pgiv st h ∧ et h ≠ 0 ∧ st h = 3) : Q_p has V (V) (T) (-1) (H) (T) (V) (V) w2 w3 lo hi st ep hl hh mv ac pt tk et lm pE pA (B + 2) (fun m => S m ∨ m = x) := by
  have i_p := Pin_p I
  clear I
  simp only [Q_p, pokM, pown, prcv, pgiv, ppge, pfu] at *
  grind
set_option maxHeartbeats 400000 in
theorem pt_done_q {has : Prop} {V E H T oG oT w0 w1 w2 w3 lo hi : Int} {st ep hl hh mv ac pt tk et lm pE pA : Nat → Int} {B : Int} {S : (Nat → Int) → Prop} (I : Pin has V E H T oG oT w0 w1 w2 w3 lo hi st ep hl hh mv ac pt tk et lm pE pA B S) (h t : Nat) (hhH : (h : Int) = H) (ht : (t : Int) = T) (m x : (Nat → Int)) (hS : S m) (hk : (m 0) = 6) (he : (m 3) = V) (hx : (x 0) = 7) (hxe : (x 3) = V) (hxt : (x 1) = T) (hxa : (x 4) ≤ B) (hxm : (x 5) ≤ B) (hT : 0 ≤ T) (hn : pgiv st h ∧ et h ≠ 0 ∧ st h = 3) : Q_q has V (V) (T) (-1) (H) (T) (V) (V) w2 w3 lo hi st ep hl hh mv ac pt tk et lm pE pA (B + 2) (fun m => S m ∨ m = x) := by
  have i_v0 := Pin_v0 I
  have i_a := Pin_a I
  have i_b := Pin_b I
  have i_c := Pin_c I
  have i_d := Pin_d I
  have i_e := Pin_e I
  have i_q := Pin_q I
  clear I
  simp only [Q_a, Q_b, Q_c, Q_d, Q_e, Q_q, Q_v0, pokM, pown, prcv, pgiv, ppge, pfu] at *
  grind
set_option maxHeartbeats 400000 in
theorem pt_done_q2 {has : Prop} {V E H T oG oT w0 w1 w2 w3 lo hi : Int} {st ep hl hh mv ac pt tk et lm pE pA : Nat → Int} {B : Int} {S : (Nat → Int) → Prop} (I : Pin has V E H T oG oT w0 w1 w2 w3 lo hi st ep hl hh mv ac pt tk et lm pE pA B S) (h t : Nat) (hhH : (h : Int) = H) (ht : (t : Int) = T) (m x : (Nat → Int)) (hS : S m) (hk : (m 0) = 6) (he : (m 3) = V) (hx : (x 0) = 7) (hxe : (x 3) = V) (hxt : (x 1) = T) (hxa : (x 4) ≤ B) (hxm : (x 5) ≤ B) (hT : 0 ≤ T) (hn : pgiv st h ∧ et h ≠ 0 ∧ st h = 3) : Q_q2 has V (V) (T) (-1) (H) (T) (V) (V) w2 w3 lo hi st ep hl hh mv ac pt tk et lm pE pA (B + 2) (fun m => S m ∨ m = x) := by
  have i_q2 := Pin_q2 I
  clear I
  simp only [Q_q2, pokM, pown, prcv, pgiv, ppge, pfu] at *
  grind
set_option maxHeartbeats 400000 in
theorem pt_done_q3 {has : Prop} {V E H T oG oT w0 w1 w2 w3 lo hi : Int} {st ep hl hh mv ac pt tk et lm pE pA : Nat → Int} {B : Int} {S : (Nat → Int) → Prop} (I : Pin has V E H T oG oT w0 w1 w2 w3 lo hi st ep hl hh mv ac pt tk et lm pE pA B S) (h t : Nat) (hhH : (h : Int) = H) (ht : (t : Int) = T) (m x : (Nat → Int)) (hS : S m) (hk : (m 0) = 6) (he : (m 3) = V) (hx : (x 0) = 7) (hxe : (x 3) = V) (hxt : (x 1) = T) (hxa : (x 4) ≤ B) (hxm : (x 5) ≤ B) (hT : 0 ≤ T) (hn : pgiv st h ∧ et h ≠ 0 ∧ st h = 3) : Q_q3 has V (V) (T) (-1) (H) (T) (V) (V) w2 w3 lo hi st ep hl hh mv ac pt tk et lm pE pA (B + 2) (fun m => S m ∨ m = x) := by
  have i_q3 := Pin_q3 I
  clear I
  simp only [Q_q3, pokM, pown, prcv, pgiv, ppge, pfu] at *
  grind
set_option maxHeartbeats 400000 in
theorem pt_done_w {has : Prop} {V E H T oG oT w0 w1 w2 w3 lo hi : Int} {st ep hl hh mv ac pt tk et lm pE pA : Nat → Int} {B : Int} {S : (Nat → Int) → Prop} (I : Pin has V E H T oG oT w0 w1 w2 w3 lo hi st ep hl hh mv ac pt tk et lm pE pA B S) (h t : Nat) (hhH : (h : Int) = H) (ht : (t : Int) = T) (m x : (Nat → Int)) (hS : S m) (hk : (m 0) = 6) (he : (m 3) = V) (hx : (x 0) = 7) (hxe : (x 3) = V) (hxt : (x 1) = T) (hxa : (x 4) ≤ B) (hxm : (x 5) ≤ B) (hT : 0 ≤ T) (hn : pgiv st h ∧ et h ≠ 0 ∧ st h = 3) : Q_w has V (V) (T) (-1) (H) (T) (V) (V) w2 w3 lo hi st ep hl hh mv ac pt tk et lm pE pA (B + 2) (fun m => S m ∨ m = x) := by
  have i_v0 := Pin_v0 I
  have i_a := Pin_a I
  have i_b := Pin_b I
  have i_c := Pin_c I
  have i_d := Pin_d I
  have i_e := Pin_e I
  have i_q := Pin_q I
  have i_w := Pin_w I
  clear I
  simp only [Q_a, Q_b, Q_c, Q_d, Q_e, Q_q, Q_v0, Q_w, pokM, pown, prcv, pgiv, ppge, pfu] at *
  grind
theorem pt_done {has : Prop} {V E H T oG oT w0 w1 w2 w3 lo hi : Int} {st ep hl hh mv ac pt tk et lm pE pA : Nat → Int} {B : Int} {S : (Nat → Int) → Prop} (I : Pin has V E H T oG oT w0 w1 w2 w3 lo hi st ep hl hh mv ac pt tk et lm pE pA B S) (h t : Nat) (hhH : (h : Int) = H) (ht : (t : Int) = T) (m x : (Nat → Int)) (hS : S m) (hk : (m 0) = 6) (he : (m 3) = V) (hx : (x 0) = 7) (hxe : (x 3) = V) (hxt : (x 1) = T) (hxa : (x 4) ≤ B) (hxm : (x 5) ≤ B) : Pin has V (V) (T) (-1) (H) (T) (V) (V) w2 w3 lo hi st ep hl hh mv ac pt tk et lm pE pA (B + 2) (fun m => S m ∨ m = x) := by
  have hT := pt_done_hT_d I h t hhH ht m x hS hk he hx hxe hxt hxa hxm 
  have hn := pt_done_hn_d I h t hhH ht m x hS hk he hx hxe hxt hxa hxm hT
  exact ⟨pt_done_v0 I h t hhH ht m x hS hk he hx hxe hxt hxa hxm hT hn, pt_done_a I h t hhH ht m x hS hk he hx hxe hxt hxa hxm hT hn, pt_done_b I h t hhH ht m x hS hk he hx hxe hxt hxa hxm hT hn, pt_done_c I h t hhH ht m x hS hk he hx hxe hxt hxa hxm hT hn, pt_done_d I h t hhH ht m x hS hk he hx hxe hxt hxa hxm hT hn, pt_done_e I h t hhH ht m x hS hk he hx hxe hxt hxa hxm hT hn, pt_done_f I h t hhH ht m x hS hk he hx hxe hxt hxa hxm hT hn, pt_done_f2 I h t hhH ht m x hS hk he hx hxe hxt hxa hxm hT hn, pt_done_f3 I h t hhH ht m x hS hk he hx hxe hxt hxa hxm hT hn, pt_done_g I h t hhH ht m x hS hk he hx hxe hxt hxa hxm hT hn, pt_done_g0 I h t hhH ht m x hS hk he hx hxe hxt hxa hxm hT hn, pt_done_g1 I h t hhH ht m x hS hk he hx hxe hxt hxa hxm hT hn, pt_done_g2 I h t hhH ht m x hS hk he hx hxe hxt hxa hxm hT hn, pt_done_h7 I h t hhH ht m x hS hk he hx hxe hxt hxa hxm hT hn, pt_done_h9 I h t hhH ht m x hS hk he hx hxe hxt hxa hxm hT hn, pt_done_h10 I h t hhH ht m x hS hk he hx hxe hxt hxa hxm hT hn, pt_done_h11 I h t hhH ht m x hS hk he hx hxe hxt hxa hxm hT hn, pt_done_h12 I h t hhH ht m x hS hk he hx hxe hxt hxa hxm hT hn, pt_done_k1 I h t hhH ht m x hS hk he hx hxe hxt hxa hxm hT hn, pt_done_k2 I h t hhH ht m x hS hk he hx hxe hxt hxa hxm hT hn, pt_done_k8 I h t hhH ht m x hS hk he hx hxe hxt hxa hxm hT hn, pt_done_l4 I h t hhH ht m x hS hk he hx hxe hxt hxa hxm hT hn, pt_done_l5 I h t hhH ht m x hS hk he hx hxe hxt hxa hxm hT hn, pt_done_l3 I h t hhH ht m x hS hk he hx hxe hxt hxa hxm hT hn, pt_done_m1 I h t hhH ht m x hS hk he hx hxe hxt hxa hxm hT hn, pt_done_m2 I h t hhH ht m x hS hk he hx hxe hxt hxa hxm hT hn, pt_done_m3 I h t hhH ht m x hS hk he hx hxe hxt hxa hxm hT hn, pt_done_n0 I h t hhH ht m x hS hk he hx hxe hxt hxa hxm hT hn, pt_done_n1 I h t hhH ht m x hS hk he hx hxe hxt hxa hxm hT hn, pt_done_n2 I h t hhH ht m x hS hk he hx hxe hxt hxa hxm hT hn, pt_done_n3 I h t hhH ht m x hS hk he hx hxe hxt hxa hxm hT hn, pt_done_n4 I h t hhH ht m x hS hk he hx hxe hxt hxa hxm hT hn, pt_done_n5 I h t hhH ht m x hS hk he hx hxe hxt hxa hxm hT hn, pt_done_n6 I h t hhH ht m x hS hk he hx hxe hxt hxa hxm hT hn, pt_done_n7 I h t hhH ht m x hS hk he hx hxe hxt hxa hxm hT hn, pt_done_o I h t hhH ht m x hS hk he hx hxe hxt hxa hxm hT hn, pt_done_p I h t hhH ht m x hS hk he hx hxe hxt hxa hxm hT hn, pt_done_q I h t hhH ht m x hS hk he hx hxe hxt hxa hxm hT hn, pt_done_q2 I h t hhH ht m x hS hk he hx hxe hxt hxa hxm hT hn, pt_done_q3 I h t hhH ht m x hS hk he hx hxe hxt hxa hxm hT hn, pt_done_w I h t hhH ht m x hS hk he hx hxe hxt hxa hxm hT hn⟩
