set_option maxHeartbeats 400000 in
theorem pt_move_hE_d {has : Prop} {V E H T oG oT w0 w1 w2 w3 lo hi : Int} {st ep hl hh mv ac pt tk et lm pE pA : Nat → Int} {B : Int} {S : (Nat → Int) → Prop} (I : Pin has V E H T oG oT w0 w1 w2 w3 lo hi st ep hl hh mv ac pt tk et lm pE pA B S) (h : Nat) (t : Int) (hhH : (h : Int) = H) (hT : T < 0) (hw : w0 < 0 ∧ w1 < 0 ∧ w2 < 0 ∧ w3 < 0) (hs : has) (hst : st h = 1) (ht : 0 ≤ t) (htH : t ≠ H)  : ep h = E ∧ V ≤ E := by
  have i_d := Pin_d I
  have i_v0 := Pin_v0 I
  clear I
  try simp only [Q_d, Q_v0, pown, prcv, pgiv, ppge, pfu] at *
  grind
set_option maxHeartbeats 400000 in
theorem pt_move_hO_d {has : Prop} {V E H T oG oT w0 w1 w2 w3 lo hi : Int} {st ep hl hh mv ac pt tk et lm pE pA : Nat → Int} {B : Int} {S : (Nat → Int) → Prop} (I : Pin has V E H T oG oT w0 w1 w2 w3 lo hi st ep hl hh mv ac pt tk et lm pE pA B S) (h : Nat) (t : Int) (hhH : (h : Int) = H) (hT : T < 0) (hw : w0 < 0 ∧ w1 < 0 ∧ w2 < 0 ∧ w3 < 0) (hs : has) (hst : st h = 1) (ht : 0 ≤ t) (htH : t ≠ H) (hE : ep h = E ∧ V ≤ E) : ∀ i : Nat, (i : Int) ≠ H → ¬ pown st i := by
  have i_b := Pin_b I
  have i_v0 := Pin_v0 I
  clear I
  try simp only [Q_b, Q_v0, pown, prcv, pgiv, ppge, pfu] at *
  grind
set_option maxHeartbeats 400000 in
theorem pt_move_hiu_d {has : Prop} {V E H T oG oT w0 w1 w2 w3 lo hi : Int} {st ep hl hh mv ac pt tk et lm pE pA : Nat → Int} {B : Int} {S : (Nat → Int) → Prop} (I : Pin has V E H T oG oT w0 w1 w2 w3 lo hi st ep hl hh mv ac pt tk et lm pE pA B S) (h : Nat) (t : Int) (hhH : (h : Int) = H) (hT : T < 0) (hw : w0 < 0 ∧ w1 < 0 ∧ w2 < 0 ∧ w3 < 0) (hs : has) (hst : st h = 1) (ht : 0 ≤ t) (htH : t ≠ H) (hE : ep h = E ∧ V ≤ E) (hO : ∀ i : Nat, (i : Int) ≠ H → ¬ pown st i) : ∀ i : Nat, (i : Int) = H → i = h := by

  clear I
  try simp only [pokM, pown, prcv, pgiv, ppge, pfu] at *
  grind
set_option maxHeartbeats 400000 in
theorem pt_move_v0 {has : Prop} {V E H T oG oT w0 w1 w2 w3 lo hi : Int} {st ep hl hh mv ac pt tk et lm pE pA : Nat → Int} {B : Int} {S : (Nat → Int) → Prop} (I : Pin has V E H T oG oT w0 w1 w2 w3 lo hi st ep hl hh mv ac pt tk et lm pE pA B S) (h : Nat) (t : Int) (hhH : (h : Int) = H) (hT : T < 0) (hw : w0 < 0 ∧ w1 < 0 ∧ w2 < 0 ∧ w3 < 0) (hs : has) (hst : st h = 1) (ht : 0 ≤ t) (htH : t ≠ H) (hE : ep h = E ∧ V ≤ E) (hO : ∀ i : Nat, (i : Int) ≠ H → ¬ pown st i) (hiu : ∀ i : Nat, (i : Int) = H → i = h) : Q_v0 has (E + 1) E H (t) oG oT w0 w1 w2 w3 lo hi st ep hl hh mv ac pt tk et lm pE pA (B + 2) S := by
  have i_v0 := Pin_v0 I
  clear I
  simp only [Q_v0, pokM, pown, prcv, pgiv, ppge, pfu] at *
  grind
set_option maxHeartbeats 400000 in
theorem pt_move_a {has : Prop} {V E H T oG oT w0 w1 w2 w3 lo hi : Int} {st ep hl hh mv ac pt tk et lm pE pA : Nat → Int} {B : Int} {S : (Nat → Int) → Prop} (I : Pin has V E H T oG oT w0 w1 w2 w3 lo hi st ep hl hh mv ac pt tk et lm pE pA B S) (h : Nat) (t : Int) (hhH : (h : Int) = H) (hT : T < 0) (hw : w0 < 0 ∧ w1 < 0 ∧ w2 < 0 ∧ w3 < 0) (hs : has) (hst : st h = 1) (ht : 0 ≤ t) (htH : t ≠ H) (hE : ep h = E ∧ V ≤ E) (hO : ∀ i : Nat, (i : Int) ≠ H → ¬ pown st i) (hiu : ∀ i : Nat, (i : Int) = H → i = h) : Q_a has (E + 1) E H (t) oG oT w0 w1 w2 w3 lo hi st ep hl hh mv ac pt tk et lm pE pA (B + 2) S := by
  have i_a := Pin_a I
  clear I
  simp only [Q_a, pokM, pown, prcv, pgiv, ppge, pfu] at *
  grind
set_option maxHeartbeats 400000 in
theorem pt_move_b {has : Prop} {V E H T oG oT w0 w1 w2 w3 lo hi : Int} {st ep hl hh mv ac pt tk et lm pE pA : Nat → Int} {B : Int} {S : (Nat → Int) → Prop} (I : Pin has V E H T oG oT w0 w1 w2 w3 lo hi st ep hl hh mv ac pt tk et lm pE pA B S) (h : Nat) (t : Int) (hhH : (h : Int) = H) (hT : T < 0) (hw : w0 < 0 ∧ w1 < 0 ∧ w2 < 0 ∧ w3 < 0) (hs : has) (hst : st h = 1) (ht : 0 ≤ t) (htH : t ≠ H) (hE : ep h = E ∧ V ≤ E) (hO : ∀ i : Nat, (i : Int) ≠ H → ¬ pown st i) (hiu : ∀ i : Nat, (i : Int) = H → i = h) : Q_b has (E + 1) E H (t) oG oT w0 w1 w2 w3 lo hi st ep hl hh mv ac pt tk et lm pE pA (B + 2) S := by
  have i_b := Pin_b I
  clear I
  simp only [Q_b, pokM, pown, prcv, pgiv, ppge, pfu] at *
  grind
set_option maxHeartbeats 400000 in
theorem pt_move_c {has : Prop} {V E H T oG oT w0 w1 w2 w3 lo hi : Int} {st ep hl hh mv ac pt tk et lm pE pA : Nat → Int} {B : Int} {S : (Nat → Int) → Prop} (I : Pin has V E H T oG oT w0 w1 w2 w3 lo hi st ep hl hh mv ac pt tk et lm pE pA B S) (h : Nat) (t : Int) (hhH : (h : Int) = H) (hT : T < 0) (hw : w0 < 0 ∧ w1 < 0 ∧ w2 < 0 ∧ w3 < 0) (hs : has) (hst : st h = 1) (ht : 0 ≤ t) (htH : t ≠ H) (hE : ep h = E ∧ V ≤ E) (hO : ∀ i : Nat, (i : Int) ≠ H → ¬ pown st i) (hiu : ∀ i : Nat, (i : Int) = H → i = h) : Q_c has (E + 1) E H (t) oG oT w0 w1 w2 w3 lo hi st ep hl hh mv ac pt tk et lm pE pA (B + 2) S := by
  have i_c := Pin_c I
  clear I
  simp only [Q_c, pokM, pown, prcv, pgiv, ppge, pfu] at *
  grind
set_option maxHeartbeats 400000 in
theorem pt_move_d {has : Prop} {V E H T oG oT w0 w1 w2 w3 lo hi : Int} {st ep hl hh mv ac pt tk et lm pE pA : Nat → Int} {B : Int} {S : (Nat → Int) → Prop} (I : Pin has V E H T oG oT w0 w1 w2 w3 lo hi st ep hl hh mv ac pt tk et lm pE pA B S) (h : Nat) (t : Int) (hhH : (h : Int) = H) (hT : T < 0) (hw : w0 < 0 ∧ w1 < 0 ∧ w2 < 0 ∧ w3 < 0) (hs : has) (hst : st h = 1) (ht : 0 ≤ t) (htH : t ≠ H) (hE : ep h = E ∧ V ≤ E) (hO : ∀ i : Nat, (i : Int) ≠ H → ¬ pown st i) (hiu : ∀ i : Nat, (i : Int) = H → i = h) : Q_d has (E + 1) E H (t) oG oT w0 w1 w2 w3 lo hi st ep hl hh mv ac pt tk et lm pE pA (B + 2) S := by
  have i_d := Pin_d I
  clear I
  simp only [Q_d, pokM, pown, prcv, pgiv, ppge, pfu] at *
  grind
set_option maxHeartbeats 400000 in
theorem pt_move_e {has : Prop} {V E H T oG oT w0 w1 w2 w3 lo hi : Int} {st ep hl hh mv ac pt tk et lm pE pA : Nat → Int} {B : Int} {S : (Nat → Int) → Prop} (I : Pin has V E H T oG oT w0 w1 w2 w3 lo hi st ep hl hh mv ac pt tk et lm pE pA B S) (h : Nat) (t : Int) (hhH : (h : Int) = H) (hT : T < 0) (hw : w0 < 0 ∧ w1 < 0 ∧ w2 < 0 ∧ w3 < 0) (hs : has) (hst : st h = 1) (ht : 0 ≤ t) (htH : t ≠ H) (hE : ep h = E ∧ V ≤ E) (hO : ∀ i : Nat, (i : Int) ≠ H → ¬ pown st i) (hiu : ∀ i : Nat, (i : Int) = H → i = h) : Q_e has (E + 1) E H (t) oG oT w0 w1 w2 w3 lo hi st ep hl hh mv ac pt tk et lm pE pA (B + 2) S := by
  have i_e := Pin_e I
  clear I
  simp only [Q_e, pokM, pown, prcv, pgiv, ppge, pfu] at *
  grind
set_option maxHeartbeats 400000 in
theorem pt_move_f {has : Prop} {V E H T oG oT w0 w1 w2 w3 lo hi : Int} {st ep hl hh mv ac pt tk et lm pE pA : Nat → Int} {B : Int} {S : (Nat → Int) → Prop} (I : Pin has V E H T oG oT w0 w1 w2 w3 lo hi st ep hl hh mv ac pt tk et lm pE pA B S) (h : Nat) (t : Int) (hhH : (h : Int) = H) (hT : T < 0) (hw : w0 < 0 ∧ w1 < 0 ∧ w2 < 0 ∧ w3 < 0) (hs : has) (hst : st h = 1) (ht : 0 ≤ t) (htH : t ≠ H) (hE : ep h = E ∧ V ≤ E) (hO : ∀ i : Nat, (i : Int) ≠ H → ¬ pown st i) (hiu : ∀ i : Nat, (i : Int) = H → i = h) : Q_f has (E + 1) E H (t) oG oT w0 w1 w2 w3 lo hi st ep hl hh mv ac pt tk et lm pE pA (B + 2) S := by
  have i_f := Pin_f I
  clear I
  simp only [Q_f, pokM, pown, prcv, pgiv, ppge, pfu] at *
  grind
set_option maxHeartbeats 400000 in
theorem pt_move_f2 {has : Prop} {V E H T oG oT w0 w1 w2 w3 lo hi : Int} {st ep hl hh mv ac pt tk et lm pE pA : Nat → Int} {B : Int} {S : (Nat → Int) → Prop} (I : Pin has V E H T oG oT w0 w1 w2 w3 lo hi st ep hl hh mv ac pt tk et lm pE pA B S) (h : Nat) (t : Int) (hhH : (h : Int) = H) (hT : T < 0) (hw : w0 < 0 ∧ w1 < 0 ∧ w2 < 0 ∧ w3 < 0) (hs : has) (hst : st h = 1) (ht : 0 ≤ t) (htH : t ≠ H) (hE : ep h = E ∧ V ≤ E) (hO : ∀ i : Nat, (i : Int) ≠ H → ¬ pown st i) (hiu : ∀ i : Nat, (i : Int) = H → i = h) : Q_f2 has (E + 1) E H (t) oG oT w0 w1 w2 w3 lo hi st ep hl hh mv ac pt tk et lm pE pA (B + 2) S := by
  have i_f2 := Pin_f2 I
  clear I
  simp only [Q_f2, pokM, pown, prcv, pgiv, ppge, pfu] at *
  grind
set_option maxHeartbeats 400000 in
theorem pt_move_f3 {has : Prop} {V E H T oG oT w0 w1 w2 w3 lo hi : Int} {st ep hl hh mv ac pt tk et lm pE pA : Nat → Int} {B : Int} {S : (Nat → Int) → Prop} (I : Pin has V E H T oG oT w0 w1 w2 w3 lo hi st ep hl hh mv ac pt tk et lm pE pA B S) (h : Nat) (t : Int) (hhH : (h : Int) = H) (hT : T < 0) (hw : w0 < 0 ∧ w1 < 0 ∧ w2 < 0 ∧ w3 < 0) (hs : has) (hst : st h = 1) (ht : 0 ≤ t) (htH : t ≠ H) (hE : ep h = E ∧ V ≤ E) (hO : ∀ i : Nat, (i : Int) ≠ H → ¬ pown st i) (hiu : ∀ i : Nat, (i : Int) = H → i = h) : Q_f3 has (E + 1) E H (t) oG oT w0 w1 w2 w3 lo hi st ep hl hh mv ac pt tk et lm pE pA (B + 2) S := by
  have i_f3 := Pin_f3 I
  clear I
  simp only [Q_f3, pokM, pown, prcv, pgiv, ppge, pfu] at *
  grind
set_option maxHeartbeats 400000 in
theorem pt_move_g {has : Prop} {V E H T oG oT w0 w1 w2 w3 lo hi : Int} {st ep hl hh mv ac pt tk et lm pE pA : Nat → Int} {B : Int} {S : (Nat → Int) → Prop} (I : Pin has V E H T oG oT w0 w1 w2 w3 lo hi st ep hl hh mv ac pt tk et lm pE pA B S) (h : Nat) (t : Int) (hhH : (h : Int) = H) (hT : T < 0) (hw : w0 < 0 ∧ w1 < 0 ∧ w2 < 0 ∧ w3 < 0) (hs : has) (hst : st h = 1) (ht : 0 ≤ t) (htH : t ≠ H) (hE : ep h = E ∧ V ≤ E) (hO : ∀ i : Nat, (i : Int) ≠ H → ¬ pown st i) (hiu : ∀ i : Nat, (i : Int) = H → i = h) : Q_g has (E + 1) E H (t) oG oT w0 w1 w2 w3 lo hi st ep hl hh mv ac pt tk et lm pE pA (B + 2) S := by
  have i_g := Pin_g I
  clear I
  simp only [Q_g, pokM, pown, prcv, pgiv, ppge, pfu] at *
  grind
set_option maxHeartbeats 400000 in
theorem pt_move_g0 {has : Prop} {V E H T oG oT w0 w1 w2 w3 lo hi : Int} {st ep hl hh mv ac pt tk et lm pE pA : Nat → Int} {B : Int} {S : (Nat → Int) → Prop} (I : Pin has V E H T oG oT w0 w1 w2 w3 lo hi st ep hl hh mv ac pt tk et lm pE pA B S) (h : Nat) (t : Int) (hhH : (h : Int) = H) (hT : T < 0) (hw : w0 < 0 ∧ w1 < 0 ∧ w2 < 0 ∧ w3 < 0) (hs : has) (hst : st h = 1) (ht : 0 ≤ t) (htH : t ≠ H) (hE : ep h = E ∧ V ≤ E) (hO : ∀ i : Nat, (i : Int) ≠ H → ¬ pown st i) (hiu : ∀ i : Nat, (i : Int) = H → i = h) : Q_g0 has (E + 1) E H (t) oG oT w0 w1 w2 w3 lo hi st ep hl hh mv ac pt tk et lm pE pA (B + 2) S := by
  have i_v0 := Pin_v0 I
  have i_a := Pin_a I
  have i_b := Pin_b I
  have i_c := Pin_c I
  have i_d := Pin_d I
  have i_e := Pin_e I
  have i_g0 := Pin_g0 I
  have i_q := Pin_q I
  clear I
  simp only [Q_a, Q_b, Q_c, Q_d, Q_e, Q_g0, Q_q, Q_v0, pokM, pown, prcv, pgiv, ppge, pfu] at *
  grind
set_option maxHeartbeats 400000 in
theorem pt_move_g1 {has : Prop} {V E H T oG oT w0 w1 w2 w3 lo hi : Int} {st ep hl hh mv ac pt tk et lm pE pA : Nat → Int} {B : Int} {S : (Nat → Int) → Prop} (I : Pin has V E H T oG oT w0 w1 w2 w3 lo hi st ep hl hh mv ac pt tk et lm pE pA B S) (h : Nat) (t : Int) (hhH : (h : Int) = H) (hT : T < 0) (hw : w0 < 0 ∧ w1 < 0 ∧ w2 < 0 ∧ w3 < 0) (hs : has) (hst : st h = 1) (ht : 0 ≤ t) (htH : t ≠ H) (hE : ep h = E ∧ V ≤ E) (hO : ∀ i : Nat, (i : Int) ≠ H → ¬ pown st i) (hiu : ∀ i : Nat, (i : Int) = H → i = h) : Q_g1 has (E + 1) E H (t) oG oT w0 w1 w2 w3 lo hi st ep hl hh mv ac pt tk et lm pE pA (B + 2) S := by
  have i_v0 := Pin_v0 I
  have i_a := Pin_a I
  have i_b := Pin_b I
  have i_c := Pin_c I
  have i_d := Pin_d I
  have i_e := Pin_e I
  have i_g1 := Pin_g1 I
  have i_q := Pin_q I
  clear I
  simp only [Q_a, Q_b, Q_c, Q_d, Q_e, Q_g1, Q_q, Q_v0, pokM, pown, prcv, pgiv, ppge, pfu] at *
  grind
set_option maxHeartbeats 400000 in
theorem pt_move_g2 {has : Prop} {V E H T oG oT w0 w1 w2 w3 lo hi : Int} {st ep hl hh mv ac pt tk et lm pE pA : Nat → Int} {B : Int} {S : (Nat → Int) → Prop} (I : Pin has V E H T oG oT w0 w1 w2 w3 lo hi st ep hl hh mv ac pt tk et lm pE pA B S) (h : Nat) (t : Int) (hhH : (h : Int) = H) (hT : T < 0) (hw : w0 < 0 ∧ w1 < 0 ∧ w2 < 0 ∧ w3 < 0) (hs : has) (hst : st h = 1) (ht : 0 ≤ t) (htH : t ≠ H) (hE : ep h = E ∧ V ≤ E) (hO : ∀ i : Nat, (i : Int) ≠ H → ¬ pown st i) (hiu : ∀ i : Nat, (i : Int) = H → i = h) : Q_g2 has (E + 1) E H (t) oG oT w0 w1 w2 w3 lo hi st ep hl hh mv ac pt tk et lm pE pA (B + 2) S := by
  have i_v0 := Pin_v0 I
  have i_a := Pin_a I
  have i_b := Pin_b I
  have i_c := Pin_c I
  have i_d := Pin_d I
  have i_e := Pin_e I
  have i_g2 := Pin_g2 I
  have i_q := Pin_q I
  clear I
  simp only [Q_a, Q_b, Q_c, Q_d, Q_e, Q_g2, Q_q, Q_v0, pokM, pown, prcv, pgiv, ppge, pfu] at *
  grind
set_option maxHeartbeats 400000 in
theorem pt_move_h7 {has : Prop} {V E H T oG oT w0 w1 w2 w3 lo hi : Int} {st ep hl hh mv ac pt tk et lm pE pA : Nat → Int} {B : Int} {S : (Nat → Int) → Prop} (I : Pin has V E H T oG oT w0 w1 w2 w3 lo hi st ep hl hh mv ac pt tk et lm pE pA B S) (h : Nat) (t : Int) (hhH : (h : Int) = H) (hT : T < 0) (hw : w0 < 0 ∧ w1 < 0 ∧ w2 < 0 ∧ w3 < 0) (hs : has) (hst : st h = 1) (ht : 0 ≤ t) (htH : t ≠ H) (hE : ep h = E ∧ V ≤ E) (hO : ∀ i : Nat, (i : Int) ≠ H → ¬ pown st i) (hiu : ∀ i : Nat, (i : Int) = H → i = h) : Q_h7 has (E + 1) E H (t) oG oT w0 w1 w2 w3 lo hi st ep hl hh mv ac pt tk et lm pE pA (B + 2) S := by
  have i_v0 := Pin_v0 I
  have i_a := Pin_a I
  have i_b := Pin_b I
  have i_c := Pin_c I
  have i_d := Pin_d I
  have i_e := Pin_e I
  have i_f := Pin_f I
  have i_f2 := Pin_f2 I
  have i_f3 := Pin_f3 I
  have i_g := Pin_g I
  have i_h7 := Pin_h7 I
  have i_o := Pin_o I
  have i_q := Pin_q I
  clear I
  simp only [Q_a, Q_b, Q_c, Q_d, Q_e, Q_f, Q_f2, Q_f3, Q_g, Q_h7, Q_o, Q_q, Q_v0, pokM, pown, prcv, pgiv, ppge, pfu] at *
  grind
set_option maxHeartbeats 400000 in
theorem pt_move_h9 {has : Prop} {V E H T oG oT w0 w1 w2 w3 lo hi : Int} {st ep hl hh mv ac pt tk et lm pE pA : Nat → Int} {B : Int} {S : (Nat → Int) → Prop} (I : Pin has V E H T oG oT w0 w1 w2 w3 lo hi st ep hl hh mv ac pt tk et lm pE pA B S) (h : Nat) (t : Int) (hhH : (h : Int) = H) (hT : T < 0) (hw : w0 < 0 ∧ w1 < 0 ∧ w2 < 0 ∧ w3 < 0) (hs : has) (hst : st h = 1) (ht : 0 ≤ t) (htH : t ≠ H) (hE : ep h = E ∧ V ≤ E) (hO : ∀ i : Nat, (i : Int) ≠ H → ¬ pown st i) (hiu : ∀ i : Nat, (i : Int) = H → i = h) : Q_h9 has (E + 1) E H (t) oG oT w0 w1 w2 w3 lo hi st ep hl hh mv ac pt tk et lm pE pA (B + 2) S := by
  have i_v0 := Pin_v0 I
  have i_a := Pin_a I
  have i_b := Pin_b I
  have i_c := Pin_c I
  have i_d := Pin_d I
  have i_e := Pin_e I
  have i_f := Pin_f I
  have i_f2 := Pin_f2 I
  have i_f3 := Pin_f3 I
  have i_g := Pin_g I
  have i_h9 := Pin_h9 I
  have i_o := Pin_o I
  have i_q := Pin_q I
  clear I
  simp only [Q_a, Q_b, Q_c, Q_d, Q_e, Q_f, Q_f2, Q_f3, Q_g, Q_h9, Q_o, Q_q, Q_v0, pokM, pown, prcv, pgiv, ppge, pfu] at *
  grind
set_option maxHeartbeats 400000 in
theorem pt_move_h10 {has : Prop} {V E H T oG oT w0 w1 w2 w3 lo hi : Int} {st ep hl hh mv ac pt tk et lm pE pA : Nat → Int} {B : Int} {S : (Nat → Int) → Prop} (I : Pin has V E H T oG oT w0 w1 w2 w3 lo hi st ep hl hh mv ac pt tk et lm pE pA B S) (h : Nat) (t : Int) (hhH : (h : Int) = H) (hT : T < 0) (hw : w0 < 0 ∧ w1 < 0 ∧ w2 < 0 ∧ w3 < 0) (hs : has) (hst : st h = 1) (ht : 0 ≤ t) (htH : t ≠ H) (hE : ep h = E ∧ V ≤ E) (hO : ∀ i : Nat, (i : Int) ≠ H → ¬ pown st i) (hiu : ∀ i : Nat, (i : Int) = H → i = h) : Q_h10 has (E + 1) E H (t) oG oT w0 w1 w2 w3 lo hi st ep hl hh mv ac pt tk et lm pE pA (B + 2) S := by
  have i_v0 := Pin_v0 I
  have i_a := Pin_a I
  have i_b := Pin_b I
  have i_c := Pin_c I
  have i_d := Pin_d I
  have i_e := Pin_e I
  have i_f := Pin_f I
  have i_f2 := Pin_f2 I
  have i_f3 := Pin_f3 I
  have i_g := Pin_g I
  have i_h10 := Pin_h10 I
  have i_o := Pin_o I
  have i_q := Pin_q I
  clear I
  simp only [Q_a, Q_b, Q_c, Q_d, Q_e, Q_f, Q_f2, Q_f3, Q_g, Q_h10, Q_o, Q_q, Q_v0, pokM, pown, prcv, pgiv, ppge, pfu] at *
  grind
set_option maxHeartbeats 400000 in
theorem pt_move_h11 {has : Prop} {V E H T oG oT w0 w1 w2 w3 lo hi : Int} {st ep hl hh mv ac pt tk et lm pE pA : Nat → Int} {B : Int} {S : (Nat → Int) → Prop} (I : Pin has V E H T oG oT w0 w1 w2 w3 lo hi st ep hl hh mv ac pt tk et lm pE pA B S) (h : Nat) (t : Int) (hhH : (h : Int) = H) (hT : T < 0) (hw : w0 < 0 ∧ w1 < 0 ∧ w2 < 0 ∧ w3 < 0) (hs : has) (hst : st h = 1) (ht : 0 ≤ t) (htH : t ≠ H) (hE : ep h = E ∧ V ≤ E) (hO : ∀ i : Nat, (i : Int) ≠ H → ¬ pown st i) (hiu : ∀ i : Nat, (i : Int) = H → i = h) : Q_h11 has (E + 1) E H (t) oG oT w0 w1 w2 w3 lo hi st ep hl hh mv ac pt tk et lm pE pA (B + 2) S := by
  have i_v0 := Pin_v0 I
  have i_a := Pin_a I
  have i_b := Pin_b I
  have i_c := Pin_c I
  have i_d := Pin_d I
  have i_e := Pin_e I
  have i_f := Pin_f I
  have i_f2 := Pin_f2 I
  have i_f3 := Pin_f3 I
  have i_g := Pin_g I
  have i_h11 := Pin_h11 I
  have i_o := Pin_o I
  have i_q := Pin_q I
  clear I
  simp only [Q_a, Q_b, Q_c, Q_d, Q_e, Q_f, Q_f2, Q_f3, Q_g, Q_h11, Q_o, Q_q, Q_v0, pokM, pown, prcv, pgiv, ppge, pfu] at *
  grind
set_option maxHeartbeats 400000 in
theorem pt_move_h12 {has : Prop} {V E H T oG oT w0 w1 w2 w3 lo hi : Int} {st ep hl hh mv ac pt tk et lm pE pA : Nat → Int} {B : Int} {S : (Nat → Int) → Prop} (I : Pin has V E H T oG oT w0 w1 w2 w3 lo hi st ep hl hh mv ac pt tk et lm pE pA B S) (h : Nat) (t : Int) (hhH : (h : Int) = H) (hT : T < 0) (hw : w0 < 0 ∧ w1 < 0 ∧ w2 < 0 ∧ w3 < 0) (hs : has) (hst : st h = 1) (ht : 0 ≤ t) (htH : t ≠ H) (hE : ep h = E ∧ V ≤ E) (hO : ∀ i : Nat, (i : Int) ≠ H → ¬ pown st i) (hiu : ∀ i : Nat, (i : Int) = H → i = h) : Q_h12 has (E + 1) E H (t) oG oT w0 w1 w2 w3 lo hi st ep hl hh mv ac pt tk et lm pE pA (B + 2) S := by
  have i_v0 := Pin_v0 I
  have i_a := Pin_a I
  have i_b := Pin_b I
  have i_c := Pin_c I
  have i_d := Pin_d I
  have i_e := Pin_e I
  have i_f := Pin_f I
  have i_f2 := Pin_f2 I
  have i_f3 := Pin_f3 I
  have i_g := Pin_g I
  have i_h12 := Pin_h12 I
  have i_o := Pin_o I
  have i_q := Pin_q I
  clear I
  simp only [Q_a, Q_b, Q_c, Q_d, Q_e, Q_f, Q_f2, Q_f3, Q_g, Q_h12, Q_o, Q_q, Q_v0, pokM, pown, prcv, pgiv, ppge, pfu] at *
  grind
set_option maxHeartbeats 400000 in
theorem pt_move_k1 {has : Prop} {V E H T oG oT w0 w1 w2 w3 lo hi : Int} {st ep hl hh mv ac pt tk et lm pE pA : Nat → Int} {B : Int} {S : (Nat → Int) → Prop} (I : Pin has V E H T oG oT w0 w1 w2 w3 lo hi st ep hl hh mv ac pt tk et lm pE pA B S) (h : Nat) (t : Int) (hhH : (h : Int) = H) (hT : T < 0) (hw : w0 < 0 ∧ w1 < 0 ∧ w2 < 0 ∧ w3 < 0) (hs : has) (hst : st h = 1) (ht : 0 ≤ t) (htH : t ≠ H) (hE : ep h = E ∧ V ≤ E) (hO : ∀ i : Nat, (i : Int) ≠ H → ¬ pown st i) (hiu : ∀ i : Nat, (i : Int) = H → i = h) : Q_k1 has (E + 1) E H (t) oG oT w0 w1 w2 w3 lo hi st ep hl hh mv ac pt tk et lm pE pA (B + 2) S := by
  have i_k1 := Pin_k1 I
  clear I
  simp only [Q_k1, pokM, pown, prcv, pgiv, ppge, pfu] at *
  grind
set_option maxHeartbeats 400000 in
theorem pt_move_k2 {has : Prop} {V E H T oG oT w0 w1 w2 w3 lo hi : Int} {st ep hl hh mv ac pt tk et lm pE pA : Nat → Int} {B : Int} {S : (Nat → Int) → Prop} (I : Pin has V E H T oG oT w0 w1 w2 w3 lo hi st ep hl hh mv ac pt tk et lm pE pA B S) (h : Nat) (t : Int) (hhH : (h : Int) = H) (hT : T < 0) (hw : w0 < 0 ∧ w1 < 0 ∧ w2 < 0 ∧ w3 < 0) (hs : has) (hst : st h = 1) (ht : 0 ≤ t) (htH : t ≠ H) (hE : ep h = E ∧ V ≤ E) (hO : ∀ i : Nat, (i : Int) ≠ H → ¬ pown st i) (hiu : ∀ i : Nat, (i : Int) = H → i = h) : Q_k2 has (E + 1) E H (t) oG oT w0 w1 w2 w3 lo hi st ep hl hh mv ac pt tk et lm pE pA (B + 2) S := by
  have i_k2 := Pin_k2 I
  clear I
  simp only [Q_k2, pokM, pown, prcv, pgiv, ppge, pfu] at *
  grind
set_option maxHeartbeats 400000 in
theorem pt_move_k8 {has : Prop} {V E H T oG oT w0 w1 w2 w3 lo hi : Int} {st ep hl hh mv ac pt tk et lm pE pA : Nat → Int} {B : Int} {S : (Nat → Int) → Prop} (I : Pin has V E H T oG oT w0 w1 w2 w3 lo hi st ep hl hh mv ac pt tk et lm pE pA B S) (h : Nat) (t : Int) (hhH : (h : Int) = H) (hT : T < 0) (hw : w0 < 0 ∧ w1 < 0 ∧ w2 < 0 ∧ w3 < 0) (hs : has) (hst : st h = 1) (ht : 0 ≤ t) (htH : t ≠ H) (hE : ep h = E ∧ V ≤ E) (hO : ∀ i : Nat, (i : Int) ≠ H → ¬ pown st i) (hiu : ∀ i : Nat, (i : Int) = H → i = h) : Q_k8 has (E + 1) E H (t) oG oT w0 w1 w2 w3 lo hi st ep hl hh mv ac pt tk et lm pE pA (B + 2) S := by
  have i_k8 := Pin_k8 I
  clear I
  simp only [Q_k8, pokM, pown, prcv, pgiv, ppge, pfu] at *
  grind
set_option maxHeartbeats 400000 in
theorem pt_move_l4 {has : Prop} {V E H T oG oT w0 w1 w2 w3 lo hi : Int} {st ep hl hh mv ac pt tk et lm pE pA : Nat → Int} {B : Int} {S : (Nat → Int) → Prop} (I : Pin has V E H T oG oT w0 w1 w2 w3 lo hi st ep hl hh mv ac pt tk et lm pE pA B S) (h : Nat) (t : Int) (hhH : (h : Int) = H) (hT : T < 0) (hw : w0 < 0 ∧ w1 < 0 ∧ w2 < 0 ∧ w3 < 0) (hs : has) (hst : st h = 1) (ht : 0 ≤ t) (htH : t ≠ H) (hE : ep h = E ∧ V ≤ E) (hO : ∀ i : Nat, (i : Int) ≠ H → ¬ pown st i) (hiu : ∀ i : Nat, (i : Int) = H → i = h) : Q_l4 has (E + 1) E H (t) oG oT w0 w1 w2 w3 lo hi st ep hl hh mv ac pt tk et lm pE pA (B + 2) S := by
  have i_v0 := Pin_v0 I
  have i_a := Pin_a I
  have i_b := Pin_b I
  have i_c := Pin_c I
  have i_d := Pin_d I
  have i_e := Pin_e I
  have i_f := Pin_f I
  have i_f2 := Pin_f2 I
  have i_f3 := Pin_f3 I
  have i_g := Pin_g I
  have i_l4 := Pin_l4 I
  have i_o := Pin_o I
  have i_q := Pin_q I
  clear I
  simp only [Q_a, Q_b, Q_c, Q_d, Q_e, Q_f, Q_f2, Q_f3, Q_g, Q_l4, Q_o, Q_q, Q_v0, pokM, pown, prcv, pgiv, ppge, pfu] at *
  grind
set_option maxHeartbeats 400000 in
theorem pt_move_l5 {has : Prop} {V E H T oG oT w0 w1 w2 w3 lo hi : Int} {st ep hl hh mv ac pt tk et lm pE pA : Nat → Int} {B : Int} {S : (Nat → Int) → Prop} (I : Pin has V E H T oG oT w0 w1 w2 w3 lo hi st ep hl hh mv ac pt tk et lm pE pA B S) (h : Nat) (t : Int) (hhH : (h : Int) = H) (hT : T < 0) (hw : w0 < 0 ∧ w1 < 0 ∧ w2 < 0 ∧ w3 < 0) (hs : has) (hst : st h = 1) (ht : 0 ≤ t) (htH : t ≠ H) (hE : ep h = E ∧ V ≤ E) (hO : ∀ i : Nat, (i : Int) ≠ H → ¬ pown st i) (hiu : ∀ i : Nat, (i : Int) = H → i = h) : Q_l5 has (E + 1) E H (t) oG oT w0 w1 w2 w3 lo hi st ep hl hh mv ac pt tk et lm pE pA (B + 2) S := by
  have i_v0 := Pin_v0 I
  have i_a := Pin_a I
  have i_b := Pin_b I
  have i_c := Pin_c I
  have i_d := Pin_d I
  have i_e := Pin_e I
  have i_f := Pin_f I
  have i_f2 := Pin_f2 I
  have i_f3 := Pin_f3 I
  have i_g := Pin_g I
  have i_l5 := Pin_l5 I
  have i_o := Pin_o I
  have i_q := Pin_q I
  clear I
  simp only [Q_a, Q_b, Q_c, Q_d, Q_e, Q_f, Q_f2, Q_f3, Q_g, Q_l5, Q_o, Q_q, Q_v0, pokM, pown, prcv, pgiv, ppge, pfu] at *
  grind
set_option maxHeartbeats 400000 in
theorem pt_move_l3 {has : Prop} {V E H T oG oT w0 w1 w2 w3 lo hi : Int} {st ep hl hh mv ac pt tk et lm pE pA : Nat → Int} {B : Int} {S : (Nat → Int) → Prop} (I : Pin has V E H T oG oT w0 w1 w2 w3 lo hi st ep hl hh mv ac pt tk et lm pE pA B S) (h : Nat) (t : Int) (hhH : (h : Int) = H) (hT : T < 0) (hw : w0 < 0 ∧ w1 < 0 ∧ w2 < 0 ∧ w3 < 0) (hs : has) (hst : st h = 1) (ht : 0 ≤ t) (htH : t ≠ H) (hE : ep h = E ∧ V ≤ E) (hO : ∀ i : Nat, (i : Int) ≠ H → ¬ pown st i) (hiu : ∀ i : Nat, (i : Int) = H → i = h) : Q_l3 has (E + 1) E H (t) oG oT w0 w1 w2 w3 lo hi st ep hl hh mv ac pt tk et lm pE pA (B + 2) S := by
  have i_v0 := Pin_v0 I
  have i_a := Pin_a I
  have i_b := Pin_b I
  have i_c := Pin_c I
  have i_d := Pin_d I
  have i_e := Pin_e I
  have i_f := Pin_f I
  have i_f2 := Pin_f2 I
  have i_f3 := Pin_f3 I
  have i_g := Pin_g I
  have i_l3 := Pin_l3 I
  have i_o := Pin_o I
  have i_q := Pin_q I
  clear I
  simp only [Q_a, Q_b, Q_c, Q_d, Q_e, Q_f, Q_f2, Q_f3, Q_g, Q_l3, Q_o, Q_q, Q_v0, pokM, pown, prcv, pgiv, ppge, pfu] at *
  grind
set_option maxHeartbeats 400000 in
theorem pt_move_m1 {has : Prop} {V E H T oG oT w0 w1 w2 w3 lo hi : Int} {st ep hl hh mv ac pt tk et lm pE pA : Nat → Int} {B : Int} {S : (Nat → Int) → Prop} (I : Pin has V E H T oG oT w0 w1 w2 w3 lo hi st ep hl hh mv ac pt tk et lm pE pA B S) (h : Nat) (t : Int) (hhH : (h : Int) = H) (hT : T < 0) (hw : w0 < 0 ∧ w1 < 0 ∧ w2 < 0 ∧ w3 < 0) (hs : has) (hst : st h = 1) (ht : 0 ≤ t) (htH : t ≠ H) (hE : ep h = E ∧ V ≤ E) (hO : ∀ i : Nat, (i : Int) ≠ H → ¬ pown st i) (hiu : ∀ i : Nat, (i : Int) = H → i = h) : Q_m1 has (E + 1) E H (t) oG oT w0 w1 w2 w3 lo hi st ep hl hh mv ac pt tk et lm pE pA (B + 2) S := by
  have i_v0 := Pin_v0 I
  have i_a := Pin_a I
  have i_b := Pin_b I
  have i_c := Pin_c I
  have i_d := Pin_d I
  have i_e := Pin_e I
  have i_f := Pin_f I
  have i_f2 := Pin_f2 I
  have i_f3 := Pin_f3 I
  have i_g := Pin_g I
  have i_m1 := Pin_m1 I
  have i_o := Pin_o I
  have i_q := Pin_q I
  clear I
  simp only [Q_a, Q_b, Q_c, Q_d, Q_e, Q_f, Q_f2, Q_f3, Q_g, Q_m1, Q_o, Q_q, Q_v0, pokM, pown, prcv, pgiv, ppge, pfu] at *
  grind
set_option maxHeartbeats 400000 in
theorem pt_move_m2 {has : Prop} {V E H T oG oT w0 w1 w2 w3 lo hi : Int} {st ep hl hh mv ac pt tk et lm pE pA : Nat → Int} {B : Int} {S : (Nat → Int) → Prop} (I : Pin has V E H T oG oT w0 w1 w2 w3 lo hi st ep hl hh mv ac pt tk et lm pE pA B S) (h : Nat) (t : Int) (hhH : (h : Int) = H) (hT : T < 0) (hw : w0 < 0 ∧ w1 < 0 ∧ w2 < 0 ∧ w3 < 0) (hs : has) (hst : st h = 1) (ht : 0 ≤ t) (htH : t ≠ H) (hE : ep h = E ∧ V ≤ E) (hO : ∀ i : Nat, (i : Int) ≠ H → ¬ pown st i) (hiu : ∀ i : Nat, (i : Int) = H → i = h) : Q_m2 has (E + 1) E H (t) oG oT w0 w1 w2 w3 lo hi st ep hl hh mv ac pt tk et lm pE pA (B + 2) S := by
  have i_v0 := Pin_v0 I
  have i_a := Pin_a I
  have i_b := Pin_b I
  have i_c := Pin_c I
  have i_d := Pin_d I
  have i_e := Pin_e I
  have i_f := Pin_f I
  have i_f2 := Pin_f2 I
  have i_f3 := Pin_f3 I
  have i_g := Pin_g I
  have i_m2 := Pin_m2 I
  have i_o := Pin_o I
  have i_q := Pin_q I
  clear I
  simp only [Q_a, Q_b, Q_c, Q_d, Q_e, Q_f, Q_f2, Q_f3, Q_g, Q_m2, Q_o, Q_q, Q_v0, pokM, pown, prcv, pgiv, ppge, pfu] at *
  grind
set_option maxHeartbeats 400000 in
theorem pt_move_m3 {has : Prop} {V E H T oG oT w0 w1 w2 w3 lo hi : Int} {st ep hl hh mv ac pt tk et lm pE pA : Nat → Int} {B : Int} {S : (Nat → Int) → Prop} (I : Pin has V E H T oG oT w0 w1 w2 w3 lo hi st ep hl hh mv ac pt tk et lm pE pA B S) (h : Nat) (t : Int) (hhH : (h : Int) = H) (hT : T < 0) (hw : w0 < 0 ∧ w1 < 0 ∧ w2 < 0 ∧ w3 < 0) (hs : has) (hst : st h = 1) (ht : 0 ≤ t) (htH : t ≠ H) (hE : ep h = E ∧ V ≤ E) (hO : ∀ i : Nat, (i : Int) ≠ H → ¬ pown st i) (hiu : ∀ i : Nat, (i : Int) = H → i = h) : Q_m3 has (E + 1) E H (t) oG oT w0 w1 w2 w3 lo hi st ep hl hh mv ac pt tk et lm pE pA (B + 2) S := by
  have i_v0 := Pin_v0 I
  have i_a := Pin_a I
  have i_b := Pin_b I
  have i_c := Pin_c I
  have i_d := Pin_d I
  have i_e := Pin_e I
  have i_f := Pin_f I
  have i_f2 := Pin_f2 I
  have i_f3 := Pin_f3 I
  have i_g := Pin_g I
  have i_m3 := Pin_m3 I
  have i_o := Pin_o I
  have i_q := Pin_q I
  clear I
  simp only [Q_a, Q_b, Q_c, Q_d, Q_e, Q_f, Q_f2, Q_f3, Q_g, Q_m3, Q_o, Q_q, Q_v0, pokM, pown, prcv, pgiv, ppge, pfu] at *
  grind
set_option maxHeartbeats 400000 in
theorem pt_move_n0 {has : Prop} {V E H T oG oT w0 w1 w2 w3 lo hi : Int} {st ep hl hh mv ac pt tk et lm pE pA : Nat → Int} {B : Int} {S : (Nat → Int) → Prop} (I : Pin has V E H T oG oT w0 w1 w2 w3 lo hi st ep hl hh mv ac pt tk et lm pE pA B S) (h : Nat) (t : Int) (hhH : (h : Int) = H) (hT : T < 0) (hw : w0 < 0 ∧ w1 < 0 ∧ w2 < 0 ∧ w3 < 0) (hs : has) (hst : st h = 1) (ht : 0 ≤ t) (htH : t ≠ H) (hE : ep h = E ∧ V ≤ E) (hO : ∀ i : Nat, (i : Int) ≠ H → ¬ pown st i) (hiu : ∀ i : Nat, (i : Int) = H → i = h) : Q_n0 has (E + 1) E H (t) oG oT w0 w1 w2 w3 lo hi st ep hl hh mv ac pt tk et lm pE pA (B + 2) S := by
  have i_n0 := Pin_n0 I
  clear I
  simp only [Q_n0, pokM, pown, prcv, pgiv, ppge, pfu] at *
  grind
set_option maxHeartbeats 400000 in
theorem pt_move_n1 {has : Prop} {V E H T oG oT w0 w1 w2 w3 lo hi : Int} {st ep hl hh mv ac pt tk et lm pE pA : Nat → Int} {B : Int} {S : (Nat → Int) → Prop} (I : Pin has V E H T oG oT w0 w1 w2 w3 lo hi st ep hl hh mv ac pt tk et lm pE pA B S) (h : Nat) (t : Int) (hhH : (h : Int) = H) (hT : T < 0) (hw : w0 < 0 ∧ w1 < 0 ∧ w2 < 0 ∧ w3 < 0) (hs : has) (hst : st h = 1) (ht : 0 ≤ t) (htH : t ≠ H) (hE : ep h = E ∧ V ≤ E) (hO : ∀ i : Nat, (i : Int) ≠ H → ¬ pown st i) (hiu : ∀ i : Nat, (i : Int) = H → i = h) : Q_n1 has (E + 1) E H (t) oG oT w0 w1 w2 w3 lo hi st ep hl hh mv ac pt tk et lm pE pA (B + 2) S := by
  have i_n1 := Pin_n1 I
  clear I
  simp only [Q_n1, pokM, pown, prcv, pgiv, ppge, pfu] at *
  grind
set_option maxHeartbeats 400000 in
theorem pt_move_n2 {has : Prop} {V E H T oG oT w0 w1 w2 w3 lo hi : Int} {st ep hl hh mv ac pt tk et lm pE pA : Nat → Int} {B : Int} {S : (Nat → Int) → Prop} (I : Pin has V E H T oG oT w0 w1 w2 w3 lo hi st ep hl hh mv ac pt tk et lm pE pA B S) (h : Nat) (t : Int) (hhH : (h : Int) = H) (hT : T < 0) (hw : w0 < 0 ∧ w1 < 0 ∧ w2 < 0 ∧ w3 < 0) (hs : has) (hst : st h = 1) (ht : 0 ≤ t) (htH : t ≠ H) (hE : ep h = E ∧ V ≤ E) (hO : ∀ i : Nat, (i : Int) ≠ H → ¬ pown st i) (hiu : ∀ i : Nat, (i : Int) = H → i = h) : Q_n2 has (E + 1) E H (t) oG oT w0 w1 w2 w3 lo hi st ep hl hh mv ac pt tk et lm pE pA (B + 2) S := by
  have i_n2 := Pin_n2 I
  clear I
  simp only [Q_n2, pokM, pown, prcv, pgiv, ppge, pfu] at *
  grind
set_option maxHeartbeats 400000 in
theorem pt_move_n3 {has : Prop} {V E H T oG oT w0 w1 w2 w3 lo hi : Int} {st ep hl hh mv ac pt tk et lm pE pA : Nat → Int} {B : Int} {S : (Nat → Int) → Prop} (I : Pin has V E H T oG oT w0 w1 w2 w3 lo hi st ep hl hh mv ac pt tk et lm pE pA B S) (h : Nat) (t : Int) (hhH : (h : Int) = H) (hT : T < 0) (hw : w0 < 0 ∧ w1 < 0 ∧ w2 < 0 ∧ w3 < 0) (hs : has) (hst : st h = 1) (ht : 0 ≤ t) (htH : t ≠ H) (hE : ep h = E ∧ V ≤ E) (hO : ∀ i : Nat, (i : Int) ≠ H → ¬ pown st i) (hiu : ∀ i : Nat, (i : Int) = H → i = h) : Q_n3 has (E + 1) E H (t) oG oT w0 w1 w2 w3 lo hi st ep hl hh mv ac pt tk et lm pE pA (B + 2) S := by
  have i_n3 := Pin_n3 I
  clear I
  simp only [Q_n3, pokM, pown, prcv, pgiv, ppge, pfu] at *
  grind
set_option maxHeartbeats 400000 in
theorem pt_move_n4 {has : Prop} {V E H T oG oT w0 w1 w2 w3 lo hi : Int} {st ep hl hh mv ac pt tk et lm pE pA : Nat → Int} {B : Int} {S : (Nat → Int) → Prop} (I : Pin has V E H T oG oT w0 w1 w2 w3 lo hi st ep hl hh mv ac pt tk et lm pE pA B S) (h : Nat) (t : Int) (hhH : (h : Int) = H) (hT : T < 0) (hw : w0 < 0 ∧ w1 < 0 ∧ w2 < 0 ∧ w3 < 0) (hs : has) (hst : st h = 1) (ht : 0 ≤ t) (htH : t ≠ H) (hE : ep h = E ∧ V ≤ E) (hO : ∀ i : Nat, (i : Int) ≠ H → ¬ pown st i) (hiu : ∀ i : Nat, (i : Int) = H → i = h) : Q_n4 has (E + 1) E H (t) oG oT w0 w1 w2 w3 lo hi st ep hl hh mv ac pt tk et lm pE pA (B + 2) S := by
  have i_n4 := Pin_n4 I
  clear I
  simp only [Q_n4, pokM, pown, prcv, pgiv, ppge, pfu] at *
  grind
set_option maxHeartbeats 400000 in
theorem pt_move_n5 {has : Prop} {V E H T oG oT w0 w1 w2 w3 lo hi : Int} {st ep hl hh mv ac pt tk et lm pE pA : Nat → Int} {B : Int} {S : (Nat → Int) → Prop} (I : Pin has V E H T oG oT w0 w1 w2 w3 lo hi st ep hl hh mv ac pt tk et lm pE pA B S) (h : Nat) (t : Int) (hhH : (h : Int) = H) (hT : T < 0) (hw : w0 < 0 ∧ w1 < 0 ∧ w2 < 0 ∧ w3 < 0) (hs : has) (hst : st h = 1) (ht : 0 ≤ t) (htH : t ≠ H) (hE : ep h = E ∧ V ≤ E) (hO : ∀ i : Nat, (i : Int) ≠ H → ¬ pown st i) (hiu : ∀ i : Nat, (i : Int) = H → i = h) : Q_n5 has (E + 1) E H (t) oG oT w0 w1 w2 w3 lo hi st ep hl hh mv ac pt tk et lm pE pA (B + 2) S := by
  have i_n5 := Pin_n5 I
  clear I
  simp only [Q_n5, pokM, pown, prcv, pgiv, ppge, pfu] at *
  grind
set_option maxHeartbeats 400000 in
theorem pt_move_n6 {has : Prop} {V E H T oG oT w0 w1 w2 w3 lo hi : Int} {st ep hl hh mv ac pt tk et lm pE pA : Nat → Int} {B : Int} {S : (Nat → Int) → Prop} (I : Pin has V E H T oG oT w0 w1 w2 w3 lo hi st ep hl hh mv ac pt tk et lm pE pA B S) (h : Nat) (t : Int) (hhH : (h : Int) = H) (hT : T < 0) (hw : w0 < 0 ∧ w1 < 0 ∧ w2 < 0 ∧ w3 < 0) (hs : has) (hst : st h = 1) (ht : 0 ≤ t) (htH : t ≠ H) (hE : ep h = E ∧ V ≤ E) (hO : ∀ i : Nat, (i : Int) ≠ H → ¬ pown st i) (hiu : ∀ i : Nat, (i : Int) = H → i = h) : Q_n6 has (E + 1) E H (t) oG oT w0 w1 w2 w3 lo hi st ep hl hh mv ac pt tk et lm pE pA (B + 2) S := by
  have i_n6 := Pin_n6 I
  clear I
  simp only [Q_n6, pokM, pown, prcv, pgiv, ppge, pfu] at *
  grind
set_option maxHeartbeats 400000 in
theorem pt_move_n7 {has : Prop} {V E H T oG oT w0 w1 w2 w3 lo hi : Int} {st ep hl hh mv ac pt tk et lm pE pA : Nat → Int} {B : Int} {S : (Nat → Int) → Prop} (I : Pin has V E H T oG oT w0 w1 w2 w3 lo hi st ep hl hh mv ac pt tk et lm pE pA B S) (h : Nat) (t : Int) (hhH : (h : Int) = H) (hT : T < 0) (hw : w0 < 0 ∧ w1 < 0 ∧ w2 < 0 ∧ w3 < 0) (hs : has) (hst : st h = 1) (ht : 0 ≤ t) (htH : t ≠ H) (hE : ep h = E ∧ V ≤ E) (hO : ∀ i : Nat, (i : Int) ≠ H → ¬ pown st i) (hiu : ∀ i : Nat, (i : Int) = H → i = h) : Q_n7 has (E + 1) E H (t) oG oT w0 w1 w2 w3 lo hi st ep hl hh mv ac pt tk et lm pE pA (B + 2) S := by
  have i_n7 := Pin_n7 I
  clear I
  simp only [Q_n7, pokM, pown, prcv, pgiv, ppge, pfu] at *
  grind
set_option maxHeartbeats 400000 in
theorem pt_move_o {has : Prop} {V E H T oG oT w0 w1 w2 w3 lo hi : Int} {st ep hl hh mv ac pt tk et lm pE pA : Nat → Int} {B : Int} {S : (Nat → Int) → Prop} (I : Pin has V E H T oG oT w0 w1 w2 w3 lo hi st ep hl hh mv ac pt tk et lm pE pA B S) (h : Nat) (t : Int) (hhH : (h : Int) = H) (hT : T < 0) (hw : w0 < 0 ∧ w1 < 0 ∧ w2 < 0 ∧ w3 < 0) (hs : has) (hst : st h = 1) (ht : 0 ≤ t) (htH : t ≠ H) (hE : ep h = E ∧ V ≤ E) (hO : ∀ i : Nat, (i : Int) ≠ H → ¬ pown st i) (hiu : ∀ i : Nat, (i : Int) = H → i = h) : Q_o has (E + 1) E H (t) oG oT w0 w1 w2 w3 lo hi st ep hl hh mv ac pt tk et lm pE pA (B + 2) S := by
  have i_o := Pin_o I
  clear I
  simp only [Q_o, pokM, pown, prcv, pgiv, ppge, pfu] at *
  grind
set_option maxHeartbeats 400000 in
theorem pt_move_p {has : Prop} {V E H T oG oT w0 w1 w2 w3 lo hi : Int} {st ep hl hh mv ac pt tk et lm pE pA : Nat → Int} {B : Int} {S : (Nat → Int) → Prop} (I : Pin has V E H T oG oT w0 w1 w2 w3 lo hi st ep hl hh mv ac pt tk et lm pE pA B S) (h : Nat) (t : Int) (hhH : (h : Int) = H) (hT : T < 0) (hw : w0 < 0 ∧ w1 < 0 ∧ w2 < 0 ∧ w3 < 0) (hs : has) (hst : st h = 1) (ht : 0 ≤ t) (htH : t ≠ H) (hE : ep h = E ∧ V ≤ E) (hO : ∀ i : Nat, (i : Int) ≠ H → ¬ pown st i) (hiu : ∀ i : Nat, (i : Int) = H → i = h) : Q_p has (E + 1) E H (t) oG oT w0 w1 w2 w3 lo hi st ep hl hh mv ac pt tk et lm pE pA (B + 2) S := by
  have i_p := Pin_p I
  clear I
  simp only [Q_p, pokM, pown, prcv, pgiv, ppge, pfu] at *
  grind
set_option maxHeartbeats 400000 in
theorem pt_move_q {has : Prop} {V E H T oG oT w0 w1 w2 w3 lo hi : Int} {st ep hl hh mv ac pt tk et lm pE pA : Nat → Int} {B : Int} {S : (Nat → Int) → Prop} (I : Pin has V E H T oG oT w0 w1 w2 w3 lo hi st ep hl hh mv ac pt tk et lm pE pA B S) (h : Nat) (t : Int) (hhH : (h : Int) = H) (hT : T < 0) (hw : w0 < 0 ∧ w1 < 0 ∧ w2 < 0 ∧ w3 < 0) (hs : has) (hst : st h = 1) (ht : 0 ≤ t) (htH : t ≠ H) (hE : ep h = E ∧ V ≤ E) (hO : ∀ i : Nat, (i : Int) ≠ H → ¬ pown st i) (hiu : ∀ i : Nat, (i : Int) = H → i = h) : Q_q has (E + 1) E H (t) oG oT w0 w1 w2 w3 lo hi st ep hl hh mv ac pt tk et lm pE pA (B + 2) S := by
  have i_q := Pin_q I
  clear I
  simp only [Q_q, pokM, pown, prcv, pgiv, ppge, pfu] at *
  grind
set_option maxHeartbeats 400000 in
theorem pt_move_q2 {has : Prop} {V E H T oG oT w0 w1 w2 w3 lo hi : Int} {st ep hl hh mv ac pt tk et lm pE pA : Nat → Int} {B : Int} {S : (Nat → Int) → Prop} (I : Pin has V E H T oG oT w0 w1 w2 w3 lo hi st ep hl hh mv ac pt tk et lm pE pA B S) (h : Nat) (t : Int) (hhH : (h : Int) = H) (hT : T < 0) (hw : w0 < 0 ∧ w1 < 0 ∧ w2 < 0 ∧ w3 < 0) (hs : has) (hst : st h = 1) (ht : 0 ≤ t) (htH : t ≠ H) (hE : ep h = E ∧ V ≤ E) (hO : ∀ i : Nat, (i : Int) ≠ H → ¬ pown st i) (hiu : ∀ i : Nat, (i : Int) = H → i = h) : Q_q2 has (E + 1) E H (t) oG oT w0 w1 w2 w3 lo hi st ep hl hh mv ac pt tk et lm pE pA (B + 2) S := by
  have i_q2 := Pin_q2 I
  clear I
  simp only [Q_q2, pokM, pown, prcv, pgiv, ppge, pfu] at *
  grind
set_option maxHeartbeats 400000 in
theorem pt_move_q3 {has : Prop} {V E H T oG oT w0 w1 w2 w3 lo hi : Int} {st ep hl hh mv ac pt tk et lm pE pA : Nat → Int} {B : Int} {S : (Nat → Int) → Prop} (I : Pin has V E H T oG oT w0 w1 w2 w3 lo hi st ep hl hh mv ac pt tk et lm pE pA B S) (h : Nat) (t : Int) (hhH : (h : Int) = H) (hT : T < 0) (hw : w0 < 0 ∧ w1 < 0 ∧ w2 < 0 ∧ w3 < 0) (hs : has) (hst : st h = 1) (ht : 0 ≤ t) (htH : t ≠ H) (hE : ep h = E ∧ V ≤ E) (hO : ∀ i : Nat, (i : Int) ≠ H → ¬ pown st i) (hiu : ∀ i : Nat, (i : Int) = H → i = h) : Q_q3 has (E + 1) E H (t) oG oT w0 w1 w2 w3 lo hi st ep hl hh mv ac pt tk et lm pE pA (B + 2) S := by
  have i_q3 := Pin_q3 I
  clear I
  simp only [Q_q3, pokM, pown, prcv, pgiv, ppge, pfu] at *
  grind
set_option maxHeartbeats 400000 in
theorem pt_move_w {has : Prop} {V E H T oG oT w0 w1 w2 w3 lo hi : Int} {st ep hl hh mv ac pt tk et lm pE pA : Nat → Int} {B : Int} {S : (Nat → Int) → Prop} (I : Pin has V E H T oG oT w0 w1 w2 w3 lo hi st ep hl hh mv ac pt tk et lm pE pA B S) (h : Nat) (t : Int) (hhH : (h : Int) = H) (hT : T < 0) (hw : w0 < 0 ∧ w1 < 0 ∧ w2 < 0 ∧ w3 < 0) (hs : has) (hst : st h = 1) (ht : 0 ≤ t) (htH : t ≠ H) (hE : ep h = E ∧ V ≤ E) (hO : ∀ i : Nat, (i : Int) ≠ H → ¬ pown st i) (hiu : ∀ i : Nat, (i : Int) = H → i = h) : Q_w has (E + 1) E H (t) oG oT w0 w1 w2 w3 lo hi st ep hl hh mv ac pt tk et lm pE pA (B + 2) S := by
  have i_w := Pin_w I
  clear I
  simp only [Q_w, pokM, pown, prcv, pgiv, ppge, pfu] at *
  grind
theorem pt_move {has : Prop} {V E H T oG oT w0 w1 w2 w3 lo hi : Int} {st ep hl hh mv ac pt tk et lm pE pA : Nat → Int} {B : Int} {S : (Nat → Int) → Prop} (I : Pin has V E H T oG oT w0 w1 w2 w3 lo hi st ep hl hh mv ac pt tk et lm pE pA B S) (h : Nat) (t : Int) (hhH : (h : Int) = H) (hT : T < 0) (hw : w0 < 0 ∧ w1 < 0 ∧ w2 < 0 ∧ w3 < 0) (hs : has) (hst : st h = 1) (ht : 0 ≤ t) (htH : t ≠ H) : Pin has (E + 1) E H (t) oG oT w0 w1 w2 w3 lo hi st ep hl hh mv ac pt tk et lm pE pA (B + 2) S := by
  have hE := pt_move_hE_d I h t hhH hT hw hs hst ht htH 
  have hO := pt_move_hO_d I h t hhH hT hw hs hst ht htH hE
  have hiu := pt_move_hiu_d I h t hhH hT hw hs hst ht htH hE hO
  exact ⟨pt_move_v0 I h t hhH hT hw hs hst ht htH hE hO hiu, pt_move_a I h t hhH hT hw hs hst ht htH hE hO hiu, pt_move_b I h t hhH hT hw hs hst ht htH hE hO hiu, pt_move_c I h t hhH hT hw hs hst ht htH hE hO hiu, pt_move_d I h t hhH hT hw hs hst ht htH hE hO hiu, pt_move_e I h t hhH hT hw hs hst ht htH hE hO hiu, pt_move_f I h t hhH hT hw hs hst ht htH hE hO hiu, pt_move_f2 I h t hhH hT hw hs hst ht htH hE hO hiu, pt_move_f3 I h t hhH hT hw hs hst ht htH hE hO hiu, pt_move_g I h t hhH hT hw hs hst ht htH hE hO hiu, pt_move_g0 I h t hhH hT hw hs hst ht htH hE hO hiu, pt_move_g1 I h t hhH hT hw hs hst ht htH hE hO hiu, pt_move_g2 I h t hhH hT hw hs hst ht htH hE hO hiu, pt_move_h7 I h t hhH hT hw hs hst ht htH hE hO hiu, pt_move_h9 I h t hhH hT hw hs hst ht htH hE hO hiu, pt_move_h10 I h t hhH hT hw hs hst ht htH hE hO hiu, pt_move_h11 I h t hhH hT hw hs hst ht htH hE hO hiu, pt_move_h12 I h t hhH hT hw hs hst ht htH hE hO hiu, pt_move_k1 I h t hhH hT hw hs hst ht htH hE hO hiu, pt_move_k2 I h t hhH hT hw hs hst ht htH hE hO hiu, pt_move_k8 I h t hhH hT hw hs hst ht htH hE hO hiu, pt_move_l4 I h t hhH hT hw hs hst ht htH hE hO hiu, pt_move_l5 I h t hhH hT hw hs hst ht htH hE hO hiu, pt_move_l3 I h t hhH hT hw hs hst ht htH hE hO hiu, pt_move_m1 I h t hhH hT hw hs hst ht htH hE hO hiu, pt_move_m2 I h t hhH hT hw hs hst ht htH hE hO hiu, pt_move_m3 I h t hhH hT hw hs hst ht htH hE hO hiu, pt_move_n0 I h t hhH hT hw hs hst ht htH hE hO hiu, pt_move_n1 I h t hhH hT hw hs hst ht htH hE hO hiu, pt_move_n2 I h t hhH hT hw hs hst ht htH hE hO hiu, pt_move_n3 I h t hhH hT hw hs hst ht htH hE hO hiu, pt_move_n4 I h t hhH hT hw hs hst ht htH hE hO hiu, pt_move_n5 I h t hhH hT hw hs hst ht htH hE hO hiu, pt_move_n6 I h t hhH hT hw hs hst ht htH hE hO hiu, pt_move_n7 I h t hhH hT hw hs hst ht htH hE hO hiu, pt_move_o I h t hhH hT hw hs hst ht htH hE hO hiu, pt_move_p I h t hhH hT hw hs hst ht htH hE hO hiu, pt_move_q I h t hhH hT hw hs hst ht htH hE hO hiu, pt_move_q2 I h t hhH hT hw hs hst ht htH hE hO hiu, pt_move_q3 I h t hhH hT hw hs hst ht htH hE hO hiu, pt_move_w I h t hhH hT hw hs hst ht htH hE hO hiu⟩
set_option maxHeartbeats 400000 in
theorem pt_undo_v0 {has : Prop} {V E H T oG oT w0 w1 w2 w3 lo hi : Int} {st ep hl hh mv ac pt tk et lm pE pA : Nat → Int} {B : Int} {S : (Nat → Int) → Prop} (I : Pin has V E H T oG oT w0 w1 w2 w3 lo hi st ep hl hh mv ac pt tk et lm pE pA B S) (hT : 0 ≤ T)  : Q_v0 has V (V + 1) H (-1) (H) (T) w0 w1 (V) (V) lo hi st ep hl hh mv ac pt tk et lm pE pA (B + 2) S := by
  have i_v0 := Pin_v0 I
  clear I
  simp only [Q_v0, pokM, pown, prcv, pgiv, ppge, pfu] at *
  grind
set_option maxHeartbeats 400000 in
theorem pt_undo_a {has : Prop} {V E H T oG oT w0 w1 w2 w3 lo hi : Int} {st ep hl hh mv ac pt tk et lm pE pA : Nat → Int} {B : Int} {S : (Nat → Int) → Prop} (I : Pin has V E H T oG oT w0 w1 w2 w3 lo hi st ep hl hh mv ac pt tk et lm pE pA B S) (hT : 0 ≤ T)  : Q_a has V (V + 1) H (-1) (H) (T) w0 w1 (V) (V) lo hi st ep hl hh mv ac pt tk et lm pE pA (B + 2) S := by
  have i_a := Pin_a I
  clear I
  simp only [Q_a, pokM, pown, prcv, pgiv, ppge, pfu] at *
  grind
set_option maxHeartbeats 400000 in
theorem pt_undo_b {has : Prop} {V E H T oG oT w0 w1 w2 w3 lo hi : Int} {st ep hl hh mv ac pt tk et lm pE pA : Nat → Int} {B : Int} {S : (Nat → Int) → Prop} (I : Pin has V E H T oG oT w0 w1 w2 w3 lo hi st ep hl hh mv ac pt tk et lm pE pA B S) (hT : 0 ≤ T)  : Q_b has V (V + 1) H (-1) (H) (T) w0 w1 (V) (V) lo hi st ep hl hh mv ac pt tk et lm pE pA (B + 2) S := by
  have i_b := Pin_b I
  clear I
  simp only [Q_b, pokM, pown, prcv, pgiv, ppge, pfu] at *
  grind
set_option maxHeartbeats 400000 in
theorem pt_undo_c {has : Prop} {V E H T oG oT w0 w1 w2 w3 lo hi : Int} {st ep hl hh mv ac pt tk et lm pE pA : Nat → Int} {B : Int} {S : (Nat → Int) → Prop} (I : Pin has V E H T oG oT w0 w1 w2 w3 lo hi st ep hl hh mv ac pt tk et lm pE pA B S) (hT : 0 ≤ T)  : Q_c has V (V + 1) H (-1) (H) (T) w0 w1 (V) (V) lo hi st ep hl hh mv ac pt tk et lm pE pA (B + 2) S := by
  have i_c := Pin_c I
  clear I
  simp only [Q_c, pokM, pown, prcv, pgiv, ppge, pfu] at *
  grind
set_option maxHeartbeats 400000 in
theorem pt_undo_d {has : Prop} {V E H T oG oT w0 w1 w2 w3 lo hi : Int} {st ep hl hh mv ac pt tk et lm pE pA : Nat → Int} {B : Int} {S : (Nat → Int) → Prop} (I : Pin has V E H T oG oT w0 w1 w2 w3 lo hi st ep hl hh mv ac pt tk et lm pE pA B S) (hT : 0 ≤ T)  : Q_d has V (V + 1) H (-1) (H) (T) w0 w1 (V) (V) lo hi st ep hl hh mv ac pt tk et lm pE pA (B + 2) S := by
  have i_v0 := Pin_v0 I
  have i_a := Pin_a I
  have i_b := Pin_b I
  have i_c := Pin_c I
  have i_d := Pin_d I
  have i_e := Pin_e I
  have i_q := Pin_q I
  clear I
  simp only [Q_a, Q_b, Q_c, Q_d, Q_e, Q_q, Q_v0, pokM, pown, prcv, pgiv, ppge, pfu] at *
  grind
set_option maxHeartbeats 400000 in
theorem pt_undo_e {has : Prop} {V E H T oG oT w0 w1 w2 w3 lo hi : Int} {st ep hl hh mv ac pt tk et lm pE pA : Nat → Int} {B : Int} {S : (Nat → Int) → Prop} (I : Pin has V E H T oG oT w0 w1 w2 w3 lo hi st ep hl hh mv ac pt tk et lm pE pA B S) (hT : 0 ≤ T)  : Q_e has V (V + 1) H (-1) (H) (T) w0 w1 (V) (V) lo hi st ep hl hh mv ac pt tk et lm pE pA (B + 2) S := by
  have i_e := Pin_e I
  clear I
  simp only [Q_e, pokM, pown, prcv, pgiv, ppge, pfu] at *
  grind
set_option maxHeartbeats 400000 in
theorem pt_undo_f {has : Prop} {V E H T oG oT w0 w1 w2 w3 lo hi : Int} {st ep hl hh mv ac pt tk et lm pE pA : Nat → Int} {B : Int} {S : (Nat → Int) → Prop} (I : Pin has V E H T oG oT w0 w1 w2 w3 lo hi st ep hl hh mv ac pt tk et lm pE pA B S) (hT : 0 ≤ T)  : Q_f has V (V + 1) H (-1) (H) (T) w0 w1 (V) (V) lo hi st ep hl hh mv ac pt tk et lm pE pA (B + 2) S := by
  have i_f := Pin_f I
  clear I
  simp only [Q_f, pokM, pown, prcv, pgiv, ppge, pfu] at *
  grind
set_option maxHeartbeats 400000 in
theorem pt_undo_f2 {has : Prop} {V E H T oG oT w0 w1 w2 w3 lo hi : Int} {st ep hl hh mv ac pt tk et lm pE pA : Nat → Int} {B : Int} {S : (Nat → Int) → Prop} (I : Pin has V E H T oG oT w0 w1 w2 w3 lo hi st ep hl hh mv ac pt tk et lm pE pA B S) (hT : 0 ≤ T)  : Q_f2 has V (V + 1) H (-1) (H) (T) w0 w1 (V) (V) lo hi st ep hl hh mv ac pt tk et lm pE pA (B + 2) S := by
  have i_f2 := Pin_f2 I
  clear I
  simp only [Q_f2, pokM, pown, prcv, pgiv, ppge, pfu] at *
  grind
set_option maxHeartbeats 400000 in
theorem pt_undo_f3 {has : Prop} {V E H T oG oT w0 w1 w2 w3 lo hi : Int} {st ep hl hh mv ac pt tk et lm pE pA : Nat → Int} {B : Int} {S : (Nat → Int) → Prop} (I : Pin has V E H T oG oT w0 w1 w2 w3 lo hi st ep hl hh mv ac pt tk et lm pE pA B S) (hT : 0 ≤ T)  : Q_f3 has V (V + 1) H (-1) (H) (T) w0 w1 (V) (V) lo hi st ep hl hh mv ac pt tk et lm pE pA (B + 2) S := by
  have i_f3 := Pin_f3 I
  clear I
  simp only [Q_f3, pokM, pown, prcv, pgiv, ppge, pfu] at *
  grind
set_option maxHeartbeats 400000 in
theorem pt_undo_g {has : Prop} {V E H T oG oT w0 w1 w2 w3 lo hi : Int} {st ep hl hh mv ac pt tk et lm pE pA : Nat → Int} {B : Int} {S : (Nat → Int) → Prop} (I : Pin has V E H T oG oT w0 w1 w2 w3 lo hi st ep hl hh mv ac pt tk et lm pE pA B S) (hT : 0 ≤ T)  : Q_g has V (V + 1) H (-1) (H) (T) w0 w1 (V) (V) lo hi st ep hl hh mv ac pt tk et lm pE pA (B + 2) S := by
  have i_g := Pin_g I
  clear I
  simp only [Q_g, pokM, pown, prcv, pgiv, ppge, pfu] at *
  grind
set_option maxHeartbeats 400000 in
theorem pt_undo_g0 {has : Prop} {V E H T oG oT w0 w1 w2 w3 lo hi : Int} {st ep hl hh mv ac pt tk et lm pE pA : Nat → Int} {B : Int} {S : (Nat → Int) → Prop} (I : Pin has V E H T oG oT w0 w1 w2 w3 lo hi st ep hl hh mv ac pt tk et lm pE pA B S) (hT : 0 ≤ T)  : Q_g0 has V (V + 1) H (-1) (H) (T) w0 w1 (V) (V) lo hi st ep hl hh mv ac pt tk et lm pE pA (B + 2) S := by
  have i_v0 := Pin_v0 I
  have i_a := Pin_a I
  have i_b := Pin_b I
  have i_c := Pin_c I
  have i_d := Pin_d I
  have i_e := Pin_e I
  have i_g0 := Pin_g0 I
  have i_q := Pin_q I
  clear I
  simp only [Q_a, Q_b, Q_c, Q_d, Q_e, Q_g0, Q_q, Q_v0, pokM, pown, prcv, pgiv, ppge, pfu] at *
  grind
set_option maxHeartbeats 400000 in
theorem pt_undo_g1 {has : Prop} {V E H T oG oT w0 w1 w2 w3 lo hi : Int} {st ep hl hh mv ac pt tk et lm pE pA : Nat → Int} {B : Int} {S : (Nat → Int) → Prop} (I : Pin has V E H T oG oT w0 w1 w2 w3 lo hi st ep hl hh mv ac pt tk et lm pE pA B S) (hT : 0 ≤ T)  : Q_g1 has V (V + 1) H (-1) (H) (T) w0 w1 (V) (V) lo hi st ep hl hh mv ac pt tk et lm pE pA (B + 2) S := by
  have i_g1 := Pin_g1 I
  clear I
  simp only [Q_g1, pokM, pown, prcv, pgiv, ppge, pfu] at *
  grind
set_option maxHeartbeats 400000 in
theorem pt_undo_g2 {has : Prop} {V E H T oG oT w0 w1 w2 w3 lo hi : Int} {st ep hl hh mv ac pt tk et lm pE pA : Nat → Int} {B : Int} {S : (Nat → Int) → Prop} (I : Pin has V E H T oG oT w0 w1 w2 w3 lo hi st ep hl hh mv ac pt tk et lm pE pA B S) (hT : 0 ≤ T)  : Q_g2 has V (V + 1) H (-1) (H) (T) w0 w1 (V) (V) lo hi st ep hl hh mv ac pt tk et lm pE pA (B + 2) S := by
  have i_g2 := Pin_g2 I
  clear I
  simp only [Q_g2, pokM, pown, prcv, pgiv, ppge, pfu] at *
  grind
set_option maxHeartbeats 400000 in
theorem pt_undo_h7 {has : Prop} {V E H T oG oT w0 w1 w2 w3 lo hi : Int} {st ep hl hh mv ac pt tk et lm pE pA : Nat → Int} {B : Int} {S : (Nat → Int) → Prop} (I : Pin has V E H T oG oT w0 w1 w2 w3 lo hi st ep hl hh mv ac pt tk et lm pE pA B S) (hT : 0 ≤ T)  : Q_h7 has V (V + 1) H (-1) (H) (T) w0 w1 (V) (V) lo hi st ep hl hh mv ac pt tk et lm pE pA (B + 2) S := by
  have i_h7 := Pin_h7 I
  clear I
  simp only [Q_h7, pokM, pown, prcv, pgiv, ppge, pfu] at *
  grind
set_option maxHeartbeats 400000 in
theorem pt_undo_h9 {has : Prop} {V E H T oG oT w0 w1 w2 w3 lo hi : Int} {st ep hl hh mv ac pt tk et lm pE pA : Nat → Int} {B : Int} {S : (Nat → Int) → Prop} (I : Pin has V E H T oG oT w0 w1 w2 w3 lo hi st ep hl hh mv ac pt tk et lm pE pA B S) (hT : 0 ≤ T)  : Q_h9 has V (V + 1) H (-1) (H) (T) w0 w1 (V) (V) lo hi st ep hl hh mv ac pt tk et lm pE pA (B + 2) S := by
  have i_h9 := Pin_h9 I
  clear I
  simp only [Q_h9, pokM, pown, prcv, pgiv, ppge, pfu] at *
  grind
set_option maxHeartbeats 400000 in
theorem pt_undo_h10 {has : Prop} {V E H T oG oT w0 w1 w2 w3 lo hi : Int} {st ep hl hh mv ac pt tk et lm pE pA : Nat → Int} {B : Int} {S : (Nat → Int) → Prop} (I : Pin has V E H T oG oT w0 w1 w2 w3 lo hi st ep hl hh mv ac pt tk et lm pE pA B S) (hT : 0 ≤ T)  : Q_h10 has V (V + 1) H (-1) (H) (T) w0 w1 (V) (V) lo hi st ep hl hh mv ac pt tk et lm pE pA (B + 2) S := by
  have i_h10 := Pin_h10 I
  clear I
  simp only [Q_h10, pokM, pown, prcv, pgiv, ppge, pfu] at *
  grind
set_option maxHeartbeats 400000 in
theorem pt_undo_h11 {has : Prop} {V E H T oG oT w0 w1 w2 w3 lo hi : Int} {st ep hl hh mv ac pt tk et lm pE pA : Nat → Int} {B : Int} {S : (Nat → Int) → Prop} (I : Pin has V E H T oG oT w0 w1 w2 w3 lo hi st ep hl hh mv ac pt tk et lm pE pA B S) (hT : 0 ≤ T)  : Q_h11 has V (V + 1) H (-1) (H) (T) w0 w1 (V) (V) lo hi st ep hl hh mv ac pt tk et lm pE pA (B + 2) S := by
  have i_h11 := Pin_h11 I
  clear I
  simp only [Q_h11, pokM, pown, prcv, pgiv, ppge, pfu] at *
  grind
set_option maxHeartbeats 400000 in
theorem pt_undo_h12 {has : Prop} {V E H T oG oT w0 w1 w2 w3 lo hi : Int} {st ep hl hh mv ac pt tk et lm pE pA : Nat → Int} {B : Int} {S : (Nat → Int) → Prop} (I : Pin has V E H T oG oT w0 w1 w2 w3 lo hi st ep hl hh mv ac pt tk et lm pE pA B S) (hT : 0 ≤ T)  : Q_h12 has V (V + 1) H (-1) (H) (T) w0 w1 (V) (V) lo hi st ep hl hh mv ac pt tk et lm pE pA (B + 2) S := by
  have i_h12 := Pin_h12 I
  clear I
  simp only [Q_h12, pokM, pown, prcv, pgiv, ppge, pfu] at *
  grind
set_option maxHeartbeats 400000 in
theorem pt_undo_k1 {has : Prop} {V E H T oG oT w0 w1 w2 w3 lo hi : Int} {st ep hl hh mv ac pt tk et lm pE pA : Nat → Int} {B : Int} {S : (Nat → Int) → Prop} (I : Pin has V E H T oG oT w0 w1 w2 w3 lo hi st ep hl hh mv ac pt tk et lm pE pA B S) (hT : 0 ≤ T)  : Q_k1 has V (V + 1) H (-1) (H) (T) w0 w1 (V) (V) lo hi st ep hl hh mv ac pt tk et lm pE pA (B + 2) S := by
  have i_k1 := Pin_k1 I
  clear I
  simp only [Q_k1, pokM, pown, prcv, pgiv, ppge, pfu] at *
  grind
set_option maxHeartbeats 400000 in
theorem pt_undo_k2 {has : Prop} {V E H T oG oT w0 w1 w2 w3 lo hi : Int} {st ep hl hh mv ac pt tk et lm pE pA : Nat → Int} {B : Int} {S : (Nat → Int) → Prop} (I : Pin has V E H T oG oT w0 w1 w2 w3 lo hi st ep hl hh mv ac pt tk et lm pE pA B S) (hT : 0 ≤ T)  : Q_k2 has V (V + 1) H (-1) (H) (T) w0 w1 (V) (V) lo hi st ep hl hh mv ac pt tk et lm pE pA (B + 2) S := by
  have i_k2 := Pin_k2 I
  clear I
  simp only [Q_k2, pokM, pown, prcv, pgiv, ppge, pfu] at *
  grind
set_option maxHeartbeats 400000 in
theorem pt_undo_k8 {has : Prop} {V E H T oG oT w0 w1 w2 w3 lo hi : Int} {st ep hl hh mv ac pt tk et lm pE pA : Nat → Int} {B : Int} {S : (Nat → Int) → Prop} (I : Pin has V E H T oG oT w0 w1 w2 w3 lo hi st ep hl hh mv ac pt tk et lm pE pA B S) (hT : 0 ≤ T)  : Q_k8 has V (V + 1) H (-1) (H) (T) w0 w1 (V) (V) lo hi st ep hl hh mv ac pt tk et lm pE pA (B + 2) S := by
  have i_k8 := Pin_k8 I
  clear I
  simp only [Q_k8, pokM, pown, prcv, pgiv, ppge, pfu] at *
  grind
set_option maxHeartbeats 400000 in
theorem pt_undo_l4 {has : Prop} {V E H T oG oT w0 w1 w2 w3 lo hi : Int} {st ep hl hh mv ac pt tk et lm pE pA : Nat → Int} {B : Int} {S : (Nat → Int) → Prop} (I : Pin has V E H T oG oT w0 w1 w2 w3 lo hi st ep hl hh mv ac pt tk et lm pE pA B S) (hT : 0 ≤ T)  : Q_l4 has V (V + 1) H (-1) (H) (T) w0 w1 (V) (V) lo hi st ep hl hh mv ac pt tk et lm pE pA (B + 2) S := by
  have i_l4 := Pin_l4 I
  clear I
  simp only [Q_l4, pokM, pown, prcv, pgiv, ppge, pfu] at *
  grind
set_option maxHeartbeats 400000 in
theorem pt_undo_l5 {has : Prop} {V E H T oG oT w0 w1 w2 w3 lo hi : Int} {st ep hl hh mv ac pt tk et lm pE pA : Nat → Int} {B : Int} {S : (Nat → Int) → Prop} (I : Pin has V E H T oG oT w0 w1 w2 w3 lo hi st ep hl hh mv ac pt tk et lm pE pA B S) (hT : 0 ≤ T)  : Q_l5 has V (V + 1) H (-1) (H) (T) w0 w1 (V) (V) lo hi st ep hl hh mv ac pt tk et lm pE pA (B + 2) S := by
  have i_l5 := Pin_l5 I
  clear I
  simp only [Q_l5, pokM, pown, prcv, pgiv, ppge, pfu] at *
  grind
set_option maxHeartbeats 400000 in
theorem pt_undo_l3 {has : Prop} {V E H T oG oT w0 w1 w2 w3 lo hi : Int} {st ep hl hh mv ac pt tk et lm pE pA : Nat → Int} {B : Int} {S : (Nat → Int) → Prop} (I : Pin has V E H T oG oT w0 w1 w2 w3 lo hi st ep hl hh mv ac pt tk et lm pE pA B S) (hT : 0 ≤ T)  : Q_l3 has V (V + 1) H (-1) (H) (T) w0 w1 (V) (V) lo hi st ep hl hh mv ac pt tk et lm pE pA (B + 2) S := by
  have i_l3 := Pin_l3 I
  clear I
  simp only [Q_l3, pokM, pown, prcv, pgiv, ppge, pfu] at *
  grind
set_option maxHeartbeats 400000 in
theorem pt_undo_m1 {has : Prop} {V E H T oG oT w0 w1 w2 w3 lo hi : Int} {st ep hl hh mv ac pt tk et lm pE pA : Nat → Int} {B : Int} {S : (Nat → Int) → Prop} (I : Pin has V E H T oG oT w0 w1 w2 w3 lo hi st ep hl hh mv ac pt tk et lm pE pA B S) (hT : 0 ≤ T)  : Q_m1 has V (V + 1) H (-1) (H) (T) w0 w1 (V) (V) lo hi st ep hl hh mv ac pt tk et lm pE pA (B + 2) S := by
  have i_m1 := Pin_m1 I
  clear I
  simp only [Q_m1, pokM, pown, prcv, pgiv, ppge, pfu] at *
  grind
set_option maxHeartbeats 400000 in
theorem pt_undo_m2 {has : Prop} {V E H T oG oT w0 w1 w2 w3 lo hi : Int} {st ep hl hh mv ac pt tk et lm pE pA : Nat → Int} {B : Int} {S : (Nat → Int) → Prop} (I : Pin has V E H T oG oT w0 w1 w2 w3 lo hi st ep hl hh mv ac pt tk et lm pE pA B S) (hT : 0 ≤ T)  : Q_m2 has V (V + 1) H (-1) (H) (T) w0 w1 (V) (V) lo hi st ep hl hh mv ac pt tk et lm pE pA (B + 2) S := by
  have i_m2 := Pin_m2 I
  clear I
  simp only [Q_m2, pokM, pown, prcv, pgiv, ppge, pfu] at *
  grind
set_option maxHeartbeats 400000 in
theorem pt_undo_m3 {has : Prop} {V E H T oG oT w0 w1 w2 w3 lo hi : Int} {st ep hl hh mv ac pt tk et lm pE pA : Nat → Int} {B : Int} {S : (Nat → Int) → Prop} (I : Pin has V E H T oG oT w0 w1 w2 w3 lo hi st ep hl hh mv ac pt tk et lm pE pA B S) (hT : 0 ≤ T)  : Q_m3 has V (V + 1) H (-1) (H) (T) w0 w1 (V) (V) lo hi st ep hl hh mv ac pt tk et lm pE pA (B + 2) S := by
  have i_m3 := Pin_m3 I
  clear I
  simp only [Q_m3, pokM, pown, prcv, pgiv, ppge, pfu] at *
  grind
set_option maxHeartbeats 400000 in
theorem pt_undo_n0 {has : Prop} {V E H T oG oT w0 w1 w2 w3 lo hi : Int} {st ep hl hh mv ac pt tk et lm pE pA : Nat → Int} {B : Int} {S : (Nat → Int) → Prop} (I : Pin has V E H T oG oT w0 w1 w2 w3 lo hi st ep hl hh mv ac pt tk et lm pE pA B S) (hT : 0 ≤ T)  : Q_n0 has V (V + 1) H (-1) (H) (T) w0 w1 (V) (V) lo hi st ep hl hh mv ac pt tk et lm pE pA (B + 2) S := by
  have i_n0 := Pin_n0 I
  clear I
  simp only [Q_n0, pokM, pown, prcv, pgiv, ppge, pfu] at *
  grind
set_option maxHeartbeats 400000 in
theorem pt_undo_n1 {has : Prop} {V E H T oG oT w0 w1 w2 w3 lo hi : Int} {st ep hl hh mv ac pt tk et lm pE pA : Nat → Int} {B : Int} {S : (Nat → Int) → Prop} (I : Pin has V E H T oG oT w0 w1 w2 w3 lo hi st ep hl hh mv ac pt tk et lm pE pA B S) (hT : 0 ≤ T)  : Q_n1 has V (V + 1) H (-1) (H) (T) w0 w1 (V) (V) lo hi st ep hl hh mv ac pt tk et lm pE pA (B + 2) S := by
  have i_n1 := Pin_n1 I
  clear I
  simp only [Q_n1, pokM, pown, prcv, pgiv, ppge, pfu] at *
  grind
set_option maxHeartbeats 400000 in
theorem pt_undo_n2 {has : Prop} {V E H T oG oT w0 w1 w2 w3 lo hi : Int} {st ep hl hh mv ac pt tk et lm pE pA : Nat → Int} {B : Int} {S : (Nat → Int) → Prop} (I : Pin has V E H T oG oT w0 w1 w2 w3 lo hi st ep hl hh mv ac pt tk et lm pE pA B S) (hT : 0 ≤ T)  : Q_n2 has V (V + 1) H (-1) (H) (T) w0 w1 (V) (V) lo hi st ep hl hh mv ac pt tk et lm pE pA (B + 2) S := by
  have i_n2 := Pin_n2 I
  clear I
  simp only [Q_n2, pokM, pown, prcv, pgiv, ppge, pfu] at *
  grind
set_option maxHeartbeats 400000 in
theorem pt_undo_n3 {has : Prop} {V E H T oG oT w0 w1 w2 w3 lo hi : Int} {st ep hl hh mv ac pt tk et lm pE pA : Nat → Int} {B : Int} {S : (Nat → Int) → Prop} (I : Pin has V E H T oG oT w0 w1 w2 w3 lo hi st ep hl hh mv ac pt tk et lm pE pA B S) (hT : 0 ≤ T)  : Q_n3 has V (V + 1) H (-1) (H) (T) w0 w1 (V) (V) lo hi st ep hl hh mv ac pt tk et lm pE pA (B + 2) S := by
  have i_n3 := Pin_n3 I
  clear I
  simp only [Q_n3, pokM, pown, prcv, pgiv, ppge, pfu] at *
  grind
set_option maxHeartbeats 400000 in
theorem pt_undo_n4 {has : Prop} {V E H T oG oT w0 w1 w2 w3 lo hi : Int} {st ep hl hh mv ac pt tk et lm pE pA : Nat → Int} {B : Int} {S : (Nat → Int) → Prop} (I : Pin has V E H T oG oT w0 w1 w2 w3 lo hi st ep hl hh mv ac pt tk et lm pE pA B S) (hT : 0 ≤ T)  : Q_n4 has V (V + 1) H (-1) (H) (T) w0 w1 (V) (V) lo hi st ep hl hh mv ac pt tk et lm pE pA (B + 2) S := by
  have i_n4 := Pin_n4 I
  clear I
  simp only [Q_n4, pokM, pown, prcv, pgiv, ppge, pfu] at *
  grind
set_option maxHeartbeats 400000 in
theorem pt_undo_n5 {has : Prop} {V E H T oG oT w0 w1 w2 w3 lo hi : Int} {st ep hl hh mv ac pt tk et lm pE pA : Nat → Int} {B : Int} {S : (Nat → Int) → Prop} (I : Pin has V E H T oG oT w0 w1 w2 w3 lo hi st ep hl hh mv ac pt tk et lm pE pA B S) (hT : 0 ≤ T)  : Q_n5 has V (V + 1) H (-1) (H) (T) w0 w1 (V) (V) lo hi st ep hl hh mv ac pt tk et lm pE pA (B + 2) S := by
  have i_n5 := Pin_n5 I
  clear I
  simp only [Q_n5, pokM, pown, prcv, pgiv, ppge, pfu] at *
  grind
set_option maxHeartbeats 400000 in
theorem pt_undo_n6 {has : Prop} {V E H T oG oT w0 w1 w2 w3 lo hi : Int} {st ep hl hh mv ac pt tk et lm pE pA : Nat → Int} {B : Int} {S : (Nat → Int) → Prop} (I : Pin has V E H T oG oT w0 w1 w2 w3 lo hi st ep hl hh mv ac pt tk et lm pE pA B S) (hT : 0 ≤ T)  : Q_n6 has V (V + 1) H (-1) (H) (T) w0 w1 (V) (V) lo hi st ep hl hh mv ac pt tk et lm pE pA (B + 2) S := by
  have i_n6 := Pin_n6 I
  clear I
  simp only [Q_n6, pokM, pown, prcv, pgiv, ppge, pfu] at *
  grind
set_option maxHeartbeats 400000 in
theorem pt_undo_n7 {has : Prop} {V E H T oG oT w0 w1 w2 w3 lo hi : Int} {st ep hl hh mv ac pt tk et lm pE pA : Nat → Int} {B : Int} {S : (Nat → Int) → Prop} (I : Pin has V E H T oG oT w0 w1 w2 w3 lo hi st ep hl hh mv ac pt tk et lm pE pA B S) (hT : 0 ≤ T)  : Q_n7 has V (V + 1) H (-1) (H) (T) w0 w1 (V) (V) lo hi st ep hl hh mv ac pt tk et lm pE pA (B + 2) S := by
  have i_n7 := Pin_n7 I
  clear I
  simp only [Q_n7, pokM, pown, prcv, pgiv, ppge, pfu] at *
  grind
set_option maxHeartbeats 400000 in
theorem pt_undo_o {has : Prop} {V E H T oG oT w0 w1 w2 w3 lo hi : Int} {st ep hl hh mv ac pt tk et lm pE pA : Nat → Int} {B : Int} {S : (Nat → Int) → Prop} (I : Pin has V E H T oG oT w0 w1 w2 w3 lo hi st ep hl hh mv ac pt tk et lm pE pA B S) (hT : 0 ≤ T)  : Q_o has V (V + 1) H (-1) (H) (T) w0 w1 (V) (V) lo hi st ep hl hh mv ac pt tk et lm pE pA (B + 2) S := by
  have i_o := Pin_o I
  clear I
  simp only [Q_o, pokM, pown, prcv, pgiv, ppge, pfu] at *
  grind
set_option maxHeartbeats 400000 in
theorem pt_undo_p {has : Prop} {V E H T oG oT w0 w1 w2 w3 lo hi : Int} {st ep hl hh mv ac pt tk et lm pE pA : Nat → Int} {B : Int} {S : (Nat → Int) → Prop} (I : Pin has V E H T oG oT w0 w1 w2 w3 lo hi st ep hl hh mv ac pt tk et lm pE pA B S) (hT : 0 ≤ T)  : Q_p has V (V + 1) H (-1) (H) (T) w0 w1 (V) (V) lo hi st ep hl hh mv ac pt tk et lm pE pA (B + 2) S := by
  have i_p := Pin_p I
  clear I
  simp only [Q_p, pokM, pown, prcv, pgiv, ppge, pfu] at *
  grind
set_option maxHeartbeats 400000 in
theorem pt_undo_q {has : Prop} {V E H T oG oT w0 w1 w2 w3 lo hi : Int} {st ep hl hh mv ac pt tk et lm pE pA : Nat → Int} {B : Int} {S : (Nat → Int) → Prop} (I : Pin has V E H T oG oT w0 w1 w2 w3 lo hi st ep hl hh mv ac pt tk et lm pE pA B S) (hT : 0 ≤ T)  : Q_q has V (V + 1) H (-1) (H) (T) w0 w1 (V) (V) lo hi st ep hl hh mv ac pt tk et lm pE pA (B + 2) S := by
  have i_v0 := Pin_v0 I
  have i_a := Pin_a I
  have i_b := Pin_b I
  have i_c := Pin_c I
  have i_d := Pin_d I
  have i_e := Pin_e I
  have i_q := Pin_q I
  clear I
  simp only [Q_a, Q_b, Q_c, Q_d, Q_e, Q_q, Q_v0, pokM, pown, prcv, pgiv, ppge, pfu] at *
  grind
set_option maxHeartbeats 400000 in
theorem pt_undo_q2 {has : Prop} {V E H T oG oT w0 w1 w2 w3 lo hi : Int} {st ep hl hh mv ac pt tk et lm pE pA : Nat → Int} {B : Int} {S : (Nat → Int) → Prop} (I : Pin has V E H T oG oT w0 w1 w2 w3 lo hi st ep hl hh mv ac pt tk et lm pE pA B S) (hT : 0 ≤ T)  : Q_q2 has V (V + 1) H (-1) (H) (T) w0 w1 (V) (V) lo hi st ep hl hh mv ac pt tk et lm pE pA (B + 2) S := by
  have i_q2 := Pin_q2 I
  clear I
  simp only [Q_q2, pokM, pown, prcv, pgiv, ppge, pfu] at *
  grind
set_option maxHeartbeats 400000 in
theorem pt_undo_q3 {has : Prop} {V E H T oG oT w0 w1 w2 w3 lo hi : Int} {st ep hl hh mv ac pt tk et lm pE pA : Nat → Int} {B : Int} {S : (Nat → Int) → Prop} (I : Pin has V E H T oG oT w0 w1 w2 w3 lo hi st ep hl hh mv ac pt tk et lm pE pA B S) (hT : 0 ≤ T)  : Q_q3 has V (V + 1) H (-1) (H) (T) w0 w1 (V) (V) lo hi st ep hl hh mv ac pt tk et lm pE pA (B + 2) S := by
  have i_q3 := Pin_q3 I
  clear I
  simp only [Q_q3, pokM, pown, prcv, pgiv, ppge, pfu] at *
  grind
set_option maxHeartbeats 400000 in
theorem pt_undo_w {has : Prop} {V E H T oG oT w0 w1 w2 w3 lo hi : Int} {st ep hl hh mv ac pt tk et lm pE pA : Nat → Int} {B : Int} {S : (Nat → Int) → Prop} (I : Pin has V E H T oG oT w0 w1 w2 w3 lo hi st ep hl hh mv ac pt tk et lm pE pA B S) (hT : 0 ≤ T)  : Q_w has V (V + 1) H (-1) (H) (T) w0 w1 (V) (V) lo hi st ep hl hh mv ac pt tk et lm pE pA (B + 2) S := by
  have i_v0 := Pin_v0 I
  have i_a := Pin_a I
  have i_b := Pin_b I
  have i_c := Pin_c I
  have i_d := Pin_d I
  have i_e := Pin_e I
  have i_q := Pin_q I
  have i_w := Pin_w I
  clear I
  simp only [Q_a, Q_b, Q_c, Q_d, Q_e, Q_q, Q_v0, Q_w, pokM, pown, prcv, pgiv, ppge, pfu] at *
  grind
theorem pt_undo {has : Prop} {V E H T oG oT w0 w1 w2 w3 lo hi : Int} {st ep hl hh mv ac pt tk et lm pE pA : Nat → Int} {B : Int} {S : (Nat → Int) → Prop} (I : Pin has V E H T oG oT w0 w1 w2 w3 lo hi st ep hl hh mv ac pt tk et lm pE pA B S) (hT : 0 ≤ T) : Pin has V (V + 1) H (-1) (H) (T) w0 w1 (V) (V) lo hi st ep hl hh mv ac pt tk et lm pE pA (B + 2) S := by
  exact ⟨pt_undo_v0 I hT , pt_undo_a I hT , pt_undo_b I hT , pt_undo_c I hT , pt_undo_d I hT , pt_undo_e I hT , pt_undo_f I hT , pt_undo_f2 I hT , pt_undo_f3 I hT , pt_undo_g I hT , pt_undo_g0 I hT , pt_undo_g1 I hT , pt_undo_g2 I hT , pt_undo_h7 I hT , pt_undo_h9 I hT , pt_undo_h10 I hT , pt_undo_h11 I hT , pt_undo_h12 I hT , pt_undo_k1 I hT , pt_undo_k2 I hT , pt_undo_k8 I hT , pt_undo_l4 I hT , pt_undo_l5 I hT , pt_undo_l3 I hT , pt_undo_m1 I hT , pt_undo_m2 I hT , pt_undo_m3 I hT , pt_undo_n0 I hT , pt_undo_n1 I hT , pt_undo_n2 I hT , pt_undo_n3 I hT , pt_undo_n4 I hT , pt_undo_n5 I hT , pt_undo_n6 I hT , pt_undo_n7 I hT , pt_undo_o I hT , pt_undo_p I hT , pt_undo_q I hT , pt_undo_q2 I hT , pt_undo_q3 I hT , pt_undo_w I hT ⟩
set_option maxHeartbeats 400000 in
theorem pt_resize_hE_d {has : Prop} {V E H T oG oT w0 w1 w2 w3 lo hi : Int} {st ep hl hh mv ac pt tk et lm pE pA : Nat → Int} {B : Int} {S : (Nat → Int) → Prop} (I : Pin has V E H T oG oT w0 w1 w2 w3 lo hi st ep hl hh mv ac pt tk et lm pE pA B S) (h : Nat) (y lo' hi' : Int) (hhH : (h : Int) = H) (hT : T < 0) (hw : w0 < 0 ∧ w1 < 0 ∧ w2 < 0 ∧ w3 < 0) (hst : st h = 1) (hy : E < y) (hyB : y ≤ B + 2)  : ep h = E ∧ V ≤ E := by
  have i_d := Pin_d I
  have i_v0 := Pin_v0 I
  clear I
  try simp only [Q_d, Q_v0, pown, prcv, pgiv, ppge, pfu] at *
  grind
set_option maxHeartbeats 400000 in
theorem pt_resize_hO_d {has : Prop} {V E H T oG oT w0 w1 w2 w3 lo hi : Int} {st ep hl hh mv ac pt tk et lm pE pA : Nat → Int} {B : Int} {S : (Nat → Int) → Prop} (I : Pin has V E H T oG oT w0 w1 w2 w3 lo hi st ep hl hh mv ac pt tk et lm pE pA B S) (h : Nat) (y lo' hi' : Int) (hhH : (h : Int) = H) (hT : T < 0) (hw : w0 < 0 ∧ w1 < 0 ∧ w2 < 0 ∧ w3 < 0) (hst : st h = 1) (hy : E < y) (hyB : y ≤ B + 2) (hE : ep h = E ∧ V ≤ E) : ∀ i : Nat, (i : Int) ≠ H → ¬ pown st i := by
  have i_b := Pin_b I
  have i_v0 := Pin_v0 I
  clear I
  try simp only [Q_b, Q_v0, pown, prcv, pgiv, ppge, pfu] at *
  grind
set_option maxHeartbeats 400000 in
theorem pt_resize_hiu_d {has : Prop} {V E H T oG oT w0 w1 w2 w3 lo hi : Int} {st ep hl hh mv ac pt tk et lm pE pA : Nat → Int} {B : Int} {S : (Nat → Int) → Prop} (I : Pin has V E H T oG oT w0 w1 w2 w3 lo hi st ep hl hh mv ac pt tk et lm pE pA B S) (h : Nat) (y lo' hi' : Int) (hhH : (h : Int) = H) (hT : T < 0) (hw : w0 < 0 ∧ w1 < 0 ∧ w2 < 0 ∧ w3 < 0) (hst : st h = 1) (hy : E < y) (hyB : y ≤ B + 2) (hE : ep h = E ∧ V ≤ E) (hO : ∀ i : Nat, (i : Int) ≠ H → ¬ pown st i) : ∀ i : Nat, (i : Int) = H → i = h := by

  clear I
  try simp only [pokM, pown, prcv, pgiv, ppge, pfu] at *
  grind
set_option maxHeartbeats 400000 in
theorem pt_resize_v0 {has : Prop} {V E H T oG oT w0 w1 w2 w3 lo hi : Int} {st ep hl hh mv ac pt tk et lm pE pA : Nat → Int} {B : Int} {S : (Nat → Int) → Prop} (I : Pin has V E H T oG oT w0 w1 w2 w3 lo hi st ep hl hh mv ac pt tk et lm pE pA B S) (h : Nat) (y lo' hi' : Int) (hhH : (h : Int) = H) (hT : T < 0) (hw : w0 < 0 ∧ w1 < 0 ∧ w2 < 0 ∧ w3 < 0) (hst : st h = 1) (hy : E < y) (hyB : y ≤ B + 2) (hE : ep h = E ∧ V ≤ E) (hO : ∀ i : Nat, (i : Int) ≠ H → ¬ pown st i) (hiu : ∀ i : Nat, (i : Int) = H → i = h) : Q_v0 has V (y) H T oG oT w0 w1 w2 w3 (lo') (hi') st (pfu ep h y) (pfu hl h lo') (pfu hh h hi') mv ac pt tk et lm pE pA (B + 2) S := by
  have i_v0 := Pin_v0 I
  clear I
  simp only [Q_v0, pokM, pown, prcv, pgiv, ppge, pfu] at *
  grind
set_option maxHeartbeats 400000 in
theorem pt_resize_a {has : Prop} {V E H T oG oT w0 w1 w2 w3 lo hi : Int} {st ep hl hh mv ac pt tk et lm pE pA : Nat → Int} {B : Int} {S : (Nat → Int) → Prop} (I : Pin has V E H T oG oT w0 w1 w2 w3 lo hi st ep hl hh mv ac pt tk et lm pE pA B S) (h : Nat) (y lo' hi' : Int) (hhH : (h : Int) = H) (hT : T < 0) (hw : w0 < 0 ∧ w1 < 0 ∧ w2 < 0 ∧ w3 < 0) (hst : st h = 1) (hy : E < y) (hyB : y ≤ B + 2) (hE : ep h = E ∧ V ≤ E) (hO : ∀ i : Nat, (i : Int) ≠ H → ¬ pown st i) (hiu : ∀ i : Nat, (i : Int) = H → i = h) : Q_a has V (y) H T oG oT w0 w1 w2 w3 (lo') (hi') st (pfu ep h y) (pfu hl h lo') (pfu hh h hi') mv ac pt tk et lm pE pA (B + 2) S := by
  have i_a := Pin_a I
  clear I
  simp only [Q_a, pokM, pown, prcv, pgiv, ppge, pfu] at *
  grind
set_option maxHeartbeats 400000 in
theorem pt_resize_b {has : Prop} {V E H T oG oT w0 w1 w2 w3 lo hi : Int} {st ep hl hh mv ac pt tk et lm pE pA : Nat → Int} {B : Int} {S : (Nat → Int) → Prop} (I : Pin has V E H T oG oT w0 w1 w2 w3 lo hi st ep hl hh mv ac pt tk et lm pE pA B S) (h : Nat) (y lo' hi' : Int) (hhH : (h : Int) = H) (hT : T < 0) (hw : w0 < 0 ∧ w1 < 0 ∧ w2 < 0 ∧ w3 < 0) (hst : st h = 1) (hy : E < y) (hyB : y ≤ B + 2) (hE : ep h = E ∧ V ≤ E) (hO : ∀ i : Nat, (i : Int) ≠ H → ¬ pown st i) (hiu : ∀ i : Nat, (i : Int) = H → i = h) : Q_b has V (y) H T oG oT w0 w1 w2 w3 (lo') (hi') st (pfu ep h y) (pfu hl h lo') (pfu hh h hi') mv ac pt tk et lm pE pA (B + 2) S := by
  have i_b := Pin_b I
  clear I
  simp only [Q_b, pokM, pown, prcv, pgiv, ppge, pfu] at *
  grind
set_option maxHeartbeats 400000 in
theorem pt_resize_c {has : Prop} {V E H T oG oT w0 w1 w2 w3 lo hi : Int} {st ep hl hh mv ac pt tk et lm pE pA : Nat → Int} {B : Int} {S : (Nat → Int) → Prop} (I : Pin has V E H T oG oT w0 w1 w2 w3 lo hi st ep hl hh mv ac pt tk et lm pE pA B S) (h : Nat) (y lo' hi' : Int) (hhH : (h : Int) = H) (hT : T < 0) (hw : w0 < 0 ∧ w1 < 0 ∧ w2 < 0 ∧ w3 < 0) (hst : st h = 1) (hy : E < y) (hyB : y ≤ B + 2) (hE : ep h = E ∧ V ≤ E) (hO : ∀ i : Nat, (i : Int) ≠ H → ¬ pown st i) (hiu : ∀ i : Nat, (i : Int) = H → i = h) : Q_c has V (y) H T oG oT w0 w1 w2 w3 (lo') (hi') st (pfu ep h y) (pfu hl h lo') (pfu hh h hi') mv ac pt tk et lm pE pA (B + 2) S := by
  have i_c := Pin_c I
  clear I
  simp only [Q_c, pokM, pown, prcv, pgiv, ppge, pfu] at *
  grind
set_option maxHeartbeats 400000 in
theorem pt_resize_d {has : Prop} {V E H T oG oT w0 w1 w2 w3 lo hi : Int} {st ep hl hh mv ac pt tk et lm pE pA : Nat → Int} {B : Int} {S : (Nat → Int) → Prop} (I : Pin has V E H T oG oT w0 w1 w2 w3 lo hi st ep hl hh mv ac pt tk et lm pE pA B S) (h : Nat) (y lo' hi' : Int) (hhH : (h : Int) = H) (hT : T < 0) (hw : w0 < 0 ∧ w1 < 0 ∧ w2 < 0 ∧ w3 < 0) (hst : st h = 1) (hy : E < y) (hyB : y ≤ B + 2) (hE : ep h = E ∧ V ≤ E) (hO : ∀ i : Nat, (i : Int) ≠ H → ¬ pown st i) (hiu : ∀ i : Nat, (i : Int) = H → i = h) : Q_d has V (y) H T oG oT w0 w1 w2 w3 (lo') (hi') st (pfu ep h y) (pfu hl h lo') (pfu hh h hi') mv ac pt tk et lm pE pA (B + 2) S := by
  have i_d := Pin_d I
  clear I
  simp only [Q_d, pokM, pown, prcv, pgiv, ppge, pfu] at *
  grind
set_option maxHeartbeats 400000 in
theorem pt_resize_e {has : Prop} {V E H T oG oT w0 w1 w2 w3 lo hi : Int} {st ep hl hh mv ac pt tk et lm pE pA : Nat → Int} {B : Int} {S : (Nat → Int) → Prop} (I : Pin has V E H T oG oT w0 w1 w2 w3 lo hi st ep hl hh mv ac pt tk et lm pE pA B S) (h : Nat) (y lo' hi' : Int) (hhH : (h : Int) = H) (hT : T < 0) (hw : w0 < 0 ∧ w1 < 0 ∧ w2 < 0 ∧ w3 < 0) (hst : st h = 1) (hy : E < y) (hyB : y ≤ B + 2) (hE : ep h = E ∧ V ≤ E) (hO : ∀ i : Nat, (i : Int) ≠ H → ¬ pown st i) (hiu : ∀ i : Nat, (i : Int) = H → i = h) : Q_e has V (y) H T oG oT w0 w1 w2 w3 (lo') (hi') st (pfu ep h y) (pfu hl h lo') (pfu hh h hi') mv ac pt tk et lm pE pA (B + 2) S := by
  have i_e := Pin_e I
  clear I
  simp only [Q_e, pokM, pown, prcv, pgiv, ppge, pfu] at *
  grind
set_option maxHeartbeats 400000 in
theorem pt_resize_f {has : Prop} {V E H T oG oT w0 w1 w2 w3 lo hi : Int} {st ep hl hh mv ac pt tk et lm pE pA : Nat → Int} {B : Int} {S : (Nat → Int) → Prop} (I : Pin has V E H T oG oT w0 w1 w2 w3 lo hi st ep hl hh mv ac pt tk et lm pE pA B S) (h : Nat) (y lo' hi' : Int) (hhH : (h : Int) = H) (hT : T < 0) (hw : w0 < 0 ∧ w1 < 0 ∧ w2 < 0 ∧ w3 < 0) (hst : st h = 1) (hy : E < y) (hyB : y ≤ B + 2) (hE : ep h = E ∧ V ≤ E) (hO : ∀ i : Nat, (i : Int) ≠ H → ¬ pown st i) (hiu : ∀ i : Nat, (i : Int) = H → i = h) : Q_f has V (y) H T oG oT w0 w1 w2 w3 (lo') (hi') st (pfu ep h y) (pfu hl h lo') (pfu hh h hi') mv ac pt tk et lm pE pA (B + 2) S := by
  have i_f := Pin_f I
  clear I
  simp only [Q_f, pokM, pown, prcv, pgiv, ppge, pfu] at *
  grind
set_option maxHeartbeats 400000 in
theorem pt_resize_f2 {has : Prop} {V E H T oG oT w0 w1 w2 w3 lo hi : Int} {st ep hl hh mv ac pt tk et lm pE pA : Nat → Int} {B : Int} {S : (Nat → Int) → Prop} (I : Pin has V E H T oG oT w0 w1 w2 w3 lo hi st ep hl hh mv ac pt tk et lm pE pA B S) (h : Nat) (y lo' hi' : Int) (hhH : (h : Int) = H) (hT : T < 0) (hw : w0 < 0 ∧ w1 < 0 ∧ w2 < 0 ∧ w3 < 0) (hst : st h = 1) (hy : E < y) (hyB : y ≤ B + 2) (hE : ep h = E ∧ V ≤ E) (hO : ∀ i : Nat, (i : Int) ≠ H → ¬ pown st i) (hiu : ∀ i : Nat, (i : Int) = H → i = h) : Q_f2 has V (y) H T oG oT w0 w1 w2 w3 (lo') (hi') st (pfu ep h y) (pfu hl h lo') (pfu hh h hi') mv ac pt tk et lm pE pA (B + 2) S := by
  have i_f2 := Pin_f2 I
  clear I
  simp only [Q_f2, pokM, pown, prcv, pgiv, ppge, pfu] at *
  grind
set_option maxHeartbeats 400000 in
theorem pt_resize_f3 {has : Prop} {V E H T oG oT w0 w1 w2 w3 lo hi : Int} {st ep hl hh mv ac pt tk et lm pE pA : Nat → Int} {B : Int} {S : (Nat → Int) → Prop} (I : Pin has V E H T oG oT w0 w1 w2 w3 lo hi st ep hl hh mv ac pt tk et lm pE pA B S) (h : Nat) (y lo' hi' : Int) (hhH : (h : Int) = H) (hT : T < 0) (hw : w0 < 0 ∧ w1 < 0 ∧ w2 < 0 ∧ w3 < 0) (hst : st h = 1) (hy : E < y) (hyB : y ≤ B + 2) (hE : ep h = E ∧ V ≤ E) (hO : ∀ i : Nat, (i : Int) ≠ H → ¬ pown st i) (hiu : ∀ i : Nat, (i : Int) = H → i = h) : Q_f3 has V (y) H T oG oT w0 w1 w2 w3 (lo') (hi') st (pfu ep h y) (pfu hl h lo') (pfu hh h hi') mv ac pt tk et lm pE pA (B + 2) S := by
  have i_f3 := Pin_f3 I
  clear I
  simp only [Q_f3, pokM, pown, prcv, pgiv, ppge, pfu] at *
  grind
set_option maxHeartbeats 400000 in
theorem pt_resize_g {has : Prop} {V E H T oG oT w0 w1 w2 w3 lo hi : Int} {st ep hl hh mv ac pt tk et lm pE pA : Nat → Int} {B : Int} {S : (Nat → Int) → Prop} (I : Pin has V E H T oG oT w0 w1 w2 w3 lo hi st ep hl hh mv ac pt tk et lm pE pA B S) (h : Nat) (y lo' hi' : Int) (hhH : (h : Int) = H) (hT : T < 0) (hw : w0 < 0 ∧ w1 < 0 ∧ w2 < 0 ∧ w3 < 0) (hst : st h = 1) (hy : E < y) (hyB : y ≤ B + 2) (hE : ep h = E ∧ V ≤ E) (hO : ∀ i : Nat, (i : Int) ≠ H → ¬ pown st i) (hiu : ∀ i : Nat, (i : Int) = H → i = h) : Q_g has V (y) H T oG oT w0 w1 w2 w3 (lo') (hi') st (pfu ep h y) (pfu hl h lo') (pfu hh h hi') mv ac pt tk et lm pE pA (B + 2) S := by
  have i_g := Pin_g I
  clear I
  simp only [Q_g, pokM, pown, prcv, pgiv, ppge, pfu] at *
  grind
set_option maxHeartbeats 400000 in
theorem pt_resize_g0 {has : Prop} {V E H T oG oT w0 w1 w2 w3 lo hi : Int} {st ep hl hh mv ac pt tk et lm pE pA : Nat → Int} {B : Int} {S : (Nat → Int) → Prop} (I : Pin has V E H T oG oT w0 w1 w2 w3 lo hi st ep hl hh mv ac pt tk et lm pE pA B S) (h : Nat) (y lo' hi' : Int) (hhH : (h : Int) = H) (hT : T < 0) (hw : w0 < 0 ∧ w1 < 0 ∧ w2 < 0 ∧ w3 < 0) (hst : st h = 1) (hy : E < y) (hyB : y ≤ B + 2) (hE : ep h = E ∧ V ≤ E) (hO : ∀ i : Nat, (i : Int) ≠ H → ¬ pown st i) (hiu : ∀ i : Nat, (i : Int) = H → i = h) : Q_g0 has V (y) H T oG oT w0 w1 w2 w3 (lo') (hi') st (pfu ep h y) (pfu hl h lo') (pfu hh h hi') mv ac pt tk et lm pE pA (B + 2) S := by
  have i_g0 := Pin_g0 I
  clear I
  simp only [Q_g0, pokM, pown, prcv, pgiv, ppge, pfu] at *
  grind
set_option maxHeartbeats 400000 in
theorem pt_resize_g1 {has : Prop} {V E H T oG oT w0 w1 w2 w3 lo hi : Int} {st ep hl hh mv ac pt tk et lm pE pA : Nat → Int} {B : Int} {S : (Nat → Int) → Prop} (I : Pin has V E H T oG oT w0 w1 w2 w3 lo hi st ep hl hh mv ac pt tk et lm pE pA B S) (h : Nat) (y lo' hi' : Int) (hhH : (h : Int) = H) (hT : T < 0) (hw : w0 < 0 ∧ w1 < 0 ∧ w2 < 0 ∧ w3 < 0) (hst : st h = 1) (hy : E < y) (hyB : y ≤ B + 2) (hE : ep h = E ∧ V ≤ E) (hO : ∀ i : Nat, (i : Int) ≠ H → ¬ pown st i) (hiu : ∀ i : Nat, (i : Int) = H → i = h) : Q_g1 has V (y) H T oG oT w0 w1 w2 w3 (lo') (hi') st (pfu ep h y) (pfu hl h lo') (pfu hh h hi') mv ac pt tk et lm pE pA (B + 2) S := by
  have i_g1 := Pin_g1 I
  clear I
  simp only [Q_g1, pokM, pown, prcv, pgiv, ppge, pfu] at *
  grind
set_option maxHeartbeats 400000 in
theorem pt_resize_g2 {has : Prop} {V E H T oG oT w0 w1 w2 w3 lo hi : Int} {st ep hl hh mv ac pt tk et lm pE pA : Nat → Int} {B : Int} {S : (Nat → Int) → Prop} (I : Pin has V E H T oG oT w0 w1 w2 w3 lo hi st ep hl hh mv ac pt tk et lm pE pA B S) (h : Nat) (y lo' hi' : Int) (hhH : (h : Int) = H) (hT : T < 0) (hw : w0 < 0 ∧ w1 < 0 ∧ w2 < 0 ∧ w3 < 0) (hst : st h = 1) (hy : E < y) (hyB : y ≤ B + 2) (hE : ep h = E ∧ V ≤ E) (hO : ∀ i : Nat, (i : Int) ≠ H → ¬ pown st i) (hiu : ∀ i : Nat, (i : Int) = H → i = h) : Q_g2 has V (y) H T oG oT w0 w1 w2 w3 (lo') (hi') st (pfu ep h y) (pfu hl h lo') (pfu hh h hi') mv ac pt tk et lm pE pA (B + 2) S := by
  have i_g2 := Pin_g2 I
  clear I
  simp only [Q_g2, pokM, pown, prcv, pgiv, ppge, pfu] at *
  grind
set_option maxHeartbeats 400000 in
theorem pt_resize_h7 {has : Prop} {V E H T oG oT w0 w1 w2 w3 lo hi : Int} {st ep hl hh mv ac pt tk et lm pE pA : Nat → Int} {B : Int} {S : (Nat → Int) → Prop} (I : Pin has V E H T oG oT w0 w1 w2 w3 lo hi st ep hl hh mv ac pt tk et lm pE pA B S) (h : Nat) (y lo' hi' : Int) (hhH : (h : Int) = H) (hT : T < 0) (hw : w0 < 0 ∧ w1 < 0 ∧ w2 < 0 ∧ w3 < 0) (hst : st h = 1) (hy : E < y) (hyB : y ≤ B + 2) (hE : ep h = E ∧ V ≤ E) (hO : ∀ i : Nat, (i : Int) ≠ H → ¬ pown st i) (hiu : ∀ i : Nat, (i : Int) = H → i = h) : Q_h7 has V (y) H T oG oT w0 w1 w2 w3 (lo') (hi') st (pfu ep h y) (pfu hl h lo') (pfu hh h hi') mv ac pt tk et lm pE pA (B + 2) S := by
  have i_h7 := Pin_h7 I
  clear I
  simp only [Q_h7, pokM, pown, prcv, pgiv, ppge, pfu] at *
  grind
set_option maxHeartbeats 400000 in
theorem pt_resize_h9 {has : Prop} {V E H T oG oT w0 w1 w2 w3 lo hi : Int} {st ep hl hh mv ac pt tk et lm pE pA : Nat → Int} {B : Int} {S : (Nat → Int) → Prop} (I : Pin has V E H T oG oT w0 w1 w2 w3 lo hi st ep hl hh mv ac pt tk et lm pE pA B S) (h : Nat) (y lo' hi' : Int) (hhH : (h : Int) = H) (hT : T < 0) (hw : w0 < 0 ∧ w1 < 0 ∧ w2 < 0 ∧ w3 < 0) (hst : st h = 1) (hy : E < y) (hyB : y ≤ B + 2) (hE : ep h = E ∧ V ≤ E) (hO : ∀ i : Nat, (i : Int) ≠ H → ¬ pown st i) (hiu : ∀ i : Nat, (i : Int) = H → i = h) : Q_h9 has V (y) H T oG oT w0 w1 w2 w3 (lo') (hi') st (pfu ep h y) (pfu hl h lo') (pfu hh h hi') mv ac pt tk et lm pE pA (B + 2) S := by
  have i_h9 := Pin_h9 I
  clear I
  simp only [Q_h9, pokM, pown, prcv, pgiv, ppge, pfu] at *
  grind
set_option maxHeartbeats 400000 in
theorem pt_resize_h10 {has : Prop} {V E H T oG oT w0 w1 w2 w3 lo hi : Int} {st ep hl hh mv ac pt tk et lm pE pA : Nat → Int} {B : Int} {S : (Nat → Int) → Prop} (I : Pin has V E H T oG oT w0 w1 w2 w3 lo hi st ep hl hh mv ac pt tk et lm pE pA B S) (h : Nat) (y lo' hi' : Int) (hhH : (h : Int) = H) (hT : T < 0) (hw : w0 < 0 ∧ w1 < 0 ∧ w2 < 0 ∧ w3 < 0) (hst : st h = 1) (hy : E < y) (hyB : y ≤ B + 2) (hE : ep h = E ∧ V ≤ E) (hO : ∀ i : Nat, (i : Int) ≠ H → ¬ pown st i) (hiu : ∀ i : Nat, (i : Int) = H → i = h) : Q_h10 has V (y) H T oG oT w0 w1 w2 w3 (lo') (hi') st (pfu ep h y) (pfu hl h lo') (pfu hh h hi') mv ac pt tk et lm pE pA (B + 2) S := by
  have i_h10 := Pin_h10 I
  clear I
  simp only [Q_h10, pokM, pown, prcv, pgiv, ppge, pfu] at *
  grind
set_option maxHeartbeats 400000 in
theorem pt_resize_h11 {has : Prop} {V E H T oG oT w0 w1 w2 w3 lo hi : Int} {st ep hl hh mv ac pt tk et lm pE pA : Nat → Int} {B : Int} {S : (Nat → Int) → Prop} (I : Pin has V E H T oG oT w0 w1 w2 w3 lo hi st ep hl hh mv ac pt tk et lm pE pA B S) (h : Nat) (y lo' hi' : Int) (hhH : (h : Int) = H) (hT : T < 0) (hw : w0 < 0 ∧ w1 < 0 ∧ w2 < 0 ∧ w3 < 0) (hst : st h = 1) (hy : E < y) (hyB : y ≤ B + 2) (hE : ep h = E ∧ V ≤ E) (hO : ∀ i : Nat, (i : Int) ≠ H → ¬ pown st i) (hiu : ∀ i : Nat, (i : Int) = H → i = h) : Q_h11 has V (y) H T oG oT w0 w1 w2 w3 (lo') (hi') st (pfu ep h y) (pfu hl h lo') (pfu hh h hi') mv ac pt tk et lm pE pA (B + 2) S := by
  have i_h11 := Pin_h11 I
  clear I
  simp only [Q_h11, pokM, pown, prcv, pgiv, ppge, pfu] at *
  grind
set_option maxHeartbeats 400000 in
theorem pt_resize_h12 {has : Prop} {V E H T oG oT w0 w1 w2 w3 lo hi : Int} {st ep hl hh mv ac pt tk et lm pE pA : Nat → Int} {B : Int} {S : (Nat → Int) → Prop} (I : Pin has V E H T oG oT w0 w1 w2 w3 lo hi st ep hl hh mv ac pt tk et lm pE pA B S) (h : Nat) (y lo' hi' : Int) (hhH : (h : Int) = H) (hT : T < 0) (hw : w0 < 0 ∧ w1 < 0 ∧ w2 < 0 ∧ w3 < 0) (hst : st h = 1) (hy : E < y) (hyB : y ≤ B + 2) (hE : ep h = E ∧ V ≤ E) (hO : ∀ i : Nat, (i : Int) ≠ H → ¬ pown st i) (hiu : ∀ i : Nat, (i : Int) = H → i = h) : Q_h12 has V (y) H T oG oT w0 w1 w2 w3 (lo') (hi') st (pfu ep h y) (pfu hl h lo') (pfu hh h hi') mv ac pt tk et lm pE pA (B + 2) S := by
  have i_h12 := Pin_h12 I
  clear I
  simp only [Q_h12, pokM, pown, prcv, pgiv, ppge, pfu] at *
  grind
set_option maxHeartbeats 400000 in
theorem pt_resize_k1 {has : Prop} {V E H T oG oT w0 w1 w2 w3 lo hi : Int} {st ep hl hh mv ac pt tk et lm pE pA : Nat → Int} {B : Int} {S : (Nat → Int) → Prop} (I : Pin has V E H T oG oT w0 w1 w2 w3 lo hi st ep hl hh mv ac pt tk et lm pE pA B S) (h : Nat) (y lo' hi' : Int) (hhH : (h : Int) = H) (hT : T < 0) (hw : w0 < 0 ∧ w1 < 0 ∧ w2 < 0 ∧ w3 < 0) (hst : st h = 1) (hy : E < y) (hyB : y ≤ B + 2) (hE : ep h = E ∧ V ≤ E) (hO : ∀ i : Nat, (i : Int) ≠ H → ¬ pown st i) (hiu : ∀ i : Nat, (i : Int) = H → i = h) : Q_k1 has V (y) H T oG oT w0 w1 w2 w3 (lo') (hi') st (pfu ep h y) (pfu hl h lo') (pfu hh h hi') mv ac pt tk et lm pE pA (B + 2) S := by
  have i_k1 := Pin_k1 I
  clear I
  simp only [Q_k1, pokM, pown, prcv, pgiv, ppge, pfu] at *
  grind
set_option maxHeartbeats 400000 in
theorem pt_resize_k2 {has : Prop} {V E H T oG oT w0 w1 w2 w3 lo hi : Int} {st ep hl hh mv ac pt tk et lm pE pA : Nat → Int} {B : Int} {S : (Nat → Int) → Prop} (I : Pin has V E H T oG oT w0 w1 w2 w3 lo hi st ep hl hh mv ac pt tk et lm pE pA B S) (h : Nat) (y lo' hi' : Int) (hhH : (h : Int) = H) (hT : T < 0) (hw : w0 < 0 ∧ w1 < 0 ∧ w2 < 0 ∧ w3 < 0) (hst : st h = 1) (hy : E < y) (hyB : y ≤ B + 2) (hE : ep h = E ∧ V ≤ E) (hO : ∀ i : Nat, (i : Int) ≠ H → ¬ pown st i) (hiu : ∀ i : Nat, (i : Int) = H → i = h) : Q_k2 has V (y) H T oG oT w0 w1 w2 w3 (lo') (hi') st (pfu ep h y) (pfu hl h lo') (pfu hh h hi') mv ac pt tk et lm pE pA (B + 2) S := by
  have i_k2 := Pin_k2 I
  clear I
  simp only [Q_k2, pokM, pown, prcv, pgiv, ppge, pfu] at *
  grind
set_option maxHeartbeats 400000 in
theorem pt_resize_k8 {has : Prop} {V E H T oG oT w0 w1 w2 w3 lo hi : Int} {st ep hl hh mv ac pt tk et lm pE pA : Nat → Int} {B : Int} {S : (Nat → Int) → Prop} (I : Pin has V E H T oG oT w0 w1 w2 w3 lo hi st ep hl hh mv ac pt tk et lm pE pA B S) (h : Nat) (y lo' hi' : Int) (hhH : (h : Int) = H) (hT : T < 0) (hw : w0 < 0 ∧ w1 < 0 ∧ w2 < 0 ∧ w3 < 0) (hst : st h = 1) (hy : E < y) (hyB : y ≤ B + 2) (hE : ep h = E ∧ V ≤ E) (hO : ∀ i : Nat, (i : Int) ≠ H → ¬ pown st i) (hiu : ∀ i : Nat, (i : Int) = H → i = h) : Q_k8 has V (y) H T oG oT w0 w1 w2 w3 (lo') (hi') st (pfu ep h y) (pfu hl h lo') (pfu hh h hi') mv ac pt tk et lm pE pA (B + 2) S := by
  have i_k8 := Pin_k8 I
  clear I
  simp only [Q_k8, pokM, pown, prcv, pgiv, ppge, pfu] at *
  grind
set_option maxHeartbeats 400000 in
theorem pt_resize_l4 {has : Prop} {V E H T oG oT w0 w1 w2 w3 lo hi : Int} {st ep hl hh mv ac pt tk et lm pE pA : Nat → Int} {B : Int} {S : (Nat → Int) → Prop} (I : Pin has V E H T oG oT w0 w1 w2 w3 lo hi st ep hl hh mv ac pt tk et lm pE pA B S) (h : Nat) (y lo' hi' : Int) (hhH : (h : Int) = H) (hT : T < 0) (hw : w0 < 0 ∧ w1 < 0 ∧ w2 < 0 ∧ w3 < 0) (hst : st h = 1) (hy : E < y) (hyB : y ≤ B + 2) (hE : ep h = E ∧ V ≤ E) (hO : ∀ i : Nat, (i : Int) ≠ H → ¬ pown st i) (hiu : ∀ i : Nat, (i : Int) = H → i = h) : Q_l4 has V (y) H T oG oT w0 w1 w2 w3 (lo') (hi') st (pfu ep h y) (pfu hl h lo') (pfu hh h hi') mv ac pt tk et lm pE pA (B + 2) S := by
  have i_l4 := Pin_l4 I
  clear I
  simp only [Q_l4, pokM, pown, prcv, pgiv, ppge, pfu] at *
  grind
set_option maxHeartbeats 400000 in
theorem pt_resize_l5 {has : Prop} {V E H T oG oT w0 w1 w2 w3 lo hi : Int} {st ep hl hh mv ac pt tk et lm pE pA : Nat → Int} {B : Int} {S : (Nat → Int) → Prop} (I : Pin has V E H T oG oT w0 w1 w2 w3 lo hi st ep hl hh mv ac pt tk et lm pE pA B S) (h : Nat) (y lo' hi' : Int) (hhH : (h : Int) = H) (hT : T < 0) (hw : w0 < 0 ∧ w1 < 0 ∧ w2 < 0 ∧ w3 < 0) (hst : st h = 1) (hy : E < y) (hyB : y ≤ B + 2) (hE : ep h = E ∧ V ≤ E) (hO : ∀ i : Nat, (i : Int) ≠ H → ¬ pown st i) (hiu : ∀ i : Nat, (i : Int) = H → i = h) : Q_l5 has V (y) H T oG oT w0 w1 w2 w3 (lo') (hi') st (pfu ep h y) (pfu hl h lo') (pfu hh h hi') mv ac pt tk et lm pE pA (B + 2) S := by
  have i_l5 := Pin_l5 I
  clear I
  simp only [Q_l5, pokM, pown, prcv, pgiv, ppge, pfu] at *
  grind
set_option maxHeartbeats 400000 in
theorem pt_resize_l3 {has : Prop} {V E H T oG oT w0 w1 w2 w3 lo hi : Int} {st ep hl hh mv ac pt tk et lm pE pA : Nat → Int} {B : Int} {S : (Nat → Int) → Prop} (I : Pin has V E H T oG oT w0 w1 w2 w3 lo hi st ep hl hh mv ac pt tk et lm pE pA B S) (h : Nat) (y lo' hi' : Int) (hhH : (h : Int) = H) (hT : T < 0) (hw : w0 < 0 ∧ w1 < 0 ∧ w2 < 0 ∧ w3 < 0) (hst : st h = 1) (hy : E < y) (hyB : y ≤ B + 2) (hE : ep h = E ∧ V ≤ E) (hO : ∀ i : Nat, (i : Int) ≠ H → ¬ pown st i) (hiu : ∀ i : Nat, (i : Int) = H → i = h) : Q_l3 has V (y) H T oG oT w0 w1 w2 w3 (lo') (hi') st (pfu ep h y) (pfu hl h lo') (pfu hh h hi') mv ac pt tk et lm pE pA (B + 2) S := by
  have i_l3 := Pin_l3 I
  clear I
  simp only [Q_l3, pokM, pown, prcv, pgiv, ppge, pfu] at *
  grind
set_option maxHeartbeats 400000 in
theorem pt_resize_m1 {has : Prop} {V E H T oG oT w0 w1 w2 w3 lo hi : Int} {st ep hl hh mv ac pt tk et lm pE pA : Nat → Int} {B : Int} {S : (Nat → Int) → Prop} (I : Pin has V E H T oG oT w0 w1 w2 w3 lo hi st ep hl hh mv ac pt tk et lm pE pA B S) (h : Nat) (y lo' hi' : Int) (hhH : (h : Int) = H) (hT : T < 0) (hw : w0 < 0 ∧ w1 < 0 ∧ w2 < 0 ∧ w3 < 0) (hst : st h = 1) (hy : E < y) (hyB : y ≤ B + 2) (hE : ep h = E ∧ V ≤ E) (hO : ∀ i : Nat, (i : Int) ≠ H → ¬ pown st i) (hiu : ∀ i : Nat, (i : Int) = H → i = h) : Q_m1 has V (y) H T oG oT w0 w1 w2 w3 (lo') (hi') st (pfu ep h y) (pfu hl h lo') (pfu hh h hi') mv ac pt tk et lm pE pA (B + 2) S := by
  have i_m1 := Pin_m1 I
  clear I
  simp only [Q_m1, pokM, pown, prcv, pgiv, ppge, pfu] at *
  grind
set_option maxHeartbeats 400000 in
theorem pt_resize_m2 {has : Prop} {V E H T oG oT w0 w1 w2 w3 lo hi : Int} {st ep hl hh mv ac pt tk et lm pE pA : Nat → Int} {B : Int} {S : (Nat → Int) → Prop} (I : Pin has V E H T oG oT w0 w1 w2 w3 lo hi st ep hl hh mv ac pt tk et lm pE pA B S) (h : Nat) (y lo' hi' : Int) (hhH : (h : Int) = H) (hT : T < 0) (hw : w0 < 0 ∧ w1 < 0 ∧ w2 < 0 ∧ w3 < 0) (hst : st h = 1) (hy : E < y) (hyB : y ≤ B + 2) (hE : ep h = E ∧ V ≤ E) (hO : ∀ i : Nat, (i : Int) ≠ H → ¬ pown st i) (hiu : ∀ i : Nat, (i : Int) = H → i = h) : Q_m2 has V (y) H T oG oT w0 w1 w2 w3 (lo') (hi') st (pfu ep h y) (pfu hl h lo') (pfu hh h hi') mv ac pt tk et lm pE pA (B + 2) S := by
  have i_m2 := Pin_m2 I
  clear I
  simp only [Q_m2, pokM, pown, prcv, pgiv, ppge, pfu] at *
  grind
set_option maxHeartbeats 400000 in
theorem pt_resize_m3 {has : Prop} {V E H T oG oT w0 w1 w2 w3 lo hi : Int} {st ep hl hh mv ac pt tk et lm pE pA : Nat → Int} {B : Int} {S : (Nat → Int) → Prop} (I : Pin has V E H T oG oT w0 w1 w2 w3 lo hi st ep hl hh mv ac pt tk et lm pE pA B S) (h : Nat) (y lo' hi' : Int) (hhH : (h : Int) = H) (hT : T < 0) (hw : w0 < 0 ∧ w1 < 0 ∧ w2 < 0 ∧ w3 < 0) (hst : st h = 1) (hy : E < y) (hyB : y ≤ B + 2) (hE : ep h = E ∧ V ≤ E) (hO : ∀ i : Nat, (i : Int) ≠ H → ¬ pown st i) (hiu : ∀ i : Nat, (i : Int) = H → i = h) : Q_m3 has V (y) H T oG oT w0 w1 w2 w3 (lo') (hi') st (pfu ep h y) (pfu hl h lo') (pfu hh h hi') mv ac pt tk et lm pE pA (B + 2) S := by
  have i_m3 := Pin_m3 I
  clear I
  simp only [Q_m3, pokM, pown, prcv, pgiv, ppge, pfu] at *
  grind
set_option maxHeartbeats 400000 in
theorem pt_resize_n0 {has : Prop} {V E H T oG oT w0 w1 w2 w3 lo hi : Int} {st ep hl hh mv ac pt tk et lm pE pA : Nat → Int} {B : Int} {S : (Nat → Int) → Prop} (I : Pin has V E H T oG oT w0 w1 w2 w3 lo hi st ep hl hh mv ac pt tk et lm pE pA B S) (h : Nat) (y lo' hi' : Int) (hhH : (h : Int) = H) (hT : T < 0) (hw : w0 < 0 ∧ w1 < 0 ∧ w2 < 0 ∧ w3 < 0) (hst : st h = 1) (hy : E < y) (hyB : y ≤ B + 2) (hE : ep h = E ∧ V ≤ E) (hO : ∀ i : Nat, (i : Int) ≠ H → ¬ pown st i) (hiu : ∀ i : Nat, (i : Int) = H → i = h) : Q_n0 has V (y) H T oG oT w0 w1 w2 w3 (lo') (hi') st (pfu ep h y) (pfu hl h lo') (pfu hh h hi') mv ac pt tk et lm pE pA (B + 2) S := by
  have i_n0 := Pin_n0 I
  clear I
  simp only [Q_n0, pokM, pown, prcv, pgiv, ppge, pfu] at *
  grind
set_option maxHeartbeats 400000 in
theorem pt_resize_n1 {has : Prop} {V E H T oG oT w0 w1 w2 w3 lo hi : Int} {st ep hl hh mv ac pt tk et lm pE pA : Nat → Int} {B : Int} {S : (Nat → Int) → Prop} (I : Pin has V E H T oG oT w0 w1 w2 w3 lo hi st ep hl hh mv ac pt tk et lm pE pA B S) (h : Nat) (y lo' hi' : Int) (hhH : (h : Int) = H) (hT : T < 0) (hw : w0 < 0 ∧ w1 < 0 ∧ w2 < 0 ∧ w3 < 0) (hst : st h = 1) (hy : E < y) (hyB : y ≤ B + 2) (hE : ep h = E ∧ V ≤ E) (hO : ∀ i : Nat, (i : Int) ≠ H → ¬ pown st i) (hiu : ∀ i : Nat, (i : Int) = H → i = h) : Q_n1 has V (y) H T oG oT w0 w1 w2 w3 (lo') (hi') st (pfu ep h y) (pfu hl h lo') (pfu hh h hi') mv ac pt tk et lm pE pA (B + 2) S := by
  have i_n1 := Pin_n1 I
  clear I
  simp only [Q_n1, pokM, pown, prcv, pgiv, ppge, pfu] at *
  grind
set_option maxHeartbeats 400000 in
theorem pt_resize_n2 {has : Prop} {V E H T oG oT w0 w1 w2 w3 lo hi : Int} {st ep hl hh mv ac pt tk et lm pE pA : Nat → Int} {B : Int} {S : (Nat → Int) → Prop} (I : Pin has V E H T oG oT w0 w1 w2 w3 lo hi st ep hl hh mv ac pt tk et lm pE pA B S) (h : Nat) (y lo' hi' : Int) (hhH : (h : Int) = H) (hT : T < 0) (hw : w0 < 0 ∧ w1 < 0 ∧ w2 < 0 ∧ w3 < 0) (hst : st h = 1) (hy : E < y) (hyB : y ≤ B + 2) (hE : ep h = E ∧ V ≤ E) (hO : ∀ i : Nat, (i : Int) ≠ H → ¬ pown st i) (hiu : ∀ i : Nat, (i : Int) = H → i = h) : Q_n2 has V (y) H T oG oT w0 w1 w2 w3 (lo') (hi') st (pfu ep h y) (pfu hl h lo') (pfu hh h hi') mv ac pt tk et lm pE pA (B + 2) S := by
  have i_n2 := Pin_n2 I
  clear I
  simp only [Q_n2, pokM, pown, prcv, pgiv, ppge, pfu] at *
  grind
set_option maxHeartbeats 400000 in
theorem pt_resize_n3 {has : Prop} {V E H T oG oT w0 w1 w2 w3 lo hi : Int} {st ep hl hh mv ac pt tk et lm pE pA : Nat → Int} {B : Int} {S : (Nat → Int) → Prop} (I : Pin has V E H T oG oT w0 w1 w2 w3 lo hi st ep hl hh mv ac pt tk et lm pE pA B S) (h : Nat) (y lo' hi' : Int) (hhH : (h : Int) = H) (hT : T < 0) (hw : w0 < 0 ∧ w1 < 0 ∧ w2 < 0 ∧ w3 < 0) (hst : st h = 1) (hy : E < y) (hyB : y ≤ B + 2) (hE : ep h = E ∧ V ≤ E) (hO : ∀ i : Nat, (i : Int) ≠ H → ¬ pown st i) (hiu : ∀ i : Nat, (i : Int) = H → i = h) : Q_n3 has V (y) H T oG oT w0 w1 w2 w3 (lo') (hi') st (pfu ep h y) (pfu hl h lo') (pfu hh h hi') mv ac pt tk et lm pE pA (B + 2) S := by
  have i_n3 := Pin_n3 I
  clear I
  simp only [Q_n3, pokM, pown, prcv, pgiv, ppge, pfu] at *
  grind
set_option maxHeartbeats 400000 in
theorem pt_resize_n4 {has : Prop} {V E H T oG oT w0 w1 w2 w3 lo hi : Int} {st ep hl hh mv ac pt tk et lm pE pA : Nat → Int} {B : Int} {S : (Nat → Int) → Prop} (I : Pin has V E H T oG oT w0 w1 w2 w3 lo hi st ep hl hh mv ac pt tk et lm pE pA B S) (h : Nat) (y lo' hi' : Int) (hhH : (h : Int) = H) (hT : T < 0) (hw : w0 < 0 ∧ w1 < 0 ∧ w2 < 0 ∧ w3 < 0) (hst : st h = 1) (hy : E < y) (hyB : y ≤ B + 2) (hE : ep h = E ∧ V ≤ E) (hO : ∀ i : Nat, (i : Int) ≠ H → ¬ pown st i) (hiu : ∀ i : Nat, (i : Int) = H → i = h) : Q_n4 has V (y) H T oG oT w0 w1 w2 w3 (lo') (hi') st (pfu ep h y) (pfu hl h lo') (pfu hh h hi') mv ac pt tk et lm pE pA (B + 2) S := by
  have i_n4 := Pin_n4 I
  clear I
  simp only [Q_n4, pokM, pown, prcv, pgiv, ppge, pfu] at *
  grind
set_option maxHeartbeats 400000 in
theorem pt_resize_n5 {has : Prop} {V E H T oG oT w0 w1 w2 w3 lo hi : Int} {st ep hl hh mv ac pt tk et lm pE pA : Nat → Int} {B : Int} {S : (Nat → Int) → Prop} (I : Pin has V E H T oG oT w0 w1 w2 w3 lo hi st ep hl hh mv ac pt tk et lm pE pA B S) (h : Nat) (y lo' hi' : Int) (hhH : (h : Int) = H) (hT : T < 0) (hw : w0 < 0 ∧ w1 < 0 ∧ w2 < 0 ∧ w3 < 0) (hst : st h = 1) (hy : E < y) (hyB : y ≤ B + 2) (hE : ep h = E ∧ V ≤ E) (hO : ∀ i : Nat, (i : Int) ≠ H → ¬ pown st i) (hiu : ∀ i : Nat, (i : Int) = H → i = h) : Q_n5 has V (y) H T oG oT w0 w1 w2 w3 (lo') (hi') st (pfu ep h y) (pfu hl h lo') (pfu hh h hi') mv ac pt tk et lm pE pA (B + 2) S := by
  have i_n5 := Pin_n5 I
  clear I
  simp only [Q_n5, pokM, pown, prcv, pgiv, ppge, pfu] at *
  grind
set_option maxHeartbeats 400000 in
theorem pt_resize_n6 {has : Prop} {V E H T oG oT w0 w1 w2 w3 lo hi : Int} {st ep hl hh mv ac pt tk et lm pE pA : Nat → Int} {B : Int} {S : (Nat → Int) → Prop} (I : Pin has V E H T oG oT w0 w1 w2 w3 lo hi st ep hl hh mv ac pt tk et lm pE pA B S) (h : Nat) (y lo' hi' : Int) (hhH : (h : Int) = H) (hT : T < 0) (hw : w0 < 0 ∧ w1 < 0 ∧ w2 < 0 ∧ w3 < 0) (hst : st h = 1) (hy : E < y) (hyB : y ≤ B + 2) (hE : ep h = E ∧ V ≤ E) (hO : ∀ i : Nat, (i : Int) ≠ H → ¬ pown st i) (hiu : ∀ i : Nat, (i : Int) = H → i = h) : Q_n6 has V (y) H T oG oT w0 w1 w2 w3 (lo') (hi') st (pfu ep h y) (pfu hl h lo') (pfu hh h hi') mv ac pt tk et lm pE pA (B + 2) S := by
  have i_n6 := Pin_n6 I
  clear I
  simp only [Q_n6, pokM, pown, prcv, pgiv, ppge, pfu] at *
  grind
set_option maxHeartbeats 400000 in
theorem pt_resize_n7 {has : Prop} {V E H T oG oT w0 w1 w2 w3 lo hi : Int} {st ep hl hh mv ac pt tk et lm pE pA : Nat → Int} {B : Int} {S : (Nat → Int) → Prop} (I : Pin has V E H T oG oT w0 w1 w2 w3 lo hi st ep hl hh mv ac pt tk et lm pE pA B S) (h : Nat) (y lo' hi' : Int) (hhH : (h : Int) = H) (hT : T < 0) (hw : w0 < 0 ∧ w1 < 0 ∧ w2 < 0 ∧ w3 < 0) (hst : st h = 1) (hy : E < y) (hyB : y ≤ B + 2) (hE : ep h = E ∧ V ≤ E) (hO : ∀ i : Nat, (i : Int) ≠ H → ¬ pown st i) (hiu : ∀ i : Nat, (i : Int) = H → i = h) : Q_n7 has V (y) H T oG oT w0 w1 w2 w3 (lo') (hi') st (pfu ep h y) (pfu hl h lo') (pfu hh h hi') mv ac pt tk et lm pE pA (B + 2) S := by
  have i_n7 := Pin_n7 I
  clear I
  simp only [Q_n7, pokM, pown, prcv, pgiv, ppge, pfu] at *
  grind
set_option maxHeartbeats 400000 in
theorem pt_resize_o {has : Prop} {V E H T oG oT w0 w1 w2 w3 lo hi : Int} {st ep hl hh mv ac pt tk et lm pE pA : Nat → Int} {B : Int} {S : (Nat → Int) → Prop} (I : Pin has V E H T oG oT w0 w1 w2 w3 lo hi st ep hl hh mv ac pt tk et lm pE pA B S) (h : Nat) (y lo' hi' : Int) (hhH : (h : Int) = H) (hT : T < 0) (hw : w0 < 0 ∧ w1 < 0 ∧ w2 < 0 ∧ w3 < 0) (hst : st h = 1) (hy : E < y) (hyB : y ≤ B + 2) (hE : ep h = E ∧ V ≤ E) (hO : ∀ i : Nat, (i : Int) ≠ H → ¬ pown st i) (hiu : ∀ i : Nat, (i : Int) = H → i = h) : Q_o has V (y) H T oG oT w0 w1 w2 w3 (lo') (hi') st (pfu ep h y) (pfu hl h lo') (pfu hh h hi') mv ac pt tk et lm pE pA (B + 2) S := by
  have i_o := Pin_o I
  clear I
  simp only [Q_o, pokM, pown, prcv, pgiv, ppge, pfu] at *
  grind
set_option maxHeartbeats 400000 in
theorem pt_resize_p {has : Prop} {V E H T oG oT w0 w1 w2 w3 lo hi : Int} {st ep hl hh mv ac pt tk et lm pE pA : Nat → Int} {B : Int} {S : (Nat → Int) → Prop} (I : Pin has V E H T oG oT w0 w1 w2 w3 lo hi st ep hl hh mv ac pt tk et lm pE pA B S) (h : Nat) (y lo' hi' : Int) (hhH : (h : Int) = H) (hT : T < 0) (hw : w0 < 0 ∧ w1 < 0 ∧ w2 < 0 ∧ w3 < 0) (hst : st h = 1) (hy : E < y) (hyB : y ≤ B + 2) (hE : ep h = E ∧ V ≤ E) (hO : ∀ i : Nat, (i : Int) ≠ H → ¬ pown st i) (hiu : ∀ i : Nat, (i : Int) = H → i = h) : Q_p has V (y) H T oG oT w0 w1 w2 w3 (lo') (hi') st (pfu ep h y) (pfu hl h lo') (pfu hh h hi') mv ac pt tk et lm pE pA (B + 2) S := by
  have i_p := Pin_p I
  clear I
  simp only [Q_p, pokM, pown, prcv, pgiv, ppge, pfu] at *
  grind
set_option maxHeartbeats 400000 in
theorem pt_resize_q {has : Prop} {V E H T oG oT w0 w1 w2 w3 lo hi : Int} {st ep hl hh mv ac pt tk et lm pE pA : Nat → Int} {B : Int} {S : (Nat → Int) → Prop} (I : Pin has V E H T oG oT w0 w1 w2 w3 lo hi st ep hl hh mv ac pt tk et lm pE pA B S) (h : Nat) (y lo' hi' : Int) (hhH : (h : Int) = H) (hT : T < 0) (hw : w0 < 0 ∧ w1 < 0 ∧ w2 < 0 ∧ w3 < 0) (hst : st h = 1) (hy : E < y) (hyB : y ≤ B + 2) (hE : ep h = E ∧ V ≤ E) (hO : ∀ i : Nat, (i : Int) ≠ H → ¬ pown st i) (hiu : ∀ i : Nat, (i : Int) = H → i = h) : Q_q has V (y) H T oG oT w0 w1 w2 w3 (lo') (hi') st (pfu ep h y) (pfu hl h lo') (pfu hh h hi') mv ac pt tk et lm pE pA (B + 2) S := by
  have i_q := Pin_q I
  clear I
  simp only [Q_q, pokM, pown, prcv, pgiv, ppge, pfu] at *
  grind
set_option maxHeartbeats 400000 in
theorem pt_resize_q2 {has : Prop} {V E H T oG oT w0 w1 w2 w3 lo hi : Int} {st ep hl hh mv ac pt tk et lm pE pA : Nat → Int} {B : Int} {S : (Nat → Int) → Prop} (I : Pin has V E H T oG oT w0 w1 w2 w3 lo hi st ep hl hh mv ac pt tk et lm pE pA B S) (h : Nat) (y lo' hi' : Int) (hhH : (h : Int) = H) (hT : T < 0) (hw : w0 < 0 ∧ w1 < 0 ∧ w2 < 0 ∧ w3 < 0) (hst : st h = 1) (hy : E < y) (hyB : y ≤ B + 2) (hE : ep h = E ∧ V ≤ E) (hO : ∀ i : Nat, (i : Int) ≠ H → ¬ pown st i) (hiu : ∀ i : Nat, (i : Int) = H → i = h) : Q_q2 has V (y) H T oG oT w0 w1 w2 w3 (lo') (hi') st (pfu ep h y) (pfu hl h lo') (pfu hh h hi') mv ac pt tk et lm pE pA (B + 2) S := by
  have i_q2 := Pin_q2 I
  clear I
  simp only [Q_q2, pokM, pown, prcv, pgiv, ppge, pfu] at *
  grind
set_option maxHeartbeats 400000 in
theorem pt_resize_q3 {has : Prop} {V E H T oG oT w0 w1 w2 w3 lo hi : Int} {st ep hl hh mv ac pt tk et lm pE pA : Nat → Int} {B : Int} {S : (Nat → Int) → Prop} (I : Pin has V E H T oG oT w0 w1 w2 w3 lo hi st ep hl hh mv ac pt tk et lm pE pA B S) (h : Nat) (y lo' hi' : Int) (hhH : (h : Int) = H) (hT : T < 0) (hw : w0 < 0 ∧ w1 < 0 ∧ w2 < 0 ∧ w3 < 0) (hst : st h = 1) (hy : E < y) (hyB : y ≤ B + 2) (hE : ep h = E ∧ V ≤ E) (hO : ∀ i : Nat, (i : Int) ≠ H → ¬ pown st i) (hiu : ∀ i : Nat, (i : Int) = H → i = h) : Q_q3 has V (y) H T oG oT w0 w1 w2 w3 (lo') (hi') st (pfu ep h y) (pfu hl h lo') (pfu hh h hi') mv ac pt tk et lm pE pA (B + 2) S := by
  have i_q3 := Pin_q3 I
  clear I
  simp only [Q_q3, pokM, pown, prcv, pgiv, ppge, pfu] at *
  grind
set_option maxHeartbeats 400000 in
theorem pt_resize_w {has : Prop} {V E H T oG oT w0 w1 w2 w3 lo hi : Int} {st ep hl hh mv ac pt tk et lm pE pA : Nat → Int} {B : Int} {S : (Nat → Int) → Prop} (I : Pin has V E H T oG oT w0 w1 w2 w3 lo hi st ep hl hh mv ac pt tk et lm pE pA B S) (h : Nat) (y lo' hi' : Int) (hhH : (h : Int) = H) (hT : T < 0) (hw : w0 < 0 ∧ w1 < 0 ∧ w2 < 0 ∧ w3 < 0) (hst : st h = 1) (hy : E < y) (hyB : y ≤ B + 2) (hE : ep h = E ∧ V ≤ E) (hO : ∀ i : Nat, (i : Int) ≠ H → ¬ pown st i) (hiu : ∀ i : Nat, (i : Int) = H → i = h) : Q_w has V (y) H T oG oT w0 w1 w2 w3 (lo') (hi') st (pfu ep h y) (pfu hl h lo') (pfu hh h hi') mv ac pt tk et lm pE pA (B + 2) S := by
  have i_w := Pin_w I
  clear I
  simp only [Q_w, pokM, pown, prcv, pgiv, ppge, pfu] at *
  grind
theorem pt_resize {has : Prop} {V E H T oG oT w0 w1 w2 w3 lo hi : Int} {st ep hl hh mv ac pt tk et lm pE pA : Nat → Int} {B : Int} {S : (Nat → Int) → Prop} (I : Pin has V E H T oG oT w0 w1 w2 w3 lo hi st ep hl hh mv ac pt tk et lm pE pA B S) (h : Nat) (y lo' hi' : Int) (hhH : (h : Int) = H) (hT : T < 0) (hw : w0 < 0 ∧ w1 < 0 ∧ w2 < 0 ∧ w3 < 0) (hst : st h = 1) (hy : E < y) (hyB : y ≤ B + 2) : Pin has V (y) H T oG oT w0 w1 w2 w3 (lo') (hi') st (pfu ep h y) (pfu hl h lo') (pfu hh h hi') mv ac pt tk et lm pE pA (B + 2) S := by
  have hE := pt_resize_hE_d I h y lo' hi' hhH hT hw hst hy hyB 
  have hO := pt_resize_hO_d I h y lo' hi' hhH hT hw hst hy hyB hE
  have hiu := pt_resize_hiu_d I h y lo' hi' hhH hT hw hst hy hyB hE hO
  exact ⟨pt_resize_v0 I h y lo' hi' hhH hT hw hst hy hyB hE hO hiu, pt_resize_a I h y lo' hi' hhH hT hw hst hy hyB hE hO hiu, pt_resize_b I h y lo' hi' hhH hT hw hst hy hyB hE hO hiu, pt_resize_c I h y lo' hi' hhH hT hw hst hy hyB hE hO hiu, pt_resize_d I h y lo' hi' hhH hT hw hst hy hyB hE hO hiu, pt_resize_e I h y lo' hi' hhH hT hw hst hy hyB hE hO hiu, pt_resize_f I h y lo' hi' hhH hT hw hst hy hyB hE hO hiu, pt_resize_f2 I h y lo' hi' hhH hT hw hst hy hyB hE hO hiu, pt_resize_f3 I h y lo' hi' hhH hT hw hst hy hyB hE hO hiu, pt_resize_g I h y lo' hi' hhH hT hw hst hy hyB hE hO hiu, pt_resize_g0 I h y lo' hi' hhH hT hw hst hy hyB hE hO hiu, pt_resize_g1 I h y lo' hi' hhH hT hw hst hy hyB hE hO hiu, pt_resize_g2 I h y lo' hi' hhH hT hw hst hy hyB hE hO hiu, pt_resize_h7 I h y lo' hi' hhH hT hw hst hy hyB hE hO hiu, pt_resize_h9 I h y lo' hi' hhH hT hw hst hy hyB hE hO hiu, pt_resize_h10 I h y lo' hi' hhH hT hw hst hy hyB hE hO hiu, pt_resize_h11 I h y lo' hi' hhH hT hw hst hy hyB hE hO hiu, pt_resize_h12 I h y lo' hi' hhH hT hw hst hy hyB hE hO hiu, pt_resize_k1 I h y lo' hi' hhH hT hw hst hy hyB hE hO hiu, pt_resize_k2 I h y lo' hi' hhH hT hw hst hy hyB hE hO hiu, pt_resize_k8 I h y lo' hi' hhH hT hw hst hy hyB hE hO hiu, pt_resize_l4 I h y lo' hi' hhH hT hw hst hy hyB hE hO hiu, pt_resize_l5 I h y lo' hi' hhH hT hw hst hy hyB hE hO hiu, pt_resize_l3 I h y lo' hi' hhH hT hw hst hy hyB hE hO hiu, pt_resize_m1 I h y lo' hi' hhH hT hw hst hy hyB hE hO hiu, pt_resize_m2 I h y lo' hi' hhH hT hw hst hy hyB hE hO hiu, pt_resize_m3 I h y lo' hi' hhH hT hw hst hy hyB hE hO hiu, pt_resize_n0 I h y lo' hi' hhH hT hw hst hy hyB hE hO hiu, pt_resize_n1 I h y lo' hi' hhH hT hw hst hy hyB hE hO hiu, pt_resize_n2 I h y lo' hi' hhH hT hw hst hy hyB hE hO hiu, pt_resize_n3 I h y lo' hi' hhH hT hw hst hy hyB hE hO hiu, pt_resize_n4 I h y lo' hi' hhH hT hw hst hy hyB hE hO hiu, pt_resize_n5 I h y lo' hi' hhH hT hw hst hy hyB hE hO hiu, pt_resize_n6 I h y lo' hi' hhH hT hw hst hy hyB hE hO hiu, pt_resize_n7 I h y lo' hi' hhH hT hw hst hy hyB hE hO hiu, pt_resize_o I h y lo' hi' hhH hT hw hst hy hyB hE hO hiu, pt_resize_p I h y lo' hi' hhH hT hw hst hy hyB hE hO hiu, pt_resize_q I h y lo' hi' hhH hT hw hst hy hyB hE hO hiu, pt_resize_q2 I h y lo' hi' hhH hT hw hst hy hyB hE hO hiu, pt_resize_q3 I h y lo' hi' hhH hT hw hst hy hyB hE hO hiu, pt_resize_w I h y lo' hi' hhH hT hw hst hy hyB hE hO hiu⟩
set_option maxHeartbeats 400000 in
theorem pt_kill_hO_d {has : Prop} {V E H T oG oT w0 w1 w2 w3 lo hi : Int} {st ep hl hh mv ac pt tk et lm pE pA : Nat → Int} {B : Int} {S : (Nat → Int) → Prop} (I : Pin has V E H T oG oT w0 w1 w2 w3 lo hi st ep hl hh mv ac pt tk et lm pE pA B S) (h : Nat) (hhH : (h : Int) = H) (hT : T < 0) (hw : w0 < 0 ∧ w1 < 0 ∧ w2 < 0 ∧ w3 < 0) (hst : st h = 1)  : ∀ i : Nat, (i : Int) ≠ H → ¬ pown st i := by
  have i_b := Pin_b I
  have i_v0 := Pin_v0 I
  clear I
  try simp only [Q_b, Q_v0, pown, prcv, pgiv, ppge, pfu] at *
  grind
set_option maxHeartbeats 400000 in
theorem pt_kill_hiu_d {has : Prop} {V E H T oG oT w0 w1 w2 w3 lo hi : Int} {st ep hl hh mv ac pt tk et lm pE pA : Nat → Int} {B : Int} {S : (Nat → Int) → Prop} (I : Pin has V E H T oG oT w0 w1 w2 w3 lo hi st ep hl hh mv ac pt tk et lm pE pA B S) (h : Nat) (hhH : (h : Int) = H) (hT : T < 0) (hw : w0 < 0 ∧ w1 < 0 ∧ w2 < 0 ∧ w3 < 0) (hst : st h = 1) (hO : ∀ i : Nat, (i : Int) ≠ H → ¬ pown st i) : ∀ i : Nat, (i : Int) = H → i = h := by

  clear I
  try simp only [pokM, pown, prcv, pgiv, ppge, pfu] at *
  grind
set_option maxHeartbeats 400000 in
theorem pt_kill_v0 {has : Prop} {V E H T oG oT w0 w1 w2 w3 lo hi : Int} {st ep hl hh mv ac pt tk et lm pE pA : Nat → Int} {B : Int} {S : (Nat → Int) → Prop} (I : Pin has V E H T oG oT w0 w1 w2 w3 lo hi st ep hl hh mv ac pt tk et lm pE pA B S) (h : Nat) (hhH : (h : Int) = H) (hT : T < 0) (hw : w0 < 0 ∧ w1 < 0 ∧ w2 < 0 ∧ w3 < 0) (hst : st h = 1) (hO : ∀ i : Nat, (i : Int) ≠ H → ¬ pown st i) (hiu : ∀ i : Nat, (i : Int) = H → i = h) : Q_v0 (False) V E H T oG oT w0 w1 w2 w3 lo hi (pfu st h 0) ep hl hh mv ac pt tk et lm pE pA (B + 2) S := by
  have i_v0 := Pin_v0 I
  clear I
  simp only [Q_v0, pokM, pown, prcv, pgiv, ppge, pfu] at *
  grind
set_option maxHeartbeats 400000 in
theorem pt_kill_a {has : Prop} {V E H T oG oT w0 w1 w2 w3 lo hi : Int} {st ep hl hh mv ac pt tk et lm pE pA : Nat → Int} {B : Int} {S : (Nat → Int) → Prop} (I : Pin has V E H T oG oT w0 w1 w2 w3 lo hi st ep hl hh mv ac pt tk et lm pE pA B S) (h : Nat) (hhH : (h : Int) = H) (hT : T < 0) (hw : w0 < 0 ∧ w1 < 0 ∧ w2 < 0 ∧ w3 < 0) (hst : st h = 1) (hO : ∀ i : Nat, (i : Int) ≠ H → ¬ pown st i) (hiu : ∀ i : Nat, (i : Int) = H → i = h) : Q_a (False) V E H T oG oT w0 w1 w2 w3 lo hi (pfu st h 0) ep hl hh mv ac pt tk et lm pE pA (B + 2) S := by
  have i_a := Pin_a I
  clear I
  simp only [Q_a, pokM, pown, prcv, pgiv, ppge, pfu] at *
  grind
set_option maxHeartbeats 400000 in
theorem pt_kill_b {has : Prop} {V E H T oG oT w0 w1 w2 w3 lo hi : Int} {st ep hl hh mv ac pt tk et lm pE pA : Nat → Int} {B : Int} {S : (Nat → Int) → Prop} (I : Pin has V E H T oG oT w0 w1 w2 w3 lo hi st ep hl hh mv ac pt tk et lm pE pA B S) (h : Nat) (hhH : (h : Int) = H) (hT : T < 0) (hw : w0 < 0 ∧ w1 < 0 ∧ w2 < 0 ∧ w3 < 0) (hst : st h = 1) (hO : ∀ i : Nat, (i : Int) ≠ H → ¬ pown st i) (hiu : ∀ i : Nat, (i : Int) = H → i = h) : Q_b (False) V E H T oG oT w0 w1 w2 w3 lo hi (pfu st h 0) ep hl hh mv ac pt tk et lm pE pA (B + 2) S := by
  have i_b := Pin_b I
  clear I
  simp only [Q_b, pokM, pown, prcv, pgiv, ppge, pfu] at *
  grind
set_option maxHeartbeats 400000 in
theorem pt_kill_c {has : Prop} {V E H T oG oT w0 w1 w2 w3 lo hi : Int} {st ep hl hh mv ac pt tk et lm pE pA : Nat → Int} {B : Int} {S : (Nat → Int) → Prop} (I : Pin has V E H T oG oT w0 w1 w2 w3 lo hi st ep hl hh mv ac pt tk et lm pE pA B S) (h : Nat) (hhH : (h : Int) = H) (hT : T < 0) (hw : w0 < 0 ∧ w1 < 0 ∧ w2 < 0 ∧ w3 < 0) (hst : st h = 1) (hO : ∀ i : Nat, (i : Int) ≠ H → ¬ pown st i) (hiu : ∀ i : Nat, (i : Int) = H → i = h) : Q_c (False) V E H T oG oT w0 w1 w2 w3 lo hi (pfu st h 0) ep hl hh mv ac pt tk et lm pE pA (B + 2) S := by
  have i_c := Pin_c I
  clear I
  simp only [Q_c, pokM, pown, prcv, pgiv, ppge, pfu] at *
  grind
set_option maxHeartbeats 400000 in
theorem pt_kill_d {has : Prop} {V E H T oG oT w0 w1 w2 w3 lo hi : Int} {st ep hl hh mv ac pt tk et lm pE pA : Nat → Int} {B : Int} {S : (Nat → Int) → Prop} (I : Pin has V E H T oG oT w0 w1 w2 w3 lo hi st ep hl hh mv ac pt tk et lm pE pA B S) (h : Nat) (hhH : (h : Int) = H) (hT : T < 0) (hw : w0 < 0 ∧ w1 < 0 ∧ w2 < 0 ∧ w3 < 0) (hst : st h = 1) (hO : ∀ i : Nat, (i : Int) ≠ H → ¬ pown st i) (hiu : ∀ i : Nat, (i : Int) = H → i = h) : Q_d (False) V E H T oG oT w0 w1 w2 w3 lo hi (pfu st h 0) ep hl hh mv ac pt tk et lm pE pA (B + 2) S := by
  have i_d := Pin_d I
  clear I
  simp only [Q_d, pokM, pown, prcv, pgiv, ppge, pfu] at *
  grind
set_option maxHeartbeats 400000 in
theorem pt_kill_e {has : Prop} {V E H T oG oT w0 w1 w2 w3 lo hi : Int} {st ep hl hh mv ac pt tk et lm pE pA : Nat → Int} {B : Int} {S : (Nat → Int) → Prop} (I : Pin has V E H T oG oT w0 w1 w2 w3 lo hi st ep hl hh mv ac pt tk et lm pE pA B S) (h : Nat) (hhH : (h : Int) = H) (hT : T < 0) (hw : w0 < 0 ∧ w1 < 0 ∧ w2 < 0 ∧ w3 < 0) (hst : st h = 1) (hO : ∀ i : Nat, (i : Int) ≠ H → ¬ pown st i) (hiu : ∀ i : Nat, (i : Int) = H → i = h) : Q_e (False) V E H T oG oT w0 w1 w2 w3 lo hi (pfu st h 0) ep hl hh mv ac pt tk et lm pE pA (B + 2) S := by
  have i_e := Pin_e I
  clear I
  simp only [Q_e, pokM, pown, prcv, pgiv, ppge, pfu] at *
  grind
set_option maxHeartbeats 400000 in
theorem pt_kill_f {has : Prop} {V E H T oG oT w0 w1 w2 w3 lo hi : Int} {st ep hl hh mv ac pt tk et lm pE pA : Nat → Int} {B : Int} {S : (Nat → Int) → Prop} (I : Pin has V E H T oG oT w0 w1 w2 w3 lo hi st ep hl hh mv ac pt tk et lm pE pA B S) (h : Nat) (hhH : (h : Int) = H) (hT : T < 0) (hw : w0 < 0 ∧ w1 < 0 ∧ w2 < 0 ∧ w3 < 0) (hst : st h = 1) (hO : ∀ i : Nat, (i : Int) ≠ H → ¬ pown st i) (hiu : ∀ i : Nat, (i : Int) = H → i = h) : Q_f (False) V E H T oG oT w0 w1 w2 w3 lo hi (pfu st h 0) ep hl hh mv ac pt tk et lm pE pA (B + 2) S := by
  have i_f := Pin_f I
  clear I
  simp only [Q_f, pokM, pown, prcv, pgiv, ppge, pfu] at *
  grind
set_option maxHeartbeats 400000 in
theorem pt_kill_f2 {has : Prop} {V E H T oG oT w0 w1 w2 w3 lo hi : Int} {st ep hl hh mv ac pt tk et lm pE pA : Nat → Int} {B : Int} {S : (Nat → Int) → Prop} (I : Pin has V E H T oG oT w0 w1 w2 w3 lo hi st ep hl hh mv ac pt tk et lm pE pA B S) (h : Nat) (hhH : (h : Int) = H) (hT : T < 0) (hw : w0 < 0 ∧ w1 < 0 ∧ w2 < 0 ∧ w3 < 0) (hst : st h = 1) (hO : ∀ i : Nat, (i : Int) ≠ H → ¬ pown st i) (hiu : ∀ i : Nat, (i : Int) = H → i = h) : Q_f2 (False) V E H T oG oT w0 w1 w2 w3 lo hi (pfu st h 0) ep hl hh mv ac pt tk et lm pE pA (B + 2) S := by
  have i_f2 := Pin_f2 I
  clear I
  simp only [Q_f2, pokM, pown, prcv, pgiv, ppge, pfu] at *
  grind
set_option maxHeartbeats 400000 in
theorem pt_kill_f3 {has : Prop} {V E H T oG oT w0 w1 w2 w3 lo hi : Int} {st ep hl hh mv ac pt tk et lm pE pA : Nat → Int} {B : Int} {S : (Nat → Int) → Prop} (I : Pin has V E H T oG oT w0 w1 w2 w3 lo hi st ep hl hh mv ac pt tk et lm pE pA B S) (h : Nat) (hhH : (h : Int) = H) (hT : T < 0) (hw : w0 < 0 ∧ w1 < 0 ∧ w2 < 0 ∧ w3 < 0) (hst : st h = 1) (hO : ∀ i : Nat, (i : Int) ≠ H → ¬ pown st i) (hiu : ∀ i : Nat, (i : Int) = H → i = h) : Q_f3 (False) V E H T oG oT w0 w1 w2 w3 lo hi (pfu st h 0) ep hl hh mv ac pt tk et lm pE pA (B + 2) S := by
  have i_f3 := Pin_f3 I
  clear I
  simp only [Q_f3, pokM, pown, prcv, pgiv, ppge, pfu] at *
  grind
set_option maxHeartbeats 400000 in
theorem pt_kill_g {has : Prop} {V E H T oG oT w0 w1 w2 w3 lo hi : Int} {st ep hl hh mv ac pt tk et lm pE pA : Nat → Int} {B : Int} {S : (Nat → Int) → Prop} (I : Pin has V E H T oG oT w0 w1 w2 w3 lo hi st ep hl hh mv ac pt tk et lm pE pA B S) (h : Nat) (hhH : (h : Int) = H) (hT : T < 0) (hw : w0 < 0 ∧ w1 < 0 ∧ w2 < 0 ∧ w3 < 0) (hst : st h = 1) (hO : ∀ i : Nat, (i : Int) ≠ H → ¬ pown st i) (hiu : ∀ i : Nat, (i : Int) = H → i = h) : Q_g (False) V E H T oG oT w0 w1 w2 w3 lo hi (pfu st h 0) ep hl hh mv ac pt tk et lm pE pA (B + 2) S := by
  have i_g := Pin_g I
  clear I
  simp only [Q_g, pokM, pown, prcv, pgiv, ppge, pfu] at *
  grind
set_option maxHeartbeats 400000 in
theorem pt_kill_g0 {has : Prop} {V E H T oG oT w0 w1 w2 w3 lo hi : Int} {st ep hl hh mv ac pt tk et lm pE pA : Nat → Int} {B : Int} {S : (Nat → Int) → Prop} (I : Pin has V E H T oG oT w0 w1 w2 w3 lo hi st ep hl hh mv ac pt tk et lm pE pA B S) (h : Nat) (hhH : (h : Int) = H) (hT : T < 0) (hw : w0 < 0 ∧ w1 < 0 ∧ w2 < 0 ∧ w3 < 0) (hst : st h = 1) (hO : ∀ i : Nat, (i : Int) ≠ H → ¬ pown st i) (hiu : ∀ i : Nat, (i : Int) = H → i = h) : Q_g0 (False) V E H T oG oT w0 w1 w2 w3 lo hi (pfu st h 0) ep hl hh mv ac pt tk et lm pE pA (B + 2) S := by
  have i_g0 := Pin_g0 I
  clear I
  simp only [Q_g0, pokM, pown, prcv, pgiv, ppge, pfu] at *
  grind
set_option maxHeartbeats 400000 in
theorem pt_kill_g1 {has : Prop} {V E H T oG oT w0 w1 w2 w3 lo hi : Int} {st ep hl hh mv ac pt tk et lm pE pA : Nat → Int} {B : Int} {S : (Nat → Int) → Prop} (I : Pin has V E H T oG oT w0 w1 w2 w3 lo hi st ep hl hh mv ac pt tk et lm pE pA B S) (h : Nat) (hhH : (h : Int) = H) (hT : T < 0) (hw : w0 < 0 ∧ w1 < 0 ∧ w2 < 0 ∧ w3 < 0) (hst : st h = 1) (hO : ∀ i : Nat, (i : Int) ≠ H → ¬ pown st i) (hiu : ∀ i : Nat, (i : Int) = H → i = h) : Q_g1 (False) V E H T oG oT w0 w1 w2 w3 lo hi (pfu st h 0) ep hl hh mv ac pt tk et lm pE pA (B + 2) S := by
  have i_g1 := Pin_g1 I
  clear I
  simp only [Q_g1, pokM, pown, prcv, pgiv, ppge, pfu] at *
  grind
set_option maxHeartbeats 400000 in
theorem pt_kill_g2 {has : Prop} {V E H T oG oT w0 w1 w2 w3 lo hi : Int} {st ep hl hh mv ac pt tk et lm pE pA : Nat → Int} {B : Int} {S : (Nat → Int) → Prop} (I : Pin has V E H T oG oT w0 w1 w2 w3 lo hi st ep hl hh mv ac pt tk et lm pE pA B S) (h : Nat) (hhH : (h : Int) = H) (hT : T < 0) (hw : w0 < 0 ∧ w1 < 0 ∧ w2 < 0 ∧ w3 < 0) (hst : st h = 1) (hO : ∀ i : Nat, (i : Int) ≠ H → ¬ pown st i) (hiu : ∀ i : Nat, (i : Int) = H → i = h) : Q_g2 (False) V E H T oG oT w0 w1 w2 w3 lo hi (pfu st h 0) ep hl hh mv ac pt tk et lm pE pA (B + 2) S := by
  have i_g2 := Pin_g2 I
  clear I
  simp only [Q_g2, pokM, pown, prcv, pgiv, ppge, pfu] at *
  grind
set_option maxHeartbeats 400000 in
theorem pt_kill_h7 {has : Prop} {V E H T oG oT w0 w1 w2 w3 lo hi : Int} {st ep hl hh mv ac pt tk et lm pE pA : Nat → Int} {B : Int} {S : (Nat → Int) → Prop} (I : Pin has V E H T oG oT w0 w1 w2 w3 lo hi st ep hl hh mv ac pt tk et lm pE pA B S) (h : Nat) (hhH : (h : Int) = H) (hT : T < 0) (hw : w0 < 0 ∧ w1 < 0 ∧ w2 < 0 ∧ w3 < 0) (hst : st h = 1) (hO : ∀ i : Nat, (i : Int) ≠ H → ¬ pown st i) (hiu : ∀ i : Nat, (i : Int) = H → i = h) : Q_h7 (False) V E H T oG oT w0 w1 w2 w3 lo hi (pfu st h 0) ep hl hh mv ac pt tk et lm pE pA (B + 2) S := by
  have i_h7 := Pin_h7 I
  clear I
  simp only [Q_h7, pokM, pown, prcv, pgiv, ppge, pfu] at *
  grind
set_option maxHeartbeats 400000 in
theorem pt_kill_h9 {has : Prop} {V E H T oG oT w0 w1 w2 w3 lo hi : Int} {st ep hl hh mv ac pt tk et lm pE pA : Nat → Int} {B : Int} {S : (Nat → Int) → Prop} (I : Pin has V E H T oG oT w0 w1 w2 w3 lo hi st ep hl hh mv ac pt tk et lm pE pA B S) (h : Nat) (hhH : (h : Int) = H) (hT : T < 0) (hw : w0 < 0 ∧ w1 < 0 ∧ w2 < 0 ∧ w3 < 0) (hst : st h = 1) (hO : ∀ i : Nat, (i : Int) ≠ H → ¬ pown st i) (hiu : ∀ i : Nat, (i : Int) = H → i = h) : Q_h9 (False) V E H T oG oT w0 w1 w2 w3 lo hi (pfu st h 0) ep hl hh mv ac pt tk et lm pE pA (B + 2) S := by
  have i_h9 := Pin_h9 I
  clear I
  simp only [Q_h9, pokM, pown, prcv, pgiv, ppge, pfu] at *
  grind
set_option maxHeartbeats 400000 in
theorem pt_kill_h10 {has : Prop} {V E H T oG oT w0 w1 w2 w3 lo hi : Int} {st ep hl hh mv ac pt tk et lm pE pA : Nat → Int} {B : Int} {S : (Nat → Int) → Prop} (I : Pin has V E H T oG oT w0 w1 w2 w3 lo hi st ep hl hh mv ac pt tk et lm pE pA B S) (h : Nat) (hhH : (h : Int) = H) (hT : T < 0) (hw : w0 < 0 ∧ w1 < 0 ∧ w2 < 0 ∧ w3 < 0) (hst : st h = 1) (hO : ∀ i : Nat, (i : Int) ≠ H → ¬ pown st i) (hiu : ∀ i : Nat, (i : Int) = H → i = h) : Q_h10 (False) V E H T oG oT w0 w1 w2 w3 lo hi (pfu st h 0) ep hl hh mv ac pt tk et lm pE pA (B + 2) S := by
  have i_h10 := Pin_h10 I
  clear I
  simp only [Q_h10, pokM, pown, prcv, pgiv, ppge, pfu] at *
  grind
set_option maxHeartbeats 400000 in
theorem pt_kill_h11 {has : Prop} {V E H T oG oT w0 w1 w2 w3 lo hi : Int} {st ep hl hh mv ac pt tk et lm pE pA : Nat → Int} {B : Int} {S : (Nat → Int) → Prop} (I : Pin has V E H T oG oT w0 w1 w2 w3 lo hi st ep hl hh mv ac pt tk et lm pE pA B S) (h : Nat) (hhH : (h : Int) = H) (hT : T < 0) (hw : w0 < 0 ∧ w1 < 0 ∧ w2 < 0 ∧ w3 < 0) (hst : st h = 1) (hO : ∀ i : Nat, (i : Int) ≠ H → ¬ pown st i) (hiu : ∀ i : Nat, (i : Int) = H → i = h) : Q_h11 (False) V E H T oG oT w0 w1 w2 w3 lo hi (pfu st h 0) ep hl hh mv ac pt tk et lm pE pA (B + 2) S := by
  have i_h11 := Pin_h11 I
  clear I
  simp only [Q_h11, pokM, pown, prcv, pgiv, ppge, pfu] at *
  grind
set_option maxHeartbeats 400000 in
theorem pt_kill_h12 {has : Prop} {V E H T oG oT w0 w1 w2 w3 lo hi : Int} {st ep hl hh mv ac pt tk et lm pE pA : Nat → Int} {B : Int} {S : (Nat → Int) → Prop} (I : Pin has V E H T oG oT w0 w1 w2 w3 lo hi st ep hl hh mv ac pt tk et lm pE pA B S) (h : Nat) (hhH : (h : Int) = H) (hT : T < 0) (hw : w0 < 0 ∧ w1 < 0 ∧ w2 < 0 ∧ w3 < 0) (hst : st h = 1) (hO : ∀ i : Nat, (i : Int) ≠ H → ¬ pown st i) (hiu : ∀ i : Nat, (i : Int) = H → i = h) : Q_h12 (False) V E H T oG oT w0 w1 w2 w3 lo hi (pfu st h 0) ep hl hh mv ac pt tk et lm pE pA (B + 2) S := by
  have i_h12 := Pin_h12 I
  clear I
  simp only [Q_h12, pokM, pown, prcv, pgiv, ppge, pfu] at *
  grind
set_option maxHeartbeats 400000 in
theorem pt_kill_k1 {has : Prop} {V E H T oG oT w0 w1 w2 w3 lo hi : Int} {st ep hl hh mv ac pt tk et lm pE pA : Nat → Int} {B : Int} {S : (Nat → Int) → Prop} (I : Pin has V E H T oG oT w0 w1 w2 w3 lo hi st ep hl hh mv ac pt tk et lm pE pA B S) (h : Nat) (hhH : (h : Int) = H) (hT : T < 0) (hw : w0 < 0 ∧ w1 < 0 ∧ w2 < 0 ∧ w3 < 0) (hst : st h = 1) (hO : ∀ i : Nat, (i : Int) ≠ H → ¬ pown st i) (hiu : ∀ i : Nat, (i : Int) = H → i = h) : Q_k1 (False) V E H T oG oT w0 w1 w2 w3 lo hi (pfu st h 0) ep hl hh mv ac pt tk et lm pE pA (B + 2) S := by
  have i_k1 := Pin_k1 I
  clear I
  simp only [Q_k1, pokM, pown, prcv, pgiv, ppge, pfu] at *
  grind
set_option maxHeartbeats 400000 in
theorem pt_kill_k2 {has : Prop} {V E H T oG oT w0 w1 w2 w3 lo hi : Int} {st ep hl hh mv ac pt tk et lm pE pA : Nat → Int} {B : Int} {S : (Nat → Int) → Prop} (I : Pin has V E H T oG oT w0 w1 w2 w3 lo hi st ep hl hh mv ac pt tk et lm pE pA B S) (h : Nat) (hhH : (h : Int) = H) (hT : T < 0) (hw : w0 < 0 ∧ w1 < 0 ∧ w2 < 0 ∧ w3 < 0) (hst : st h = 1) (hO : ∀ i : Nat, (i : Int) ≠ H → ¬ pown st i) (hiu : ∀ i : Nat, (i : Int) = H → i = h) : Q_k2 (False) V E H T oG oT w0 w1 w2 w3 lo hi (pfu st h 0) ep hl hh mv ac pt tk et lm pE pA (B + 2) S := by
  have i_k2 := Pin_k2 I
  clear I
  simp only [Q_k2, pokM, pown, prcv, pgiv, ppge, pfu] at *
  grind
set_option maxHeartbeats 400000 in
theorem pt_kill_k8 {has : Prop} {V E H T oG oT w0 w1 w2 w3 lo hi : Int} {st ep hl hh mv ac pt tk et lm pE pA : Nat → Int} {B : Int} {S : (Nat → Int) → Prop} (I : Pin has V E H T oG oT w0 w1 w2 w3 lo hi st ep hl hh mv ac pt tk et lm pE pA B S) (h : Nat) (hhH : (h : Int) = H) (hT : T < 0) (hw : w0 < 0 ∧ w1 < 0 ∧ w2 < 0 ∧ w3 < 0) (hst : st h = 1) (hO : ∀ i : Nat, (i : Int) ≠ H → ¬ pown st i) (hiu : ∀ i : Nat, (i : Int) = H → i = h) : Q_k8 (False) V E H T oG oT w0 w1 w2 w3 lo hi (pfu st h 0) ep hl hh mv ac pt tk et lm pE pA (B + 2) S := by
  have i_k8 := Pin_k8 I
  clear I
  simp only [Q_k8, pokM, pown, prcv, pgiv, ppge, pfu] at *
  grind
set_option maxHeartbeats 400000 in
theorem pt_kill_l4 {has : Prop} {V E H T oG oT w0 w1 w2 w3 lo hi : Int} {st ep hl hh mv ac pt tk et lm pE pA : Nat → Int} {B : Int} {S : (Nat → Int) → Prop} (I : Pin has V E H T oG oT w0 w1 w2 w3 lo hi st ep hl hh mv ac pt tk et lm pE pA B S) (h : Nat) (hhH : (h : Int) = H) (hT : T < 0) (hw : w0 < 0 ∧ w1 < 0 ∧ w2 < 0 ∧ w3 < 0) (hst : st h = 1) (hO : ∀ i : Nat, (i : Int) ≠ H → ¬ pown st i) (hiu : ∀ i : Nat, (i : Int) = H → i = h) : Q_l4 (False) V E H T oG oT w0 w1 w2 w3 lo hi (pfu st h 0) ep hl hh mv ac pt tk et lm pE pA (B + 2) S := by
  have i_l4 := Pin_l4 I
  clear I
  simp only [Q_l4, pokM, pown, prcv, pgiv, ppge, pfu] at *
  grind
set_option maxHeartbeats 400000 in
theorem pt_kill_l5 {has : Prop} {V E H T oG oT w0 w1 w2 w3 lo hi : Int} {st ep hl hh mv ac pt tk et lm pE pA : Nat → Int} {B : Int} {S : (Nat → Int) → Prop} (I : Pin has V E H T oG oT w0 w1 w2 w3 lo hi st ep hl hh mv ac pt tk et lm pE pA B S) (h : Nat) (hhH : (h : Int) = H) (hT : T < 0) (hw : w0 < 0 ∧ w1 < 0 ∧ w2 < 0 ∧ w3 < 0) (hst : st h = 1) (hO : ∀ i : Nat, (i : Int) ≠ H → ¬ pown st i) (hiu : ∀ i : Nat, (i : Int) = H → i = h) : Q_l5 (False) V E H T oG oT w0 w1 w2 w3 lo hi (pfu st h 0) ep hl hh mv ac pt tk et lm pE pA (B + 2) S := by
  have i_l5 := Pin_l5 I
  clear I
  simp only [Q_l5, pokM, pown, prcv, pgiv, ppge, pfu] at *
  grind
set_option maxHeartbeats 400000 in
theorem pt_kill_l3 {has : Prop} {V E H T oG oT w0 w1 w2 w3 lo hi : Int} {st ep hl hh mv ac pt tk et lm pE pA : Nat → Int} {B : Int} {S : (Nat → Int) → Prop} (I : Pin has V E H T oG oT w0 w1 w2 w3 lo hi st ep hl hh mv ac pt tk et lm pE pA B S) (h : Nat) (hhH : (h : Int) = H) (hT : T < 0) (hw : w0 < 0 ∧ w1 < 0 ∧ w2 < 0 ∧ w3 < 0) (hst : st h = 1) (hO : ∀ i : Nat, (i : Int) ≠ H → ¬ pown st i) (hiu : ∀ i : Nat, (i : Int) = H → i = h) : Q_l3 (False) V E H T oG oT w0 w1 w2 w3 lo hi (pfu st h 0) ep hl hh mv ac pt tk et lm pE pA (B + 2) S := by
  have i_l3 := Pin_l3 I
  clear I
  simp only [Q_l3, pokM, pown, prcv, pgiv, ppge, pfu] at *
  grind
set_option maxHeartbeats 400000 in
theorem pt_kill_m1 {has : Prop} {V E H T oG oT w0 w1 w2 w3 lo hi : Int} {st ep hl hh mv ac pt tk et lm pE pA : Nat → Int} {B : Int} {S : (Nat → Int) → Prop} (I : Pin has V E H T oG oT w0 w1 w2 w3 lo hi st ep hl hh mv ac pt tk et lm pE pA B S) (h : Nat) (hhH : (h : Int) = H) (hT : T < 0) (hw : w0 < 0 ∧ w1 < 0 ∧ w2 < 0 ∧ w3 < 0) (hst : st h = 1) (hO : ∀ i : Nat, (i : Int) ≠ H → ¬ pown st i) (hiu : ∀ i : Nat, (i : Int) = H → i = h) : Q_m1 (False) V E H T oG oT w0 w1 w2 w3 lo hi (pfu st h 0) ep hl hh mv ac pt tk et lm pE pA (B + 2) S := by
  have i_m1 := Pin_m1 I
  clear I
  simp only [Q_m1, pokM, pown, prcv, pgiv, ppge, pfu] at *
  grind
set_option maxHeartbeats 400000 in
theorem pt_kill_m2 {has : Prop} {V E H T oG oT w0 w1 w2 w3 lo hi : Int} {st ep hl hh mv ac pt tk et lm pE pA : Nat → Int} {B : Int} {S : (Nat → Int) → Prop} (I : Pin has V E H T oG oT w0 w1 w2 w3 lo hi st ep hl hh mv ac pt tk et lm pE pA B S) (h : Nat) (hhH : (h : Int) = H) (hT : T < 0) (hw : w0 < 0 ∧ w1 < 0 ∧ w2 < 0 ∧ w3 < 0) (hst : st h = 1) (hO : ∀ i : Nat, (i : Int) ≠ H → ¬ pown st i) (hiu : ∀ i : Nat, (i : Int) = H → i = h) : Q_m2 (False) V E H T oG oT w0 w1 w2 w3 lo hi (pfu st h 0) ep hl hh mv ac pt tk et lm pE pA (B + 2) S := by
  have i_m2 := Pin_m2 I
  clear I
  simp only [Q_m2, pokM, pown, prcv, pgiv, ppge, pfu] at *
  grind
set_option maxHeartbeats 400000 in
theorem pt_kill_m3 {has : Prop} {V E H T oG oT w0 w1 w2 w3 lo hi : Int} {st ep hl hh mv ac pt tk et lm pE pA : Nat → Int} {B : Int} {S : (Nat → Int) → Prop} (I : Pin has V E H T oG oT w0 w1 w2 w3 lo hi st ep hl hh mv ac pt tk et lm pE pA B S) (h : Nat) (hhH : (h : Int) = H) (hT : T < 0) (hw : w0 < 0 ∧ w1 < 0 ∧ w2 < 0 ∧ w3 < 0) (hst : st h = 1) (hO : ∀ i : Nat, (i : Int) ≠ H → ¬ pown st i) (hiu : ∀ i : Nat, (i : Int) = H → i = h) : Q_m3 (False) V E H T oG oT w0 w1 w2 w3 lo hi (pfu st h 0) ep hl hh mv ac pt tk et lm pE pA (B + 2) S := by
  have i_m3 := Pin_m3 I
  clear I
  simp only [Q_m3, pokM, pown, prcv, pgiv, ppge, pfu] at *
  grind
set_option maxHeartbeats 400000 in
theorem pt_kill_n0 {has : Prop} {V E H T oG oT w0 w1 w2 w3 lo hi : Int} {st ep hl hh mv ac pt tk et lm pE pA : Nat → Int} {B : Int} {S : (Nat → Int) → Prop} (I : Pin has V E H T oG oT w0 w1 w2 w3 lo hi st ep hl hh mv ac pt tk et lm pE pA B S) (h : Nat) (hhH : (h : Int) = H) (hT : T < 0) (hw : w0 < 0 ∧ w1 < 0 ∧ w2 < 0 ∧ w3 < 0) (hst : st h = 1) (hO : ∀ i : Nat, (i : Int) ≠ H → ¬ pown st i) (hiu : ∀ i : Nat, (i : Int) = H → i = h) : Q_n0 (False) V E H T oG oT w0 w1 w2 w3 lo hi (pfu st h 0) ep hl hh mv ac pt tk et lm pE pA (B + 2) S := by
  have i_n0 := Pin_n0 I
  clear I
  simp only [Q_n0, pokM, pown, prcv, pgiv, ppge, pfu] at *
  grind
set_option maxHeartbeats 400000 in
theorem pt_kill_n1 {has : Prop} {V E H T oG oT w0 w1 w2 w3 lo hi : Int} {st ep hl hh mv ac pt tk et lm pE pA : Nat → Int} {B : Int} {S : (Nat → Int) → Prop} (I : Pin has V E H T oG oT w0 w1 w2 w3 lo hi st ep hl hh mv ac pt tk et lm pE pA B S) (h : Nat) (hhH : (h : Int) = H) (hT : T < 0) (hw : w0 < 0 ∧ w1 < 0 ∧ w2 < 0 ∧ w3 < 0) (hst : st h = 1) (hO : ∀ i : Nat, (i : Int) ≠ H → ¬ pown st i) (hiu : ∀ i : Nat, (i : Int) = H → i = h) : Q_n1 (False) V E H T oG oT w0 w1 w2 w3 lo hi (pfu st h 0) ep hl hh mv ac pt tk et lm pE pA (B + 2) S := by
  have i_n1 := Pin_n1 I
  clear I
  simp only [Q_n1, pokM, pown, prcv, pgiv, ppge, pfu] at *
  grind
set_option maxHeartbeats 400000 in
theorem pt_kill_n2 {has : Prop} {V E H T oG oT w0 w1 w2 w3 lo hi : Int} {st ep hl hh mv ac pt tk et lm pE pA : Nat → Int} {B : Int} {S : (Nat → Int) → Prop} (I : Pin has V E H T oG oT w0 w1 w2 w3 lo hi st ep hl hh mv ac pt tk et lm pE pA B S) (h : Nat) (hhH : (h : Int) = H) (hT : T < 0) (hw : w0 < 0 ∧ w1 < 0 ∧ w2 < 0 ∧ w3 < 0) (hst : st h = 1) (hO : ∀ i : Nat, (i : Int) ≠ H → ¬ pown st i) (hiu : ∀ i : Nat, (i : Int) = H → i = h) : Q_n2 (False) V E H T oG oT w0 w1 w2 w3 lo hi (pfu st h 0) ep hl hh mv ac pt tk et lm pE pA (B + 2) S := by
  have i_n2 := Pin_n2 I
  clear I
  simp only [Q_n2, pokM, pown, prcv, pgiv, ppge, pfu] at *
  grind
set_option maxHeartbeats 400000 in
theorem pt_kill_n3 {has : Prop} {V E H T oG oT w0 w1 w2 w3 lo hi : Int} {st ep hl hh mv ac pt tk et lm pE pA : Nat → Int} {B : Int} {S : (Nat → Int) → Prop} (I : Pin has V E H T oG oT w0 w1 w2 w3 lo hi st ep hl hh mv ac pt tk et lm pE pA B S) (h : Nat) (hhH : (h : Int) = H) (hT : T < 0) (hw : w0 < 0 ∧ w1 < 0 ∧ w2 < 0 ∧ w3 < 0) (hst : st h = 1) (hO : ∀ i : Nat, (i : Int) ≠ H → ¬ pown st i) (hiu : ∀ i : Nat, (i : Int) = H → i = h) : Q_n3 (False) V E H T oG oT w0 w1 w2 w3 lo hi (pfu st h 0) ep hl hh mv ac pt tk et lm pE pA (B + 2) S := by
  have i_n3 := Pin_n3 I
  clear I
  simp only [Q_n3, pokM, pown, prcv, pgiv, ppge, pfu] at *
  grind
set_option maxHeartbeats 400000 in
theorem pt_kill_n4 {has : Prop} {V E H T oG oT w0 w1 w2 w3 lo hi : Int} {st ep hl hh mv ac pt tk et lm pE pA : Nat → Int} {B : Int} {S : (Nat → Int) → Prop} (I : Pin has V E H T oG oT w0 w1 w2 w3 lo hi st ep hl hh mv ac pt tk et lm pE pA B S) (h : Nat) (hhH : (h : Int) = H) (hT : T < 0) (hw : w0 < 0 ∧ w1 < 0 ∧ w2 < 0 ∧ w3 < 0) (hst : st h = 1) (hO : ∀ i : Nat, (i : Int) ≠ H → ¬ pown st i) (hiu : ∀ i : Nat, (i : Int) = H → i = h) : Q_n4 (False) V E H T oG oT w0 w1 w2 w3 lo hi (pfu st h 0) ep hl hh mv ac pt tk et lm pE pA (B + 2) S := by
  have i_n4 := Pin_n4 I
  clear I
  simp only [Q_n4, pokM, pown, prcv, pgiv, ppge, pfu] at *
  grind
set_option maxHeartbeats 400000 in
theorem pt_kill_n5 {has : Prop} {V E H T oG oT w0 w1 w2 w3 lo hi : Int} {st ep hl hh mv ac pt tk et lm pE pA : Nat → Int} {B : Int} {S : (Nat → Int) → Prop} (I : Pin has V E H T oG oT w0 w1 w2 w3 lo hi st ep hl hh mv ac pt tk et lm pE pA B S) (h : Nat) (hhH : (h : Int) = H) (hT : T < 0) (hw : w0 < 0 ∧ w1 < 0 ∧ w2 < 0 ∧ w3 < 0) (hst : st h = 1) (hO : ∀ i : Nat, (i : Int) ≠ H → ¬ pown st i) (hiu : ∀ i : Nat, (i : Int) = H → i = h) : Q_n5 (False) V E H T oG oT w0 w1 w2 w3 lo hi (pfu st h 0) ep hl hh mv ac pt tk et lm pE pA (B + 2) S := by
  have i_n5 := Pin_n5 I
  clear I
  simp only [Q_n5, pokM, pown, prcv, pgiv, ppge, pfu] at *
  grind
set_option maxHeartbeats 400000 in
theorem pt_kill_n6 {has : Prop} {V E H T oG oT w0 w1 w2 w3 lo hi : Int} {st ep hl hh mv ac pt tk et lm pE pA : Nat → Int} {B : Int} {S : (Nat → Int) → Prop} (I : Pin has V E H T oG oT w0 w1 w2 w3 lo hi st ep hl hh mv ac pt tk et lm pE pA B S) (h : Nat) (hhH : (h : Int) = H) (hT : T < 0) (hw : w0 < 0 ∧ w1 < 0 ∧ w2 < 0 ∧ w3 < 0) (hst : st h = 1) (hO : ∀ i : Nat, (i : Int) ≠ H → ¬ pown st i) (hiu : ∀ i : Nat, (i : Int) = H → i = h) : Q_n6 (False) V E H T oG oT w0 w1 w2 w3 lo hi (pfu st h 0) ep hl hh mv ac pt tk et lm pE pA (B + 2) S := by
  have i_n6 := Pin_n6 I
  clear I
  simp only [Q_n6, pokM, pown, prcv, pgiv, ppge, pfu] at *
  grind
set_option maxHeartbeats 400000 in
theorem pt_kill_n7 {has : Prop} {V E H T oG oT w0 w1 w2 w3 lo hi : Int} {st ep hl hh mv ac pt tk et lm pE pA : Nat → Int} {B : Int} {S : (Nat → Int) → Prop} (I : Pin has V E H T oG oT w0 w1 w2 w3 lo hi st ep hl hh mv ac pt tk et lm pE pA B S) (h : Nat) (hhH : (h : Int) = H) (hT : T < 0) (hw : w0 < 0 ∧ w1 < 0 ∧ w2 < 0 ∧ w3 < 0) (hst : st h = 1) (hO : ∀ i : Nat, (i : Int) ≠ H → ¬ pown st i) (hiu : ∀ i : Nat, (i : Int) = H → i = h) : Q_n7 (False) V E H T oG oT w0 w1 w2 w3 lo hi (pfu st h 0) ep hl hh mv ac pt tk et lm pE pA (B + 2) S := by
  have i_n7 := Pin_n7 I
  clear I
  simp only [Q_n7, pokM, pown, prcv, pgiv, ppge, pfu] at *
  grind
set_option maxHeartbeats 400000 in
theorem pt_kill_o {has : Prop} {V E H T oG oT w0 w1 w2 w3 lo hi : Int} {st ep hl hh mv ac pt tk et lm pE pA : Nat → Int} {B : Int} {S : (Nat → Int) → Prop} (I : Pin has V E H T oG oT w0 w1 w2 w3 lo hi st ep hl hh mv ac pt tk et lm pE pA B S) (h : Nat) (hhH : (h : Int) = H) (hT : T < 0) (hw : w0 < 0 ∧ w1 < 0 ∧ w2 < 0 ∧ w3 < 0) (hst : st h = 1) (hO : ∀ i : Nat, (i : Int) ≠ H → ¬ pown st i) (hiu : ∀ i : Nat, (i : Int) = H → i = h) : Q_o (False) V E H T oG oT w0 w1 w2 w3 lo hi (pfu st h 0) ep hl hh mv ac pt tk et lm pE pA (B + 2) S := by
  have i_o := Pin_o I
  clear I
  simp only [Q_o, pokM, pown, prcv, pgiv, ppge, pfu] at *
  grind
set_option maxHeartbeats 400000 in
theorem pt_kill_p {has : Prop} {V E H T oG oT w0 w1 w2 w3 lo hi : Int} {st ep hl hh mv ac pt tk et lm pE pA : Nat → Int} {B : Int} {S : (Nat → Int) → Prop} (I : Pin has V E H T oG oT w0 w1 w2 w3 lo hi st ep hl hh mv ac pt tk et lm pE pA B S) (h : Nat) (hhH : (h : Int) = H) (hT : T < 0) (hw : w0 < 0 ∧ w1 < 0 ∧ w2 < 0 ∧ w3 < 0) (hst : st h = 1) (hO : ∀ i : Nat, (i : Int) ≠ H → ¬ pown st i) (hiu : ∀ i : Nat, (i : Int) = H → i = h) : Q_p (False) V E H T oG oT w0 w1 w2 w3 lo hi (pfu st h 0) ep hl hh mv ac pt tk et lm pE pA (B + 2) S := by
  have i_p := Pin_p I
  clear I
  simp only [Q_p, pokM, pown, prcv, pgiv, ppge, pfu] at *
  grind
set_option maxHeartbeats 400000 in
theorem pt_kill_q {has : Prop} {V E H T oG oT w0 w1 w2 w3 lo hi : Int} {st ep hl hh mv ac pt tk et lm pE pA : Nat → Int} {B : Int} {S : (Nat → Int) → Prop} (I : Pin has V E H T oG oT w0 w1 w2 w3 lo hi st ep hl hh mv ac pt tk et lm pE pA B S) (h : Nat) (hhH : (h : Int) = H) (hT : T < 0) (hw : w0 < 0 ∧ w1 < 0 ∧ w2 < 0 ∧ w3 < 0) (hst : st h = 1) (hO : ∀ i : Nat, (i : Int) ≠ H → ¬ pown st i) (hiu : ∀ i : Nat, (i : Int) = H → i = h) : Q_q (False) V E H T oG oT w0 w1 w2 w3 lo hi (pfu st h 0) ep hl hh mv ac pt tk et lm pE pA (B + 2) S := by
  have i_q := Pin_q I
  clear I
  simp only [Q_q, pokM, pown, prcv, pgiv, ppge, pfu] at *
  grind
set_option maxHeartbeats 400000 in
theorem pt_kill_q2 {has : Prop} {V E H T oG oT w0 w1 w2 w3 lo hi : Int} {st ep hl hh mv ac pt tk et lm pE pA : Nat → Int} {B : Int} {S : (Nat → Int) → Prop} (I : Pin has V E H T oG oT w0 w1 w2 w3 lo hi st ep hl hh mv ac pt tk et lm pE pA B S) (h : Nat) (hhH : (h : Int) = H) (hT : T < 0) (hw : w0 < 0 ∧ w1 < 0 ∧ w2 < 0 ∧ w3 < 0) (hst : st h = 1) (hO : ∀ i : Nat, (i : Int) ≠ H → ¬ pown st i) (hiu : ∀ i : Nat, (i : Int) = H → i = h) : Q_q2 (False) V E H T oG oT w0 w1 w2 w3 lo hi (pfu st h 0) ep hl hh mv ac pt tk et lm pE pA (B + 2) S := by
  have i_q2 := Pin_q2 I
  clear I
  simp only [Q_q2, pokM, pown, prcv, pgiv, ppge, pfu] at *
  grind
set_option maxHeartbeats 400000 in
theorem pt_kill_q3 {has : Prop} {V E H T oG oT w0 w1 w2 w3 lo hi : Int} {st ep hl hh mv ac pt tk et lm pE pA : Nat → Int} {B : Int} {S : (Nat → Int) → Prop} (I : Pin has V E H T oG oT w0 w1 w2 w3 lo hi st ep hl hh mv ac pt tk et lm pE pA B S) (h : Nat) (hhH : (h : Int) = H) (hT : T < 0) (hw : w0 < 0 ∧ w1 < 0 ∧ w2 < 0 ∧ w3 < 0) (hst : st h = 1) (hO : ∀ i : Nat, (i : Int) ≠ H → ¬ pown st i) (hiu : ∀ i : Nat, (i : Int) = H → i = h) : Q_q3 (False) V E H T oG oT w0 w1 w2 w3 lo hi (pfu st h 0) ep hl hh mv ac pt tk et lm pE pA (B + 2) S := by
  have i_q3 := Pin_q3 I
  clear I
  simp only [Q_q3, pokM, pown, prcv, pgiv, ppge, pfu] at *
  grind
set_option maxHeartbeats 400000 in
theorem pt_kill_w {has : Prop} {V E H T oG oT w0 w1 w2 w3 lo hi : Int} {st ep hl hh mv ac pt tk et lm pE pA : Nat → Int} {B : Int} {S : (Nat → Int) → Prop} (I : Pin has V E H T oG oT w0 w1 w2 w3 lo hi st ep hl hh mv ac pt tk et lm pE pA B S) (h : Nat) (hhH : (h : Int) = H) (hT : T < 0) (hw : w0 < 0 ∧ w1 < 0 ∧ w2 < 0 ∧ w3 < 0) (hst : st h = 1) (hO : ∀ i : Nat, (i : Int) ≠ H → ¬ pown st i) (hiu : ∀ i : Nat, (i : Int) = H → i = h) : Q_w (False) V E H T oG oT w0 w1 w2 w3 lo hi (pfu st h 0) ep hl hh mv ac pt tk et lm pE pA (B + 2) S := by
  have i_w := Pin_w I
  clear I
  simp only [Q_w, pokM, pown, prcv, pgiv, ppge, pfu] at *
  grind
theorem pt_kill {has : Prop} {V E H T oG oT w0 w1 w2 w3 lo hi : Int} {st ep hl hh mv ac pt tk et lm pE pA : Nat → Int} {B : Int} {S : (Nat → Int) → Prop} (I : Pin has V E H T oG oT w0 w1 w2 w3 lo hi st ep hl hh mv ac pt tk et lm pE pA B S) (h : Nat) (hhH : (h : Int) = H) (hT : T < 0) (hw : w0 < 0 ∧ w1 < 0 ∧ w2 < 0 ∧ w3 < 0) (hst : st h = 1) : Pin (False) V E H T oG oT w0 w1 w2 w3 lo hi (pfu st h 0) ep hl hh mv ac pt tk et lm pE pA (B + 2) S := by
  have hO := pt_kill_hO_d I h hhH hT hw hst 
  have hiu := pt_kill_hiu_d I h hhH hT hw hst hO
  exact ⟨pt_kill_v0 I h hhH hT hw hst hO hiu, pt_kill_a I h hhH hT hw hst hO hiu, pt_kill_b I h hhH hT hw hst hO hiu, pt_kill_c I h hhH hT hw hst hO hiu, pt_kill_d I h hhH hT hw hst hO hiu, pt_kill_e I h hhH hT hw hst hO hiu, pt_kill_f I h hhH hT hw hst hO hiu, pt_kill_f2 I h hhH hT hw hst hO hiu, pt_kill_f3 I h hhH hT hw hst hO hiu, pt_kill_g I h hhH hT hw hst hO hiu, pt_kill_g0 I h hhH hT hw hst hO hiu, pt_kill_g1 I h hhH hT hw hst hO hiu, pt_kill_g2 I h hhH hT hw hst hO hiu, pt_kill_h7 I h hhH hT hw hst hO hiu, pt_kill_h9 I h hhH hT hw hst hO hiu, pt_kill_h10 I h hhH hT hw hst hO hiu, pt_kill_h11 I h hhH hT hw hst hO hiu, pt_kill_h12 I h hhH hT hw hst hO hiu, pt_kill_k1 I h hhH hT hw hst hO hiu, pt_kill_k2 I h hhH hT hw hst hO hiu, pt_kill_k8 I h hhH hT hw hst hO hiu, pt_kill_l4 I h hhH hT hw hst hO hiu, pt_kill_l5 I h hhH hT hw hst hO hiu, pt_kill_l3 I h hhH hT hw hst hO hiu, pt_kill_m1 I h hhH hT hw hst hO hiu, pt_kill_m2 I h hhH hT hw hst hO hiu, pt_kill_m3 I h hhH hT hw hst hO hiu, pt_kill_n0 I h hhH hT hw hst hO hiu, pt_kill_n1 I h hhH hT hw hst hO hiu, pt_kill_n2 I h hhH hT hw hst hO hiu, pt_kill_n3 I h hhH hT hw hst hO hiu, pt_kill_n4 I h hhH hT hw hst hO hiu, pt_kill_n5 I h hhH hT hw hst hO hiu, pt_kill_n6 I h hhH hT hw hst hO hiu, pt_kill_n7 I h hhH hT hw hst hO hiu, pt_kill_o I h hhH hT hw hst hO hiu, pt_kill_p I h hhH hT hw hst hO hiu, pt_kill_q I h hhH hT hw hst hO hiu, pt_kill_q2 I h hhH hT hw hst hO hiu, pt_kill_q3 I h hhH hT hw hst hO hiu, pt_kill_w I h hhH hT hw hst hO hiu⟩
set_option maxHeartbeats 400000 in
theorem pt_send_hH_d {has : Prop} {V E H T oG oT w0 w1 w2 w3 lo hi : Int} {st ep hl hh mv ac pt tk et lm pE pA : Nat → Int} {B : Int} {S : (Nat → Int) → Prop} (I : Pin has V E H T oG oT w0 w1 w2 w3 lo hi st ep hl hh mv ac pt tk et lm pE pA B S) (h : Nat) (x : (Nat → Int)) (hst : st h = 2) (htk : tk h ≠ 0) (hx : (x 0) = 4) (hxt : (x 1) = mv h) (hxf : (x 2) = h) (hxe : (x 3) = ep h + 1) (hxa : (x 4) = ac h) (hxm : (x 5) = pt h) (hxl : (x 7) = hl h) (hxh : (x 8) = hh h) (hxn : 0 ≤ (x 6))  : (h : Int) = H := by
  have i_b := Pin_b I
  clear I
  try simp only [Q_b, pown, prcv, pgiv, ppge, pfu] at *
  grind
set_option maxHeartbeats 400000 in
theorem pt_send_hV_d {has : Prop} {V E H T oG oT w0 w1 w2 w3 lo hi : Int} {st ep hl hh mv ac pt tk et lm pE pA : Nat → Int} {B : Int} {S : (Nat → Int) → Prop} (I : Pin has V E H T oG oT w0 w1 w2 w3 lo hi st ep hl hh mv ac pt tk et lm pE pA B S) (h : Nat) (x : (Nat → Int)) (hst : st h = 2) (htk : tk h ≠ 0) (hx : (x 0) = 4) (hxt : (x 1) = mv h) (hxf : (x 2) = h) (hxe : (x 3) = ep h + 1) (hxa : (x 4) = ac h) (hxm : (x 5) = pt h) (hxl : (x 7) = hl h) (hxh : (x 8) = hh h) (hxn : 0 ≤ (x 6)) (hH : (h : Int) = H) : ep h = V - 1 ∧ 0 ≤ pt h := by
  have i_e := Pin_e I
  clear I
  try simp only [Q_e, pown, prcv, pgiv, ppge, pfu] at *
  grind
set_option maxHeartbeats 400000 in
theorem pt_send_hD_d {has : Prop} {V E H T oG oT w0 w1 w2 w3 lo hi : Int} {st ep hl hh mv ac pt tk et lm pE pA : Nat → Int} {B : Int} {S : (Nat → Int) → Prop} (I : Pin has V E H T oG oT w0 w1 w2 w3 lo hi st ep hl hh mv ac pt tk et lm pE pA B S) (h : Nat) (x : (Nat → Int)) (hst : st h = 2) (htk : tk h ≠ 0) (hx : (x 0) = 4) (hxt : (x 1) = mv h) (hxf : (x 2) = h) (hxe : (x 3) = ep h + 1) (hxa : (x 4) = ac h) (hxm : (x 5) = pt h) (hxl : (x 7) = hl h) (hxh : (x 8) = hh h) (hxn : 0 ≤ (x 6)) (hH : (h : Int) = H) (hV : ep h = V - 1 ∧ 0 ≤ pt h) : T < 0 → w2 = V := by
  have i_d := Pin_d I
  clear I
  try simp only [Q_d, pown, prcv, pgiv, ppge, pfu] at *
  grind
set_option maxHeartbeats 400000 in
theorem pt_send_het_d {has : Prop} {V E H T oG oT w0 w1 w2 w3 lo hi : Int} {st ep hl hh mv ac pt tk et lm pE pA : Nat → Int} {B : Int} {S : (Nat → Int) → Prop} (I : Pin has V E H T oG oT w0 w1 w2 w3 lo hi st ep hl hh mv ac pt tk et lm pE pA B S) (h : Nat) (x : (Nat → Int)) (hst : st h = 2) (htk : tk h ≠ 0) (hx : (x 0) = 4) (hxt : (x 1) = mv h) (hxf : (x 2) = h) (hxe : (x 3) = ep h + 1) (hxa : (x 4) = ac h) (hxm : (x 5) = pt h) (hxl : (x 7) = hl h) (hxh : (x 8) = hh h) (hxn : 0 ≤ (x 6)) (hH : (h : Int) = H) (hV : ep h = V - 1 ∧ 0 ≤ pt h) (hD : T < 0 → w2 = V) : et h = 0 := by
  have i_o := Pin_o I
  clear I
  try simp only [Q_o, pown, prcv, pgiv, ppge, pfu] at *
  grind
set_option maxHeartbeats 400000 in
theorem pt_send_v0 {has : Prop} {V E H T oG oT w0 w1 w2 w3 lo hi : Int} {st ep hl hh mv ac pt tk et lm pE pA : Nat → Int} {B : Int} {S : (Nat → Int) → Prop} (I : Pin has V E H T oG oT w0 w1 w2 w3 lo hi st ep hl hh mv ac pt tk et lm pE pA B S) (h : Nat) (x : (Nat → Int)) (hst : st h = 2) (htk : tk h ≠ 0) (hx : (x 0) = 4) (hxt : (x 1) = mv h) (hxf : (x 2) = h) (hxe : (x 3) = ep h + 1) (hxa : (x 4) = ac h) (hxm : (x 5) = pt h) (hxl : (x 7) = hl h) (hxh : (x 8) = hh h) (hxn : 0 ≤ (x 6)) (hH : (h : Int) = H) (hV : ep h = V - 1 ∧ 0 ≤ pt h) (hD : T < 0 → w2 = V) (het : et h = 0) : Q_v0 has V E H T oG oT w0 w1 w2 w3 lo hi st ep hl hh mv ac pt (pfu tk h 0) et (pfu lm h (x 6)) pE pA (B + 2) (fun m => S m ∨ m = x) := by
  have i_v0 := Pin_v0 I
  clear I
  simp only [Q_v0, pokM, pown, prcv, pgiv, ppge, pfu] at *
  grind
set_option maxHeartbeats 400000 in
theorem pt_send_a {has : Prop} {V E H T oG oT w0 w1 w2 w3 lo hi : Int} {st ep hl hh mv ac pt tk et lm pE pA : Nat → Int} {B : Int} {S : (Nat → Int) → Prop} (I : Pin has V E H T oG oT w0 w1 w2 w3 lo hi st ep hl hh mv ac pt tk et lm pE pA B S) (h : Nat) (x : (Nat → Int)) (hst : st h = 2) (htk : tk h ≠ 0) (hx : (x 0) = 4) (hxt : (x 1) = mv h) (hxf : (x 2) = h) (hxe : (x 3) = ep h + 1) (hxa : (x 4) = ac h) (hxm : (x 5) = pt h) (hxl : (x 7) = hl h) (hxh : (x 8) = hh h) (hxn : 0 ≤ (x 6)) (hH : (h : Int) = H) (hV : ep h = V - 1 ∧ 0 ≤ pt h) (hD : T < 0 → w2 = V) (het : et h = 0) : Q_a has V E H T oG oT w0 w1 w2 w3 lo hi st ep hl hh mv ac pt (pfu tk h 0) et (pfu lm h (x 6)) pE pA (B + 2) (fun m => S m ∨ m = x) := by
  have i_a := Pin_a I
  clear I
  simp only [Q_a, pokM, pown, prcv, pgiv, ppge, pfu] at *
  grind
set_option maxHeartbeats 400000 in
theorem pt_send_b {has : Prop} {V E H T oG oT w0 w1 w2 w3 lo hi : Int} {st ep hl hh mv ac pt tk et lm pE pA : Nat → Int} {B : Int} {S : (Nat → Int) → Prop} (I : Pin has V E H T oG oT w0 w1 w2 w3 lo hi st ep hl hh mv ac pt tk et lm pE pA B S) (h : Nat) (x : (Nat → Int)) (hst : st h = 2) (htk : tk h ≠ 0) (hx : (x 0) = 4) (hxt : (x 1) = mv h) (hxf : (x 2) = h) (hxe : (x 3) = ep h + 1) (hxa : (x 4) = ac h) (hxm : (x 5) = pt h) (hxl : (x 7) = hl h) (hxh : (x 8) = hh h) (hxn : 0 ≤ (x 6)) (hH : (h : Int) = H) (hV : ep h = V - 1 ∧ 0 ≤ pt h) (hD : T < 0 → w2 = V) (het : et h = 0) : Q_b has V E H T oG oT w0 w1 w2 w3 lo hi st ep hl hh mv ac pt (pfu tk h 0) et (pfu lm h (x 6)) pE pA (B + 2) (fun m => S m ∨ m = x) := by
  have i_b := Pin_b I
  clear I
  simp only [Q_b, pokM, pown, prcv, pgiv, ppge, pfu] at *
  grind
set_option maxHeartbeats 400000 in
theorem pt_send_c {has : Prop} {V E H T oG oT w0 w1 w2 w3 lo hi : Int} {st ep hl hh mv ac pt tk et lm pE pA : Nat → Int} {B : Int} {S : (Nat → Int) → Prop} (I : Pin has V E H T oG oT w0 w1 w2 w3 lo hi st ep hl hh mv ac pt tk et lm pE pA B S) (h : Nat) (x : (Nat → Int)) (hst : st h = 2) (htk : tk h ≠ 0) (hx : (x 0) = 4) (hxt : (x 1) = mv h) (hxf : (x 2) = h) (hxe : (x 3) = ep h + 1) (hxa : (x 4) = ac h) (hxm : (x 5) = pt h) (hxl : (x 7) = hl h) (hxh : (x 8) = hh h) (hxn : 0 ≤ (x 6)) (hH : (h : Int) = H) (hV : ep h = V - 1 ∧ 0 ≤ pt h) (hD : T < 0 → w2 = V) (het : et h = 0) : Q_c has V E H T oG oT w0 w1 w2 w3 lo hi st ep hl hh mv ac pt (pfu tk h 0) et (pfu lm h (x 6)) pE pA (B + 2) (fun m => S m ∨ m = x) := by
  have i_c := Pin_c I
  clear I
  simp only [Q_c, pokM, pown, prcv, pgiv, ppge, pfu] at *
  grind
set_option maxHeartbeats 400000 in
theorem pt_send_d {has : Prop} {V E H T oG oT w0 w1 w2 w3 lo hi : Int} {st ep hl hh mv ac pt tk et lm pE pA : Nat → Int} {B : Int} {S : (Nat → Int) → Prop} (I : Pin has V E H T oG oT w0 w1 w2 w3 lo hi st ep hl hh mv ac pt tk et lm pE pA B S) (h : Nat) (x : (Nat → Int)) (hst : st h = 2) (htk : tk h ≠ 0) (hx : (x 0) = 4) (hxt : (x 1) = mv h) (hxf : (x 2) = h) (hxe : (x 3) = ep h + 1) (hxa : (x 4) = ac h) (hxm : (x 5) = pt h) (hxl : (x 7) = hl h) (hxh : (x 8) = hh h) (hxn : 0 ≤ (x 6)) (hH : (h : Int) = H) (hV : ep h = V - 1 ∧ 0 ≤ pt h) (hD : T < 0 → w2 = V) (het : et h = 0) : Q_d has V E H T oG oT w0 w1 w2 w3 lo hi st ep hl hh mv ac pt (pfu tk h 0) et (pfu lm h (x 6)) pE pA (B + 2) (fun m => S m ∨ m = x) := by
  have i_d := Pin_d I
  clear I
  simp only [Q_d, pokM, pown, prcv, pgiv, ppge, pfu] at *
  grind
set_option maxHeartbeats 400000 in
theorem pt_send_e {has : Prop} {V E H T oG oT w0 w1 w2 w3 lo hi : Int} {st ep hl hh mv ac pt tk et lm pE pA : Nat → Int} {B : Int} {S : (Nat → Int) → Prop} (I : Pin has V E H T oG oT w0 w1 w2 w3 lo hi st ep hl hh mv ac pt tk et lm pE pA B S) (h : Nat) (x : (Nat → Int)) (hst : st h = 2) (htk : tk h ≠ 0) (hx : (x 0) = 4) (hxt : (x 1) = mv h) (hxf : (x 2) = h) (hxe : (x 3) = ep h + 1) (hxa : (x 4) = ac h) (hxm : (x 5) = pt h) (hxl : (x 7) = hl h) (hxh : (x 8) = hh h) (hxn : 0 ≤ (x 6)) (hH : (h : Int) = H) (hV : ep h = V - 1 ∧ 0 ≤ pt h) (hD : T < 0 → w2 = V) (het : et h = 0) : Q_e has V E H T oG oT w0 w1 w2 w3 lo hi st ep hl hh mv ac pt (pfu tk h 0) et (pfu lm h (x 6)) pE pA (B + 2) (fun m => S m ∨ m = x) := by
  have i_e := Pin_e I
  clear I
  simp only [Q_e, pokM, pown, prcv, pgiv, ppge, pfu] at *
  grind
set_option maxHeartbeats 400000 in
theorem pt_send_f {has : Prop} {V E H T oG oT w0 w1 w2 w3 lo hi : Int} {st ep hl hh mv ac pt tk et lm pE pA : Nat → Int} {B : Int} {S : (Nat → Int) → Prop} (I : Pin has V E H T oG oT w0 w1 w2 w3 lo hi st ep hl hh mv ac pt tk et lm pE pA B S) (h : Nat) (x : (Nat → Int)) (hst : st h = 2) (htk : tk h ≠ 0) (hx : (x 0) = 4) (hxt : (x 1) = mv h) (hxf : (x 2) = h) (hxe : (x 3) = ep h + 1) (hxa : (x 4) = ac h) (hxm : (x 5) = pt h) (hxl : (x 7) = hl h) (hxh : (x 8) = hh h) (hxn : 0 ≤ (x 6)) (hH : (h : Int) = H) (hV : ep h = V - 1 ∧ 0 ≤ pt h) (hD : T < 0 → w2 = V) (het : et h = 0) : Q_f has V E H T oG oT w0 w1 w2 w3 lo hi st ep hl hh mv ac pt (pfu tk h 0) et (pfu lm h (x 6)) pE pA (B + 2) (fun m => S m ∨ m = x) := by
  have i_f := Pin_f I
  clear I
  simp only [Q_f, pokM, pown, prcv, pgiv, ppge, pfu] at *
  grind
set_option maxHeartbeats 400000 in
theorem pt_send_f2 {has : Prop} {V E H T oG oT w0 w1 w2 w3 lo hi : Int} {st ep hl hh mv ac pt tk et lm pE pA : Nat → Int} {B : Int} {S : (Nat → Int) → Prop} (I : Pin has V E H T oG oT w0 w1 w2 w3 lo hi st ep hl hh mv ac pt tk et lm pE pA B S) (h : Nat) (x : (Nat → Int)) (hst : st h = 2) (htk : tk h ≠ 0) (hx : (x 0) = 4) (hxt : (x 1) = mv h) (hxf : (x 2) = h) (hxe : (x 3) = ep h + 1) (hxa : (x 4) = ac h) (hxm : (x 5) = pt h) (hxl : (x 7) = hl h) (hxh : (x 8) = hh h) (hxn : 0 ≤ (x 6)) (hH : (h : Int) = H) (hV : ep h = V - 1 ∧ 0 ≤ pt h) (hD : T < 0 → w2 = V) (het : et h = 0) : Q_f2 has V E H T oG oT w0 w1 w2 w3 lo hi st ep hl hh mv ac pt (pfu tk h 0) et (pfu lm h (x 6)) pE pA (B + 2) (fun m => S m ∨ m = x) := by
  have i_f2 := Pin_f2 I
  clear I
  simp only [Q_f2, pokM, pown, prcv, pgiv, ppge, pfu] at *
  grind
set_option maxHeartbeats 400000 in
theorem pt_send_f3 {has : Prop} {V E H T oG oT w0 w1 w2 w3 lo hi : Int} {st ep hl hh mv ac pt tk et lm pE pA : Nat → Int} {B : Int} {S : (Nat → Int) → Prop} (I : Pin has V E H T oG oT w0 w1 w2 w3 lo hi st ep hl hh mv ac pt tk et lm pE pA B S) (h : Nat) (x : (Nat → Int)) (hst : st h = 2) (htk : tk h ≠ 0) (hx : (x 0) = 4) (hxt : (x 1) = mv h) (hxf : (x 2) = h) (hxe : (x 3) = ep h + 1) (hxa : (x 4) = ac h) (hxm : (x 5) = pt h) (hxl : (x 7) = hl h) (hxh : (x 8) = hh h) (hxn : 0 ≤ (x 6)) (hH : (h : Int) = H) (hV : ep h = V - 1 ∧ 0 ≤ pt h) (hD : T < 0 → w2 = V) (het : et h = 0) : Q_f3 has V E H T oG oT w0 w1 w2 w3 lo hi st ep hl hh mv ac pt (pfu tk h 0) et (pfu lm h (x 6)) pE pA (B + 2) (fun m => S m ∨ m = x) := by
  have i_f3 := Pin_f3 I
  clear I
  simp only [Q_f3, pokM, pown, prcv, pgiv, ppge, pfu] at *
  grind
set_option maxHeartbeats 400000 in
theorem pt_send_g {has : Prop} {V E H T oG oT w0 w1 w2 w3 lo hi : Int} {st ep hl hh mv ac pt tk et lm pE pA : Nat → Int} {B : Int} {S : (Nat → Int) → Prop} (I : Pin has V E H T oG oT w0 w1 w2 w3 lo hi st ep hl hh mv ac pt tk et lm pE pA B S) (h : Nat) (x : (Nat → Int)) (hst : st h = 2) (htk : tk h ≠ 0) (hx : (x 0) = 4) (hxt : (x 1) = mv h) (hxf : (x 2) = h) (hxe : (x 3) = ep h + 1) (hxa : (x 4) = ac h) (hxm : (x 5) = pt h) (hxl : (x 7) = hl h) (hxh : (x 8) = hh h) (hxn : 0 ≤ (x 6)) (hH : (h : Int) = H) (hV : ep h = V - 1 ∧ 0 ≤ pt h) (hD : T < 0 → w2 = V) (het : et h = 0) : Q_g has V E H T oG oT w0 w1 w2 w3 lo hi st ep hl hh mv ac pt (pfu tk h 0) et (pfu lm h (x 6)) pE pA (B + 2) (fun m => S m ∨ m = x) := by
  have i_g := Pin_g I
  clear I
  simp only [Q_g, pokM, pown, prcv, pgiv, ppge, pfu] at *
  grind
set_option maxHeartbeats 400000 in
theorem pt_send_g0 {has : Prop} {V E H T oG oT w0 w1 w2 w3 lo hi : Int} {st ep hl hh mv ac pt tk et lm pE pA : Nat → Int} {B : Int} {S : (Nat → Int) → Prop} (I : Pin has V E H T oG oT w0 w1 w2 w3 lo hi st ep hl hh mv ac pt tk et lm pE pA B S) (h : Nat) (x : (Nat → Int)) (hst : st h = 2) (htk : tk h ≠ 0) (hx : (x 0) = 4) (hxt : (x 1) = mv h) (hxf : (x 2) = h) (hxe : (x 3) = ep h + 1) (hxa : (x 4) = ac h) (hxm : (x 5) = pt h) (hxl : (x 7) = hl h) (hxh : (x 8) = hh h) (hxn : 0 ≤ (x 6)) (hH : (h : Int) = H) (hV : ep h = V - 1 ∧ 0 ≤ pt h) (hD : T < 0 → w2 = V) (het : et h = 0) : Q_g0 has V E H T oG oT w0 w1 w2 w3 lo hi st ep hl hh mv ac pt (pfu tk h 0) et (pfu lm h (x 6)) pE pA (B + 2) (fun m => S m ∨ m = x) := by
  have i_g0 := Pin_g0 I
  clear I
  simp only [Q_g0, pokM, pown, prcv, pgiv, ppge, pfu] at *
  grind
set_option maxHeartbeats 400000 in
theorem pt_send_g1 {has : Prop} {V E H T oG oT w0 w1 w2 w3 lo hi : Int} {st ep hl hh mv ac pt tk et lm pE pA : Nat → Int} {B : Int} {S : (Nat → Int) → Prop} (I : Pin has V E H T oG oT w0 w1 w2 w3 lo hi st ep hl hh mv ac pt tk et lm pE pA B S) (h : Nat) (x : (Nat → Int)) (hst : st h = 2) (htk : tk h ≠ 0) (hx : (x 0) = 4) (hxt : (x 1) = mv h) (hxf : (x 2) = h) (hxe : (x 3) = ep h + 1) (hxa : (x 4) = ac h) (hxm : (x 5) = pt h) (hxl : (x 7) = hl h) (hxh : (x 8) = hh h) (hxn : 0 ≤ (x 6)) (hH : (h : Int) = H) (hV : ep h = V - 1 ∧ 0 ≤ pt h) (hD : T < 0 → w2 = V) (het : et h = 0) : Q_g1 has V E H T oG oT w0 w1 w2 w3 lo hi st ep hl hh mv ac pt (pfu tk h 0) et (pfu lm h (x 6)) pE pA (B + 2) (fun m => S m ∨ m = x) := by
  have i_g1 := Pin_g1 I
  clear I
  simp only [Q_g1, pokM, pown, prcv, pgiv, ppge, pfu] at *
  grind
set_option maxHeartbeats 400000 in
theorem pt_send_g2 {has : Prop} {V E H T oG oT w0 w1 w2 w3 lo hi : Int} {st ep hl hh mv ac pt tk et lm pE pA : Nat → Int} {B : Int} {S : (Nat → Int) → Prop} (I : Pin has V E H T oG oT w0 w1 w2 w3 lo hi st ep hl hh mv ac pt tk et lm pE pA B S) (h : Nat) (x : (Nat → Int)) (hst : st h = 2) (htk : tk h ≠ 0) (hx : (x 0) = 4) (hxt : (x 1) = mv h) (hxf : (x 2) = h) (hxe : (x 3) = ep h + 1) (hxa : (x 4) = ac h) (hxm : (x 5) = pt h) (hxl : (x 7) = hl h) (hxh : (x 8) = hh h) (hxn : 0 ≤ (x 6)) (hH : (h : Int) = H) (hV : ep h = V - 1 ∧ 0 ≤ pt h) (hD : T < 0 → w2 = V) (het : et h = 0) : Q_g2 has V E H T oG oT w0 w1 w2 w3 lo hi st ep hl hh mv ac pt (pfu tk h 0) et (pfu lm h (x 6)) pE pA (B + 2) (fun m => S m ∨ m = x) := by
  have i_g2 := Pin_g2 I
  clear I
  simp only [Q_g2, pokM, pown, prcv, pgiv, ppge, pfu] at *
  grind
set_option maxHeartbeats 400000 in
theorem pt_send_h7 {has : Prop} {V E H T oG oT w0 w1 w2 w3 lo hi : Int} {st ep hl hh mv ac pt tk et lm pE pA : Nat → Int} {B : Int} {S : (Nat → Int) → Prop} (I : Pin has V E H T oG oT w0 w1 w2 w3 lo hi st ep hl hh mv ac pt tk et lm pE pA B S) (h : Nat) (x : (Nat → Int)) (hst : st h = 2) (htk : tk h ≠ 0) (hx : (x 0) = 4) (hxt : (x 1) = mv h) (hxf : (x 2) = h) (hxe : (x 3) = ep h + 1) (hxa : (x 4) = ac h) (hxm : (x 5) = pt h) (hxl : (x 7) = hl h) (hxh : (x 8) = hh h) (hxn : 0 ≤ (x 6)) (hH : (h : Int) = H) (hV : ep h = V - 1 ∧ 0 ≤ pt h) (hD : T < 0 → w2 = V) (het : et h = 0) : Q_h7 has V E H T oG oT w0 w1 w2 w3 lo hi st ep hl hh mv ac pt (pfu tk h 0) et (pfu lm h (x 6)) pE pA (B + 2) (fun m => S m ∨ m = x) := by
  have i_h7 := Pin_h7 I
  clear I
  simp only [Q_h7, pokM, pown, prcv, pgiv, ppge, pfu] at *
  grind
set_option maxHeartbeats 400000 in
theorem pt_send_h9 {has : Prop} {V E H T oG oT w0 w1 w2 w3 lo hi : Int} {st ep hl hh mv ac pt tk et lm pE pA : Nat → Int} {B : Int} {S : (Nat → Int) → Prop} (I : Pin has V E H T oG oT w0 w1 w2 w3 lo hi st ep hl hh mv ac pt tk et lm pE pA B S) (h : Nat) (x : (Nat → Int)) (hst : st h = 2) (htk : tk h ≠ 0) (hx : (x 0) = 4) (hxt : (x 1) = mv h) (hxf : (x 2) = h) (hxe : (x 3) = ep h + 1) (hxa : (x 4) = ac h) (hxm : (x 5) = pt h) (hxl : (x 7) = hl h) (hxh : (x 8) = hh h) (hxn : 0 ≤ (x 6)) (hH : (h : Int) = H) (hV : ep h = V - 1 ∧ 0 ≤ pt h) (hD : T < 0 → w2 = V) (het : et h = 0) : Q_h9 has V E H T oG oT w0 w1 w2 w3 lo hi st ep hl hh mv ac pt (pfu tk h 0) et (pfu lm h (x 6)) pE pA (B + 2) (fun m => S m ∨ m = x) := by
  have i_h9 := Pin_h9 I
  clear I
  simp only [Q_h9, pokM, pown, prcv, pgiv, ppge, pfu] at *
  grind
set_option maxHeartbeats 400000 in
theorem pt_send_h10 {has : Prop} {V E H T oG oT w0 w1 w2 w3 lo hi : Int} {st ep hl hh mv ac pt tk et lm pE pA : Nat → Int} {B : Int} {S : (Nat → Int) → Prop} (I : Pin has V E H T oG oT w0 w1 w2 w3 lo hi st ep hl hh mv ac pt tk et lm pE pA B S) (h : Nat) (x : (Nat → Int)) (hst : st h = 2) (htk : tk h ≠ 0) (hx : (x 0) = 4) (hxt : (x 1) = mv h) (hxf : (x 2) = h) (hxe : (x 3) = ep h + 1) (hxa : (x 4) = ac h) (hxm : (x 5) = pt h) (hxl : (x 7) = hl h) (hxh : (x 8) = hh h) (hxn : 0 ≤ (x 6)) (hH : (h : Int) = H) (hV : ep h = V - 1 ∧ 0 ≤ pt h) (hD : T < 0 → w2 = V) (het : et h = 0) : Q_h10 has V E H T oG oT w0 w1 w2 w3 lo hi st ep hl hh mv ac pt (pfu tk h 0) et (pfu lm h (x 6)) pE pA (B + 2) (fun m => S m ∨ m = x) := by
  have i_h10 := Pin_h10 I
  clear I
  simp only [Q_h10, pokM, pown, prcv, pgiv, ppge, pfu] at *
  grind
set_option maxHeartbeats 400000 in
theorem pt_send_h11 {has : Prop} {V E H T oG oT w0 w1 w2 w3 lo hi : Int} {st ep hl hh mv ac pt tk et lm pE pA : Nat → Int} {B : Int} {S : (Nat → Int) → Prop} (I : Pin has V E H T oG oT w0 w1 w2 w3 lo hi st ep hl hh mv ac pt tk et lm pE pA B S) (h : Nat) (x : (Nat → Int)) (hst : st h = 2) (htk : tk h ≠ 0) (hx : (x 0) = 4) (hxt : (x 1) = mv h) (hxf : (x 2) = h) (hxe : (x 3) = ep h + 1) (hxa : (x 4) = ac h) (hxm : (x 5) = pt h) (hxl : (x 7) = hl h) (hxh : (x 8) = hh h) (hxn : 0 ≤ (x 6)) (hH : (h : Int) = H) (hV : ep h = V - 1 ∧ 0 ≤ pt h) (hD : T < 0 → w2 = V) (het : et h = 0) : Q_h11 has V E H T oG oT w0 w1 w2 w3 lo hi st ep hl hh mv ac pt (pfu tk h 0) et (pfu lm h (x 6)) pE pA (B + 2) (fun m => S m ∨ m = x) := by
  have i_h11 := Pin_h11 I
  clear I
  simp only [Q_h11, pokM, pown, prcv, pgiv, ppge, pfu] at *
  grind
set_option maxHeartbeats 400000 in
theorem pt_send_h12 {has : Prop} {V E H T oG oT w0 w1 w2 w3 lo hi : Int} {st ep hl hh mv ac pt tk et lm pE pA : Nat → Int} {B : Int} {S : (Nat → Int) → Prop} (I : Pin has V E H T oG oT w0 w1 w2 w3 lo hi st ep hl hh mv ac pt tk et lm pE pA B S) (h : Nat) (x : (Nat → Int)) (hst : st h = 2) (htk : tk h ≠ 0) (hx : (x 0) = 4) (hxt : (x 1) = mv h) (hxf : (x 2) = h) (hxe : (x 3) = ep h + 1) (hxa : (x 4) = ac h) (hxm : (x 5) = pt h) (hxl : (x 7) = hl h) (hxh : (x 8) = hh h) (hxn : 0 ≤ (x 6)) (hH : (h : Int) = H) (hV : ep h = V - 1 ∧ 0 ≤ pt h) (hD : T < 0 → w2 = V) (het : et h = 0) : Q_h12 has V E H T oG oT w0 w1 w2 w3 lo hi st ep hl hh mv ac pt (pfu tk h 0) et (pfu lm h (x 6)) pE pA (B + 2) (fun m => S m ∨ m = x) := by
  have i_h12 := Pin_h12 I
  clear I
  simp only [Q_h12, pokM, pown, prcv, pgiv, ppge, pfu] at *
  grind
set_option maxHeartbeats 400000 in
theorem pt_send_k1 {has : Prop} {V E H T oG oT w0 w1 w2 w3 lo hi : Int} {st ep hl hh mv ac pt tk et lm pE pA : Nat → Int} {B : Int} {S : (Nat → Int) → Prop} (I : Pin has V E H T oG oT w0 w1 w2 w3 lo hi st ep hl hh mv ac pt tk et lm pE pA B S) (h : Nat) (x : (Nat → Int)) (hst : st h = 2) (htk : tk h ≠ 0) (hx : (x 0) = 4) (hxt : (x 1) = mv h) (hxf : (x 2) = h) (hxe : (x 3) = ep h + 1) (hxa : (x 4) = ac h) (hxm : (x 5) = pt h) (hxl : (x 7) = hl h) (hxh : (x 8) = hh h) (hxn : 0 ≤ (x 6)) (hH : (h : Int) = H) (hV : ep h = V - 1 ∧ 0 ≤ pt h) (hD : T < 0 → w2 = V) (het : et h = 0) : Q_k1 has V E H T oG oT w0 w1 w2 w3 lo hi st ep hl hh mv ac pt (pfu tk h 0) et (pfu lm h (x 6)) pE pA (B + 2) (fun m => S m ∨ m = x) := by
  have i_k1 := Pin_k1 I
  clear I
  simp only [Q_k1, pokM, pown, prcv, pgiv, ppge, pfu] at *
  grind
set_option maxHeartbeats 400000 in
theorem pt_send_k2 {has : Prop} {V E H T oG oT w0 w1 w2 w3 lo hi : Int} {st ep hl hh mv ac pt tk et lm pE pA : Nat → Int} {B : Int} {S : (Nat → Int) → Prop} (I : Pin has V E H T oG oT w0 w1 w2 w3 lo hi st ep hl hh mv ac pt tk et lm pE pA B S) (h : Nat) (x : (Nat → Int)) (hst : st h = 2) (htk : tk h ≠ 0) (hx : (x 0) = 4) (hxt : (x 1) = mv h) (hxf : (x 2) = h) (hxe : (x 3) = ep h + 1) (hxa : (x 4) = ac h) (hxm : (x 5) = pt h) (hxl : (x 7) = hl h) (hxh : (x 8) = hh h) (hxn : 0 ≤ (x 6)) (hH : (h : Int) = H) (hV : ep h = V - 1 ∧ 0 ≤ pt h) (hD : T < 0 → w2 = V) (het : et h = 0) : Q_k2 has V E H T oG oT w0 w1 w2 w3 lo hi st ep hl hh mv ac pt (pfu tk h 0) et (pfu lm h (x 6)) pE pA (B + 2) (fun m => S m ∨ m = x) := by
  have i_v0 := Pin_v0 I
  have i_a := Pin_a I
  have i_b := Pin_b I
  have i_c := Pin_c I
  have i_d := Pin_d I
  have i_e := Pin_e I
  have i_f := Pin_f I
  have i_f2 := Pin_f2 I
  have i_f3 := Pin_f3 I
  have i_g := Pin_g I
  have i_g0 := Pin_g0 I
  have i_g1 := Pin_g1 I
  have i_g2 := Pin_g2 I
  have i_h7 := Pin_h7 I
  have i_k1 := Pin_k1 I
  have i_k2 := Pin_k2 I
  have i_o := Pin_o I
  have i_q := Pin_q I
  clear I
  simp only [Q_a, Q_b, Q_c, Q_d, Q_e, Q_f, Q_f2, Q_f3, Q_g, Q_g0, Q_g1, Q_g2, Q_h7, Q_k1, Q_k2, Q_o, Q_q, Q_v0, pokM, pown, prcv, pgiv, ppge, pfu] at *
  grind
set_option maxHeartbeats 400000 in
theorem pt_send_k8 {has : Prop} {V E H T oG oT w0 w1 w2 w3 lo hi : Int} {st ep hl hh mv ac pt tk et lm pE pA : Nat → Int} {B : Int} {S : (Nat → Int) → Prop} (I : Pin has V E H T oG oT w0 w1 w2 w3 lo hi st ep hl hh mv ac pt tk et lm pE pA B S) (h : Nat) (x : (Nat → Int)) (hst : st h = 2) (htk : tk h ≠ 0) (hx : (x 0) = 4) (hxt : (x 1) = mv h) (hxf : (x 2) = h) (hxe : (x 3) = ep h + 1) (hxa : (x 4) = ac h) (hxm : (x 5) = pt h) (hxl : (x 7) = hl h) (hxh : (x 8) = hh h) (hxn : 0 ≤ (x 6)) (hH : (h : Int) = H) (hV : ep h = V - 1 ∧ 0 ≤ pt h) (hD : T < 0 → w2 = V) (het : et h = 0) : Q_k8 has V E H T oG oT w0 w1 w2 w3 lo hi st ep hl hh mv ac pt (pfu tk h 0) et (pfu lm h (x 6)) pE pA (B + 2) (fun m => S m ∨ m = x) := by
  have i_k8 := Pin_k8 I
  clear I
  simp only [Q_k8, pokM, pown, prcv, pgiv, ppge, pfu] at *
  grind
set_option maxHeartbeats 400000 in
theorem pt_send_l4 {has : Prop} {V E H T oG oT w0 w1 w2 w3 lo hi : Int} {st ep hl hh mv ac pt tk et lm pE pA : Nat → Int} {B : Int} {S : (Nat → Int) → Prop} (I : Pin has V E H T oG oT w0 w1 w2 w3 lo hi st ep hl hh mv ac pt tk et lm pE pA B S) (h : Nat) (x : (Nat → Int)) (hst : st h = 2) (htk : tk h ≠ 0) (hx : (x 0) = 4) (hxt : (x 1) = mv h) (hxf : (x 2) = h) (hxe : (x 3) = ep h + 1) (hxa : (x 4) = ac h) (hxm : (x 5) = pt h) (hxl : (x 7) = hl h) (hxh : (x 8) = hh h) (hxn : 0 ≤ (x 6)) (hH : (h : Int) = H) (hV : ep h = V - 1 ∧ 0 ≤ pt h) (hD : T < 0 → w2 = V) (het : et h = 0) : Q_l4 has V E H T oG oT w0 w1 w2 w3 lo hi st ep hl hh mv ac pt (pfu tk h 0) et (pfu lm h (x 6)) pE pA (B + 2) (fun m => S m ∨ m = x) := by
  intro hT m hs hk he
  rcases hs with hs | hs
  · exact Pin_l4 I hT m hs hk he
  · subst hs
    have := Pin_a I h (Or.inr (Or.inl hst))
    exact ⟨hxt.trans (Pin_n0 I hT h hH (Or.inl hst)), hxl.trans this.2.1, hxh.trans this.2.2⟩
set_option maxHeartbeats 400000 in
theorem pt_send_l5 {has : Prop} {V E H T oG oT w0 w1 w2 w3 lo hi : Int} {st ep hl hh mv ac pt tk et lm pE pA : Nat → Int} {B : Int} {S : (Nat → Int) → Prop} (I : Pin has V E H T oG oT w0 w1 w2 w3 lo hi st ep hl hh mv ac pt tk et lm pE pA B S) (h : Nat) (x : (Nat → Int)) (hst : st h = 2) (htk : tk h ≠ 0) (hx : (x 0) = 4) (hxt : (x 1) = mv h) (hxf : (x 2) = h) (hxe : (x 3) = ep h + 1) (hxa : (x 4) = ac h) (hxm : (x 5) = pt h) (hxl : (x 7) = hl h) (hxh : (x 8) = hh h) (hxn : 0 ≤ (x 6)) (hH : (h : Int) = H) (hV : ep h = V - 1 ∧ 0 ≤ pt h) (hD : T < 0 → w2 = V) (het : et h = 0) : Q_l5 has V E H T oG oT w0 w1 w2 w3 lo hi st ep hl hh mv ac pt (pfu tk h 0) et (pfu lm h (x 6)) pE pA (B + 2) (fun m => S m ∨ m = x) := by
  have i_l5 := Pin_l5 I
  clear I
  simp only [Q_l5, pokM, pown, prcv, pgiv, ppge, pfu] at *
  grind
set_option maxHeartbeats 400000 in
theorem pt_send_l3 {has : Prop} {V E H T oG oT w0 w1 w2 w3 lo hi : Int} {st ep hl hh mv ac pt tk et lm pE pA : Nat → Int} {B : Int} {S : (Nat → Int) → Prop} (I : Pin has V E H T oG oT w0 w1 w2 w3 lo hi st ep hl hh mv ac pt tk et lm pE pA B S) (h : Nat) (x : (Nat → Int)) (hst : st h = 2) (htk : tk h ≠ 0) (hx : (x 0) = 4) (hxt : (x 1) = mv h) (hxf : (x 2) = h) (hxe : (x 3) = ep h + 1) (hxa : (x 4) = ac h) (hxm : (x 5) = pt h) (hxl : (x 7) = hl h) (hxh : (x 8) = hh h) (hxn : 0 ≤ (x 6)) (hH : (h : Int) = H) (hV : ep h = V - 1 ∧ 0 ≤ pt h) (hD : T < 0 → w2 = V) (het : et h = 0) : Q_l3 has V E H T oG oT w0 w1 w2 w3 lo hi st ep hl hh mv ac pt (pfu tk h 0) et (pfu lm h (x 6)) pE pA (B + 2) (fun m => S m ∨ m = x) := by
  have i_l3 := Pin_l3 I
  clear I
  simp only [Q_l3, pokM, pown, prcv, pgiv, ppge, pfu] at *
  grind
set_option maxHeartbeats 400000 in
theorem pt_send_m1 {has : Prop} {V E H T oG oT w0 w1 w2 w3 lo hi : Int} {st ep hl hh mv ac pt tk et lm pE pA : Nat → Int} {B : Int} {S : (Nat → Int) → Prop} (I : Pin has V E H T oG oT w0 w1 w2 w3 lo hi st ep hl hh mv ac pt tk et lm pE pA B S) (h : Nat) (x : (Nat → Int)) (hst : st h = 2) (htk : tk h ≠ 0) (hx : (x 0) = 4) (hxt : (x 1) = mv h) (hxf : (x 2) = h) (hxe : (x 3) = ep h + 1) (hxa : (x 4) = ac h) (hxm : (x 5) = pt h) (hxl : (x 7) = hl h) (hxh : (x 8) = hh h) (hxn : 0 ≤ (x 6)) (hH : (h : Int) = H) (hV : ep h = V - 1 ∧ 0 ≤ pt h) (hD : T < 0 → w2 = V) (het : et h = 0) : Q_m1 has V E H T oG oT w0 w1 w2 w3 lo hi st ep hl hh mv ac pt (pfu tk h 0) et (pfu lm h (x 6)) pE pA (B + 2) (fun m => S m ∨ m = x) := by
  have i_m1 := Pin_m1 I
  clear I
  simp only [Q_m1, pokM, pown, prcv, pgiv, ppge, pfu] at *
  grind
set_option maxHeartbeats 400000 in
theorem pt_send_m2 {has : Prop} {V E H T oG oT w0 w1 w2 w3 lo hi : Int} {st ep hl hh mv ac pt tk et lm pE pA : Nat → Int} {B : Int} {S : (Nat → Int) → Prop} (I : Pin has V E H T oG oT w0 w1 w2 w3 lo hi st ep hl hh mv ac pt tk et lm pE pA B S) (h : Nat) (x : (Nat → Int)) (hst : st h = 2) (htk : tk h ≠ 0) (hx : (x 0) = 4) (hxt : (x 1) = mv h) (hxf : (x 2) = h) (hxe : (x 3) = ep h + 1) (hxa : (x 4) = ac h) (hxm : (x 5) = pt h) (hxl : (x 7) = hl h) (hxh : (x 8) = hh h) (hxn : 0 ≤ (x 6)) (hH : (h : Int) = H) (hV : ep h = V - 1 ∧ 0 ≤ pt h) (hD : T < 0 → w2 = V) (het : et h = 0) : Q_m2 has V E H T oG oT w0 w1 w2 w3 lo hi st ep hl hh mv ac pt (pfu tk h 0) et (pfu lm h (x 6)) pE pA (B + 2) (fun m => S m ∨ m = x) := by
  have i_m2 := Pin_m2 I
  clear I
  simp only [Q_m2, pokM, pown, prcv, pgiv, ppge, pfu] at *
  grind
set_option maxHeartbeats 400000 in
theorem pt_send_m3 {has : Prop} {V E H T oG oT w0 w1 w2 w3 lo hi : Int} {st ep hl hh mv ac pt tk et lm pE pA : Nat → Int} {B : Int} {S : (Nat → Int) → Prop} (I : Pin has V E H T oG oT w0 w1 w2 w3 lo hi st ep hl hh mv ac pt tk et lm pE pA B S) (h : Nat) (x : (Nat → Int)) (hst : st h = 2) (htk : tk h ≠ 0) (hx : (x 0) = 4) (hxt : (x 1) = mv h) (hxf : (x 2) = h) (hxe : (x 3) = ep h + 1) (hxa : (x 4) = ac h) (hxm : (x 5) = pt h) (hxl : (x 7) = hl h) (hxh : (x 8) = hh h) (hxn : 0 ≤ (x 6)) (hH : (h : Int) = H) (hV : ep h = V - 1 ∧ 0 ≤ pt h) (hD : T < 0 → w2 = V) (het : et h = 0) : Q_m3 has V E H T oG oT w0 w1 w2 w3 lo hi st ep hl hh mv ac pt (pfu tk h 0) et (pfu lm h (x 6)) pE pA (B + 2) (fun m => S m ∨ m = x) := by
  have i_m3 := Pin_m3 I
  clear I
  simp only [Q_m3, pokM, pown, prcv, pgiv, ppge, pfu] at *
  grind
set_option maxHeartbeats 400000 in
theorem pt_send_n0 {has : Prop} {V E H T oG oT w0 w1 w2 w3 lo hi : Int} {st ep hl hh mv ac pt tk et lm pE pA : Nat → Int} {B : Int} {S : (Nat → Int) → Prop} (I : Pin has V E H T oG oT w0 w1 w2 w3 lo hi st ep hl hh mv ac pt tk et lm pE pA B S) (h : Nat) (x : (Nat → Int)) (hst : st h = 2) (htk : tk h ≠ 0) (hx : (x 0) = 4) (hxt : (x 1) = mv h) (hxf : (x 2) = h) (hxe : (x 3) = ep h + 1) (hxa : (x 4) = ac h) (hxm : (x 5) = pt h) (hxl : (x 7) = hl h) (hxh : (x 8) = hh h) (hxn : 0 ≤ (x 6)) (hH : (h : Int) = H) (hV : ep h = V - 1 ∧ 0 ≤ pt h) (hD : T < 0 → w2 = V) (het : et h = 0) : Q_n0 has V E H T oG oT w0 w1 w2 w3 lo hi st ep hl hh mv ac pt (pfu tk h 0) et (pfu lm h (x 6)) pE pA (B + 2) (fun m => S m ∨ m = x) := by
  have i_n0 := Pin_n0 I
  clear I
  simp only [Q_n0, pokM, pown, prcv, pgiv, ppge, pfu] at *
  grind
set_option maxHeartbeats 400000 in
theorem pt_send_n1 {has : Prop} {V E H T oG oT w0 w1 w2 w3 lo hi : Int} {st ep hl hh mv ac pt tk et lm pE pA : Nat → Int} {B : Int} {S : (Nat → Int) → Prop} (I : Pin has V E H T oG oT w0 w1 w2 w3 lo hi st ep hl hh mv ac pt tk et lm pE pA B S) (h : Nat) (x : (Nat → Int)) (hst : st h = 2) (htk : tk h ≠ 0) (hx : (x 0) = 4) (hxt : (x 1) = mv h) (hxf : (x 2) = h) (hxe : (x 3) = ep h + 1) (hxa : (x 4) = ac h) (hxm : (x 5) = pt h) (hxl : (x 7) = hl h) (hxh : (x 8) = hh h) (hxn : 0 ≤ (x 6)) (hH : (h : Int) = H) (hV : ep h = V - 1 ∧ 0 ≤ pt h) (hD : T < 0 → w2 = V) (het : et h = 0) : Q_n1 has V E H T oG oT w0 w1 w2 w3 lo hi st ep hl hh mv ac pt (pfu tk h 0) et (pfu lm h (x 6)) pE pA (B + 2) (fun m => S m ∨ m = x) := by
  intro hT i t hiH hg ht m hs hk he
  have e : i = h := by omega
  subst e
  rcases hs with hs | hs
  · have n := Pin_n1 I hT i t hH (Or.inl hst) ht m hs hk he
    refine ⟨n.1, n.2.1, fun a b => ?_⟩
    rcases n.2.2 a b with c | c
    · exact Or.inl c
    · exact absurd c.2.1 htk
  · subst hs
    exact ⟨Int.le_of_eq hxa, fun a => hxa ▸ Pin_n7 I hT i t hH (Or.inl hst) ht (hxm ▸ a), fun _ _ => Or.inr ⟨hxm, by simp [pfu], by simp [pfu]⟩⟩
set_option maxHeartbeats 400000 in
theorem pt_send_n2 {has : Prop} {V E H T oG oT w0 w1 w2 w3 lo hi : Int} {st ep hl hh mv ac pt tk et lm pE pA : Nat → Int} {B : Int} {S : (Nat → Int) → Prop} (I : Pin has V E H T oG oT w0 w1 w2 w3 lo hi st ep hl hh mv ac pt tk et lm pE pA B S) (h : Nat) (x : (Nat → Int)) (hst : st h = 2) (htk : tk h ≠ 0) (hx : (x 0) = 4) (hxt : (x 1) = mv h) (hxf : (x 2) = h) (hxe : (x 3) = ep h + 1) (hxa : (x 4) = ac h) (hxm : (x 5) = pt h) (hxl : (x 7) = hl h) (hxh : (x 8) = hh h) (hxn : 0 ≤ (x 6)) (hH : (h : Int) = H) (hV : ep h = V - 1 ∧ 0 ≤ pt h) (hD : T < 0 → w2 = V) (het : et h = 0) : Q_n2 has V E H T oG oT w0 w1 w2 w3 lo hi st ep hl hh mv ac pt (pfu tk h 0) et (pfu lm h (x 6)) pE pA (B + 2) (fun m => S m ∨ m = x) := by
  have i_n2 := Pin_n2 I
  clear I
  simp only [Q_n2, pokM, pown, prcv, pgiv, ppge, pfu] at *
  grind
set_option maxHeartbeats 400000 in
theorem pt_send_n3 {has : Prop} {V E H T oG oT w0 w1 w2 w3 lo hi : Int} {st ep hl hh mv ac pt tk et lm pE pA : Nat → Int} {B : Int} {S : (Nat → Int) → Prop} (I : Pin has V E H T oG oT w0 w1 w2 w3 lo hi st ep hl hh mv ac pt tk et lm pE pA B S) (h : Nat) (x : (Nat → Int)) (hst : st h = 2) (htk : tk h ≠ 0) (hx : (x 0) = 4) (hxt : (x 1) = mv h) (hxf : (x 2) = h) (hxe : (x 3) = ep h + 1) (hxa : (x 4) = ac h) (hxm : (x 5) = pt h) (hxl : (x 7) = hl h) (hxh : (x 8) = hh h) (hxn : 0 ≤ (x 6)) (hH : (h : Int) = H) (hV : ep h = V - 1 ∧ 0 ≤ pt h) (hD : T < 0 → w2 = V) (het : et h = 0) : Q_n3 has V E H T oG oT w0 w1 w2 w3 lo hi st ep hl hh mv ac pt (pfu tk h 0) et (pfu lm h (x 6)) pE pA (B + 2) (fun m => S m ∨ m = x) := by
  have i_n3 := Pin_n3 I
  clear I
  simp only [Q_n3, pokM, pown, prcv, pgiv, ppge, pfu] at *
  grind
set_option maxHeartbeats 400000 in
theorem pt_send_n4 {has : Prop} {V E H T oG oT w0 w1 w2 w3 lo hi : Int} {st ep hl hh mv ac pt tk et lm pE pA : Nat → Int} {B : Int} {S : (Nat → Int) → Prop} (I : Pin has V E H T oG oT w0 w1 w2 w3 lo hi st ep hl hh mv ac pt tk et lm pE pA B S) (h : Nat) (x : (Nat → Int)) (hst : st h = 2) (htk : tk h ≠ 0) (hx : (x 0) = 4) (hxt : (x 1) = mv h) (hxf : (x 2) = h) (hxe : (x 3) = ep h + 1) (hxa : (x 4) = ac h) (hxm : (x 5) = pt h) (hxl : (x 7) = hl h) (hxh : (x 8) = hh h) (hxn : 0 ≤ (x 6)) (hH : (h : Int) = H) (hV : ep h = V - 1 ∧ 0 ≤ pt h) (hD : T < 0 → w2 = V) (het : et h = 0) : Q_n4 has V E H T oG oT w0 w1 w2 w3 lo hi st ep hl hh mv ac pt (pfu tk h 0) et (pfu lm h (x 6)) pE pA (B + 2) (fun m => S m ∨ m = x) := by
  have i_n4 := Pin_n4 I
  clear I
  simp only [Q_n4, pokM, pown, prcv, pgiv, ppge, pfu] at *
  grind
set_option maxHeartbeats 400000 in
theorem pt_send_n5 {has : Prop} {V E H T oG oT w0 w1 w2 w3 lo hi : Int} {st ep hl hh mv ac pt tk et lm pE pA : Nat → Int} {B : Int} {S : (Nat → Int) → Prop} (I : Pin has V E H T oG oT w0 w1 w2 w3 lo hi st ep hl hh mv ac pt tk et lm pE pA B S) (h : Nat) (x : (Nat → Int)) (hst : st h = 2) (htk : tk h ≠ 0) (hx : (x 0) = 4) (hxt : (x 1) = mv h) (hxf : (x 2) = h) (hxe : (x 3) = ep h + 1) (hxa : (x 4) = ac h) (hxm : (x 5) = pt h) (hxl : (x 7) = hl h) (hxh : (x 8) = hh h) (hxn : 0 ≤ (x 6)) (hH : (h : Int) = H) (hV : ep h = V - 1 ∧ 0 ≤ pt h) (hD : T < 0 → w2 = V) (het : et h = 0) : Q_n5 has V E H T oG oT w0 w1 w2 w3 lo hi st ep hl hh mv ac pt (pfu tk h 0) et (pfu lm h (x 6)) pE pA (B + 2) (fun m => S m ∨ m = x) := by
  intro hT i t hiH hg ht hne
  have e : i = h := by omega
  subst e
  exact absurd het hne
set_option maxHeartbeats 400000 in
theorem pt_send_n6 {has : Prop} {V E H T oG oT w0 w1 w2 w3 lo hi : Int} {st ep hl hh mv ac pt tk et lm pE pA : Nat → Int} {B : Int} {S : (Nat → Int) → Prop} (I : Pin has V E H T oG oT w0 w1 w2 w3 lo hi st ep hl hh mv ac pt tk et lm pE pA B S) (h : Nat) (x : (Nat → Int)) (hst : st h = 2) (htk : tk h ≠ 0) (hx : (x 0) = 4) (hxt : (x 1) = mv h) (hxf : (x 2) = h) (hxe : (x 3) = ep h + 1) (hxa : (x 4) = ac h) (hxm : (x 5) = pt h) (hxl : (x 7) = hl h) (hxh : (x 8) = hh h) (hxn : 0 ≤ (x 6)) (hH : (h : Int) = H) (hV : ep h = V - 1 ∧ 0 ≤ pt h) (hD : T < 0 → w2 = V) (het : et h = 0) : Q_n6 has V E H T oG oT w0 w1 w2 w3 lo hi st ep hl hh mv ac pt (pfu tk h 0) et (pfu lm h (x 6)) pE pA (B + 2) (fun m => S m ∨ m = x) := by
  have i_n6 := Pin_n6 I
  clear I
  simp only [Q_n6, pokM, pown, prcv, pgiv, ppge, pfu] at *
  grind
set_option maxHeartbeats 400000 in
theorem pt_send_n7 {has : Prop} {V E H T oG oT w0 w1 w2 w3 lo hi : Int} {st ep hl hh mv ac pt tk et lm pE pA : Nat → Int} {B : Int} {S : (Nat → Int) → Prop} (I : Pin has V E H T oG oT w0 w1 w2 w3 lo hi st ep hl hh mv ac pt tk et lm pE pA B S) (h : Nat) (x : (Nat → Int)) (hst : st h = 2) (htk : tk h ≠ 0) (hx : (x 0) = 4) (hxt : (x 1) = mv h) (hxf : (x 2) = h) (hxe : (x 3) = ep h + 1) (hxa : (x 4) = ac h) (hxm : (x 5) = pt h) (hxl : (x 7) = hl h) (hxh : (x 8) = hh h) (hxn : 0 ≤ (x 6)) (hH : (h : Int) = H) (hV : ep h = V - 1 ∧ 0 ≤ pt h) (hD : T < 0 → w2 = V) (het : et h = 0) : Q_n7 has V E H T oG oT w0 w1 w2 w3 lo hi st ep hl hh mv ac pt (pfu tk h 0) et (pfu lm h (x 6)) pE pA (B + 2) (fun m => S m ∨ m = x) := by
  have i_n7 := Pin_n7 I
  clear I
  simp only [Q_n7, pokM, pown, prcv, pgiv, ppge, pfu] at *
  grind
set_option maxHeartbeats 400000 in
theorem pt_send_o {has : Prop} {V E H T oG oT w0 w1 w2 w3 lo hi : Int} {st ep hl hh mv ac pt tk et lm pE pA : Nat → Int} {B : Int} {S : (Nat → Int) → Prop} (I : Pin has V E H T oG oT w0 w1 w2 w3 lo hi st ep hl hh mv ac pt tk et lm pE pA B S) (h : Nat) (x : (Nat → Int)) (hst : st h = 2) (htk : tk h ≠ 0) (hx : (x 0) = 4) (hxt : (x 1) = mv h) (hxf : (x 2) = h) (hxe : (x 3) = ep h + 1) (hxa : (x 4) = ac h) (hxm : (x 5) = pt h) (hxl : (x 7) = hl h) (hxh : (x 8) = hh h) (hxn : 0 ≤ (x 6)) (hH : (h : Int) = H) (hV : ep h = V - 1 ∧ 0 ≤ pt h) (hD : T < 0 → w2 = V) (het : et h = 0) : Q_o has V E H T oG oT w0 w1 w2 w3 lo hi st ep hl hh mv ac pt (pfu tk h 0) et (pfu lm h (x 6)) pE pA (B + 2) (fun m => S m ∨ m = x) := by
  have i_o := Pin_o I
  clear I
  simp only [Q_o, pokM, pown, prcv, pgiv, ppge, pfu] at *
  grind
set_option maxHeartbeats 400000 in
theorem pt_send_p {has : Prop} {V E H T oG oT w0 w1 w2 w3 lo hi : Int} {st ep hl hh mv ac pt tk et lm pE pA : Nat → Int} {B : Int} {S : (Nat → Int) → Prop} (I : Pin has V E H T oG oT w0 w1 w2 w3 lo hi st ep hl hh mv ac pt tk et lm pE pA B S) (h : Nat) (x : (Nat → Int)) (hst : st h = 2) (htk : tk h ≠ 0) (hx : (x 0) = 4) (hxt : (x 1) = mv h) (hxf : (x 2) = h) (hxe : (x 3) = ep h + 1) (hxa : (x 4) = ac h) (hxm : (x 5) = pt h) (hxl : (x 7) = hl h) (hxh : (x 8) = hh h) (hxn : 0 ≤ (x 6)) (hH : (h : Int) = H) (hV : ep h = V - 1 ∧ 0 ≤ pt h) (hD : T < 0 → w2 = V) (het : et h = 0) : Q_p has V E H T oG oT w0 w1 w2 w3 lo hi st ep hl hh mv ac pt (pfu tk h 0) et (pfu lm h (x 6)) pE pA (B + 2) (fun m => S m ∨ m = x) := by
  intro i hg ht
  by_cases e : i = h
  · subst e
    exact ⟨x, Or.inr rfl, hx, hxt, hxf, hxe, hxa, hxm, by simp [pfu], hxl, hxh⟩
  · obtain ⟨m, a, b⟩ := Pin_p I i hg (by simpa [pfu, e] using ht)
    exact ⟨m, Or.inl a, by simpa [pfu, e] using b⟩
set_option maxHeartbeats 400000 in
theorem pt_send_q {has : Prop} {V E H T oG oT w0 w1 w2 w3 lo hi : Int} {st ep hl hh mv ac pt tk et lm pE pA : Nat → Int} {B : Int} {S : (Nat → Int) → Prop} (I : Pin has V E H T oG oT w0 w1 w2 w3 lo hi st ep hl hh mv ac pt tk et lm pE pA B S) (h : Nat) (x : (Nat → Int)) (hst : st h = 2) (htk : tk h ≠ 0) (hx : (x 0) = 4) (hxt : (x 1) = mv h) (hxf : (x 2) = h) (hxe : (x 3) = ep h + 1) (hxa : (x 4) = ac h) (hxm : (x 5) = pt h) (hxl : (x 7) = hl h) (hxh : (x 8) = hh h) (hxn : 0 ≤ (x 6)) (hH : (h : Int) = H) (hV : ep h = V - 1 ∧ 0 ≤ pt h) (hD : T < 0 → w2 = V) (het : et h = 0) : Q_q has V E H T oG oT w0 w1 w2 w3 lo hi st ep hl hh mv ac pt (pfu tk h 0) et (pfu lm h (x 6)) pE pA (B + 2) (fun m => S m ∨ m = x) := by
  have i_q := Pin_q I
  clear I
  simp only [Q_q, pokM, pown, prcv, pgiv, ppge, pfu] at *
  grind
set_option maxHeartbeats 400000 in
theorem pt_send_q2 {has : Prop} {V E H T oG oT w0 w1 w2 w3 lo hi : Int} {st ep hl hh mv ac pt tk et lm pE pA : Nat → Int} {B : Int} {S : (Nat → Int) → Prop} (I : Pin has V E H T oG oT w0 w1 w2 w3 lo hi st ep hl hh mv ac pt tk et lm pE pA B S) (h : Nat) (x : (Nat → Int)) (hst : st h = 2) (htk : tk h ≠ 0) (hx : (x 0) = 4) (hxt : (x 1) = mv h) (hxf : (x 2) = h) (hxe : (x 3) = ep h + 1) (hxa : (x 4) = ac h) (hxm : (x 5) = pt h) (hxl : (x 7) = hl h) (hxh : (x 8) = hh h) (hxn : 0 ≤ (x 6)) (hH : (h : Int) = H) (hV : ep h = V - 1 ∧ 0 ≤ pt h) (hD : T < 0 → w2 = V) (het : et h = 0) : Q_q2 has V E H T oG oT w0 w1 w2 w3 lo hi st ep hl hh mv ac pt (pfu tk h 0) et (pfu lm h (x 6)) pE pA (B + 2) (fun m => S m ∨ m = x) := by
  have i_q2 := Pin_q2 I
  clear I
  simp only [Q_q2, pokM, pown, prcv, pgiv, ppge, pfu] at *
  grind
set_option maxHeartbeats 400000 in
theorem pt_send_q3 {has : Prop} {V E H T oG oT w0 w1 w2 w3 lo hi : Int} {st ep hl hh mv ac pt tk et lm pE pA : Nat → Int} {B : Int} {S : (Nat → Int) → Prop} (I : Pin has V E H T oG oT w0 w1 w2 w3 lo hi st ep hl hh mv ac pt tk et lm pE pA B S) (h : Nat) (x : (Nat → Int)) (hst : st h = 2) (htk : tk h ≠ 0) (hx : (x 0) = 4) (hxt : (x 1) = mv h) (hxf : (x 2) = h) (hxe : (x 3) = ep h + 1) (hxa : (x 4) = ac h) (hxm : (x 5) = pt h) (hxl : (x 7) = hl h) (hxh : (x 8) = hh h) (hxn : 0 ≤ (x 6)) (hH : (h : Int) = H) (hV : ep h = V - 1 ∧ 0 ≤ pt h) (hD : T < 0 → w2 = V) (het : et h = 0) : Q_q3 has V E H T oG oT w0 w1 w2 w3 lo hi st ep hl hh mv ac pt (pfu tk h 0) et (pfu lm h (x 6)) pE pA (B + 2) (fun m => S m ∨ m = x) := by
  intro m hs hk
  rcases hs with hs | hs
  · have := Pin_q3 I m hs hk
    exact ⟨this.1, by omega, by omega⟩
  · subst hs
    have h2 := Pin_q2 I h
    have h0 : 0 ≤ V := Pin_v0 I
    exact ⟨by omega, by omega, by omega⟩
set_option maxHeartbeats 400000 in
theorem pt_send_w {has : Prop} {V E H T oG oT w0 w1 w2 w3 lo hi : Int} {st ep hl hh mv ac pt tk et lm pE pA : Nat → Int} {B : Int} {S : (Nat → Int) → Prop} (I : Pin has V E H T oG oT w0 w1 w2 w3 lo hi st ep hl hh mv ac pt tk et lm pE pA B S) (h : Nat) (x : (Nat → Int)) (hst : st h = 2) (htk : tk h ≠ 0) (hx : (x 0) = 4) (hxt : (x 1) = mv h) (hxf : (x 2) = h) (hxe : (x 3) = ep h + 1) (hxa : (x 4) = ac h) (hxm : (x 5) = pt h) (hxl : (x 7) = hl h) (hxh : (x 8) = hh h) (hxn : 0 ≤ (x 6)) (hH : (h : Int) = H) (hV : ep h = V - 1 ∧ 0 ≤ pt h) (hD : T < 0 → w2 = V) (het : et h = 0) : Q_w has V E H T oG oT w0 w1 w2 w3 lo hi st ep hl hh mv ac pt (pfu tk h 0) et (pfu lm h (x 6)) pE pA (B + 2) (fun m => S m ∨ m = x) := by
  have i_w := Pin_w I
  clear I
  simp only [Q_w, pokM, pown, prcv, pgiv, ppge, pfu] at *
  grind
theorem pt_send {has : Prop} {V E H T oG oT w0 w1 w2 w3 lo hi : Int} {st ep hl hh mv ac pt tk et lm pE pA : Nat → Int} {B : Int} {S : (Nat → Int) → Prop} (I : Pin has V E H T oG oT w0 w1 w2 w3 lo hi st ep hl hh mv ac pt tk et lm pE pA B S) (h : Nat) (x : (Nat → Int)) (hst : st h = 2) (htk : tk h ≠ 0) (hx : (x 0) = 4) (hxt : (x 1) = mv h) (hxf : (x 2) = h) (hxe : (x 3) = ep h + 1) (hxa : (x 4) = ac h) (hxm : (x 5) = pt h) (hxl : (x 7) = hl h) (hxh : (x 8) = hh h) (hxn : 0 ≤ (x 6)) : Pin has V E H T oG oT w0 w1 w2 w3 lo hi st ep hl hh mv ac pt (pfu tk h 0) et (pfu lm h (x 6)) pE pA (B + 2) (fun m => S m ∨ m = x) := by
  have hH := pt_send_hH_d I h x hst htk hx hxt hxf hxe hxa hxm hxl hxh hxn 
  have hV := pt_send_hV_d I h x hst htk hx hxt hxf hxe hxa hxm hxl hxh hxn hH
  have hD := pt_send_hD_d I h x hst htk hx hxt hxf hxe hxa hxm hxl hxh hxn hH hV
  have het := pt_send_het_d I h x hst htk hx hxt hxf hxe hxa hxm hxl hxh hxn hH hV hD
  exact ⟨pt_send_v0 I h x hst htk hx hxt hxf hxe hxa hxm hxl hxh hxn hH hV hD het, pt_send_a I h x hst htk hx hxt hxf hxe hxa hxm hxl hxh hxn hH hV hD het, pt_send_b I h x hst htk hx hxt hxf hxe hxa hxm hxl hxh hxn hH hV hD het, pt_send_c I h x hst htk hx hxt hxf hxe hxa hxm hxl hxh hxn hH hV hD het, pt_send_d I h x hst htk hx hxt hxf hxe hxa hxm hxl hxh hxn hH hV hD het, pt_send_e I h x hst htk hx hxt hxf hxe hxa hxm hxl hxh hxn hH hV hD het, pt_send_f I h x hst htk hx hxt hxf hxe hxa hxm hxl hxh hxn hH hV hD het, pt_send_f2 I h x hst htk hx hxt hxf hxe hxa hxm hxl hxh hxn hH hV hD het, pt_send_f3 I h x hst htk hx hxt hxf hxe hxa hxm hxl hxh hxn hH hV hD het, pt_send_g I h x hst htk hx hxt hxf hxe hxa hxm hxl hxh hxn hH hV hD het, pt_send_g0 I h x hst htk hx hxt hxf hxe hxa hxm hxl hxh hxn hH hV hD het, pt_send_g1 I h x hst htk hx hxt hxf hxe hxa hxm hxl hxh hxn hH hV hD het, pt_send_g2 I h x hst htk hx hxt hxf hxe hxa hxm hxl hxh hxn hH hV hD het, pt_send_h7 I h x hst htk hx hxt hxf hxe hxa hxm hxl hxh hxn hH hV hD het, pt_send_h9 I h x hst htk hx hxt hxf hxe hxa hxm hxl hxh hxn hH hV hD het, pt_send_h10 I h x hst htk hx hxt hxf hxe hxa hxm hxl hxh hxn hH hV hD het, pt_send_h11 I h x hst htk hx hxt hxf hxe hxa hxm hxl hxh hxn hH hV hD het, pt_send_h12 I h x hst htk hx hxt hxf hxe hxa hxm hxl hxh hxn hH hV hD het, pt_send_k1 I h x hst htk hx hxt hxf hxe hxa hxm hxl hxh hxn hH hV hD het, pt_send_k2 I h x hst htk hx hxt hxf hxe hxa hxm hxl hxh hxn hH hV hD het, pt_send_k8 I h x hst htk hx hxt hxf hxe hxa hxm hxl hxh hxn hH hV hD het, pt_send_l4 I h x hst htk hx hxt hxf hxe hxa hxm hxl hxh hxn hH hV hD het, pt_send_l5 I h x hst htk hx hxt hxf hxe hxa hxm hxl hxh hxn hH hV hD het, pt_send_l3 I h x hst htk hx hxt hxf hxe hxa hxm hxl hxh hxn hH hV hD het, pt_send_m1 I h x hst htk hx hxt hxf hxe hxa hxm hxl hxh hxn hH hV hD het, pt_send_m2 I h x hst htk hx hxt hxf hxe hxa hxm hxl hxh hxn hH hV hD het, pt_send_m3 I h x hst htk hx hxt hxf hxe hxa hxm hxl hxh hxn hH hV hD het, pt_send_n0 I h x hst htk hx hxt hxf hxe hxa hxm hxl hxh hxn hH hV hD het, pt_send_n1 I h x hst htk hx hxt hxf hxe hxa hxm hxl hxh hxn hH hV hD het, pt_send_n2 I h x hst htk hx hxt hxf hxe hxa hxm hxl hxh hxn hH hV hD het, pt_send_n3 I h x hst htk hx hxt hxf hxe hxa hxm hxl hxh hxn hH hV hD het, pt_send_n4 I h x hst htk hx hxt hxf hxe hxa hxm hxl hxh hxn hH hV hD het, pt_send_n5 I h x hst htk hx hxt hxf hxe hxa hxm hxl hxh hxn hH hV hD het, pt_send_n6 I h x hst htk hx hxt hxf hxe hxa hxm hxl hxh hxn hH hV hD het, pt_send_n7 I h x hst htk hx hxt hxf hxe hxa hxm hxl hxh hxn hH hV hD het, pt_send_o I h x hst htk hx hxt hxf hxe hxa hxm hxl hxh hxn hH hV hD het, pt_send_p I h x hst htk hx hxt hxf hxe hxa hxm hxl hxh hxn hH hV hD het, pt_send_q I h x hst htk hx hxt hxf hxe hxa hxm hxl hxh hxn hH hV hD het, pt_send_q2 I h x hst htk hx hxt hxf hxe hxa hxm hxl hxh hxn hH hV hD het, pt_send_q3 I h x hst htk hx hxt hxf hxe hxa hxm hxl hxh hxn hH hV hD het, pt_send_w I h x hst htk hx hxt hxf hxe hxa hxm hxl hxh hxn hH hV hD het⟩
set_option maxHeartbeats 400000 in
theorem pt_sendE_hH_d {has : Prop} {V E H T oG oT w0 w1 w2 w3 lo hi : Int} {st ep hl hh mv ac pt tk et lm pE pA : Nat → Int} {B : Int} {S : (Nat → Int) → Prop} (I : Pin has V E H T oG oT w0 w1 w2 w3 lo hi st ep hl hh mv ac pt tk et lm pE pA B S) (h : Nat) (x : (Nat → Int)) (hst : st h = 2) (htk : tk h ≠ 0) (hx : (x 0) = 4) (hxt : (x 1) = mv h) (hxf : (x 2) = h) (hxe : (x 3) = ep h + 1) (hxa : (x 4) = ac h) (hxm : (x 5) = pt h) (hxl : (x 7) = hl h) (hxh : (x 8) = hh h) (hxn : (x 6) < 0)  : (h : Int) = H := by
  have i_b := Pin_b I
  clear I
  try simp only [Q_b, pown, prcv, pgiv, ppge, pfu] at *
  grind
set_option maxHeartbeats 400000 in
theorem pt_sendE_hV_d {has : Prop} {V E H T oG oT w0 w1 w2 w3 lo hi : Int} {st ep hl hh mv ac pt tk et lm pE pA : Nat → Int} {B : Int} {S : (Nat → Int) → Prop} (I : Pin has V E H T oG oT w0 w1 w2 w3 lo hi st ep hl hh mv ac pt tk et lm pE pA B S) (h : Nat) (x : (Nat → Int)) (hst : st h = 2) (htk : tk h ≠ 0) (hx : (x 0) = 4) (hxt : (x 1) = mv h) (hxf : (x 2) = h) (hxe : (x 3) = ep h + 1) (hxa : (x 4) = ac h) (hxm : (x 5) = pt h) (hxl : (x 7) = hl h) (hxh : (x 8) = hh h) (hxn : (x 6) < 0) (hH : (h : Int) = H) : ep h = V - 1 ∧ 0 ≤ pt h := by
  have i_e := Pin_e I
  clear I
  try simp only [Q_e, pown, prcv, pgiv, ppge, pfu] at *
  grind
set_option maxHeartbeats 400000 in
theorem pt_sendE_hD_d {has : Prop} {V E H T oG oT w0 w1 w2 w3 lo hi : Int} {st ep hl hh mv ac pt tk et lm pE pA : Nat → Int} {B : Int} {S : (Nat → Int) → Prop} (I : Pin has V E H T oG oT w0 w1 w2 w3 lo hi st ep hl hh mv ac pt tk et lm pE pA B S) (h : Nat) (x : (Nat → Int)) (hst : st h = 2) (htk : tk h ≠ 0) (hx : (x 0) = 4) (hxt : (x 1) = mv h) (hxf : (x 2) = h) (hxe : (x 3) = ep h + 1) (hxa : (x 4) = ac h) (hxm : (x 5) = pt h) (hxl : (x 7) = hl h) (hxh : (x 8) = hh h) (hxn : (x 6) < 0) (hH : (h : Int) = H) (hV : ep h = V - 1 ∧ 0 ≤ pt h) : T < 0 → w2 = V := by
  have i_d := Pin_d I
  clear I
  try simp only [Q_d, pown, prcv, pgiv, ppge, pfu] at *
  grind
set_option maxHeartbeats 400000 in
theorem pt_sendE_het_d {has : Prop} {V E H T oG oT w0 w1 w2 w3 lo hi : Int} {st ep hl hh mv ac pt tk et lm pE pA : Nat → Int} {B : Int} {S : (Nat → Int) → Prop} (I : Pin has V E H T oG oT w0 w1 w2 w3 lo hi st ep hl hh mv ac pt tk et lm pE pA B S) (h : Nat) (x : (Nat → Int)) (hst : st h = 2) (htk : tk h ≠ 0) (hx : (x 0) = 4) (hxt : (x 1) = mv h) (hxf : (x 2) = h) (hxe : (x 3) = ep h + 1) (hxa : (x 4) = ac h) (hxm : (x 5) = pt h) (hxl : (x 7) = hl h) (hxh : (x 8) = hh h) (hxn : (x 6) < 0) (hH : (h : Int) = H) (hV : ep h = V - 1 ∧ 0 ≤ pt h) (hD : T < 0 → w2 = V) : et h = 0 := by
  have i_o := Pin_o I
  clear I
  try simp only [Q_o, pown, prcv, pgiv, ppge, pfu] at *
  grind
set_option maxHeartbeats 400000 in
theorem pt_sendE_v0 {has : Prop} {V E H T oG oT w0 w1 w2 w3 lo hi : Int} {st ep hl hh mv ac pt tk et lm pE pA : Nat → Int} {B : Int} {S : (Nat → Int) → Prop} (I : Pin has V E H T oG oT w0 w1 w2 w3 lo hi st ep hl hh mv ac pt tk et lm pE pA B S) (h : Nat) (x : (Nat → Int)) (hst : st h = 2) (htk : tk h ≠ 0) (hx : (x 0) = 4) (hxt : (x 1) = mv h) (hxf : (x 2) = h) (hxe : (x 3) = ep h + 1) (hxa : (x 4) = ac h) (hxm : (x 5) = pt h) (hxl : (x 7) = hl h) (hxh : (x 8) = hh h) (hxn : (x 6) < 0) (hH : (h : Int) = H) (hV : ep h = V - 1 ∧ 0 ≤ pt h) (hD : T < 0 → w2 = V) (het : et h = 0) : Q_v0 has V E H T oG oT w0 w1 w2 w3 lo hi (pfu st h 3) ep hl hh mv ac pt (pfu tk h 0) et (pfu lm h (x 6)) pE pA (B + 2) (fun m => S m ∨ m = x) := by
  have i_v0 := Pin_v0 I
  clear I
  simp only [Q_v0, pokM, pown, prcv, pgiv, ppge, pfu] at *
  grind
set_option maxHeartbeats 400000 in
theorem pt_sendE_a {has : Prop} {V E H T oG oT w0 w1 w2 w3 lo hi : Int} {st ep hl hh mv ac pt tk et lm pE pA : Nat → Int} {B : Int} {S : (Nat → Int) → Prop} (I : Pin has V E H T oG oT w0 w1 w2 w3 lo hi st ep hl hh mv ac pt tk et lm pE pA B S) (h : Nat) (x : (Nat → Int)) (hst : st h = 2) (htk : tk h ≠ 0) (hx : (x 0) = 4) (hxt : (x 1) = mv h) (hxf : (x 2) = h) (hxe : (x 3) = ep h + 1) (hxa : (x 4) = ac h) (hxm : (x 5) = pt h) (hxl : (x 7) = hl h) (hxh : (x 8) = hh h) (hxn : (x 6) < 0) (hH : (h : Int) = H) (hV : ep h = V - 1 ∧ 0 ≤ pt h) (hD : T < 0 → w2 = V) (het : et h = 0) : Q_a has V E H T oG oT w0 w1 w2 w3 lo hi (pfu st h 3) ep hl hh mv ac pt (pfu tk h 0) et (pfu lm h (x 6)) pE pA (B + 2) (fun m => S m ∨ m = x) := by
  have i_a := Pin_a I
  clear I
  simp only [Q_a, pokM, pown, prcv, pgiv, ppge, pfu] at *
  grind
set_option maxHeartbeats 400000 in
theorem pt_sendE_b {has : Prop} {V E H T oG oT w0 w1 w2 w3 lo hi : Int} {st ep hl hh mv ac pt tk et lm pE pA : Nat → Int} {B : Int} {S : (Nat → Int) → Prop} (I : Pin has V E H T oG oT w0 w1 w2 w3 lo hi st ep hl hh mv ac pt tk et lm pE pA B S) (h : Nat) (x : (Nat → Int)) (hst : st h = 2) (htk : tk h ≠ 0) (hx : (x 0) = 4) (hxt : (x 1) = mv h) (hxf : (x 2) = h) (hxe : (x 3) = ep h + 1) (hxa : (x 4) = ac h) (hxm : (x 5) = pt h) (hxl : (x 7) = hl h) (hxh : (x 8) = hh h) (hxn : (x 6) < 0) (hH : (h : Int) = H) (hV : ep h = V - 1 ∧ 0 ≤ pt h) (hD : T < 0 → w2 = V) (het : et h = 0) : Q_b has V E H T oG oT w0 w1 w2 w3 lo hi (pfu st h 3) ep hl hh mv ac pt (pfu tk h 0) et (pfu lm h (x 6)) pE pA (B + 2) (fun m => S m ∨ m = x) := by
  have i_b := Pin_b I
  clear I
  simp only [Q_b, pokM, pown, prcv, pgiv, ppge, pfu] at *
  grind
set_option maxHeartbeats 400000 in
theorem pt_sendE_c {has : Prop} {V E H T oG oT w0 w1 w2 w3 lo hi : Int} {st ep hl hh mv ac pt tk et lm pE pA : Nat → Int} {B : Int} {S : (Nat → Int) → Prop} (I : Pin has V E H T oG oT w0 w1 w2 w3 lo hi st ep hl hh mv ac pt tk et lm pE pA B S) (h : Nat) (x : (Nat → Int)) (hst : st h = 2) (htk : tk h ≠ 0) (hx : (x 0) = 4) (hxt : (x 1) = mv h) (hxf : (x 2) = h) (hxe : (x 3) = ep h + 1) (hxa : (x 4) = ac h) (hxm : (x 5) = pt h) (hxl : (x 7) = hl h) (hxh : (x 8) = hh h) (hxn : (x 6) < 0) (hH : (h : Int) = H) (hV : ep h = V - 1 ∧ 0 ≤ pt h) (hD : T < 0 → w2 = V) (het : et h = 0) : Q_c has V E H T oG oT w0 w1 w2 w3 lo hi (pfu st h 3) ep hl hh mv ac pt (pfu tk h 0) et (pfu lm h (x 6)) pE pA (B + 2) (fun m => S m ∨ m = x) := by
  have i_c := Pin_c I
  clear I
  simp only [Q_c, pokM, pown, prcv, pgiv, ppge, pfu] at *
  grind
set_option maxHeartbeats 400000 in
theorem pt_sendE_d {has : Prop} {V E H T oG oT w0 w1 w2 w3 lo hi : Int} {st ep hl hh mv ac pt tk et lm pE pA : Nat → Int} {B : Int} {S : (Nat → Int) → Prop} (I : Pin has V E H T oG oT w0 w1 w2 w3 lo hi st ep hl hh mv ac pt tk et lm pE pA B S) (h : Nat) (x : (Nat → Int)) (hst : st h = 2) (htk : tk h ≠ 0) (hx : (x 0) = 4) (hxt : (x 1) = mv h) (hxf : (x 2) = h) (hxe : (x 3) = ep h + 1) (hxa : (x 4) = ac h) (hxm : (x 5) = pt h) (hxl : (x 7) = hl h) (hxh : (x 8) = hh h) (hxn : (x 6) < 0) (hH : (h : Int) = H) (hV : ep h = V - 1 ∧ 0 ≤ pt h) (hD : T < 0 → w2 = V) (het : et h = 0) : Q_d has V E H T oG oT w0 w1 w2 w3 lo hi (pfu st h 3) ep hl hh mv ac pt (pfu tk h 0) et (pfu lm h (x 6)) pE pA (B + 2) (fun m => S m ∨ m = x) := by
  have i_d := Pin_d I
  clear I
  simp only [Q_d, pokM, pown, prcv, pgiv, ppge, pfu] at *
  grind
set_option maxHeartbeats 400000 in
theorem pt_sendE_e {has : Prop} {V E H T oG oT w0 w1 w2 w3 lo hi : Int} {st ep hl hh mv ac pt tk et lm pE pA : Nat → Int} {B : Int} {S : (Nat → Int) → Prop} (I : Pin has V E H T oG oT w0 w1 w2 w3 lo hi st ep hl hh mv ac pt tk et lm pE pA B S) (h : Nat) (x : (Nat → Int)) (hst : st h = 2) (htk : tk h ≠ 0) (hx : (x 0) = 4) (hxt : (x 1) = mv h) (hxf : (x 2) = h) (hxe : (x 3) = ep h + 1) (hxa : (x 4) = ac h) (hxm : (x 5) = pt h) (hxl : (x 7) = hl h) (hxh : (x 8) = hh h) (hxn : (x 6) < 0) (hH : (h : Int) = H) (hV : ep h = V - 1 ∧ 0 ≤ pt h) (hD : T < 0 → w2 = V) (het : et h = 0) : Q_e has V E H T oG oT w0 w1 w2 w3 lo hi (pfu st h 3) ep hl hh mv ac pt (pfu tk h 0) et (pfu lm h (x 6)) pE pA (B + 2) (fun m => S m ∨ m = x) := by
  have i_e := Pin_e I
  clear I
  simp only [Q_e, pokM, pown, prcv, pgiv, ppge, pfu] at *
  grind
set_option maxHeartbeats 400000 in
theorem pt_sendE_f {has : Prop} {V E H T oG oT w0 w1 w2 w3 lo hi : Int} {st ep hl hh mv ac pt tk et lm pE pA : Nat → Int} {B : Int} {S : (Nat → Int) → Prop} (I : Pin has V E H T oG oT w0 w1 w2 w3 lo hi st ep hl hh mv ac pt tk et lm pE pA B S) (h : Nat) (x : (Nat → Int)) (hst : st h = 2) (htk : tk h ≠ 0) (hx : (x 0) = 4) (hxt : (x 1) = mv h) (hxf : (x 2) = h) (hxe : (x 3) = ep h + 1) (hxa : (x 4) = ac h) (hxm : (x 5) = pt h) (hxl : (x 7) = hl h) (hxh : (x 8) = hh h) (hxn : (x 6) < 0) (hH : (h : Int) = H) (hV : ep h = V - 1 ∧ 0 ≤ pt h) (hD : T < 0 → w2 = V) (het : et h = 0) : Q_f has V E H T oG oT w0 w1 w2 w3 lo hi (pfu st h 3) ep hl hh mv ac pt (pfu tk h 0) et (pfu lm h (x 6)) pE pA (B + 2) (fun m => S m ∨ m = x) := by
  have i_f := Pin_f I
  clear I
  simp only [Q_f, pokM, pown, prcv, pgiv, ppge, pfu] at *
  grind
set_option maxHeartbeats 400000 in
theorem pt_sendE_f2 {has : Prop} {V E H T oG oT w0 w1 w2 w3 lo hi : Int} {st ep hl hh mv ac pt tk et lm pE pA : Nat → Int} {B : Int} {S : (Nat → Int) → Prop} (I : Pin has V E H T oG oT w0 w1 w2 w3 lo hi st ep hl hh mv ac pt tk et lm pE pA B S) (h : Nat) (x : (Nat → Int)) (hst : st h = 2) (htk : tk h ≠ 0) (hx : (x 0) = 4) (hxt : (x 1) = mv h) (hxf : (x 2) = h) (hxe : (x 3) = ep h + 1) (hxa : (x 4) = ac h) (hxm : (x 5) = pt h) (hxl : (x 7) = hl h) (hxh : (x 8) = hh h) (hxn : (x 6) < 0) (hH : (h : Int) = H) (hV : ep h = V - 1 ∧ 0 ≤ pt h) (hD : T < 0 → w2 = V) (het : et h = 0) : Q_f2 has V E H T oG oT w0 w1 w2 w3 lo hi (pfu st h 3) ep hl hh mv ac pt (pfu tk h 0) et (pfu lm h (x 6)) pE pA (B + 2) (fun m => S m ∨ m = x) := by
  have i_f2 := Pin_f2 I
  clear I
  simp only [Q_f2, pokM, pown, prcv, pgiv, ppge, pfu] at *
  grind
set_option maxHeartbeats 400000 in
theorem pt_sendE_f3 {has : Prop} {V E H T oG oT w0 w1 w2 w3 lo hi : Int} {st ep hl hh mv ac pt tk et lm pE pA : Nat → Int} {B : Int} {S : (Nat → Int) → Prop} (I : Pin has V E H T oG oT w0 w1 w2 w3 lo hi st ep hl hh mv ac pt tk et lm pE pA B S) (h : Nat) (x : (Nat → Int)) (hst : st h = 2) (htk : tk h ≠ 0) (hx : (x 0) = 4) (hxt : (x 1) = mv h) (hxf : (x 2) = h) (hxe : (x 3) = ep h + 1) (hxa : (x 4) = ac h) (hxm : (x 5) = pt h) (hxl : (x 7) = hl h) (hxh : (x 8) = hh h) (hxn : (x 6) < 0) (hH : (h : Int) = H) (hV : ep h = V - 1 ∧ 0 ≤ pt h) (hD : T < 0 → w2 = V) (het : et h = 0) : Q_f3 has V E H T oG oT w0 w1 w2 w3 lo hi (pfu st h 3) ep hl hh mv ac pt (pfu tk h 0) et (pfu lm h (x 6)) pE pA (B + 2) (fun m => S m ∨ m = x) := by
  have i_f3 := Pin_f3 I
  clear I
  simp only [Q_f3, pokM, pown, prcv, pgiv, ppge, pfu] at *
  grind
set_option maxHeartbeats 400000 in
theorem pt_sendE_g {has : Prop} {V E H T oG oT w0 w1 w2 w3 lo hi : Int} {st ep hl hh mv ac pt tk et lm pE pA : Nat → Int} {B : Int} {S : (Nat → Int) → Prop} (I : Pin has V E H T oG oT w0 w1 w2 w3 lo hi st ep hl hh mv ac pt tk et lm pE pA B S) (h : Nat) (x : (Nat → Int)) (hst : st h = 2) (htk : tk h ≠ 0) (hx : (x 0) = 4) (hxt : (x 1) = mv h) (hxf : (x 2) = h) (hxe : (x 3) = ep h + 1) (hxa : (x 4) = ac h) (hxm : (x 5) = pt h) (hxl : (x 7) = hl h) (hxh : (x 8) = hh h) (hxn : (x 6) < 0) (hH : (h : Int) = H) (hV : ep h = V - 1 ∧ 0 ≤ pt h) (hD : T < 0 → w2 = V) (het : et h = 0) : Q_g has V E H T oG oT w0 w1 w2 w3 lo hi (pfu st h 3) ep hl hh mv ac pt (pfu tk h 0) et (pfu lm h (x 6)) pE pA (B + 2) (fun m => S m ∨ m = x) := by
  have i_g := Pin_g I
  clear I
  simp only [Q_g, pokM, pown, prcv, pgiv, ppge, pfu] at *
  grind
set_option maxHeartbeats 400000 in
theorem pt_sendE_g0 {has : Prop} {V E H T oG oT w0 w1 w2 w3 lo hi : Int} {st ep hl hh mv ac pt tk et lm pE pA : Nat → Int} {B : Int} {S : (Nat → Int) → Prop} (I : Pin has V E H T oG oT w0 w1 w2 w3 lo hi st ep hl hh mv ac pt tk et lm pE pA B S) (h : Nat) (x : (Nat → Int)) (hst : st h = 2) (htk : tk h ≠ 0) (hx : (x 0) = 4) (hxt : (x 1) = mv h) (hxf : (x 2) = h) (hxe : (x 3) = ep h + 1) (hxa : (x 4) = ac h) (hxm : (x 5) = pt h) (hxl : (x 7) = hl h) (hxh : (x 8) = hh h) (hxn : (x 6) < 0) (hH : (h : Int) = H) (hV : ep h = V - 1 ∧ 0 ≤ pt h) (hD : T < 0 → w2 = V) (het : et h = 0) : Q_g0 has V E H T oG oT w0 w1 w2 w3 lo hi (pfu st h 3) ep hl hh mv ac pt (pfu tk h 0) et (pfu lm h (x 6)) pE pA (B + 2) (fun m => S m ∨ m = x) := by
  have i_g0 := Pin_g0 I
  clear I
  simp only [Q_g0, pokM, pown, prcv, pgiv, ppge, pfu] at *
  grind
set_option maxHeartbeats 400000 in
theorem pt_sendE_g1 {has : Prop} {V E H T oG oT w0 w1 w2 w3 lo hi : Int} {st ep hl hh mv ac pt tk et lm pE pA : Nat → Int} {B : Int} {S : (Nat → Int) → Prop} (I : Pin has V E H T oG oT w0 w1 w2 w3 lo hi st ep hl hh mv ac pt tk et lm pE pA B S) (h : Nat) (x : (Nat → Int)) (hst : st h = 2) (htk : tk h ≠ 0) (hx : (x 0) = 4) (hxt : (x 1) = mv h) (hxf : (x 2) = h) (hxe : (x 3) = ep h + 1) (hxa : (x 4) = ac h) (hxm : (x 5) = pt h) (hxl : (x 7) = hl h) (hxh : (x 8) = hh h) (hxn : (x 6) < 0) (hH : (h : Int) = H) (hV : ep h = V - 1 ∧ 0 ≤ pt h) (hD : T < 0 → w2 = V) (het : et h = 0) : Q_g1 has V E H T oG oT w0 w1 w2 w3 lo hi (pfu st h 3) ep hl hh mv ac pt (pfu tk h 0) et (pfu lm h (x 6)) pE pA (B + 2) (fun m => S m ∨ m = x) := by
  have i_g1 := Pin_g1 I
  clear I
  simp only [Q_g1, pokM, pown, prcv, pgiv, ppge, pfu] at *
  grind
set_option maxHeartbeats 400000 in
theorem pt_sendE_g2 {has : Prop} {V E H T oG oT w0 w1 w2 w3 lo hi : Int} {st ep hl hh mv ac pt tk et lm pE pA : Nat → Int} {B : Int} {S : (Nat → Int) → Prop} (I : Pin has V E H T oG oT w0 w1 w2 w3 lo hi st ep hl hh mv ac pt tk et lm pE pA B S) (h : Nat) (x : (Nat → Int)) (hst : st h = 2) (htk : tk h ≠ 0) (hx : (x 0) = 4) (hxt : (x 1) = mv h) (hxf : (x 2) = h) (hxe : (x 3) = ep h + 1) (hxa : (x 4) = ac h) (hxm : (x 5) = pt h) (hxl : (x 7) = hl h) (hxh : (x 8) = hh h) (hxn : (x 6) < 0) (hH : (h : Int) = H) (hV : ep h = V - 1 ∧ 0 ≤ pt h) (hD : T < 0 → w2 = V) (het : et h = 0) : Q_g2 has V E H T oG oT w0 w1 w2 w3 lo hi (pfu st h 3) ep hl hh mv ac pt (pfu tk h 0) et (pfu lm h (x 6)) pE pA (B + 2) (fun m => S m ∨ m = x) := by
  have i_g2 := Pin_g2 I
  clear I
  simp only [Q_g2, pokM, pown, prcv, pgiv, ppge, pfu] at *
  grind
set_option maxHeartbeats 400000 in
theorem pt_sendE_h7 {has : Prop} {V E H T oG oT w0 w1 w2 w3 lo hi : Int} {st ep hl hh mv ac pt tk et lm pE pA : Nat → Int} {B : Int} {S : (Nat → Int) → Prop} (I : Pin has V E H T oG oT w0 w1 w2 w3 lo hi st ep hl hh mv ac pt tk et lm pE pA B S) (h : Nat) (x : (Nat → Int)) (hst : st h = 2) (htk : tk h ≠ 0) (hx : (x 0) = 4) (hxt : (x 1) = mv h) (hxf : (x 2) = h) (hxe : (x 3) = ep h + 1) (hxa : (x 4) = ac h) (hxm : (x 5) = pt h) (hxl : (x 7) = hl h) (hxh : (x 8) = hh h) (hxn : (x 6) < 0) (hH : (h : Int) = H) (hV : ep h = V - 1 ∧ 0 ≤ pt h) (hD : T < 0 → w2 = V) (het : et h = 0) : Q_h7 has V E H T oG oT w0 w1 w2 w3 lo hi (pfu st h 3) ep hl hh mv ac pt (pfu tk h 0) et (pfu lm h (x 6)) pE pA (B + 2) (fun m => S m ∨ m = x) := by
  have i_h7 := Pin_h7 I
  clear I
  simp only [Q_h7, pokM, pown, prcv, pgiv, ppge, pfu] at *
  grind
set_option maxHeartbeats 400000 in
theorem pt_sendE_h9 {has : Prop} {V E H T oG oT w0 w1 w2 w3 lo hi : Int} {st ep hl hh mv ac pt tk et lm pE pA : Nat → Int} {B : Int} {S : (Nat → Int) → Prop} (I : Pin has V E H T oG oT w0 w1 w2 w3 lo hi st ep hl hh mv ac pt tk et lm pE pA B S) (h : Nat) (x : (Nat → Int)) (hst : st h = 2) (htk : tk h ≠ 0) (hx : (x 0) = 4) (hxt : (x 1) = mv h) (hxf : (x 2) = h) (hxe : (x 3) = ep h + 1) (hxa : (x 4) = ac h) (hxm : (x 5) = pt h) (hxl : (x 7) = hl h) (hxh : (x 8) = hh h) (hxn : (x 6) < 0) (hH : (h : Int) = H) (hV : ep h = V - 1 ∧ 0 ≤ pt h) (hD : T < 0 → w2 = V) (het : et h = 0) : Q_h9 has V E H T oG oT w0 w1 w2 w3 lo hi (pfu st h 3) ep hl hh mv ac pt (pfu tk h 0) et (pfu lm h (x 6)) pE pA (B + 2) (fun m => S m ∨ m = x) := by
  have i_h9 := Pin_h9 I
  clear I
  simp only [Q_h9, pokM, pown, prcv, pgiv, ppge, pfu] at *
  grind
set_option maxHeartbeats 400000 in
theorem pt_sendE_h10 {has : Prop} {V E H T oG oT w0 w1 w2 w3 lo hi : Int} {st ep hl hh mv ac pt tk et lm pE pA : Nat → Int} {B : Int} {S : (Nat → Int) → Prop} (I : Pin has V E H T oG oT w0 w1 w2 w3 lo hi st ep hl hh mv ac pt tk et lm pE pA B S) (h : Nat) (x : (Nat → Int)) (hst : st h = 2) (htk : tk h ≠ 0) (hx : (x 0) = 4) (hxt : (x 1) = mv h) (hxf : (x 2) = h) (hxe : (x 3) = ep h + 1) (hxa : (x 4) = ac h) (hxm : (x 5) = pt h) (hxl : (x 7) = hl h) (hxh : (x 8) = hh h) (hxn : (x 6) < 0) (hH : (h : Int) = H) (hV : ep h = V - 1 ∧ 0 ≤ pt h) (hD : T < 0 → w2 = V) (het : et h = 0) : Q_h10 has V E H T oG oT w0 w1 w2 w3 lo hi (pfu st h 3) ep hl hh mv ac pt (pfu tk h 0) et (pfu lm h (x 6)) pE pA (B + 2) (fun m => S m ∨ m = x) := by
  have i_h10 := Pin_h10 I
  clear I
  simp only [Q_h10, pokM, pown, prcv, pgiv, ppge, pfu] at *
  grind
set_option maxHeartbeats 400000 in
theorem pt_sendE_h11 {has : Prop} {V E H T oG oT w0 w1 w2 w3 lo hi : Int} {st ep hl hh mv ac pt tk et lm pE pA : Nat → Int} {B : Int} {S : (Nat → Int) → Prop} (I : Pin has V E H T oG oT w0 w1 w2 w3 lo hi st ep hl hh mv ac pt tk et lm pE pA B S) (h : Nat) (x : (Nat → Int)) (hst : st h = 2) (htk : tk h ≠ 0) (hx : (x 0) = 4) (hxt : (x 1) = mv h) (hxf : (x 2) = h) (hxe : (x 3) = ep h + 1) (hxa : (x 4) = ac h) (hxm : (x 5) = pt h) (hxl : (x 7) = hl h) (hxh : (x 8) = hh h) (hxn : (x 6) < 0) (hH : (h : Int) = H) (hV : ep h = V - 1 ∧ 0 ≤ pt h) (hD : T < 0 → w2 = V) (het : et h = 0) : Q_h11 has V E H T oG oT w0 w1 w2 w3 lo hi (pfu st h 3) ep hl hh mv ac pt (pfu tk h 0) et (pfu lm h (x 6)) pE pA (B + 2) (fun m => S m ∨ m = x) := by
  have i_h11 := Pin_h11 I
  clear I
  simp only [Q_h11, pokM, pown, prcv, pgiv, ppge, pfu] at *
  grind
set_option maxHeartbeats 400000 in
theorem pt_sendE_h12 {has : Prop} {V E H T oG oT w0 w1 w2 w3 lo hi : Int} {st ep hl hh mv ac pt tk et lm pE pA : Nat → Int} {B : Int} {S : (Nat → Int) → Prop} (I : Pin has V E H T oG oT w0 w1 w2 w3 lo hi st ep hl hh mv ac pt tk et lm pE pA B S) (h : Nat) (x : (Nat → Int)) (hst : st h = 2) (htk : tk h ≠ 0) (hx : (x 0) = 4) (hxt : (x 1) = mv h) (hxf : (x 2) = h) (hxe : (x 3) = ep h + 1) (hxa : (x 4) = ac h) (hxm : (x 5) = pt h) (hxl : (x 7) = hl h) (hxh : (x 8) = hh h) (hxn : (x 6) < 0) (hH : (h : Int) = H) (hV : ep h = V - 1 ∧ 0 ≤ pt h) (hD : T < 0 → w2 = V) (het : et h = 0) : Q_h12 has V E H T oG oT w0 w1 w2 w3 lo hi (pfu st h 3) ep hl hh mv ac pt (pfu tk h 0) et (pfu lm h (x 6)) pE pA (B + 2) (fun m => S m ∨ m = x) := by
  have i_h12 := Pin_h12 I
  clear I
  simp only [Q_h12, pokM, pown, prcv, pgiv, ppge, pfu] at *
  grind
set_option maxHeartbeats 400000 in
theorem pt_sendE_k1 {has : Prop} {V E H T oG oT w0 w1 w2 w3 lo hi : Int} {st ep hl hh mv ac pt tk et lm pE pA : Nat → Int} {B : Int} {S : (Nat → Int) → Prop} (I : Pin has V E H T oG oT w0 w1 w2 w3 lo hi st ep hl hh mv ac pt tk et lm pE pA B S) (h : Nat) (x : (Nat → Int)) (hst : st h = 2) (htk : tk h ≠ 0) (hx : (x 0) = 4) (hxt : (x 1) = mv h) (hxf : (x 2) = h) (hxe : (x 3) = ep h + 1) (hxa : (x 4) = ac h) (hxm : (x 5) = pt h) (hxl : (x 7) = hl h) (hxh : (x 8) = hh h) (hxn : (x 6) < 0) (hH : (h : Int) = H) (hV : ep h = V - 1 ∧ 0 ≤ pt h) (hD : T < 0 → w2 = V) (het : et h = 0) : Q_k1 has V E H T oG oT w0 w1 w2 w3 lo hi (pfu st h 3) ep hl hh mv ac pt (pfu tk h 0) et (pfu lm h (x 6)) pE pA (B + 2) (fun m => S m ∨ m = x) := by
  have i_k1 := Pin_k1 I
  clear I
  simp only [Q_k1, pokM, pown, prcv, pgiv, ppge, pfu] at *
  grind
set_option maxHeartbeats 400000 in
theorem pt_sendE_k2 {has : Prop} {V E H T oG oT w0 w1 w2 w3 lo hi : Int} {st ep hl hh mv ac pt tk et lm pE pA : Nat → Int} {B : Int} {S : (Nat → Int) → Prop} (I : Pin has V E H T oG oT w0 w1 w2 w3 lo hi st ep hl hh mv ac pt tk et lm pE pA B S) (h : Nat) (x : (Nat → Int)) (hst : st h = 2) (htk : tk h ≠ 0) (hx : (x 0) = 4) (hxt : (x 1) = mv h) (hxf : (x 2) = h) (hxe : (x 3) = ep h + 1) (hxa : (x 4) = ac h) (hxm : (x 5) = pt h) (hxl : (x 7) = hl h) (hxh : (x 8) = hh h) (hxn : (x 6) < 0) (hH : (h : Int) = H) (hV : ep h = V - 1 ∧ 0 ≤ pt h) (hD : T < 0 → w2 = V) (het : et h = 0) : Q_k2 has V E H T oG oT w0 w1 w2 w3 lo hi (pfu st h 3) ep hl hh mv ac pt (pfu tk h 0) et (pfu lm h (x 6)) pE pA (B + 2) (fun m => S m ∨ m = x) := by
  have i_v0 := Pin_v0 I
  have i_a := Pin_a I
  have i_b := Pin_b I
  have i_c := Pin_c I
  have i_d := Pin_d I
  have i_e := Pin_e I
  have i_f := Pin_f I
  have i_f2 := Pin_f2 I
  have i_f3 := Pin_f3 I
  have i_g := Pin_g I
  have i_g0 := Pin_g0 I
  have i_g1 := Pin_g1 I
  have i_g2 := Pin_g2 I
  have i_h7 := Pin_h7 I
  have i_k1 := Pin_k1 I
  have i_k2 := Pin_k2 I
  have i_o := Pin_o I
  have i_q := Pin_q I
  clear I
  simp only [Q_a, Q_b, Q_c, Q_d, Q_e, Q_f, Q_f2, Q_f3, Q_g, Q_g0, Q_g1, Q_g2, Q_h7, Q_k1, Q_k2, Q_o, Q_q, Q_v0, pokM, pown, prcv, pgiv, ppge, pfu] at *
  grind
set_option maxHeartbeats 400000 in
theorem pt_sendE_k8 {has : Prop} {V E H T oG oT w0 w1 w2 w3 lo hi : Int} {st ep hl hh mv ac pt tk et lm pE pA : Nat → Int} {B : Int} {S : (Nat → Int) → Prop} (I : Pin has V E H T oG oT w0 w1 w2 w3 lo hi st ep hl hh mv ac pt tk et lm pE pA B S) (h : Nat) (x : (Nat → Int)) (hst : st h = 2) (htk : tk h ≠ 0) (hx : (x 0) = 4) (hxt : (x 1) = mv h) (hxf : (x 2) = h) (hxe : (x 3) = ep h + 1) (hxa : (x 4) = ac h) (hxm : (x 5) = pt h) (hxl : (x 7) = hl h) (hxh : (x 8) = hh h) (hxn : (x 6) < 0) (hH : (h : Int) = H) (hV : ep h = V - 1 ∧ 0 ≤ pt h) (hD : T < 0 → w2 = V) (het : et h = 0) : Q_k8 has V E H T oG oT w0 w1 w2 w3 lo hi (pfu st h 3) ep hl hh mv ac pt (pfu tk h 0) et (pfu lm h (x 6)) pE pA (B + 2) (fun m => S m ∨ m = x) := by
  have i_k8 := Pin_k8 I
  clear I
  simp only [Q_k8, pokM, pown, prcv, pgiv, ppge, pfu] at *
  grind
set_option maxHeartbeats 400000 in
theorem pt_sendE_l4 {has : Prop} {V E H T oG oT w0 w1 w2 w3 lo hi : Int} {st ep hl hh mv ac pt tk et lm pE pA : Nat → Int} {B : Int} {S : (Nat → Int) → Prop} (I : Pin has V E H T oG oT w0 w1 w2 w3 lo hi st ep hl hh mv ac pt tk et lm pE pA B S) (h : Nat) (x : (Nat → Int)) (hst : st h = 2) (htk : tk h ≠ 0) (hx : (x 0) = 4) (hxt : (x 1) = mv h) (hxf : (x 2) = h) (hxe : (x 3) = ep h + 1) (hxa : (x 4) = ac h) (hxm : (x 5) = pt h) (hxl : (x 7) = hl h) (hxh : (x 8) = hh h) (hxn : (x 6) < 0) (hH : (h : Int) = H) (hV : ep h = V - 1 ∧ 0 ≤ pt h) (hD : T < 0 → w2 = V) (het : et h = 0) : Q_l4 has V E H T oG oT w0 w1 w2 w3 lo hi (pfu st h 3) ep hl hh mv ac pt (pfu tk h 0) et (pfu lm h (x 6)) pE pA (B + 2) (fun m => S m ∨ m = x) := by
  intro hT m hs hk he
  rcases hs with hs | hs
  · exact Pin_l4 I hT m hs hk he
  · subst hs
    have := Pin_a I h (Or.inr (Or.inl hst))
    exact ⟨hxt.trans (Pin_n0 I hT h hH (Or.inl hst)), hxl.trans this.2.1, hxh.trans this.2.2⟩
set_option maxHeartbeats 400000 in
theorem pt_sendE_l5 {has : Prop} {V E H T oG oT w0 w1 w2 w3 lo hi : Int} {st ep hl hh mv ac pt tk et lm pE pA : Nat → Int} {B : Int} {S : (Nat → Int) → Prop} (I : Pin has V E H T oG oT w0 w1 w2 w3 lo hi st ep hl hh mv ac pt tk et lm pE pA B S) (h : Nat) (x : (Nat → Int)) (hst : st h = 2) (htk : tk h ≠ 0) (hx : (x 0) = 4) (hxt : (x 1) = mv h) (hxf : (x 2) = h) (hxe : (x 3) = ep h + 1) (hxa : (x 4) = ac h) (hxm : (x 5) = pt h) (hxl : (x 7) = hl h) (hxh : (x 8) = hh h) (hxn : (x 6) < 0) (hH : (h : Int) = H) (hV : ep h = V - 1 ∧ 0 ≤ pt h) (hD : T < 0 → w2 = V) (het : et h = 0) : Q_l5 has V E H T oG oT w0 w1 w2 w3 lo hi (pfu st h 3) ep hl hh mv ac pt (pfu tk h 0) et (pfu lm h (x 6)) pE pA (B + 2) (fun m => S m ∨ m = x) := by
  have i_l5 := Pin_l5 I
  clear I
  simp only [Q_l5, pokM, pown, prcv, pgiv, ppge, pfu] at *
  grind
set_option maxHeartbeats 400000 in
theorem pt_sendE_l3 {has : Prop} {V E H T oG oT w0 w1 w2 w3 lo hi : Int} {st ep hl hh mv ac pt tk et lm pE pA : Nat → Int} {B : Int} {S : (Nat → Int) → Prop} (I : Pin has V E H T oG oT w0 w1 w2 w3 lo hi st ep hl hh mv ac pt tk et lm pE pA B S) (h : Nat) (x : (Nat → Int)) (hst : st h = 2) (htk : tk h ≠ 0) (hx : (x 0) = 4) (hxt : (x 1) = mv h) (hxf : (x 2) = h) (hxe : (x 3) = ep h + 1) (hxa : (x 4) = ac h) (hxm : (x 5) = pt h) (hxl : (x 7) = hl h) (hxh : (x 8) = hh h) (hxn : (x 6) < 0) (hH : (h : Int) = H) (hV : ep h = V - 1 ∧ 0 ≤ pt h) (hD : T < 0 → w2 = V) (het : et h = 0) : Q_l3 has V E H T oG oT w0 w1 w2 w3 lo hi (pfu st h 3) ep hl hh mv ac pt (pfu tk h 0) et (pfu lm h (x 6)) pE pA (B + 2) (fun m => S m ∨ m = x) := by
  have i_l3 := Pin_l3 I
  clear I
  simp only [Q_l3, pokM, pown, prcv, pgiv, ppge, pfu] at *
  grind
set_option maxHeartbeats 400000 in
theorem pt_sendE_m1 {has : Prop} {V E H T oG oT w0 w1 w2 w3 lo hi : Int} {st ep hl hh mv ac pt tk et lm pE pA : Nat → Int} {B : Int} {S : (Nat → Int) → Prop} (I : Pin has V E H T oG oT w0 w1 w2 w3 lo hi st ep hl hh mv ac pt tk et lm pE pA B S) (h : Nat) (x : (Nat → Int)) (hst : st h = 2) (htk : tk h ≠ 0) (hx : (x 0) = 4) (hxt : (x 1) = mv h) (hxf : (x 2) = h) (hxe : (x 3) = ep h + 1) (hxa : (x 4) = ac h) (hxm : (x 5) = pt h) (hxl : (x 7) = hl h) (hxh : (x 8) = hh h) (hxn : (x 6) < 0) (hH : (h : Int) = H) (hV : ep h = V - 1 ∧ 0 ≤ pt h) (hD : T < 0 → w2 = V) (het : et h = 0) : Q_m1 has V E H T oG oT w0 w1 w2 w3 lo hi (pfu st h 3) ep hl hh mv ac pt (pfu tk h 0) et (pfu lm h (x 6)) pE pA (B + 2) (fun m => S m ∨ m = x) := by
  have i_m1 := Pin_m1 I
  clear I
  simp only [Q_m1, pokM, pown, prcv, pgiv, ppge, pfu] at *
  grind
set_option maxHeartbeats 400000 in
theorem pt_sendE_m2 {has : Prop} {V E H T oG oT w0 w1 w2 w3 lo hi : Int} {st ep hl hh mv ac pt tk et lm pE pA : Nat → Int} {B : Int} {S : (Nat → Int) → Prop} (I : Pin has V E H T oG oT w0 w1 w2 w3 lo hi st ep hl hh mv ac pt tk et lm pE pA B S) (h : Nat) (x : (Nat → Int)) (hst : st h = 2) (htk : tk h ≠ 0) (hx : (x 0) = 4) (hxt : (x 1) = mv h) (hxf : (x 2) = h) (hxe : (x 3) = ep h + 1) (hxa : (x 4) = ac h) (hxm : (x 5) = pt h) (hxl : (x 7) = hl h) (hxh : (x 8) = hh h) (hxn : (x 6) < 0) (hH : (h : Int) = H) (hV : ep h = V - 1 ∧ 0 ≤ pt h) (hD : T < 0 → w2 = V) (het : et h = 0) : Q_m2 has V E H T oG oT w0 w1 w2 w3 lo hi (pfu st h 3) ep hl hh mv ac pt (pfu tk h 0) et (pfu lm h (x 6)) pE pA (B + 2) (fun m => S m ∨ m = x) := by
  have i_m2 := Pin_m2 I
  clear I
  simp only [Q_m2, pokM, pown, prcv, pgiv, ppge, pfu] at *
  grind
set_option maxHeartbeats 400000 in
theorem pt_sendE_m3 {has : Prop} {V E H T oG oT w0 w1 w2 w3 lo hi : Int} {st ep hl hh mv ac pt tk et lm pE pA : Nat → Int} {B : Int} {S : (Nat → Int) → Prop} (I : Pin has V E H T oG oT w0 w1 w2 w3 lo hi st ep hl hh mv ac pt tk et lm pE pA B S) (h : Nat) (x : (Nat → Int)) (hst : st h = 2) (htk : tk h ≠ 0) (hx : (x 0) = 4) (hxt : (x 1) = mv h) (hxf : (x 2) = h) (hxe : (x 3) = ep h + 1) (hxa : (x 4) = ac h) (hxm : (x 5) = pt h) (hxl : (x 7) = hl h) (hxh : (x 8) = hh h) (hxn : (x 6) < 0) (hH : (h : Int) = H) (hV : ep h = V - 1 ∧ 0 ≤ pt h) (hD : T < 0 → w2 = V) (het : et h = 0) : Q_m3 has V E H T oG oT w0 w1 w2 w3 lo hi (pfu st h 3) ep hl hh mv ac pt (pfu tk h 0) et (pfu lm h (x 6)) pE pA (B + 2) (fun m => S m ∨ m = x) := by
  have i_m3 := Pin_m3 I
  clear I
  simp only [Q_m3, pokM, pown, prcv, pgiv, ppge, pfu] at *
  grind
set_option maxHeartbeats 400000 in
theorem pt_sendE_n0 {has : Prop} {V E H T oG oT w0 w1 w2 w3 lo hi : Int} {st ep hl hh mv ac pt tk et lm pE pA : Nat → Int} {B : Int} {S : (Nat → Int) → Prop} (I : Pin has V E H T oG oT w0 w1 w2 w3 lo hi st ep hl hh mv ac pt tk et lm pE pA B S) (h : Nat) (x : (Nat → Int)) (hst : st h = 2) (htk : tk h ≠ 0) (hx : (x 0) = 4) (hxt : (x 1) = mv h) (hxf : (x 2) = h) (hxe : (x 3) = ep h + 1) (hxa : (x 4) = ac h) (hxm : (x 5) = pt h) (hxl : (x 7) = hl h) (hxh : (x 8) = hh h) (hxn : (x 6) < 0) (hH : (h : Int) = H) (hV : ep h = V - 1 ∧ 0 ≤ pt h) (hD : T < 0 → w2 = V) (het : et h = 0) : Q_n0 has V E H T oG oT w0 w1 w2 w3 lo hi (pfu st h 3) ep hl hh mv ac pt (pfu tk h 0) et (pfu lm h (x 6)) pE pA (B + 2) (fun m => S m ∨ m = x) := by
  have i_n0 := Pin_n0 I
  clear I
  simp only [Q_n0, pokM, pown, prcv, pgiv, ppge, pfu] at *
  grind
set_option maxHeartbeats 400000 in
theorem pt_sendE_n1 {has : Prop} {V E H T oG oT w0 w1 w2 w3 lo hi : Int} {st ep hl hh mv ac pt tk et lm pE pA : Nat → Int} {B : Int} {S : (Nat → Int) → Prop} (I : Pin has V E H T oG oT w0 w1 w2 w3 lo hi st ep hl hh mv ac pt tk et lm pE pA B S) (h : Nat) (x : (Nat → Int)) (hst : st h = 2) (htk : tk h ≠ 0) (hx : (x 0) = 4) (hxt : (x 1) = mv h) (hxf : (x 2) = h) (hxe : (x 3) = ep h + 1) (hxa : (x 4) = ac h) (hxm : (x 5) = pt h) (hxl : (x 7) = hl h) (hxh : (x 8) = hh h) (hxn : (x 6) < 0) (hH : (h : Int) = H) (hV : ep h = V - 1 ∧ 0 ≤ pt h) (hD : T < 0 → w2 = V) (het : et h = 0) : Q_n1 has V E H T oG oT w0 w1 w2 w3 lo hi (pfu st h 3) ep hl hh mv ac pt (pfu tk h 0) et (pfu lm h (x 6)) pE pA (B + 2) (fun m => S m ∨ m = x) := by
  intro hT i t hiH hg ht m hs hk he
  have e : i = h := by omega
  subst e
  rcases hs with hs | hs
  · have n := Pin_n1 I hT i t hH (Or.inl hst) ht m hs hk he
    refine ⟨n.1, n.2.1, fun a b => ?_⟩
    rcases n.2.2 a b with c | c
    · exact Or.inl c
    · exact absurd c.2.1 htk
  · subst hs
    exact ⟨Int.le_of_eq hxa, fun a => hxa ▸ Pin_n7 I hT i t hH (Or.inl hst) ht (hxm ▸ a), fun _ _ => Or.inr ⟨hxm, by simp [pfu], by simp [pfu]⟩⟩
set_option maxHeartbeats 400000 in
theorem pt_sendE_n2 {has : Prop} {V E H T oG oT w0 w1 w2 w3 lo hi : Int} {st ep hl hh mv ac pt tk et lm pE pA : Nat → Int} {B : Int} {S : (Nat → Int) → Prop} (I : Pin has V E H T oG oT w0 w1 w2 w3 lo hi st ep hl hh mv ac pt tk et lm pE pA B S) (h : Nat) (x : (Nat → Int)) (hst : st h = 2) (htk : tk h ≠ 0) (hx : (x 0) = 4) (hxt : (x 1) = mv h) (hxf : (x 2) = h) (hxe : (x 3) = ep h + 1) (hxa : (x 4) = ac h) (hxm : (x 5) = pt h) (hxl : (x 7) = hl h) (hxh : (x 8) = hh h) (hxn : (x 6) < 0) (hH : (h : Int) = H) (hV : ep h = V - 1 ∧ 0 ≤ pt h) (hD : T < 0 → w2 = V) (het : et h = 0) : Q_n2 has V E H T oG oT w0 w1 w2 w3 lo hi (pfu st h 3) ep hl hh mv ac pt (pfu tk h 0) et (pfu lm h (x 6)) pE pA (B + 2) (fun m => S m ∨ m = x) := by
  have i_n2 := Pin_n2 I
  clear I
  simp only [Q_n2, pokM, pown, prcv, pgiv, ppge, pfu] at *
  grind
set_option maxHeartbeats 400000 in
theorem pt_sendE_n3 {has : Prop} {V E H T oG oT w0 w1 w2 w3 lo hi : Int} {st ep hl hh mv ac pt tk et lm pE pA : Nat → Int} {B : Int} {S : (Nat → Int) → Prop} (I : Pin has V E H T oG oT w0 w1 w2 w3 lo hi st ep hl hh mv ac pt tk et lm pE pA B S) (h : Nat) (x : (Nat → Int)) (hst : st h = 2) (htk : tk h ≠ 0) (hx : (x 0) = 4) (hxt : (x 1) = mv h) (hxf : (x 2) = h) (hxe : (x 3) = ep h + 1) (hxa : (x 4) = ac h) (hxm : (x 5) = pt h) (hxl : (x 7) = hl h) (hxh : (x 8) = hh h) (hxn : (x 6) < 0) (hH : (h : Int) = H) (hV : ep h = V - 1 ∧ 0 ≤ pt h) (hD : T < 0 → w2 = V) (het : et h = 0) : Q_n3 has V E H T oG oT w0 w1 w2 w3 lo hi (pfu st h 3) ep hl hh mv ac pt (pfu tk h 0) et (pfu lm h (x 6)) pE pA (B + 2) (fun m => S m ∨ m = x) := by
  have i_n3 := Pin_n3 I
  clear I
  simp only [Q_n3, pokM, pown, prcv, pgiv, ppge, pfu] at *
  grind
set_option maxHeartbeats 400000 in
theorem pt_sendE_n4 {has : Prop} {V E H T oG oT w0 w1 w2 w3 lo hi : Int} {st ep hl hh mv ac pt tk et lm pE pA : Nat → Int} {B : Int} {S : (Nat → Int) → Prop} (I : Pin has V E H T oG oT w0 w1 w2 w3 lo hi st ep hl hh mv ac pt tk et lm pE pA B S) (h : Nat) (x : (Nat → Int)) (hst : st h = 2) (htk : tk h ≠ 0) (hx : (x 0) = 4) (hxt : (x 1) = mv h) (hxf : (x 2) = h) (hxe : (x 3) = ep h + 1) (hxa : (x 4) = ac h) (hxm : (x 5) = pt h) (hxl : (x 7) = hl h) (hxh : (x 8) = hh h) (hxn : (x 6) < 0) (hH : (h : Int) = H) (hV : ep h = V - 1 ∧ 0 ≤ pt h) (hD : T < 0 → w2 = V) (het : et h = 0) : Q_n4 has V E H T oG oT w0 w1 w2 w3 lo hi (pfu st h 3) ep hl hh mv ac pt (pfu tk h 0) et (pfu lm h (x 6)) pE pA (B + 2) (fun m => S m ∨ m = x) := by
  have i_n4 := Pin_n4 I
  clear I
  simp only [Q_n4, pokM, pown, prcv, pgiv, ppge, pfu] at *
  grind
set_option maxHeartbeats 400000 in
theorem pt_sendE_n5 {has : Prop} {V E H T oG oT w0 w1 w2 w3 lo hi : Int} {st ep hl hh mv ac pt tk et lm pE pA : Nat → Int} {B : Int} {S : (Nat → Int) → Prop} (I : Pin has V E H T oG oT w0 w1 w2 w3 lo hi st ep hl hh mv ac pt tk et lm pE pA B S) (h : Nat) (x : (Nat → Int)) (hst : st h = 2) (htk : tk h ≠ 0) (hx : (x 0) = 4) (hxt : (x 1) = mv h) (hxf : (x 2) = h) (hxe : (x 3) = ep h + 1) (hxa : (x 4) = ac h) (hxm : (x 5) = pt h) (hxl : (x 7) = hl h) (hxh : (x 8) = hh h) (hxn : (x 6) < 0) (hH : (h : Int) = H) (hV : ep h = V - 1 ∧ 0 ≤ pt h) (hD : T < 0 → w2 = V) (het : et h = 0) : Q_n5 has V E H T oG oT w0 w1 w2 w3 lo hi (pfu st h 3) ep hl hh mv ac pt (pfu tk h 0) et (pfu lm h (x 6)) pE pA (B + 2) (fun m => S m ∨ m = x) := by
  intro hT i t hiH hg ht hne
  have e : i = h := by omega
  subst e
  exact absurd het hne
set_option maxHeartbeats 400000 in
theorem pt_sendE_n6 {has : Prop} {V E H T oG oT w0 w1 w2 w3 lo hi : Int} {st ep hl hh mv ac pt tk et lm pE pA : Nat → Int} {B : Int} {S : (Nat → Int) → Prop} (I : Pin has V E H T oG oT w0 w1 w2 w3 lo hi st ep hl hh mv ac pt tk et lm pE pA B S) (h : Nat) (x : (Nat → Int)) (hst : st h = 2) (htk : tk h ≠ 0) (hx : (x 0) = 4) (hxt : (x 1) = mv h) (hxf : (x 2) = h) (hxe : (x 3) = ep h + 1) (hxa : (x 4) = ac h) (hxm : (x 5) = pt h) (hxl : (x 7) = hl h) (hxh : (x 8) = hh h) (hxn : (x 6) < 0) (hH : (h : Int) = H) (hV : ep h = V - 1 ∧ 0 ≤ pt h) (hD : T < 0 → w2 = V) (het : et h = 0) : Q_n6 has V E H T oG oT w0 w1 w2 w3 lo hi (pfu st h 3) ep hl hh mv ac pt (pfu tk h 0) et (pfu lm h (x 6)) pE pA (B + 2) (fun m => S m ∨ m = x) := by
  have i_n6 := Pin_n6 I
  clear I
  simp only [Q_n6, pokM, pown, prcv, pgiv, ppge, pfu] at *
  grind
set_option maxHeartbeats 400000 in
theorem pt_sendE_n7 {has : Prop} {V E H T oG oT w0 w1 w2 w3 lo hi : Int} {st ep hl hh mv ac pt tk et lm pE pA : Nat → Int} {B : Int} {S : (Nat → Int) → Prop} (I : Pin has V E H T oG oT w0 w1 w2 w3 lo hi st ep hl hh mv ac pt tk et lm pE pA B S) (h : Nat) (x : (Nat → Int)) (hst : st h = 2) (htk : tk h ≠ 0) (hx : (x 0) = 4) (hxt : (x 1) = mv h) (hxf : (x 2) = h) (hxe : (x 3) = ep h + 1) (hxa : (x 4) = ac h) (hxm : (x 5) = pt h) (hxl : (x 7) = hl h) (hxh : (x 8) = hh h) (hxn : (x 6) < 0) (hH : (h : Int) = H) (hV : ep h = V - 1 ∧ 0 ≤ pt h) (hD : T < 0 → w2 = V) (het : et h = 0) : Q_n7 has V E H T oG oT w0 w1 w2 w3 lo hi (pfu st h 3) ep hl hh mv ac pt (pfu tk h 0) et (pfu lm h (x 6)) pE pA (B + 2) (fun m => S m ∨ m = x) := by
  have i_n7 := Pin_n7 I
  clear I
  simp only [Q_n7, pokM, pown, prcv, pgiv, ppge, pfu] at *
  grind
set_option maxHeartbeats 400000 in
theorem pt_sendE_o {has : Prop} {V E H T oG oT w0 w1 w2 w3 lo hi : Int} {st ep hl hh mv ac pt tk et lm pE pA : Nat → Int} {B : Int} {S : (Nat → Int) → Prop} (I : Pin has V E H T oG oT w0 w1 w2 w3 lo hi st ep hl hh mv ac pt tk et lm pE pA B S) (h : Nat) (x : (Nat → Int)) (hst : st h = 2) (htk : tk h ≠ 0) (hx : (x 0) = 4) (hxt : (x 1) = mv h) (hxf : (x 2) = h) (hxe : (x 3) = ep h + 1) (hxa : (x 4) = ac h) (hxm : (x 5) = pt h) (hxl : (x 7) = hl h) (hxh : (x 8) = hh h) (hxn : (x 6) < 0) (hH : (h : Int) = H) (hV : ep h = V - 1 ∧ 0 ≤ pt h) (hD : T < 0 → w2 = V) (het : et h = 0) : Q_o has V E H T oG oT w0 w1 w2 w3 lo hi (pfu st h 3) ep hl hh mv ac pt (pfu tk h 0) et (pfu lm h (x 6)) pE pA (B + 2) (fun m => S m ∨ m = x) := by
  have i_o := Pin_o I
  clear I
  simp only [Q_o, pokM, pown, prcv, pgiv, ppge, pfu] at *
  grind
set_option maxHeartbeats 400000 in
theorem pt_sendE_p {has : Prop} {V E H T oG oT w0 w1 w2 w3 lo hi : Int} {st ep hl hh mv ac pt tk et lm pE pA : Nat → Int} {B : Int} {S : (Nat → Int) → Prop} (I : Pin has V E H T oG oT w0 w1 w2 w3 lo hi st ep hl hh mv ac pt tk et lm pE pA B S) (h : Nat) (x : (Nat → Int)) (hst : st h = 2) (htk : tk h ≠ 0) (hx : (x 0) = 4) (hxt : (x 1) = mv h) (hxf : (x 2) = h) (hxe : (x 3) = ep h + 1) (hxa : (x 4) = ac h) (hxm : (x 5) = pt h) (hxl : (x 7) = hl h) (hxh : (x 8) = hh h) (hxn : (x 6) < 0) (hH : (h : Int) = H) (hV : ep h = V - 1 ∧ 0 ≤ pt h) (hD : T < 0 → w2 = V) (het : et h = 0) : Q_p has V E H T oG oT w0 w1 w2 w3 lo hi (pfu st h 3) ep hl hh mv ac pt (pfu tk h 0) et (pfu lm h (x 6)) pE pA (B + 2) (fun m => S m ∨ m = x) := by
  intro i hg ht
  by_cases e : i = h
  · subst e
    exact ⟨x, Or.inr rfl, hx, hxt, hxf, hxe, hxa, hxm, by simp [pfu], hxl, hxh⟩
  · obtain ⟨m, a, b⟩ := Pin_p I i (by simpa [pgiv, pfu, e] using hg) (by simpa [pfu, e] using ht)
    exact ⟨m, Or.inl a, by simpa [pfu, e] using b⟩
set_option maxHeartbeats 400000 in
theorem pt_sendE_q {has : Prop} {V E H T oG oT w0 w1 w2 w3 lo hi : Int} {st ep hl hh mv ac pt tk et lm pE pA : Nat → Int} {B : Int} {S : (Nat → Int) → Prop} (I : Pin has V E H T oG oT w0 w1 w2 w3 lo hi st ep hl hh mv ac pt tk et lm pE pA B S) (h : Nat) (x : (Nat → Int)) (hst : st h = 2) (htk : tk h ≠ 0) (hx : (x 0) = 4) (hxt : (x 1) = mv h) (hxf : (x 2) = h) (hxe : (x 3) = ep h + 1) (hxa : (x 4) = ac h) (hxm : (x 5) = pt h) (hxl : (x 7) = hl h) (hxh : (x 8) = hh h) (hxn : (x 6) < 0) (hH : (h : Int) = H) (hV : ep h = V - 1 ∧ 0 ≤ pt h) (hD : T < 0 → w2 = V) (het : et h = 0) : Q_q has V E H T oG oT w0 w1 w2 w3 lo hi (pfu st h 3) ep hl hh mv ac pt (pfu tk h 0) et (pfu lm h (x 6)) pE pA (B + 2) (fun m => S m ∨ m = x) := by
  have i_q := Pin_q I
  clear I
  simp only [Q_q, pokM, pown, prcv, pgiv, ppge, pfu] at *
  grind
set_option maxHeartbeats 400000 in
theorem pt_sendE_q2 {has : Prop} {V E H T oG oT w0 w1 w2 w3 lo hi : Int} {st ep hl hh mv ac pt tk et lm pE pA : Nat → Int} {B : Int} {S : (Nat → Int) → Prop} (I : Pin has V E H T oG oT w0 w1 w2 w3 lo hi st ep hl hh mv ac pt tk et lm pE pA B S) (h : Nat) (x : (Nat → Int)) (hst : st h = 2) (htk : tk h ≠ 0) (hx : (x 0) = 4) (hxt : (x 1) = mv h) (hxf : (x 2) = h) (hxe : (x 3) = ep h + 1) (hxa : (x 4) = ac h) (hxm : (x 5) = pt h) (hxl : (x 7) = hl h) (hxh : (x 8) = hh h) (hxn : (x 6) < 0) (hH : (h : Int) = H) (hV : ep h = V - 1 ∧ 0 ≤ pt h) (hD : T < 0 → w2 = V) (het : et h = 0) : Q_q2 has V E H T oG oT w0 w1 w2 w3 lo hi (pfu st h 3) ep hl hh mv ac pt (pfu tk h 0) et (pfu lm h (x 6)) pE pA (B + 2) (fun m => S m ∨ m = x) := by
  have i_q2 := Pin_q2 I
  clear I
  simp only [Q_q2, pokM, pown, prcv, pgiv, ppge, pfu] at *
  grind
set_option maxHeartbeats 400000 in
theorem pt_sendE_q3 {has : Prop} {V E H T oG oT w0 w1 w2 w3 lo hi : Int} {st ep hl hh mv ac pt tk et lm pE pA : Nat → Int} {B : Int} {S : (Nat → Int) → Prop} (I : Pin has V E H T oG oT w0 w1 w2 w3 lo hi st ep hl hh mv ac pt tk et lm pE pA B S) (h : Nat) (x : (Nat → Int)) (hst : st h = 2) (htk : tk h ≠ 0) (hx : (x 0) = 4) (hxt : (x 1) = mv h) (hxf : (x 2) = h) (hxe : (x 3) = ep h + 1) (hxa : (x 4) = ac h) (hxm : (x 5) = pt h) (hxl : (x 7) = hl h) (hxh : (x 8) = hh h) (hxn : (x 6) < 0) (hH : (h : Int) = H) (hV : ep h = V - 1 ∧ 0 ≤ pt h) (hD : T < 0 → w2 = V) (het : et h = 0) : Q_q3 has V E H T oG oT w0 w1 w2 w3 lo hi (pfu st h 3) ep hl hh mv ac pt (pfu tk h 0) et (pfu lm h (x 6)) pE pA (B + 2) (fun m => S m ∨ m = x) := by
  intro m hs hk
  rcases hs with hs | hs
  · have := Pin_q3 I m hs hk
    exact ⟨this.1, by omega, by omega⟩
  · subst hs
    have h2 := Pin_q2 I h
    have h0 : 0 ≤ V := Pin_v0 I
    exact ⟨by omega, by omega, by omega⟩
set_option maxHeartbeats 400000 in
theorem pt_sendE_w {has : Prop} {V E H T oG oT w0 w1 w2 w3 lo hi : Int} {st ep hl hh mv ac pt tk et lm pE pA : Nat → Int} {B : Int} {S : (Nat → Int) → Prop} (I : Pin has V E H T oG oT w0 w1 w2 w3 lo hi st ep hl hh mv ac pt tk et lm pE pA B S) (h : Nat) (x : (Nat → Int)) (hst : st h = 2) (htk : tk h ≠ 0) (hx : (x 0) = 4) (hxt : (x 1) = mv h) (hxf : (x 2) = h) (hxe : (x 3) = ep h + 1) (hxa : (x 4) = ac h) (hxm : (x 5) = pt h) (hxl : (x 7) = hl h) (hxh : (x 8) = hh h) (hxn : (x 6) < 0) (hH : (h : Int) = H) (hV : ep h = V - 1 ∧ 0 ≤ pt h) (hD : T < 0 → w2 = V) (het : et h = 0) : Q_w has V E H T oG oT w0 w1 w2 w3 lo hi (pfu st h 3) ep hl hh mv ac pt (pfu tk h 0) et (pfu lm h (x 6)) pE pA (B + 2) (fun m => S m ∨ m = x) := by
  have i_w := Pin_w I
  clear I
  simp only [Q_w, pokM, pown, prcv, pgiv, ppge, pfu] at *
  grind
theorem pt_sendE {has : Prop} {V E H T oG oT w0 w1 w2 w3 lo hi : Int} {st ep hl hh mv ac pt tk et lm pE pA : Nat → Int} {B : Int} {S : (Nat → Int) → Prop} (I : Pin has V E H T oG oT w0 w1 w2 w3 lo hi st ep hl hh mv ac pt tk et lm pE pA B S) (h : Nat) (x : (Nat → Int)) (hst : st h = 2) (htk : tk h ≠ 0) (hx : (x 0) = 4) (hxt : (x 1) = mv h) (hxf : (x 2) = h) (hxe : (x 3) = ep h + 1) (hxa : (x 4) = ac h) (hxm : (x 5) = pt h) (hxl : (x 7) = hl h) (hxh : (x 8) = hh h) (hxn : (x 6) < 0) : Pin has V E H T oG oT w0 w1 w2 w3 lo hi (pfu st h 3) ep hl hh mv ac pt (pfu tk h 0) et (pfu lm h (x 6)) pE pA (B + 2) (fun m => S m ∨ m = x) := by
  have hH := pt_sendE_hH_d I h x hst htk hx hxt hxf hxe hxa hxm hxl hxh hxn 
  have hV := pt_sendE_hV_d I h x hst htk hx hxt hxf hxe hxa hxm hxl hxh hxn hH
  have hD := pt_sendE_hD_d I h x hst htk hx hxt hxf hxe hxa hxm hxl hxh hxn hH hV
  have het := pt_sendE_het_d I h x hst htk hx hxt hxf hxe hxa hxm hxl hxh hxn hH hV hD
  exact ⟨pt_sendE_v0 I h x hst htk hx hxt hxf hxe hxa hxm hxl hxh hxn hH hV hD het, pt_sendE_a I h x hst htk hx hxt hxf hxe hxa hxm hxl hxh hxn hH hV hD het, pt_sendE_b I h x hst htk hx hxt hxf hxe hxa hxm hxl hxh hxn hH hV hD het, pt_sendE_c I h x hst htk hx hxt hxf hxe hxa hxm hxl hxh hxn hH hV hD het, pt_sendE_d I h x hst htk hx hxt hxf hxe hxa hxm hxl hxh hxn hH hV hD het, pt_sendE_e I h x hst htk hx hxt hxf hxe hxa hxm hxl hxh hxn hH hV hD het, pt_sendE_f I h x hst htk hx hxt hxf hxe hxa hxm hxl hxh hxn hH hV hD het, pt_sendE_f2 I h x hst htk hx hxt hxf hxe hxa hxm hxl hxh hxn hH hV hD het, pt_sendE_f3 I h x hst htk hx hxt hxf hxe hxa hxm hxl hxh hxn hH hV hD het, pt_sendE_g I h x hst htk hx hxt hxf hxe hxa hxm hxl hxh hxn hH hV hD het, pt_sendE_g0 I h x hst htk hx hxt hxf hxe hxa hxm hxl hxh hxn hH hV hD het, pt_sendE_g1 I h x hst htk hx hxt hxf hxe hxa hxm hxl hxh hxn hH hV hD het, pt_sendE_g2 I h x hst htk hx hxt hxf hxe hxa hxm hxl hxh hxn hH hV hD het, pt_sendE_h7 I h x hst htk hx hxt hxf hxe hxa hxm hxl hxh hxn hH hV hD het, pt_sendE_h9 I h x hst htk hx hxt hxf hxe hxa hxm hxl hxh hxn hH hV hD het, pt_sendE_h10 I h x hst htk hx hxt hxf hxe hxa hxm hxl hxh hxn hH hV hD het, pt_sendE_h11 I h x hst htk hx hxt hxf hxe hxa hxm hxl hxh hxn hH hV hD het, pt_sendE_h12 I h x hst htk hx hxt hxf hxe hxa hxm hxl hxh hxn hH hV hD het, pt_sendE_k1 I h x hst htk hx hxt hxf hxe hxa hxm hxl hxh hxn hH hV hD het, pt_sendE_k2 I h x hst htk hx hxt hxf hxe hxa hxm hxl hxh hxn hH hV hD het, pt_sendE_k8 I h x hst htk hx hxt hxf hxe hxa hxm hxl hxh hxn hH hV hD het, pt_sendE_l4 I h x hst htk hx hxt hxf hxe hxa hxm hxl hxh hxn hH hV hD het, pt_sendE_l5 I h x hst htk hx hxt hxf hxe hxa hxm hxl hxh hxn hH hV hD het, pt_sendE_l3 I h x hst htk hx hxt hxf hxe hxa hxm hxl hxh hxn hH hV hD het, pt_sendE_m1 I h x hst htk hx hxt hxf hxe hxa hxm hxl hxh hxn hH hV hD het, pt_sendE_m2 I h x hst htk hx hxt hxf hxe hxa hxm hxl hxh hxn hH hV hD het, pt_sendE_m3 I h x hst htk hx hxt hxf hxe hxa hxm hxl hxh hxn hH hV hD het, pt_sendE_n0 I h x hst htk hx hxt hxf hxe hxa hxm hxl hxh hxn hH hV hD het, pt_sendE_n1 I h x hst htk hx hxt hxf hxe hxa hxm hxl hxh hxn hH hV hD het, pt_sendE_n2 I h x hst htk hx hxt hxf hxe hxa hxm hxl hxh hxn hH hV hD het, pt_sendE_n3 I h x hst htk hx hxt hxf hxe hxa hxm hxl hxh hxn hH hV hD het, pt_sendE_n4 I h x hst htk hx hxt hxf hxe hxa hxm hxl hxh hxn hH hV hD het, pt_sendE_n5 I h x hst htk hx hxt hxf hxe hxa hxm hxl hxh hxn hH hV hD het, pt_sendE_n6 I h x hst htk hx hxt hxf hxe hxa hxm hxl hxh hxn hH hV hD het, pt_sendE_n7 I h x hst htk hx hxt hxf hxe hxa hxm hxl hxh hxn hH hV hD het, pt_sendE_o I h x hst htk hx hxt hxf hxe hxa hxm hxl hxh hxn hH hV hD het, pt_sendE_p I h x hst htk hx hxt hxf hxe hxa hxm hxl hxh hxn hH hV hD het, pt_sendE_q I h x hst htk hx hxt hxf hxe hxa hxm hxl hxh hxn hH hV hD het, pt_sendE_q2 I h x hst htk hx hxt hxf hxe hxa hxm hxl hxh hxn hH hV hD het, pt_sendE_q3 I h x hst htk hx hxt hxf hxe hxa hxm hxl hxh hxn hH hV hD het, pt_sendE_w I h x hst htk hx hxt hxf hxe hxa hxm hxl hxh hxn hH hV hD het⟩
set_option maxHeartbeats 400000 in
theorem pt_add_v0 {has : Prop} {V E H T oG oT w0 w1 w2 w3 lo hi : Int} {st ep hl hh mv ac pt tk et lm pE pA : Nat → Int} {B : Int} {S : (Nat → Int) → Prop} (I : Pin has V E H T oG oT w0 w1 w2 w3 lo hi st ep hl hh mv ac pt tk et lm pE pA B S) (x : (Nat → Int)) (hx : pokM has V E H T oG oT w0 w1 w2 w3 lo hi st ep hl hh mv ac pt tk et lm pE pA B S x)  : Q_v0 has V E H T oG oT w0 w1 w2 w3 lo hi st ep hl hh mv ac pt tk et lm pE pA B (fun m => S m ∨ m = x) := by
  have i_v0 := Pin_v0 I
  clear I
  simp only [Q_v0, pokM, pown, prcv, pgiv, ppge, pfu] at *
  grind
set_option maxHeartbeats 400000 in
theorem pt_add_a {has : Prop} {V E H T oG oT w0 w1 w2 w3 lo hi : Int} {st ep hl hh mv ac pt tk et lm pE pA : Nat → Int} {B : Int} {S : (Nat → Int) → Prop} (I : Pin has V E H T oG oT w0 w1 w2 w3 lo hi st ep hl hh mv ac pt tk et lm pE pA B S) (x : (Nat → Int)) (hx : pokM has V E H T oG oT w0 w1 w2 w3 lo hi st ep hl hh mv ac pt tk et lm pE pA B S x)  : Q_a has V E H T oG oT w0 w1 w2 w3 lo hi st ep hl hh mv ac pt tk et lm pE pA B (fun m => S m ∨ m = x) := by
  have i_a := Pin_a I
  clear I
  simp only [Q_a, pokM, pown, prcv, pgiv, ppge, pfu] at *
  grind
set_option maxHeartbeats 400000 in
theorem pt_add_b {has : Prop} {V E H T oG oT w0 w1 w2 w3 lo hi : Int} {st ep hl hh mv ac pt tk et lm pE pA : Nat → Int} {B : Int} {S : (Nat → Int) → Prop} (I : Pin has V E H T oG oT w0 w1 w2 w3 lo hi st ep hl hh mv ac pt tk et lm pE pA B S) (x : (Nat → Int)) (hx : pokM has V E H T oG oT w0 w1 w2 w3 lo hi st ep hl hh mv ac pt tk et lm pE pA B S x)  : Q_b has V E H T oG oT w0 w1 w2 w3 lo hi st ep hl hh mv ac pt tk et lm pE pA B (fun m => S m ∨ m = x) := by
  have i_b := Pin_b I
  clear I
  simp only [Q_b, pokM, pown, prcv, pgiv, ppge, pfu] at *
  grind
set_option maxHeartbeats 400000 in
theorem pt_add_c {has : Prop} {V E H T oG oT w0 w1 w2 w3 lo hi : Int} {st ep hl hh mv ac pt tk et lm pE pA : Nat → Int} {B : Int} {S : (Nat → Int) → Prop} (I : Pin has V E H T oG oT w0 w1 w2 w3 lo hi st ep hl hh mv ac pt tk et lm pE pA B S) (x : (Nat → Int)) (hx : pokM has V E H T oG oT w0 w1 w2 w3 lo hi st ep hl hh mv ac pt tk et lm pE pA B S x)  : Q_c has V E H T oG oT w0 w1 w2 w3 lo hi st ep hl hh mv ac pt tk et lm pE pA B (fun m => S m ∨ m = x) := by
  have i_c := Pin_c I
  clear I
  simp only [Q_c, pokM, pown, prcv, pgiv, ppge, pfu] at *
  grind
set_option maxHeartbeats 400000 in
theorem pt_add_d {has : Prop} {V E H T oG oT w0 w1 w2 w3 lo hi : Int} {st ep hl hh mv ac pt tk et lm pE pA : Nat → Int} {B : Int} {S : (Nat → Int) → Prop} (I : Pin has V E H T oG oT w0 w1 w2 w3 lo hi st ep hl hh mv ac pt tk et lm pE pA B S) (x : (Nat → Int)) (hx : pokM has V E H T oG oT w0 w1 w2 w3 lo hi st ep hl hh mv ac pt tk et lm pE pA B S x)  : Q_d has V E H T oG oT w0 w1 w2 w3 lo hi st ep hl hh mv ac pt tk et lm pE pA B (fun m => S m ∨ m = x) := by
  have i_d := Pin_d I
  clear I
  simp only [Q_d, pokM, pown, prcv, pgiv, ppge, pfu] at *
  grind
set_option maxHeartbeats 400000 in
theorem pt_add_e {has : Prop} {V E H T oG oT w0 w1 w2 w3 lo hi : Int} {st ep hl hh mv ac pt tk et lm pE pA : Nat → Int} {B : Int} {S : (Nat → Int) → Prop} (I : Pin has V E H T oG oT w0 w1 w2 w3 lo hi st ep hl hh mv ac pt tk et lm pE pA B S) (x : (Nat → Int)) (hx : pokM has V E H T oG oT w0 w1 w2 w3 lo hi st ep hl hh mv ac pt tk et lm pE pA B S x)  : Q_e has V E H T oG oT w0 w1 w2 w3 lo hi st ep hl hh mv ac pt tk et lm pE pA B (fun m => S m ∨ m = x) := by
  have i_e := Pin_e I
  clear I
  simp only [Q_e, pokM, pown, prcv, pgiv, ppge, pfu] at *
  grind
set_option maxHeartbeats 400000 in
theorem pt_add_f {has : Prop} {V E H T oG oT w0 w1 w2 w3 lo hi : Int} {st ep hl hh mv ac pt tk et lm pE pA : Nat → Int} {B : Int} {S : (Nat → Int) → Prop} (I : Pin has V E H T oG oT w0 w1 w2 w3 lo hi st ep hl hh mv ac pt tk et lm pE pA B S) (x : (Nat → Int)) (hx : pokM has V E H T oG oT w0 w1 w2 w3 lo hi st ep hl hh mv ac pt tk et lm pE pA B S x)  : Q_f has V E H T oG oT w0 w1 w2 w3 lo hi st ep hl hh mv ac pt tk et lm pE pA B (fun m => S m ∨ m = x) := by
  have i_f := Pin_f I
  clear I
  simp only [Q_f, pokM, pown, prcv, pgiv, ppge, pfu] at *
  grind
set_option maxHeartbeats 400000 in
theorem pt_add_f2 {has : Prop} {V E H T oG oT w0 w1 w2 w3 lo hi : Int} {st ep hl hh mv ac pt tk et lm pE pA : Nat → Int} {B : Int} {S : (Nat → Int) → Prop} (I : Pin has V E H T oG oT w0 w1 w2 w3 lo hi st ep hl hh mv ac pt tk et lm pE pA B S) (x : (Nat → Int)) (hx : pokM has V E H T oG oT w0 w1 w2 w3 lo hi st ep hl hh mv ac pt tk et lm pE pA B S x)  : Q_f2 has V E H T oG oT w0 w1 w2 w3 lo hi st ep hl hh mv ac pt tk et lm pE pA B (fun m => S m ∨ m = x) := by
  have i_f2 := Pin_f2 I
  clear I
  simp only [Q_f2, pokM, pown, prcv, pgiv, ppge, pfu] at *
  grind
set_option maxHeartbeats 400000 in
theorem pt_add_f3 {has : Prop} {V E H T oG oT w0 w1 w2 w3 lo hi : Int} {st ep hl hh mv ac pt tk et lm pE pA : Nat → Int} {B : Int} {S : (Nat → Int) → Prop} (I : Pin has V E H T oG oT w0 w1 w2 w3 lo hi st ep hl hh mv ac pt tk et lm pE pA B S) (x : (Nat → Int)) (hx : pokM has V E H T oG oT w0 w1 w2 w3 lo hi st ep hl hh mv ac pt tk et lm pE pA B S x)  : Q_f3 has V E H T oG oT w0 w1 w2 w3 lo hi st ep hl hh mv ac pt tk et lm pE pA B (fun m => S m ∨ m = x) := by
  have i_f3 := Pin_f3 I
  clear I
  simp only [Q_f3, pokM, pown, prcv, pgiv, ppge, pfu] at *
  grind
set_option maxHeartbeats 400000 in
theorem pt_add_g {has : Prop} {V E H T oG oT w0 w1 w2 w3 lo hi : Int} {st ep hl hh mv ac pt tk et lm pE pA : Nat → Int} {B : Int} {S : (Nat → Int) → Prop} (I : Pin has V E H T oG oT w0 w1 w2 w3 lo hi st ep hl hh mv ac pt tk et lm pE pA B S) (x : (Nat → Int)) (hx : pokM has V E H T oG oT w0 w1 w2 w3 lo hi st ep hl hh mv ac pt tk et lm pE pA B S x)  : Q_g has V E H T oG oT w0 w1 w2 w3 lo hi st ep hl hh mv ac pt tk et lm pE pA B (fun m => S m ∨ m = x) := by
  have i_g := Pin_g I
  clear I
  simp only [Q_g, pokM, pown, prcv, pgiv, ppge, pfu] at *
  grind
set_option maxHeartbeats 400000 in
theorem pt_add_g0 {has : Prop} {V E H T oG oT w0 w1 w2 w3 lo hi : Int} {st ep hl hh mv ac pt tk et lm pE pA : Nat → Int} {B : Int} {S : (Nat → Int) → Prop} (I : Pin has V E H T oG oT w0 w1 w2 w3 lo hi st ep hl hh mv ac pt tk et lm pE pA B S) (x : (Nat → Int)) (hx : pokM has V E H T oG oT w0 w1 w2 w3 lo hi st ep hl hh mv ac pt tk et lm pE pA B S x)  : Q_g0 has V E H T oG oT w0 w1 w2 w3 lo hi st ep hl hh mv ac pt tk et lm pE pA B (fun m => S m ∨ m = x) := by
  have i_g0 := Pin_g0 I
  clear I
  simp only [Q_g0, pokM, pown, prcv, pgiv, ppge, pfu] at *
  grind
set_option maxHeartbeats 400000 in
theorem pt_add_g1 {has : Prop} {V E H T oG oT w0 w1 w2 w3 lo hi : Int} {st ep hl hh mv ac pt tk et lm pE pA : Nat → Int} {B : Int} {S : (Nat → Int) → Prop} (I : Pin has V E H T oG oT w0 w1 w2 w3 lo hi st ep hl hh mv ac pt tk et lm pE pA B S) (x : (Nat → Int)) (hx : pokM has V E H T oG oT w0 w1 w2 w3 lo hi st ep hl hh mv ac pt tk et lm pE pA B S x)  : Q_g1 has V E H T oG oT w0 w1 w2 w3 lo hi st ep hl hh mv ac pt tk et lm pE pA B (fun m => S m ∨ m = x) := by
  have i_g1 := Pin_g1 I
  clear I
  simp only [Q_g1, pokM, pown, prcv, pgiv, ppge, pfu] at *
  grind
set_option maxHeartbeats 400000 in
theorem pt_add_g2 {has : Prop} {V E H T oG oT w0 w1 w2 w3 lo hi : Int} {st ep hl hh mv ac pt tk et lm pE pA : Nat → Int} {B : Int} {S : (Nat → Int) → Prop} (I : Pin has V E H T oG oT w0 w1 w2 w3 lo hi st ep hl hh mv ac pt tk et lm pE pA B S) (x : (Nat → Int)) (hx : pokM has V E H T oG oT w0 w1 w2 w3 lo hi st ep hl hh mv ac pt tk et lm pE pA B S x)  : Q_g2 has V E H T oG oT w0 w1 w2 w3 lo hi st ep hl hh mv ac pt tk et lm pE pA B (fun m => S m ∨ m = x) := by
  have i_g2 := Pin_g2 I
  clear I
  simp only [Q_g2, pokM, pown, prcv, pgiv, ppge, pfu] at *
  grind
set_option maxHeartbeats 400000 in
theorem pt_add_h7 {has : Prop} {V E H T oG oT w0 w1 w2 w3 lo hi : Int} {st ep hl hh mv ac pt tk et lm pE pA : Nat → Int} {B : Int} {S : (Nat → Int) → Prop} (I : Pin has V E H T oG oT w0 w1 w2 w3 lo hi st ep hl hh mv ac pt tk et lm pE pA B S) (x : (Nat → Int)) (hx : pokM has V E H T oG oT w0 w1 w2 w3 lo hi st ep hl hh mv ac pt tk et lm pE pA B S x)  : Q_h7 has V E H T oG oT w0 w1 w2 w3 lo hi st ep hl hh mv ac pt tk et lm pE pA B (fun m => S m ∨ m = x) := by
  have i_h7 := Pin_h7 I
  clear I
  simp only [Q_h7, pokM, pown, prcv, pgiv, ppge, pfu] at *
  grind
set_option maxHeartbeats 400000 in
theorem pt_add_h9 {has : Prop} {V E H T oG oT w0 w1 w2 w3 lo hi : Int} {st ep hl hh mv ac pt tk et lm pE pA : Nat → Int} {B : Int} {S : (Nat → Int) → Prop} (I : Pin has V E H T oG oT w0 w1 w2 w3 lo hi st ep hl hh mv ac pt tk et lm pE pA B S) (x : (Nat → Int)) (hx : pokM has V E H T oG oT w0 w1 w2 w3 lo hi st ep hl hh mv ac pt tk et lm pE pA B S x)  : Q_h9 has V E H T oG oT w0 w1 w2 w3 lo hi st ep hl hh mv ac pt tk et lm pE pA B (fun m => S m ∨ m = x) := by
  have i_h9 := Pin_h9 I
  clear I
  simp only [Q_h9, pokM, pown, prcv, pgiv, ppge, pfu] at *
  grind
set_option maxHeartbeats 400000 in
theorem pt_add_h10 {has : Prop} {V E H T oG oT w0 w1 w2 w3 lo hi : Int} {st ep hl hh mv ac pt tk et lm pE pA : Nat → Int} {B : Int} {S : (Nat → Int) → Prop} (I : Pin has V E H T oG oT w0 w1 w2 w3 lo hi st ep hl hh mv ac pt tk et lm pE pA B S) (x : (Nat → Int)) (hx : pokM has V E H T oG oT w0 w1 w2 w3 lo hi st ep hl hh mv ac pt tk et lm pE pA B S x)  : Q_h10 has V E H T oG oT w0 w1 w2 w3 lo hi st ep hl hh mv ac pt tk et lm pE pA B (fun m => S m ∨ m = x) := by
  have i_h10 := Pin_h10 I
  clear I
  simp only [Q_h10, pokM, pown, prcv, pgiv, ppge, pfu] at *
  grind
set_option maxHeartbeats 400000 in
theorem pt_add_h11 {has : Prop} {V E H T oG oT w0 w1 w2 w3 lo hi : Int} {st ep hl hh mv ac pt tk et lm pE pA : Nat → Int} {B : Int} {S : (Nat → Int) → Prop} (I : Pin has V E H T oG oT w0 w1 w2 w3 lo hi st ep hl hh mv ac pt tk et lm pE pA B S) (x : (Nat → Int)) (hx : pokM has V E H T oG oT w0 w1 w2 w3 lo hi st ep hl hh mv ac pt tk et lm pE pA B S x)  : Q_h11 has V E H T oG oT w0 w1 w2 w3 lo hi st ep hl hh mv ac pt tk et lm pE pA B (fun m => S m ∨ m = x) := by
  have i_h11 := Pin_h11 I
  clear I
  simp only [Q_h11, pokM, pown, prcv, pgiv, ppge, pfu] at *
  grind
set_option maxHeartbeats 400000 in
theorem pt_add_h12 {has : Prop} {V E H T oG oT w0 w1 w2 w3 lo hi : Int} {st ep hl hh mv ac pt tk et lm pE pA : Nat → Int} {B : Int} {S : (Nat → Int) → Prop} (I : Pin has V E H T oG oT w0 w1 w2 w3 lo hi st ep hl hh mv ac pt tk et lm pE pA B S) (x : (Nat → Int)) (hx : pokM has V E H T oG oT w0 w1 w2 w3 lo hi st ep hl hh mv ac pt tk et lm pE pA B S x)  : Q_h12 has V E H T oG oT w0 w1 w2 w3 lo hi st ep hl hh mv ac pt tk et lm pE pA B (fun m => S m ∨ m = x) := by
  have i_h12 := Pin_h12 I
  clear I
  simp only [Q_h12, pokM, pown, prcv, pgiv, ppge, pfu] at *
  grind
set_option maxHeartbeats 400000 in
theorem pt_add_k1 {has : Prop} {V E H T oG oT w0 w1 w2 w3 lo hi : Int} {st ep hl hh mv ac pt tk et lm pE pA : Nat → Int} {B : Int} {S : (Nat → Int) → Prop} (I : Pin has V E H T oG oT w0 w1 w2 w3 lo hi st ep hl hh mv ac pt tk et lm pE pA B S) (x : (Nat → Int)) (hx : pokM has V E H T oG oT w0 w1 w2 w3 lo hi st ep hl hh mv ac pt tk et lm pE pA B S x)  : Q_k1 has V E H T oG oT w0 w1 w2 w3 lo hi st ep hl hh mv ac pt tk et lm pE pA B (fun m => S m ∨ m = x) := by
  have i_k1 := Pin_k1 I
  clear I
  simp only [Q_k1, pokM, pown, prcv, pgiv, ppge, pfu] at *
  grind
set_option maxHeartbeats 400000 in
theorem pt_add_k2 {has : Prop} {V E H T oG oT w0 w1 w2 w3 lo hi : Int} {st ep hl hh mv ac pt tk et lm pE pA : Nat → Int} {B : Int} {S : (Nat → Int) → Prop} (I : Pin has V E H T oG oT w0 w1 w2 w3 lo hi st ep hl hh mv ac pt tk et lm pE pA B S) (x : (Nat → Int)) (hx : pokM has V E H T oG oT w0 w1 w2 w3 lo hi st ep hl hh mv ac pt tk et lm pE pA B S x)  : Q_k2 has V E H T oG oT w0 w1 w2 w3 lo hi st ep hl hh mv ac pt tk et lm pE pA B (fun m => S m ∨ m = x) := by
  have i_k2 := Pin_k2 I
  clear I
  simp only [Q_k2, pokM, pown, prcv, pgiv, ppge, pfu] at *
  grind
set_option maxHeartbeats 400000 in
theorem pt_add_k8 {has : Prop} {V E H T oG oT w0 w1 w2 w3 lo hi : Int} {st ep hl hh mv ac pt tk et lm pE pA : Nat → Int} {B : Int} {S : (Nat → Int) → Prop} (I : Pin has V E H T oG oT w0 w1 w2 w3 lo hi st ep hl hh mv ac pt tk et lm pE pA B S) (x : (Nat → Int)) (hx : pokM has V E H T oG oT w0 w1 w2 w3 lo hi st ep hl hh mv ac pt tk et lm pE pA B S x)  : Q_k8 has V E H T oG oT w0 w1 w2 w3 lo hi st ep hl hh mv ac pt tk et lm pE pA B (fun m => S m ∨ m = x) := by
  have i_k8 := Pin_k8 I
  clear I
  simp only [Q_k8, pokM, pown, prcv, pgiv, ppge, pfu] at *
  grind
set_option maxHeartbeats 400000 in
theorem pt_add_l4 {has : Prop} {V E H T oG oT w0 w1 w2 w3 lo hi : Int} {st ep hl hh mv ac pt tk et lm pE pA : Nat → Int} {B : Int} {S : (Nat → Int) → Prop} (I : Pin has V E H T oG oT w0 w1 w2 w3 lo hi st ep hl hh mv ac pt tk et lm pE pA B S) (x : (Nat → Int)) (hx : pokM has V E H T oG oT w0 w1 w2 w3 lo hi st ep hl hh mv ac pt tk et lm pE pA B S x)  : Q_l4 has V E H T oG oT w0 w1 w2 w3 lo hi st ep hl hh mv ac pt tk et lm pE pA B (fun m => S m ∨ m = x) := by
  have i_l4 := Pin_l4 I
  clear I
  simp only [Q_l4, pokM, pown, prcv, pgiv, ppge, pfu] at *
  grind
set_option maxHeartbeats 400000 in
theorem pt_add_l5 {has : Prop} {V E H T oG oT w0 w1 w2 w3 lo hi : Int} {st ep hl hh mv ac pt tk et lm pE pA : Nat → Int} {B : Int} {S : (Nat → Int) → Prop} (I : Pin has V E H T oG oT w0 w1 w2 w3 lo hi st ep hl hh mv ac pt tk et lm pE pA B S) (x : (Nat → Int)) (hx : pokM has V E H T oG oT w0 w1 w2 w3 lo hi st ep hl hh mv ac pt tk et lm pE pA B S x)  : Q_l5 has V E H T oG oT w0 w1 w2 w3 lo hi st ep hl hh mv ac pt tk et lm pE pA B (fun m => S m ∨ m = x) := by
  have i_l5 := Pin_l5 I
  clear I
  simp only [Q_l5, pokM, pown, prcv, pgiv, ppge, pfu] at *
  grind
set_option maxHeartbeats 400000 in
theorem pt_add_l3 {has : Prop} {V E H T oG oT w0 w1 w2 w3 lo hi : Int} {st ep hl hh mv ac pt tk et lm pE pA : Nat → Int} {B : Int} {S : (Nat → Int) → Prop} (I : Pin has V E H T oG oT w0 w1 w2 w3 lo hi st ep hl hh mv ac pt tk et lm pE pA B S) (x : (Nat → Int)) (hx : pokM has V E H T oG oT w0 w1 w2 w3 lo hi st ep hl hh mv ac pt tk et lm pE pA B S x)  : Q_l3 has V E H T oG oT w0 w1 w2 w3 lo hi st ep hl hh mv ac pt tk et lm pE pA B (fun m => S m ∨ m = x) := by
  have i_l3 := Pin_l3 I
  clear I
  simp only [Q_l3, pokM, pown, prcv, pgiv, ppge, pfu] at *
  grind
set_option maxHeartbeats 400000 in
theorem pt_add_m1 {has : Prop} {V E H T oG oT w0 w1 w2 w3 lo hi : Int} {st ep hl hh mv ac pt tk et lm pE pA : Nat → Int} {B : Int} {S : (Nat → Int) → Prop} (I : Pin has V E H T oG oT w0 w1 w2 w3 lo hi st ep hl hh mv ac pt tk et lm pE pA B S) (x : (Nat → Int)) (hx : pokM has V E H T oG oT w0 w1 w2 w3 lo hi st ep hl hh mv ac pt tk et lm pE pA B S x)  : Q_m1 has V E H T oG oT w0 w1 w2 w3 lo hi st ep hl hh mv ac pt tk et lm pE pA B (fun m => S m ∨ m = x) := by
  have i_m1 := Pin_m1 I
  clear I
  simp only [Q_m1, pokM, pown, prcv, pgiv, ppge, pfu] at *
  grind
set_option maxHeartbeats 400000 in
theorem pt_add_m2 {has : Prop} {V E H T oG oT w0 w1 w2 w3 lo hi : Int} {st ep hl hh mv ac pt tk et lm pE pA : Nat → Int} {B : Int} {S : (Nat → Int) → Prop} (I : Pin has V E H T oG oT w0 w1 w2 w3 lo hi st ep hl hh mv ac pt tk et lm pE pA B S) (x : (Nat → Int)) (hx : pokM has V E H T oG oT w0 w1 w2 w3 lo hi st ep hl hh mv ac pt tk et lm pE pA B S x)  : Q_m2 has V E H T oG oT w0 w1 w2 w3 lo hi st ep hl hh mv ac pt tk et lm pE pA B (fun m => S m ∨ m = x) := by
  have i_m2 := Pin_m2 I
  clear I
  simp only [Q_m2, pokM, pown, prcv, pgiv, ppge, pfu] at *
  grind
set_option maxHeartbeats 400000 in
theorem pt_add_m3 {has : Prop} {V E H T oG oT w0 w1 w2 w3 lo hi : Int} {st ep hl hh mv ac pt tk et lm pE pA : Nat → Int} {B : Int} {S : (Nat → Int) → Prop} (I : Pin has V E H T oG oT w0 w1 w2 w3 lo hi st ep hl hh mv ac pt tk et lm pE pA B S) (x : (Nat → Int)) (hx : pokM has V E H T oG oT w0 w1 w2 w3 lo hi st ep hl hh mv ac pt tk et lm pE pA B S x)  : Q_m3 has V E H T oG oT w0 w1 w2 w3 lo hi st ep hl hh mv ac pt tk et lm pE pA B (fun m => S m ∨ m = x) := by
  have i_m3 := Pin_m3 I
  clear I
  simp only [Q_m3, pokM, pown, prcv, pgiv, ppge, pfu] at *
  grind
set_option maxHeartbeats 400000 in
theorem pt_add_n0 {has : Prop} {V E H T oG oT w0 w1 w2 w3 lo hi : Int} {st ep hl hh mv ac pt tk et lm pE pA : Nat → Int} {B : Int} {S : (Nat → Int) → Prop} (I : Pin has V E H T oG oT w0 w1 w2 w3 lo hi st ep hl hh mv ac pt tk et lm pE pA B S) (x : (Nat → Int)) (hx : pokM has V E H T oG oT w0 w1 w2 w3 lo hi st ep hl hh mv ac pt tk et lm pE pA B S x)  : Q_n0 has V E H T oG oT w0 w1 w2 w3 lo hi st ep hl hh mv ac pt tk et lm pE pA B (fun m => S m ∨ m = x) := by
  have i_n0 := Pin_n0 I
  clear I
  simp only [Q_n0, pokM, pown, prcv, pgiv, ppge, pfu] at *
  grind
set_option maxHeartbeats 400000 in
theorem pt_add_n1 {has : Prop} {V E H T oG oT w0 w1 w2 w3 lo hi : Int} {st ep hl hh mv ac pt tk et lm pE pA : Nat → Int} {B : Int} {S : (Nat → Int) → Prop} (I : Pin has V E H T oG oT w0 w1 w2 w3 lo hi st ep hl hh mv ac pt tk et lm pE pA B S) (x : (Nat → Int)) (hx : pokM has V E H T oG oT w0 w1 w2 w3 lo hi st ep hl hh mv ac pt tk et lm pE pA B S x)  : Q_n1 has V E H T oG oT w0 w1 w2 w3 lo hi st ep hl hh mv ac pt tk et lm pE pA B (fun m => S m ∨ m = x) := by
  intro hT h t hh' hg ht m hs hk he
  rcases hs with hs | hs
  · exact Pin_n1 I hT h t hh' hg ht m hs hk he
  · subst hs
    exact hx.2.2.2.2.2.2.2.2.2.2.2.2.2.2.1 hT h t hh' hg ht hk he
set_option maxHeartbeats 400000 in
theorem pt_add_n2 {has : Prop} {V E H T oG oT w0 w1 w2 w3 lo hi : Int} {st ep hl hh mv ac pt tk et lm pE pA : Nat → Int} {B : Int} {S : (Nat → Int) → Prop} (I : Pin has V E H T oG oT w0 w1 w2 w3 lo hi st ep hl hh mv ac pt tk et lm pE pA B S) (x : (Nat → Int)) (hx : pokM has V E H T oG oT w0 w1 w2 w3 lo hi st ep hl hh mv ac pt tk et lm pE pA B S x)  : Q_n2 has V E H T oG oT w0 w1 w2 w3 lo hi st ep hl hh mv ac pt tk et lm pE pA B (fun m => S m ∨ m = x) := by
  intro hT h t hh' hg ht m hs hk he
  rcases hs with hs | hs
  · exact Pin_n2 I hT h t hh' hg ht m hs hk he
  · subst hs
    exact hx.2.2.2.2.2.2.2.2.2.2.2.2.2.2.2.1 hT h t hh' hg ht hk he
set_option maxHeartbeats 400000 in
theorem pt_add_n3 {has : Prop} {V E H T oG oT w0 w1 w2 w3 lo hi : Int} {st ep hl hh mv ac pt tk et lm pE pA : Nat → Int} {B : Int} {S : (Nat → Int) → Prop} (I : Pin has V E H T oG oT w0 w1 w2 w3 lo hi st ep hl hh mv ac pt tk et lm pE pA B S) (x : (Nat → Int)) (hx : pokM has V E H T oG oT w0 w1 w2 w3 lo hi st ep hl hh mv ac pt tk et lm pE pA B S x)  : Q_n3 has V E H T oG oT w0 w1 w2 w3 lo hi st ep hl hh mv ac pt tk et lm pE pA B (fun m => S m ∨ m = x) := by
  have i_n3 := Pin_n3 I
  clear I
  simp only [Q_n3, pokM, pown, prcv, pgiv, ppge, pfu] at *
  grind
set_option maxHeartbeats 400000 in
theorem pt_add_n4 {has : Prop} {V E H T oG oT w0 w1 w2 w3 lo hi : Int} {st ep hl hh mv ac pt tk et lm pE pA : Nat → Int} {B : Int} {S : (Nat → Int) → Prop} (I : Pin has V E H T oG oT w0 w1 w2 w3 lo hi st ep hl hh mv ac pt tk et lm pE pA B S) (x : (Nat → Int)) (hx : pokM has V E H T oG oT w0 w1 w2 w3 lo hi st ep hl hh mv ac pt tk et lm pE pA B S x)  : Q_n4 has V E H T oG oT w0 w1 w2 w3 lo hi st ep hl hh mv ac pt tk et lm pE pA B (fun m => S m ∨ m = x) := by
  have i_n4 := Pin_n4 I
  clear I
  simp only [Q_n4, pokM, pown, prcv, pgiv, ppge, pfu] at *
  grind
set_option maxHeartbeats 400000 in
theorem pt_add_n5 {has : Prop} {V E H T oG oT w0 w1 w2 w3 lo hi : Int} {st ep hl hh mv ac pt tk et lm pE pA : Nat → Int} {B : Int} {S : (Nat → Int) → Prop} (I : Pin has V E H T oG oT w0 w1 w2 w3 lo hi st ep hl hh mv ac pt tk et lm pE pA B S) (x : (Nat → Int)) (hx : pokM has V E H T oG oT w0 w1 w2 w3 lo hi st ep hl hh mv ac pt tk et lm pE pA B S x)  : Q_n5 has V E H T oG oT w0 w1 w2 w3 lo hi st ep hl hh mv ac pt tk et lm pE pA B (fun m => S m ∨ m = x) := by
  have i_n5 := Pin_n5 I
  clear I
  simp only [Q_n5, pokM, pown, prcv, pgiv, ppge, pfu] at *
  grind
set_option maxHeartbeats 400000 in
theorem pt_add_n6 {has : Prop} {V E H T oG oT w0 w1 w2 w3 lo hi : Int} {st ep hl hh mv ac pt tk et lm pE pA : Nat → Int} {B : Int} {S : (Nat → Int) → Prop} (I : Pin has V E H T oG oT w0 w1 w2 w3 lo hi st ep hl hh mv ac pt tk et lm pE pA B S) (x : (Nat → Int)) (hx : pokM has V E H T oG oT w0 w1 w2 w3 lo hi st ep hl hh mv ac pt tk et lm pE pA B S x)  : Q_n6 has V E H T oG oT w0 w1 w2 w3 lo hi st ep hl hh mv ac pt tk et lm pE pA B (fun m => S m ∨ m = x) := by
  have i_n6 := Pin_n6 I
  clear I
  simp only [Q_n6, pokM, pown, prcv, pgiv, ppge, pfu] at *
  grind
set_option maxHeartbeats 400000 in
theorem pt_add_n7 {has : Prop} {V E H T oG oT w0 w1 w2 w3 lo hi : Int} {st ep hl hh mv ac pt tk et lm pE pA : Nat → Int} {B : Int} {S : (Nat → Int) → Prop} (I : Pin has V E H T oG oT w0 w1 w2 w3 lo hi st ep hl hh mv ac pt tk et lm pE pA B S) (x : (Nat → Int)) (hx : pokM has V E H T oG oT w0 w1 w2 w3 lo hi st ep hl hh mv ac pt tk et lm pE pA B S x)  : Q_n7 has V E H T oG oT w0 w1 w2 w3 lo hi st ep hl hh mv ac pt tk et lm pE pA B (fun m => S m ∨ m = x) := by
  have i_n7 := Pin_n7 I
  clear I
  simp only [Q_n7, pokM, pown, prcv, pgiv, ppge, pfu] at *
  grind
set_option maxHeartbeats 400000 in
theorem pt_add_o {has : Prop} {V E H T oG oT w0 w1 w2 w3 lo hi : Int} {st ep hl hh mv ac pt tk et lm pE pA : Nat → Int} {B : Int} {S : (Nat → Int) → Prop} (I : Pin has V E H T oG oT w0 w1 w2 w3 lo hi st ep hl hh mv ac pt tk et lm pE pA B S) (x : (Nat → Int)) (hx : pokM has V E H T oG oT w0 w1 w2 w3 lo hi st ep hl hh mv ac pt tk et lm pE pA B S x)  : Q_o has V E H T oG oT w0 w1 w2 w3 lo hi st ep hl hh mv ac pt tk et lm pE pA B (fun m => S m ∨ m = x) := by
  have i_o := Pin_o I
  clear I
  simp only [Q_o, pokM, pown, prcv, pgiv, ppge, pfu] at *
  grind
set_option maxHeartbeats 400000 in
theorem pt_add_p {has : Prop} {V E H T oG oT w0 w1 w2 w3 lo hi : Int} {st ep hl hh mv ac pt tk et lm pE pA : Nat → Int} {B : Int} {S : (Nat → Int) → Prop} (I : Pin has V E H T oG oT w0 w1 w2 w3 lo hi st ep hl hh mv ac pt tk et lm pE pA B S) (x : (Nat → Int)) (hx : pokM has V E H T oG oT w0 w1 w2 w3 lo hi st ep hl hh mv ac pt tk et lm pE pA B S x)  : Q_p has V E H T oG oT w0 w1 w2 w3 lo hi st ep hl hh mv ac pt tk et lm pE pA B (fun m => S m ∨ m = x) := by
  have i_p := Pin_p I
  clear I
  simp only [Q_p, pokM, pown, prcv, pgiv, ppge, pfu] at *
  grind
set_option maxHeartbeats 400000 in
theorem pt_add_q {has : Prop} {V E H T oG oT w0 w1 w2 w3 lo hi : Int} {st ep hl hh mv ac pt tk et lm pE pA : Nat → Int} {B : Int} {S : (Nat → Int) → Prop} (I : Pin has V E H T oG oT w0 w1 w2 w3 lo hi st ep hl hh mv ac pt tk et lm pE pA B S) (x : (Nat → Int)) (hx : pokM has V E H T oG oT w0 w1 w2 w3 lo hi st ep hl hh mv ac pt tk et lm pE pA B S x)  : Q_q has V E H T oG oT w0 w1 w2 w3 lo hi st ep hl hh mv ac pt tk et lm pE pA B (fun m => S m ∨ m = x) := by
  have i_q := Pin_q I
  clear I
  simp only [Q_q, pokM, pown, prcv, pgiv, ppge, pfu] at *
  grind
set_option maxHeartbeats 400000 in
theorem pt_add_q2 {has : Prop} {V E H T oG oT w0 w1 w2 w3 lo hi : Int} {st ep hl hh mv ac pt tk et lm pE pA : Nat → Int} {B : Int} {S : (Nat → Int) → Prop} (I : Pin has V E H T oG oT w0 w1 w2 w3 lo hi st ep hl hh mv ac pt tk et lm pE pA B S) (x : (Nat → Int)) (hx : pokM has V E H T oG oT w0 w1 w2 w3 lo hi st ep hl hh mv ac pt tk et lm pE pA B S x)  : Q_q2 has V E H T oG oT w0 w1 w2 w3 lo hi st ep hl hh mv ac pt tk et lm pE pA B (fun m => S m ∨ m = x) := by
  have i_q2 := Pin_q2 I
  clear I
  simp only [Q_q2, pokM, pown, prcv, pgiv, ppge, pfu] at *
  grind
set_option maxHeartbeats 400000 in
theorem pt_add_q3 {has : Prop} {V E H T oG oT w0 w1 w2 w3 lo hi : Int} {st ep hl hh mv ac pt tk et lm pE pA : Nat → Int} {B : Int} {S : (Nat → Int) → Prop} (I : Pin has V E H T oG oT w0 w1 w2 w3 lo hi st ep hl hh mv ac pt tk et lm pE pA B S) (x : (Nat → Int)) (hx : pokM has V E H T oG oT w0 w1 w2 w3 lo hi st ep hl hh mv ac pt tk et lm pE pA B S x)  : Q_q3 has V E H T oG oT w0 w1 w2 w3 lo hi st ep hl hh mv ac pt tk et lm pE pA B (fun m => S m ∨ m = x) := by
  have i_q3 := Pin_q3 I
  clear I
  simp only [Q_q3, pokM, pown, prcv, pgiv, ppge, pfu] at *
  grind
set_option maxHeartbeats 400000 in
theorem pt_add_w {has : Prop} {V E H T oG oT w0 w1 w2 w3 lo hi : Int} {st ep hl hh mv ac pt tk et lm pE pA : Nat → Int} {B : Int} {S : (Nat → Int) → Prop} (I : Pin has V E H T oG oT w0 w1 w2 w3 lo hi st ep hl hh mv ac pt tk et lm pE pA B S) (x : (Nat → Int)) (hx : pokM has V E H T oG oT w0 w1 w2 w3 lo hi st ep hl hh mv ac pt tk et lm pE pA B S x)  : Q_w has V E H T oG oT w0 w1 w2 w3 lo hi st ep hl hh mv ac pt tk et lm pE pA B (fun m => S m ∨ m = x) := by
  have i_w := Pin_w I
  clear I
  simp only [Q_w, pokM, pown, prcv, pgiv, ppge, pfu] at *
  grind
theorem pt_add {has : Prop} {V E H T oG oT w0 w1 w2 w3 lo hi : Int} {st ep hl hh mv ac pt tk et lm pE pA : Nat → Int} {B : Int} {S : (Nat → Int) → Prop} (I : Pin has V E H T oG oT w0 w1 w2 w3 lo hi st ep hl hh mv ac pt tk et lm pE pA B S) (x : (Nat → Int)) (hx : pokM has V E H T oG oT w0 w1 w2 w3 lo hi st ep hl hh mv ac pt tk et lm pE pA B S x) : Pin has V E H T oG oT w0 w1 w2 w3 lo hi st ep hl hh mv ac pt tk et lm pE pA B (fun m => S m ∨ m = x) := by
  exact ⟨pt_add_v0 I x hx , pt_add_a I x hx , pt_add_b I x hx , pt_add_c I x hx , pt_add_d I x hx , pt_add_e I x hx , pt_add_f I x hx , pt_add_f2 I x hx , pt_add_f3 I x hx , pt_add_g I x hx , pt_add_g0 I x hx , pt_add_g1 I x hx , pt_add_g2 I x hx , pt_add_h7 I x hx , pt_add_h9 I x hx , pt_add_h10 I x hx , pt_add_h11 I x hx , pt_add_h12 I x hx , pt_add_k1 I x hx , pt_add_k2 I x hx , pt_add_k8 I x hx , pt_add_l4 I x hx , pt_add_l5 I x hx , pt_add_l3 I x hx , pt_add_m1 I x hx , pt_add_m2 I x hx , pt_add_m3 I x hx , pt_add_n0 I x hx , pt_add_n1 I x hx , pt_add_n2 I x hx , pt_add_n3 I x hx , pt_add_n4 I x hx , pt_add_n5 I x hx , pt_add_n6 I x hx , pt_add_n7 I x hx , pt_add_o I x hx , pt_add_p I x hx , pt_add_q I x hx , pt_add_q2 I x hx , pt_add_q3 I x hx , pt_add_w I x hx ⟩
set_option maxHeartbeats 400000 in
theorem pt_raise_v0 {has : Prop} {V E H T oG oT w0 w1 w2 w3 lo hi : Int} {st ep hl hh mv ac pt tk et lm pE pA : Nat → Int} {B : Int} {S : (Nat → Int) → Prop} (I : Pin has V E H T oG oT w0 w1 w2 w3 lo hi st ep hl hh mv ac pt tk et lm pE pA B S) (y : Int) (hy : B ≤ y)  : Q_v0 has V E H T oG oT w0 w1 w2 w3 lo hi st ep hl hh mv ac pt tk et lm pE pA (y) S := by
  have i_v0 := Pin_v0 I
  clear I
  simp only [Q_v0, pokM, pown, prcv, pgiv, ppge, pfu] at *
  grind
set_option maxHeartbeats 400000 in
theorem pt_raise_a {has : Prop} {V E H T oG oT w0 w1 w2 w3 lo hi : Int} {st ep hl hh mv ac pt tk et lm pE pA : Nat → Int} {B : Int} {S : (Nat → Int) → Prop} (I : Pin has V E H T oG oT w0 w1 w2 w3 lo hi st ep hl hh mv ac pt tk et lm pE pA B S) (y : Int) (hy : B ≤ y)  : Q_a has V E H T oG oT w0 w1 w2 w3 lo hi st ep hl hh mv ac pt tk et lm pE pA (y) S := by
  have i_a := Pin_a I
  clear I
  simp only [Q_a, pokM, pown, prcv, pgiv, ppge, pfu] at *
  grind
set_option maxHeartbeats 400000 in
theorem pt_raise_b {has : Prop} {V E H T oG oT w0 w1 w2 w3 lo hi : Int} {st ep hl hh mv ac pt tk et lm pE pA : Nat → Int} {B : Int} {S : (Nat → Int) → Prop} (I : Pin has V E H T oG oT w0 w1 w2 w3 lo hi st ep hl hh mv ac pt tk et lm pE pA B S) (y : Int) (hy : B ≤ y)  : Q_b has V E H T oG oT w0 w1 w2 w3 lo hi st ep hl hh mv ac pt tk et lm pE pA (y) S := by
  have i_b := Pin_b I
  clear I
  simp only [Q_b, pokM, pown, prcv, pgiv, ppge, pfu] at *
  grind
set_option maxHeartbeats 400000 in
theorem pt_raise_c {has : Prop} {V E H T oG oT w0 w1 w2 w3 lo hi : Int} {st ep hl hh mv ac pt tk et lm pE pA : Nat → Int} {B : Int} {S : (Nat → Int) → Prop} (I : Pin has V E H T oG oT w0 w1 w2 w3 lo hi st ep hl hh mv ac pt tk et lm pE pA B S) (y : Int) (hy : B ≤ y)  : Q_c has V E H T oG oT w0 w1 w2 w3 lo hi st ep hl hh mv ac pt tk et lm pE pA (y) S := by
  have i_c := Pin_c I
  clear I
  simp only [Q_c, pokM, pown, prcv, pgiv, ppge, pfu] at *
  grind
set_option maxHeartbeats 400000 in
theorem pt_raise_d {has : Prop} {V E H T oG oT w0 w1 w2 w3 lo hi : Int} {st ep hl hh mv ac pt tk et lm pE pA : Nat → Int} {B : Int} {S : (Nat → Int) → Prop} (I : Pin has V E H T oG oT w0 w1 w2 w3 lo hi st ep hl hh mv ac pt tk et lm pE pA B S) (y : Int) (hy : B ≤ y)  : Q_d has V E H T oG oT w0 w1 w2 w3 lo hi st ep hl hh mv ac pt tk et lm pE pA (y) S := by
  have i_d := Pin_d I
  clear I
  simp only [Q_d, pokM, pown, prcv, pgiv, ppge, pfu] at *
  grind
set_option maxHeartbeats 400000 in
theorem pt_raise_e {has : Prop} {V E H T oG oT w0 w1 w2 w3 lo hi : Int} {st ep hl hh mv ac pt tk et lm pE pA : Nat → Int} {B : Int} {S : (Nat → Int) → Prop} (I : Pin has V E H T oG oT w0 w1 w2 w3 lo hi st ep hl hh mv ac pt tk et lm pE pA B S) (y : Int) (hy : B ≤ y)  : Q_e has V E H T oG oT w0 w1 w2 w3 lo hi st ep hl hh mv ac pt tk et lm pE pA (y) S := by
  have i_e := Pin_e I
  clear I
  simp only [Q_e, pokM, pown, prcv, pgiv, ppge, pfu] at *
  grind
set_option maxHeartbeats 400000 in
theorem pt_raise_f {has : Prop} {V E H T oG oT w0 w1 w2 w3 lo hi : Int} {st ep hl hh mv ac pt tk et lm pE pA : Nat → Int} {B : Int} {S : (Nat → Int) → Prop} (I : Pin has V E H T oG oT w0 w1 w2 w3 lo hi st ep hl hh mv ac pt tk et lm pE pA B S) (y : Int) (hy : B ≤ y)  : Q_f has V E H T oG oT w0 w1 w2 w3 lo hi st ep hl hh mv ac pt tk et lm pE pA (y) S := by
  have i_f := Pin_f I
  clear I
  simp only [Q_f, pokM, pown, prcv, pgiv, ppge, pfu] at *
  grind
set_option maxHeartbeats 400000 in
theorem pt_raise_f2 {has : Prop} {V E H T oG oT w0 w1 w2 w3 lo hi : Int} {st ep hl hh mv ac pt tk et lm pE pA : Nat → Int} {B : Int} {S : (Nat → Int) → Prop} (I : Pin has V E H T oG oT w0 w1 w2 w3 lo hi st ep hl hh mv ac pt tk et lm pE pA B S) (y : Int) (hy : B ≤ y)  : Q_f2 has V E H T oG oT w0 w1 w2 w3 lo hi st ep hl hh mv ac pt tk et lm pE pA (y) S := by
  have i_f2 := Pin_f2 I
  clear I
  simp only [Q_f2, pokM, pown, prcv, pgiv, ppge, pfu] at *
  grind
set_option maxHeartbeats 400000 in
theorem pt_raise_f3 {has : Prop} {V E H T oG oT w0 w1 w2 w3 lo hi : Int} {st ep hl hh mv ac pt tk et lm pE pA : Nat → Int} {B : Int} {S : (Nat → Int) → Prop} (I : Pin has V E H T oG oT w0 w1 w2 w3 lo hi st ep hl hh mv ac pt tk et lm pE pA B S) (y : Int) (hy : B ≤ y)  : Q_f3 has V E H T oG oT w0 w1 w2 w3 lo hi st ep hl hh mv ac pt tk et lm pE pA (y) S := by
  have i_f3 := Pin_f3 I
  clear I
  simp only [Q_f3, pokM, pown, prcv, pgiv, ppge, pfu] at *
  grind
set_option maxHeartbeats 400000 in
theorem pt_raise_g {has : Prop} {V E H T oG oT w0 w1 w2 w3 lo hi : Int} {st ep hl hh mv ac pt tk et lm pE pA : Nat → Int} {B : Int} {S : (Nat → Int) → Prop} (I : Pin has V E H T oG oT w0 w1 w2 w3 lo hi st ep hl hh mv ac pt tk et lm pE pA B S) (y : Int) (hy : B ≤ y)  : Q_g has V E H T oG oT w0 w1 w2 w3 lo hi st ep hl hh mv ac pt tk et lm pE pA (y) S := by
  have i_g := Pin_g I
  clear I
  simp only [Q_g, pokM, pown, prcv, pgiv, ppge, pfu] at *
  grind
set_option maxHeartbeats 400000 in
theorem pt_raise_g0 {has : Prop} {V E H T oG oT w0 w1 w2 w3 lo hi : Int} {st ep hl hh mv ac pt tk et lm pE pA : Nat → Int} {B : Int} {S : (Nat → Int) → Prop} (I : Pin has V E H T oG oT w0 w1 w2 w3 lo hi st ep hl hh mv ac pt tk et lm pE pA B S) (y : Int) (hy : B ≤ y)  : Q_g0 has V E H T oG oT w0 w1 w2 w3 lo hi st ep hl hh mv ac pt tk et lm pE pA (y) S := by
  have i_g0 := Pin_g0 I
  clear I
  simp only [Q_g0, pokM, pown, prcv, pgiv, ppge, pfu] at *
  grind
set_option maxHeartbeats 400000 in
theorem pt_raise_g1 {has : Prop} {V E H T oG oT w0 w1 w2 w3 lo hi : Int} {st ep hl hh mv ac pt tk et lm pE pA : Nat → Int} {B : Int} {S : (Nat → Int) → Prop} (I : Pin has V E H T oG oT w0 w1 w2 w3 lo hi st ep hl hh mv ac pt tk et lm pE pA B S) (y : Int) (hy : B ≤ y)  : Q_g1 has V E H T oG oT w0 w1 w2 w3 lo hi st ep hl hh mv ac pt tk et lm pE pA (y) S := by
  have i_g1 := Pin_g1 I
  clear I
  simp only [Q_g1, pokM, pown, prcv, pgiv, ppge, pfu] at *
  grind
set_option maxHeartbeats 400000 in
theorem pt_raise_g2 {has : Prop} {V E H T oG oT w0 w1 w2 w3 lo hi : Int} {st ep hl hh mv ac pt tk et lm pE pA : Nat → Int} {B : Int} {S : (Nat → Int) → Prop} (I : Pin has V E H T oG oT w0 w1 w2 w3 lo hi st ep hl hh mv ac pt tk et lm pE pA B S) (y : Int) (hy : B ≤ y)  : Q_g2 has V E H T oG oT w0 w1 w2 w3 lo hi st ep hl hh mv ac pt tk et lm pE pA (y) S := by
  have i_g2 := Pin_g2 I
  clear I
  simp only [Q_g2, pokM, pown, prcv, pgiv, ppge, pfu] at *
  grind
set_option maxHeartbeats 400000 in
theorem pt_raise_h7 {has : Prop} {V E H T oG oT w0 w1 w2 w3 lo hi : Int} {st ep hl hh mv ac pt tk et lm pE pA : Nat → Int} {B : Int} {S : (Nat → Int) → Prop} (I : Pin has V E H T oG oT w0 w1 w2 w3 lo hi st ep hl hh mv ac pt tk et lm pE pA B S) (y : Int) (hy : B ≤ y)  : Q_h7 has V E H T oG oT w0 w1 w2 w3 lo hi st ep hl hh mv ac pt tk et lm pE pA (y) S := by
  have i_h7 := Pin_h7 I
  clear I
  simp only [Q_h7, pokM, pown, prcv, pgiv, ppge, pfu] at *
  grind
set_option maxHeartbeats 400000 in
theorem pt_raise_h9 {has : Prop} {V E H T oG oT w0 w1 w2 w3 lo hi : Int} {st ep hl hh mv ac pt tk et lm pE pA : Nat → Int} {B : Int} {S : (Nat → Int) → Prop} (I : Pin has V E H T oG oT w0 w1 w2 w3 lo hi st ep hl hh mv ac pt tk et lm pE pA B S) (y : Int) (hy : B ≤ y)  : Q_h9 has V E H T oG oT w0 w1 w2 w3 lo hi st ep hl hh mv ac pt tk et lm pE pA (y) S := by
  have i_h9 := Pin_h9 I
  clear I
  simp only [Q_h9, pokM, pown, prcv, pgiv, ppge, pfu] at *
  grind
set_option maxHeartbeats 400000 in
theorem pt_raise_h10 {has : Prop} {V E H T oG oT w0 w1 w2 w3 lo hi : Int} {st ep hl hh mv ac pt tk et lm pE pA : Nat → Int} {B : Int} {S : (Nat → Int) → Prop} (I : Pin has V E H T oG oT w0 w1 w2 w3 lo hi st ep hl hh mv ac pt tk et lm pE pA B S) (y : Int) (hy : B ≤ y)  : Q_h10 has V E H T oG oT w0 w1 w2 w3 lo hi st ep hl hh mv ac pt tk et lm pE pA (y) S := by
  have i_h10 := Pin_h10 I
  clear I
  simp only [Q_h10, pokM, pown, prcv, pgiv, ppge, pfu] at *
  grind
set_option maxHeartbeats 400000 in
theorem pt_raise_h11 {has : Prop} {V E H T oG oT w0 w1 w2 w3 lo hi : Int} {st ep hl hh mv ac pt tk et lm pE pA : Nat → Int} {B : Int} {S : (Nat → Int) → Prop} (I : Pin has V E H T oG oT w0 w1 w2 w3 lo hi st ep hl hh mv ac pt tk et lm pE pA B S) (y : Int) (hy : B ≤ y)  : Q_h11 has V E H T oG oT w0 w1 w2 w3 lo hi st ep hl hh mv ac pt tk et lm pE pA (y) S := by
  have i_h11 := Pin_h11 I
  clear I
  simp only [Q_h11, pokM, pown, prcv, pgiv, ppge, pfu] at *
  grind
set_option maxHeartbeats 400000 in
theorem pt_raise_h12 {has : Prop} {V E H T oG oT w0 w1 w2 w3 lo hi : Int} {st ep hl hh mv ac pt tk et lm pE pA : Nat → Int} {B : Int} {S : (Nat → Int) → Prop} (I : Pin has V E H T oG oT w0 w1 w2 w3 lo hi st ep hl hh mv ac pt tk et lm pE pA B S) (y : Int) (hy : B ≤ y)  : Q_h12 has V E H T oG oT w0 w1 w2 w3 lo hi st ep hl hh mv ac pt tk et lm pE pA (y) S := by
  have i_h12 := Pin_h12 I
  clear I
  simp only [Q_h12, pokM, pown, prcv, pgiv, ppge, pfu] at *
  grind
set_option maxHeartbeats 400000 in
theorem pt_raise_k1 {has : Prop} {V E H T oG oT w0 w1 w2 w3 lo hi : Int} {st ep hl hh mv ac pt tk et lm pE pA : Nat → Int} {B : Int} {S : (Nat → Int) → Prop} (I : Pin has V E H T oG oT w0 w1 w2 w3 lo hi st ep hl hh mv ac pt tk et lm pE pA B S) (y : Int) (hy : B ≤ y)  : Q_k1 has V E H T oG oT w0 w1 w2 w3 lo hi st ep hl hh mv ac pt tk et lm pE pA (y) S := by
  have i_k1 := Pin_k1 I
  clear I
  simp only [Q_k1, pokM, pown, prcv, pgiv, ppge, pfu] at *
  grind
set_option maxHeartbeats 400000 in
theorem pt_raise_k2 {has : Prop} {V E H T oG oT w0 w1 w2 w3 lo hi : Int} {st ep hl hh mv ac pt tk et lm pE pA : Nat → Int} {B : Int} {S : (Nat → Int) → Prop} (I : Pin has V E H T oG oT w0 w1 w2 w3 lo hi st ep hl hh mv ac pt tk et lm pE pA B S) (y : Int) (hy : B ≤ y)  : Q_k2 has V E H T oG oT w0 w1 w2 w3 lo hi st ep hl hh mv ac pt tk et lm pE pA (y) S := by
  have i_k2 := Pin_k2 I
  clear I
  simp only [Q_k2, pokM, pown, prcv, pgiv, ppge, pfu] at *
  grind
set_option maxHeartbeats 400000 in
theorem pt_raise_k8 {has : Prop} {V E H T oG oT w0 w1 w2 w3 lo hi : Int} {st ep hl hh mv ac pt tk et lm pE pA : Nat → Int} {B : Int} {S : (Nat → Int) → Prop} (I : Pin has V E H T oG oT w0 w1 w2 w3 lo hi st ep hl hh mv ac pt tk et lm pE pA B S) (y : Int) (hy : B ≤ y)  : Q_k8 has V E H T oG oT w0 w1 w2 w3 lo hi st ep hl hh mv ac pt tk et lm pE pA (y) S := by
  have i_k8 := Pin_k8 I
  clear I
  simp only [Q_k8, pokM, pown, prcv, pgiv, ppge, pfu] at *
  grind
set_option maxHeartbeats 400000 in
theorem pt_raise_l4 {has : Prop} {V E H T oG oT w0 w1 w2 w3 lo hi : Int} {st ep hl hh mv ac pt tk et lm pE pA : Nat → Int} {B : Int} {S : (Nat → Int) → Prop} (I : Pin has V E H T oG oT w0 w1 w2 w3 lo hi st ep hl hh mv ac pt tk et lm pE pA B S) (y : Int) (hy : B ≤ y)  : Q_l4 has V E H T oG oT w0 w1 w2 w3 lo hi st ep hl hh mv ac pt tk et lm pE pA (y) S := by
  have i_l4 := Pin_l4 I
  clear I
  simp only [Q_l4, pokM, pown, prcv, pgiv, ppge, pfu] at *
  grind
set_option maxHeartbeats 400000 in
theorem pt_raise_l5 {has : Prop} {V E H T oG oT w0 w1 w2 w3 lo hi : Int} {st ep hl hh mv ac pt tk et lm pE pA : Nat → Int} {B : Int} {S : (Nat → Int) → Prop} (I : Pin has V E H T oG oT w0 w1 w2 w3 lo hi st ep hl hh mv ac pt tk et lm pE pA B S) (y : Int) (hy : B ≤ y)  : Q_l5 has V E H T oG oT w0 w1 w2 w3 lo hi st ep hl hh mv ac pt tk et lm pE pA (y) S := by
  have i_l5 := Pin_l5 I
  clear I
  simp only [Q_l5, pokM, pown, prcv, pgiv, ppge, pfu] at *
  grind
set_option maxHeartbeats 400000 in
theorem pt_raise_l3 {has : Prop} {V E H T oG oT w0 w1 w2 w3 lo hi : Int} {st ep hl hh mv ac pt tk et lm pE pA : Nat → Int} {B : Int} {S : (Nat → Int) → Prop} (I : Pin has V E H T oG oT w0 w1 w2 w3 lo hi st ep hl hh mv ac pt tk et lm pE pA B S) (y : Int) (hy : B ≤ y)  : Q_l3 has V E H T oG oT w0 w1 w2 w3 lo hi st ep hl hh mv ac pt tk et lm pE pA (y) S := by
  have i_l3 := Pin_l3 I
  clear I
  simp only [Q_l3, pokM, pown, prcv, pgiv, ppge, pfu] at *
  grind
set_option maxHeartbeats 400000 in
theorem pt_raise_m1 {has : Prop} {V E H T oG oT w0 w1 w2 w3 lo hi : Int} {st ep hl hh mv ac pt tk et lm pE pA : Nat → Int} {B : Int} {S : (Nat → Int) → Prop} (I : Pin has V E H T oG oT w0 w1 w2 w3 lo hi st ep hl hh mv ac pt tk et lm pE pA B S) (y : Int) (hy : B ≤ y)  : Q_m1 has V E H T oG oT w0 w1 w2 w3 lo hi st ep hl hh mv ac pt tk et lm pE pA (y) S := by
  have i_m1 := Pin_m1 I
  clear I
  simp only [Q_m1, pokM, pown, prcv, pgiv, ppge, pfu] at *
  grind
set_option maxHeartbeats 400000 in
theorem pt_raise_m2 {has : Prop} {V E H T oG oT w0 w1 w2 w3 lo hi : Int} {st ep hl hh mv ac pt tk et lm pE pA : Nat → Int} {B : Int} {S : (Nat → Int) → Prop} (I : Pin has V E H T oG oT w0 w1 w2 w3 lo hi st ep hl hh mv ac pt tk et lm pE pA B S) (y : Int) (hy : B ≤ y)  : Q_m2 has V E H T oG oT w0 w1 w2 w3 lo hi st ep hl hh mv ac pt tk et lm pE pA (y) S := by
  have i_m2 := Pin_m2 I
  clear I
  simp only [Q_m2, pokM, pown, prcv, pgiv, ppge, pfu] at *
  grind
set_option maxHeartbeats 400000 in
theorem pt_raise_m3 {has : Prop} {V E H T oG oT w0 w1 w2 w3 lo hi : Int} {st ep hl hh mv ac pt tk et lm pE pA : Nat → Int} {B : Int} {S : (Nat → Int) → Prop} (I : Pin has V E H T oG oT w0 w1 w2 w3 lo hi st ep hl hh mv ac pt tk et lm pE pA B S) (y : Int) (hy : B ≤ y)  : Q_m3 has V E H T oG oT w0 w1 w2 w3 lo hi st ep hl hh mv ac pt tk et lm pE pA (y) S := by
  have i_m3 := Pin_m3 I
  clear I
  simp only [Q_m3, pokM, pown, prcv, pgiv, ppge, pfu] at *
  grind
set_option maxHeartbeats 400000 in
theorem pt_raise_n0 {has : Prop} {V E H T oG oT w0 w1 w2 w3 lo hi : Int} {st ep hl hh mv ac pt tk et lm pE pA : Nat → Int} {B : Int} {S : (Nat → Int) → Prop} (I : Pin has V E H T oG oT w0 w1 w2 w3 lo hi st ep hl hh mv ac pt tk et lm pE pA B S) (y : Int) (hy : B ≤ y)  : Q_n0 has V E H T oG oT w0 w1 w2 w3 lo hi st ep hl hh mv ac pt tk et lm pE pA (y) S := by
  have i_n0 := Pin_n0 I
  clear I
  simp only [Q_n0, pokM, pown, prcv, pgiv, ppge, pfu] at *
  grind
set_option maxHeartbeats 400000 in
theorem pt_raise_n1 {has : Prop} {V E H T oG oT w0 w1 w2 w3 lo hi : Int} {st ep hl hh mv ac pt tk et lm pE pA : Nat → Int} {B : Int} {S : (Nat → Int) → Prop} (I : Pin has V E H T oG oT w0 w1 w2 w3 lo hi st ep hl hh mv ac pt tk et lm pE pA B S) (y : Int) (hy : B ≤ y)  : Q_n1 has V E H T oG oT w0 w1 w2 w3 lo hi st ep hl hh mv ac pt tk et lm pE pA (y) S := by
  have i_n1 := Pin_n1 I
  clear I
  simp only [Q_n1, pokM, pown, prcv, pgiv, ppge, pfu] at *
  grind
set_option maxHeartbeats 400000 in
theorem pt_raise_n2 {has : Prop} {V E H T oG oT w0 w1 w2 w3 lo hi : Int} {st ep hl hh mv ac pt tk et lm pE pA : Nat → Int} {B : Int} {S : (Nat → Int) → Prop} (I : Pin has V E H T oG oT w0 w1 w2 w3 lo hi st ep hl hh mv ac pt tk et lm pE pA B S) (y : Int) (hy : B ≤ y)  : Q_n2 has V E H T oG oT w0 w1 w2 w3 lo hi st ep hl hh mv ac pt tk et lm pE pA (y) S := by
  have i_n2 := Pin_n2 I
  clear I
  simp only [Q_n2, pokM, pown, prcv, pgiv, ppge, pfu] at *
  grind
set_option maxHeartbeats 400000 in
theorem pt_raise_n3 {has : Prop} {V E H T oG oT w0 w1 w2 w3 lo hi : Int} {st ep hl hh mv ac pt tk et lm pE pA : Nat → Int} {B : Int} {S : (Nat → Int) → Prop} (I : Pin has V E H T oG oT w0 w1 w2 w3 lo hi st ep hl hh mv ac pt tk et lm pE pA B S) (y : Int) (hy : B ≤ y)  : Q_n3 has V E H T oG oT w0 w1 w2 w3 lo hi st ep hl hh mv ac pt tk et lm pE pA (y) S := by
  have i_n3 := Pin_n3 I
  clear I
  simp only [Q_n3, pokM, pown, prcv, pgiv, ppge, pfu] at *
  grind
set_option maxHeartbeats 400000 in
theorem pt_raise_n4 {has : Prop} {V E H T oG oT w0 w1 w2 w3 lo hi : Int} {st ep hl hh mv ac pt tk et lm pE pA : Nat → Int} {B : Int} {S : (Nat → Int) → Prop} (I : Pin has V E H T oG oT w0 w1 w2 w3 lo hi st ep hl hh mv ac pt tk et lm pE pA B S) (y : Int) (hy : B ≤ y)  : Q_n4 has V E H T oG oT w0 w1 w2 w3 lo hi st ep hl hh mv ac pt tk et lm pE pA (y) S := by
  have i_n4 := Pin_n4 I
  clear I
  simp only [Q_n4, pokM, pown, prcv, pgiv, ppge, pfu] at *
  grind
set_option maxHeartbeats 400000 in
theorem pt_raise_n5 {has : Prop} {V E H T oG oT w0 w1 w2 w3 lo hi : Int} {st ep hl hh mv ac pt tk et lm pE pA : Nat → Int} {B : Int} {S : (Nat → Int) → Prop} (I : Pin has V E H T oG oT w0 w1 w2 w3 lo hi st ep hl hh mv ac pt tk et lm pE pA B S) (y : Int) (hy : B ≤ y)  : Q_n5 has V E H T oG oT w0 w1 w2 w3 lo hi st ep hl hh mv ac pt tk et lm pE pA (y) S := by
  have i_n5 := Pin_n5 I
  clear I
  simp only [Q_n5, pokM, pown, prcv, pgiv, ppge, pfu] at *
  grind
set_option maxHeartbeats 400000 in
theorem pt_raise_n6 {has : Prop} {V E H T oG oT w0 w1 w2 w3 lo hi : Int} {st ep hl hh mv ac pt tk et lm pE pA : Nat → Int} {B : Int} {S : (Nat → Int) → Prop} (I : Pin has V E H T oG oT w0 w1 w2 w3 lo hi st ep hl hh mv ac pt tk et lm pE pA B S) (y : Int) (hy : B ≤ y)  : Q_n6 has V E H T oG oT w0 w1 w2 w3 lo hi st ep hl hh mv ac pt tk et lm pE pA (y) S := by
  have i_n6 := Pin_n6 I
  clear I
  simp only [Q_n6, pokM, pown, prcv, pgiv, ppge, pfu] at *
  grind
set_option maxHeartbeats 400000 in
theorem pt_raise_n7 {has : Prop} {V E H T oG oT w0 w1 w2 w3 lo hi : Int} {st ep hl hh mv ac pt tk et lm pE pA : Nat → Int} {B : Int} {S : (Nat → Int) → Prop} (I : Pin has V E H T oG oT w0 w1 w2 w3 lo hi st ep hl hh mv ac pt tk et lm pE pA B S) (y : Int) (hy : B ≤ y)  : Q_n7 has V E H T oG oT w0 w1 w2 w3 lo hi st ep hl hh mv ac pt tk et lm pE pA (y) S := by
  have i_n7 := Pin_n7 I
  clear I
  simp only [Q_n7, pokM, pown, prcv, pgiv, ppge, pfu] at *
  grind
set_option maxHeartbeats 400000 in
theorem pt_raise_o {has : Prop} {V E H T oG oT w0 w1 w2 w3 lo hi : Int} {st ep hl hh mv ac pt tk et lm pE pA : Nat → Int} {B : Int} {S : (Nat → Int) → Prop} (I : Pin has V E H T oG oT w0 w1 w2 w3 lo hi st ep hl hh mv ac pt tk et lm pE pA B S) (y : Int) (hy : B ≤ y)  : Q_o has V E H T oG oT w0 w1 w2 w3 lo hi st ep hl hh mv ac pt tk et lm pE pA (y) S := by
  have i_o := Pin_o I
  clear I
  simp only [Q_o, pokM, pown, prcv, pgiv, ppge, pfu] at *
  grind
set_option maxHeartbeats 400000 in
theorem pt_raise_p {has : Prop} {V E H T oG oT w0 w1 w2 w3 lo hi : Int} {st ep hl hh mv ac pt tk et lm pE pA : Nat → Int} {B : Int} {S : (Nat → Int) → Prop} (I : Pin has V E H T oG oT w0 w1 w2 w3 lo hi st ep hl hh mv ac pt tk et lm pE pA B S) (y : Int) (hy : B ≤ y)  : Q_p has V E H T oG oT w0 w1 w2 w3 lo hi st ep hl hh mv ac pt tk et lm pE pA (y) S := by
  have i_p := Pin_p I
  clear I
  simp only [Q_p, pokM, pown, prcv, pgiv, ppge, pfu] at *
  grind
set_option maxHeartbeats 400000 in
theorem pt_raise_q {has : Prop} {V E H T oG oT w0 w1 w2 w3 lo hi : Int} {st ep hl hh mv ac pt tk et lm pE pA : Nat → Int} {B : Int} {S : (Nat → Int) → Prop} (I : Pin has V E H T oG oT w0 w1 w2 w3 lo hi st ep hl hh mv ac pt tk et lm pE pA B S) (y : Int) (hy : B ≤ y)  : Q_q has V E H T oG oT w0 w1 w2 w3 lo hi st ep hl hh mv ac pt tk et lm pE pA (y) S := by
  have i_q := Pin_q I
  clear I
  simp only [Q_q, pokM, pown, prcv, pgiv, ppge, pfu] at *
  grind
set_option maxHeartbeats 400000 in
theorem pt_raise_q2 {has : Prop} {V E H T oG oT w0 w1 w2 w3 lo hi : Int} {st ep hl hh mv ac pt tk et lm pE pA : Nat → Int} {B : Int} {S : (Nat → Int) → Prop} (I : Pin has V E H T oG oT w0 w1 w2 w3 lo hi st ep hl hh mv ac pt tk et lm pE pA B S) (y : Int) (hy : B ≤ y)  : Q_q2 has V E H T oG oT w0 w1 w2 w3 lo hi st ep hl hh mv ac pt tk et lm pE pA (y) S := by
  have i_q2 := Pin_q2 I
  clear I
  simp only [Q_q2, pokM, pown, prcv, pgiv, ppge, pfu] at *
  grind
set_option maxHeartbeats 400000 in
theorem pt_raise_q3 {has : Prop} {V E H T oG oT w0 w1 w2 w3 lo hi : Int} {st ep hl hh mv ac pt tk et lm pE pA : Nat → Int} {B : Int} {S : (Nat → Int) → Prop} (I : Pin has V E H T oG oT w0 w1 w2 w3 lo hi st ep hl hh mv ac pt tk et lm pE pA B S) (y : Int) (hy : B ≤ y)  : Q_q3 has V E H T oG oT w0 w1 w2 w3 lo hi st ep hl hh mv ac pt tk et lm pE pA (y) S := by
  have i_q3 := Pin_q3 I
  clear I
  simp only [Q_q3, pokM, pown, prcv, pgiv, ppge, pfu] at *
  grind
set_option maxHeartbeats 400000 in
theorem pt_raise_w {has : Prop} {V E H T oG oT w0 w1 w2 w3 lo hi : Int} {st ep hl hh mv ac pt tk et lm pE pA : Nat → Int} {B : Int} {S : (Nat → Int) → Prop} (I : Pin has V E H T oG oT w0 w1 w2 w3 lo hi st ep hl hh mv ac pt tk et lm pE pA B S) (y : Int) (hy : B ≤ y)  : Q_w has V E H T oG oT w0 w1 w2 w3 lo hi st ep hl hh mv ac pt tk et lm pE pA (y) S := by
  have i_w := Pin_w I
  clear I
  simp only [Q_w, pokM, pown, prcv, pgiv, ppge, pfu] at *
  grind
theorem pt_raise {has : Prop} {V E H T oG oT w0 w1 w2 w3 lo hi : Int} {st ep hl hh mv ac pt tk et lm pE pA : Nat → Int} {B : Int} {S : (Nat → Int) → Prop} (I : Pin has V E H T oG oT w0 w1 w2 w3 lo hi st ep hl hh mv ac pt tk et lm pE pA B S) (y : Int) (hy : B ≤ y) : Pin has V E H T oG oT w0 w1 w2 w3 lo hi st ep hl hh mv ac pt tk et lm pE pA (y) S := by
  exact ⟨pt_raise_v0 I y hy , pt_raise_a I y hy , pt_raise_b I y hy , pt_raise_c I y hy , pt_raise_d I y hy , pt_raise_e I y hy , pt_raise_f I y hy , pt_raise_f2 I y hy , pt_raise_f3 I y hy , pt_raise_g I y hy , pt_raise_g0 I y hy , pt_raise_g1 I y hy , pt_raise_g2 I y hy , pt_raise_h7 I y hy , pt_raise_h9 I y hy , pt_raise_h10 I y hy , pt_raise_h11 I y hy , pt_raise_h12 I y hy , pt_raise_k1 I y hy , pt_raise_k2 I y hy , pt_raise_k8 I y hy , pt_raise_l4 I y hy , pt_raise_l5 I y hy , pt_raise_l3 I y hy , pt_raise_m1 I y hy , pt_raise_m2 I y hy , pt_raise_m3 I y hy , pt_raise_n0 I y hy , pt_raise_n1 I y hy , pt_raise_n2 I y hy , pt_raise_n3 I y hy , pt_raise_n4 I y hy , pt_raise_n5 I y hy , pt_raise_n6 I y hy , pt_raise_n7 I y hy , pt_raise_o I y hy , pt_raise_p I y hy , pt_raise_q I y hy , pt_raise_q2 I y hy , pt_raise_q3 I y hy , pt_raise_w I y hy ⟩
