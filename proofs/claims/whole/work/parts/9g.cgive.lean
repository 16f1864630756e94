/-! giving on: a letter with a parcel -/
theorem Rep_pk {T0 X n : Nat} {ad : Nat → Nat} {fh fp : Nat → Option Nat} {cl ll dl : List Nat} {aa : Nat → Nat} {pk : Nat → Option Nat} {q : xrho} {L : xLs} {M : xM} {ow : xOw} (H : Rep T0 X n ad fh fp cl ll dl aa pk q L M ow) (hG : lastOK q) (v : Option Nat) : Rep T0 X n ad fh fp cl ll dl aa (va_up pk ll.length v) q L M ow := by
  obtain ⟨H0, H1, H2, H3, H4, H5, H6, H7⟩ := H
  have n82 : ll.length = nu q 82 0 := H6.1
  refine ⟨H0, H1, fun h hh => ?_, H3, H4, H5, ⟨H6.1, fun l hl => ?_⟩, H7⟩
  · obtain ⟨a, f, h1, h2, h3⟩ := H2 h hh
    refine ⟨a, f, h1, h2, fun r hr => rHold_f (h3 r hr) (stp_rf (fun _ => True) ow M) (fun _ _ => trivial) ⟨fun _ _ => rfl, rfl, rfl, fun _ _ => rfl, fun a b => ?_⟩⟩
    have := hG _ (by omega) a b
    rw [va_up_ne _ _ (by omega)]
  · rw [va_up_ne _ _ (by omega)]
    exact H6.2 l hl
theorem Rep_post2 {T0 X n x y b : Nat} {ad : Nat → Nat} {fh fp : Nat → Option Nat} {cl ll dl : List Nat} {aa : Nat → Nat} {pk : Nat → Option Nat} {q q' : xrho} {L L' : xLs} {M M' : xM} {ow ow' : xOw} (H : Rep T0 X n ad fh fp cl ll dl aa pk q L M ow) (B : bds q) (hl : ll.length < 1200) (hs : stp (fun t => ¬ inP 1 5 6 t ∧ t.1 ≠ 2000 + ll.length) x y ow M ow' M') (hH : FH T0 M' ow' X ad fh fp cl (ll ++ [b]) dl q) (hL : rLet M' ow' ll.length b q' L' aa (pk ll.length)) (en : nlq q ll.length q') (hR : L'.1 = L.1) (hS : L'.2.1 = L.2.1) (hK : L'.2.2.1 = L.2.2.1) (hZ : ∀ i, i < 6 * ll.length → L'.2.2.2 i = L.2.2.2 i) : Rep T0 X n ad fh fp cl (ll ++ [b]) dl aa pk q' L' M' ow' := by
  obtain ⟨H0, H1, H2, H3, H4, H5, H6, H7⟩ := H
  obtain ⟨e, e2, e3, eL, e82, -⟩ := en
  have hcl : cl.length ≤ 6 := by rw [H4.1]; exact B.1.2
  obtain ⟨g, ho, hg⟩ := hH
  refine ⟨hs.2.1.2 H0, ⟨g, ?_, fun i hi => by rw [hg i hi, e 1 i (by decide) (by decide)]⟩, FT_f H2 hs ⟨fun t a b => ?_, fun t a b => ?_, fun t a => ?_, fun t a => ?_⟩ (fun k i a b => e k i (by omega) (by omega)) (fun k i a b => e k i (by omega) (by omega)) (fun p hp => hs_of (fun k i a b => e k i (by omega) (by omega)) (fun k i a b => e k i (by omega) (by omega)) (fun k i a b => e k i (by omega) (by omega)) (by rw [hR]) (by rw [hS]) (fun c _ => by rw [hK]) (fun a b => rfl)), FP_f H3 hs (fun t a b => ?_) (fun t a => ?_) (fun k i a b => e k i (by omega) (by omega)), FC_f H4 hcl hs (fun t a b => ?_) (fun t a => ?_) (fun t a => ?_) (fun k i a b => e k i (by omega) (by omega)) (fun k i a b => e k i (by omega) (by omega)) (Nat.le_refl _), FA_f H5 B.1.2 (fun c hc => (B.2.1 c hc).2) hs (fun t a b => ?_) (fun k i a b => e k i (by omega) (by omega)) (fun k i _ _ => eL k i (by omega)), ⟨?_, fun l hl2 => ?_⟩, ?_⟩
  any_goals omega
  · rw [e 12 0 (by decide) (by decide), e 13 0 (by decide) (by decide), e 14 0 (by decide) (by decide)]
    exact ho
  · unfold nu
    rw [e82, nI_clamp (by omega), List.length_append]
    rfl
  · rw [List.length_append, List.length_singleton] at hl2
    by_cases el : l < ll.length
    · rw [List.getElem_append_left el]
      refine rLet_f (H6.2 l el) hs (fun t a => by omega) (fun t a => by omega) ⟨fun k a b c => e2 k l a b c el, fun j hj => e3 _ (by omega), fun c hc => hZ _ (by omega), fun _ => rfl⟩
    · have : l = ll.length := by omega
      subst this
      rw [List.getElem_append_right (Nat.le_refl _)]
      simp only [Nat.sub_self, List.getElem_singleton]
      exact hL
  · refine ⟨by rw [nu_e (e 88 0 (by decide) (by decide))]; exact H7.1, fun i hi => ?_⟩
    obtain ⟨l, hl3, h0, h1, h2, h3, h4, h5⟩ := H7.2 i hi
    refine ⟨l, by rw [List.length_append]; omega, by rw [List.getElem_append_left hl3]; exact h0, ?_, ?_, ?_, ?_, ?_⟩
    · rw [e 83 _ (by decide) (by decide), e2 62 l (by decide) (by decide) (by decide) hl3]; exact h1
    · rw [e 84 _ (by decide) (by decide), e2 66 l (by decide) (by decide) (by decide) hl3]; exact h2
    · rw [e 85 _ (by decide) (by decide), e2 61 l (by decide) (by decide) (by decide) hl3]; exact h3
    · rw [e 86 _ (by decide) (by decide), e2 63 l (by decide) (by decide) (by decide) hl3]; exact h4
    · rw [e 87 _ (by decide) (by decide), e2 64 l (by decide) (by decide) (by decide) hl3]; exact h5
theorem gOK_nl {q q' : xrho} (B : bds q) (hG : ∀ p, p < 240 → (q.1 15 p = nI 2 ∨ q.1 15 p = nI 3) → q.1 32 p = 0 → nu q 29 p < nu q 82 0 + 1) (F : frL q) (hl : nu q 82 0 < 1200) (e : nlq q (nu q 82 0) q') : gOK q' := by
  obtain ⟨e1, e2, e3, eL, e82, e6⟩ := e
  have n82 : nu q' 82 0 = nu q 82 0 + 1 := by
    show (q'.1 82 0).toNatClampNeg = _
    rw [e82, nI_clamp (by omega)]
  refine ⟨⟨isN_e (e1 45 0 (by omega) (by omega)) B.1, fun c hc => isN_e (e1 46 c (by omega) (by omega)) (B.2.1 c hc), ⟨by rw [n82]; exact e82, by omega⟩, isN_e (e1 12 0 (by omega) (by omega)) B.2.2.2.1, isN_e (e1 44 0 (by omega) (by omega)) B.2.2.2.2.1, isN_e (e1 88 0 (by omega) (by omega)) B.2.2.2.2.2⟩, fun p hp a b => ?_, fun l a b => ?_⟩
  · rw [e1 15 p (by omega) (by omega)] at a
    rw [e1 32 p (by omega) (by omega)] at b
    rw [nu_e (e1 29 p (by omega) (by omega)), n82]
    exact hG p hp a b
  · rw [(e6 l).1, (e6 l).2]
    exact F l (by omega) b
/-! commuting the reference's writes -/
theorem rup_cm (q : xrho) {k i k' i' : Nat} {x x' : Int32} (h : k ≠ k') : rup (rup q k i x) k' i' x' = rup (rup q k' i' x') k i x := by
  refine xr_ext (fun f y => ?_) (fun _ _ => rfl)
  rw [rup_r, rup_r, rup_r, rup_r]
  by_cases h1 : f = k' ∧ y = i'
  · rw [if_pos h1, if_neg (by omega), if_pos h1]
  · rw [if_neg h1, if_neg h1]
theorem gnew_cm (q : xrho) {l k i : Nat} {a b c d e x : Int32} (h : k < 60) : gnew (rup q k i x) l a b c d e = rup (gnew q l a b c d e) k i x := by
  unfold gnew
  rw [rup_cm q (by omega), rup_cm (rup q 60 l a) (by omega), rup_cm (rup (rup q 60 l a) 61 l b) (by omega), rup_cm (rup (rup (rup q 60 l a) 61 l b) 62 l c) (by omega), rup_cm (rup (rup (rup (rup q 60 l a) 61 l b) 62 l c) 63 l d) (by omega), rup_cm (rup (rup (rup (rup (rup q 60 l a) 61 l b) 62 l c) 63 l d) 64 l e) (by omega), rup_cm (rup (rup (rup (rup (rup (rup q 60 l a) 61 l b) 62 l c) 63 l d) 64 l e) 66 l _) (by omega), rup_cm (rup (rup (rup (rup (rup (rup (rup q 60 l a) 61 l b) 62 l c) 63 l d) 64 l e) 66 l _) 67 l _) (by omega), rup_cm (rup (rup (rup (rup (rup (rup (rup (rup q 60 l a) 61 l b) 62 l c) 63 l d) 64 l e) 66 l _) 67 l _) 68 l _) (by omega), rup_cm (rup (rup (rup (rup (rup (rup (rup (rup (rup q 60 l a) 61 l b) 62 l c) 63 l d) 64 l e) 66 l _) 67 l _) 68 l _) 69 l _) (by omega)]
theorem gpart_cm (q : xrho) {h r l k i : Nat} {x : Int32} (hk : k = 28 ∨ k = 29 ∨ k = 32 ∨ k = 15) : gpart (rup q k i x) h r l = rup (gpart q h r l) k i x := by
  unfold gpart
  rw [rup_ne _ _ _ _ (k' := 21) (by omega), rup_ne _ _ _ _ (k' := 18) (by omega), rup_ne _ _ _ _ (k' := 22) (by omega), rup_ne _ _ _ _ (k' := 23) (by omega), rup_ne _ _ _ _ (k' := 16) (by omega), rup_ne _ _ _ _ (k' := 17) (by omega), gnew_cm _ (by omega), rup_cm (gnew q l (nI 4) (q.1 21 (40 * h + r)) (nI h) (nI r) (q.1 18 (40 * h + r) + nI 1)) (by omega), rup_cm (rup (gnew q l (nI 4) (q.1 21 (40 * h + r)) (nI h) (nI r) (q.1 18 (40 * h + r) + nI 1)) 67 l _) (by omega), rup_cm (rup (rup (gnew q l (nI 4) (q.1 21 (40 * h + r)) (nI h) (nI r) (q.1 18 (40 * h + r) + nI 1)) 67 l _) 68 l _) (by omega), rup_cm (rup (rup (rup (gnew q l (nI 4) (q.1 21 (40 * h + r)) (nI h) (nI r) (q.1 18 (40 * h + r) + nI 1)) 67 l _) 68 l _) 70 l _) (by omega)]
theorem wrP_cm (q : xrho) {l k i : Nat} {x : Int32} {acc : PW} (h1 : k ≠ 74) (h2 : k ≠ 76) : wrP (rup q k i x) l acc = rup (wrP q l acc) k i x := by
  refine xr_ext (fun f y => ?_) (fun _ _ => rfl)
  rw [rup_r, wrP_1, wrP_1]
  by_cases e1 : f = 76
  · rw [if_pos e1, if_pos e1, if_neg (by omega), rup_ne _ _ _ _ (Ne.symm h2)]
  · rw [if_neg e1, if_neg e1]
    by_cases e2 : f = 74
    · rw [if_pos e2, if_pos e2, if_neg (by omega), rup_ne _ _ _ _ (Ne.symm h1)]
    · rw [if_neg e2, if_neg e2, rup_r]
/-- the fields of a PART -/
theorem gpart_at (q : xrho) (h r l : Nat) : ((gpart q h r l).1 60 l = nI 4 ∧ (gpart q h r l).1 61 l = q.1 21 (40 * h + r) ∧ (gpart q h r l).1 62 l = nI h ∧ (gpart q h r l).1 63 l = nI r ∧ (gpart q h r l).1 64 l = q.1 18 (40 * h + r) + nI 1) ∧ (gpart q h r l).1 66 l = Int32.ofInt (-9) ∧ (gpart q h r l).1 67 l = q.1 22 (40 * h + r) ∧ (gpart q h r l).1 68 l = q.1 23 (40 * h + r) ∧ (gpart q h r l).1 70 l = q.1 16 (40 * h + r) ∧ (gpart q h r l).1 71 l = q.1 17 (40 * h + r) := by
  unfold gpart gnew
  simp (decide := true) only [rup_r, and_true, and_false, false_and, true_and, reduceIte, and_self]
theorem gpart_nl (q : xrho) (h r l : Nat) : nlq q l (gpart q h r l) := nlq_up (nlq_up (nlq_up (nlq_up (nlq_new _ _ _ _ _ _ _) (by decide)) (by decide)) (by decide)) (by decide)
theorem nlq_ck {q q' : xrho} {l b : Nat} {g1 g2 : Nat → Int32} {g3 : Nat → Int64} (H : nlq q l q') : nlq q l (ck3 74 76 77 q' g1 g2 g3 (3 * l) b 3) := by
  obtain ⟨h1, h2, h3, h4, h5, h6⟩ := H
  refine ⟨fun f i a c => ?_, fun f i a c d e => ?_, fun i hi => ?_, fun f i hf => ?_, ?_, fun i => ?_⟩
  · rw [ck3_ne (by omega) (by omega)]; exact h1 f i a c
  · rw [ck3_ne (by omega) (by omega)]; exact h2 f i a c d e
  · refine ⟨?_, ?_, ?_⟩
    · rw [ck3_1, if_neg (by decide), if_pos rfl, cpF_out _ _ _ _ (Or.inl hi)]; exact (h3 i hi).1
    · rw [ck3_1, if_pos rfl, cpF_out _ _ _ _ (Or.inl hi)]; exact (h3 i hi).2.1
    · rw [ck3_2, if_pos rfl, cpF_out _ _ _ _ (Or.inl hi)]; exact (h3 i hi).2.2
  · rw [ck3_ne2 hf]; exact h4 f i hf
  · rw [ck3_ne (by decide) (by decide)]; exact h5
  · rw [ck3_ne (by decide) (by decide), ck3_ne (by decide) (by decide)]; exact h6 i
theorem nlq_wr {q q' : xrho} {l : Nat} {acc : PW} (H : nlq q l q') : nlq q l (wrP q' l acc) := by
  obtain ⟨h1, h2, h3, h4, h5, h6⟩ := H
  refine ⟨fun f i a c => ?_, fun f i a c d e => ?_, fun i hi => ?_, fun f i hf => ?_, ?_, fun i => ?_⟩
  · rw [wrP_1, if_neg (by omega), if_neg (by omega)]; exact h1 f i a c
  · rw [wrP_1, if_neg (by omega), if_neg (by omega)]; exact h2 f i a c d e
  · refine ⟨?_, ?_, ?_⟩
    · rw [wrP_1, if_neg (by decide), if_pos rfl, wrF_out _ _ _ (Or.inl hi)]; exact (h3 i hi).1
    · rw [wrP_1, if_pos rfl, wrF_out _ _ _ (Or.inl hi)]; exact (h3 i hi).2.1
    · rw [wrP_2, if_pos rfl, wrF_out _ _ _ (Or.inl hi)]; exact (h3 i hi).2.2
  · rw [wrP_2, if_neg hf]; exact h4 f i hf
  · rw [wrP_1, if_neg (by decide), if_neg (by decide)]; exact h5
  · rw [wrP_1, if_neg (by decide), if_neg (by decide), wrP_1, if_neg (by decide), if_neg (by decide)]; exact h6 i
/-- a PART goes out: from 54 on -/
theorem c_part {T0 MI X n h r a b pc : Nat} {ad : Nat → Nat} {fh fp : Nat → Option Nat} {cl ll dl : List Nat} {aa : Nat → Nat} {pk : Nat → Option Nat} {q q' : xrho} {L L' : xLs} {M : xM} {ow : xOw} {o4 : Option xV} (H : Rep T0 X n ad fh fp cl ll dl aa pk q L M ow) (B : bds q) (F : frL q) (hh : h < 6) (hr : r < 40) (hl : ll.length < 1200) (g0 : xgetI M a 3 0 = some (nI h)) (hb : rHold M ow (some b) (40 * h + r) q L pk) (h15 : q.1 15 (40 * h + r) = nI 2 ∨ q.1 15 (40 * h + r) = nI 3) (h32 : q.1 32 (40 * h + r) = 0) (hpk : pk (nu q 29 (40 * h + r)) = some pc) (hpl : pk ll.length = some pc) (en : nlq q ll.length q') (e1 : q'.1 60 ll.length = nI 4 ∧ q'.1 61 ll.length = q.1 21 (40 * h + r) ∧ q'.1 62 ll.length = nI h ∧ q'.1 63 ll.length = nI r ∧ q'.1 64 ll.length = q.1 18 (40 * h + r) + nI 1) (e2 : q'.1 66 ll.length = Int32.ofInt (-9) ∧ q'.1 67 ll.length = q.1 22 (40 * h + r) ∧ q'.1 68 ll.length = q.1 23 (40 * h + r)) (hp : isPar M ow (10000 + pc) pc (q'.1 70 ll.length) (q'.1 71 ll.length) (q'.1 69 ll.length) (parcV q' ll.length (nu q' 69 ll.length)) (fun c => L'.2.2.2 (6 * ll.length + c))) (hR : L'.1 = L.1) (hS : L'.2.1 = L.2.1) (hK : L'.2.2.1 = L.2.2.1) (hZ : ∀ i, i < 6 * ll.length → L'.2.2.2 i = L.2.2.2 i) : ∃ M' ow' bb, xZ T0 MI 108 54 [some (vr (some X)), some (vr (some a)), some (vi (nI r)), some (vr (some b)), o4] [] M = some (none, M') ∧ Rep T0 X n ad fh fp cl (ll ++ [bb]) dl aa pk q' L' M' ow' ∧ stp ext 2 (2 * ll.length + 26) ow M ow' M' := by
  have n82 : ll.length = nu q 82 0 := H.2.2.2.2.2.2.1.1
  obtain ⟨ra, ka, sa, hv, sn, R, K, S, hA, ti⟩ := hb
  obtain ⟨-, -, t3, t4, t5, -⟩ := ti
  obtain ⟨⟨-, -, v3⟩, -, -⟩ := t3 (by rcases h15 with h | h <;> (rw [h]; decide))
  obtain ⟨v9, v10⟩ := t4 (by rcases h15 with h | h; exact Or.inl h; exact Or.inr (Or.inl h))
  obtain ⟨⟨v8, -⟩, v11, -⟩ := t5 h15
  have vs := v11 h32
  rw [hpk] at vs
  have ob := hA.2.1
  have bb := hA.2.2.1
  obtain ⟨M1, ow1, p1, h1, l1, s1⟩ := c_post (T0 := T0) (MI := MI) (kd := nI 4) (fr := nI h) (to := hv 8) (rg := nI r) (ep := hv 3 + nI 1) (o6 := none) H.2.1 hl (le_objs H.2.2.2.2.2.2.1)
  obtain ⟨M2, p2, l2, s2⟩ := le_i l1 6 (hv 9) (by decide)
  obtain ⟨M3, p3, l3, s3⟩ := le_i l2 7 (hv 10) (by decide)
  obtain ⟨M4, p4, l4, s4⟩ := le_13 l3 (some pc)
  have nb : ∀ {x y : Nat} {o1 o2 : xOw} {A B : xM}, stp (fun t => t.1 ≠ 2000 + ll.length) x y o1 A o2 B → b < A.1 → o1 b = (100 + (40 * h + r), 0) → B.2.2 b = A.2.2 b ∧ o2 b = (100 + (40 * h + r), 0) ∧ b < B.1 := fun s hb ho => by
    have c := s.2.2.2 b hb
    exact ⟨c.2 (by rw [ho]; show 100 + (40 * h + r) ≠ _; omega), c.1.trans ho, by have := s.1; omega⟩
  have c1 := s1.2.2.2 b bb
  have k1 : M1.2.2 b = _ := (c1.2 (by rw [ob]; simp)).trans hA.1
  have o1 : ow1 b = (100 + (40 * h + r), 0) := c1.1.trans ob
  have b1 : b < M1.1 := by have := s1.1; omega
  obtain ⟨k2, o2, b2⟩ := nb s2 b1 o1
  obtain ⟨k3, o3, b3⟩ := nb s3 b2 o2
  rw [k1] at k2
  rw [k2] at k3
  have sB : stp (fun t => ¬ inP 1 5 6 t ∧ t.1 ≠ 2000 + ll.length) 2 (2 * ll.length + 26) ow M ow1 M4 := stp_tr (stp_tr (stp_tr (stp_w s1 (fun t ht => ht.1) (Nat.le_refl _) (Nat.le_refl _)) (stp_w s2 (fun t ht => ht.2) (Nat.le_refl _) (Nat.le_refl _))) (stp_w s3 (fun t ht => ht.2) (Nat.le_refl _) (Nat.le_refl _))) (stp_w s4 (fun t ht => ht.2) (Nat.le_refl _) (Nat.le_refl _))
  have sC : stp (fun t => t.1 ≠ 1 ∧ t.1 ≠ 2000 + ll.length) 2 (2 * ll.length + 26) ow M ow1 M4 := stp_w sB (fun t ht => ⟨fun e => ht.1 e.1, ht.2⟩) (Nat.le_refl _) (Nat.le_refl _)
  have hH4 := FH_f (FH_f (FH_f h1 s2 (fun t a => by omega) (fun t a => by omega) (qe_rf _ _ _) (qe_rf _ _ _)) s3 (fun t a => by omega) (fun t a => by omega) (qe_rf _ _ _) (qe_rf _ _ _)) s4 (fun t a => by omega) (fun t a => by omega) (qe_rf _ _ _) (qe_rf _ _ _)
  obtain ⟨z1, z2⟩ := F ll.length (by omega) hl
  refine ⟨M4, ow1, M.1, ?_, Rep_post2 H B hl sB hH4 ⟨_, _, _, _, by rw [hpl]; exact l4, ?_⟩ en hR hS hK hZ, ext_of sC (fun t ht => by omega) (Nat.le_refl _) (Nat.le_refl _)⟩
  · have me := c_mvEp (T0 := T0) (MI := MI) (hA_g hA 3 (by decide))
    rw [bq_108_54, Option.bind_some, g0, Option.bind_some, Option.bind_some, hA_g hA 8 (by decide), Option.bind_some, Option.bind_some, hA_c hA, cond_true, me]
    simp (decide := true) (disch := omega) only [Option.bind_some, xasI, xasL, xasR, xin_t, cond_true, cond_false, nI_clamp, k_0, k_1, k_2, k_3, k_4, k_5, k_6, k_40, k_60, k_500, k_10000, pk_mul, nI_add, nI_e0, nI_ee, nI_leI, nI_ltI, xbool0, xbool1, xbn0, xbn1, xb_0, xb_1, reduceIte, one0, Option.isNone_none, ne_eq, not_true_eq_false, not_false_eq_true, if_true, if_false, ite_not, Bool.true_and, Bool.and_true]
    rw [bq_108_69, (ho_c H.2.1).1, cond_true, p1]
    simp (decide := true) (disch := omega) only [Option.bind_some, xasI, xasL, xasR, xin_t, cond_true, cond_false, nI_clamp, k_0, k_1, k_2, k_3, k_4, k_5, k_6, k_40, k_60, k_500, k_10000, pk_mul, nI_add, nI_e0, nI_ee, nI_leI, nI_ltI, xbool0, xbool1, xbn0, xbn1, xb_0, xb_1, reduceIte, one0, Option.isNone_none, ne_eq, not_true_eq_false, not_false_eq_true, if_true, if_false, ite_not, Bool.true_and, Bool.and_true]
    rw [bq_108_72, Option.bind_some, gI k1 9 rfl, Option.bind_some, Option.bind_some, p2, Option.bind_some, Option.bind_some, gI k2 10 rfl, Option.bind_some, Option.bind_some, p3, Option.bind_some, Option.bind_some, gR k3 11 rfl, Option.bind_some, Option.bind_some, vs, p4, Option.bind_some]
  · unfold leT
    rw [e1.1, e1.2.1, e1.2.2.1, e1.2.2.2.1, e1.2.2.2.2, e2.1, e2.2.1, e2.2.2, (en.2.2.2.2.2 _).1, (en.2.2.2.2.2 _).2, z1, z2, ← v3, ← v8, ← v9, ← v10, hpl]
    exact ⟨⟨rfl, rfl, rfl, rfl, rfl, rfl, rfl, rfl, rfl, rfl⟩, fun h => absurd h (by decide), fun h => absurd h (by decide), fun h => absurd h (by decide), fun h => absurd h (by decide), Or.inr ⟨pc, rfl, isPar_f hp sC (fun t ht => by omega)⟩⟩
