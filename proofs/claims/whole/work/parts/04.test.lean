def stF (n : Int) (ok : Int → Prop) [DecidablePred ok] : Nat → Int → Int
  | 0, a => a
  | k + 1, a => if a < n ∧ ok a then stF n ok k (a + 1) else a
set_option maxHeartbeats 4000000 in
set_option maxRecDepth 100000 in
theorem stopBy_loop {C : Cal} {S1 : List (Nat × Nat)} {Q : RetP} {h : Mem} {v : Nat} {p d g fr : Int} (hk : kd h v = 7) (hm : gR h v 2 = v + 2) (hh : gR h v 1 = v + 1)
   (hkm : kd h (v+2) = 100) (hkh : kd h (v+1) = 100) (hlm : ln h (v+2) = 9) (hlh : ln h (v+1) = 9) (hn : gG h v 0 ≤ 9)
   (hmo : ∀ i, 0 ≤ gG h (v+2) i ∧ gG h (v+2) i ≤ 9) (hg : 0 ≤ g ∧ g ≤ 5)
   (f : Int → Int)
   (hC : ∀ (x : Int) (Q : RetP), Q (some (vI (f x))) h → C 23 [vR v, vI p, vI d, vI x] h Q)
   (hS : h.1 = S1) :
   ∀ (k : Nat) (a : Int), 0 ≤ a → (gG h v 0 - a).toNat = k → Q (some (vI (stF (gG h v 0) (fun a => f (gG h (v+2) a + g) ≤ gG h (v+1) a) k a))) h →
   Ex C KX7_stopBy S1 Q 3 [some (vR v), some (vI p), some (vI fr), some (vI d), some (vI g), some (vI a)] [] h := by
  intro k
  induction k with
  | zero =>
    intro a h0 ha hq
    refine Ex_step ?_
    conv => whnf
    trace_state
    refine ⟨hk, ?_⟩
    conv => whnf
    trace_state
    sorry
  | succ k ih =>
    intro a h0 ha hq
    refine Ex_step ?_
    conv => whnf
    refine ⟨hk, ?_⟩
    conv => whnf
    refine ⟨fun c => ?_, fun c => ?_⟩
    · sorry
    conv => whnf
    refine ⟨hk, ?_⟩
    conv => whnf
    trace_state
    sorry
