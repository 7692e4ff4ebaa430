/-! THE STANDARD's text -/
def stdL : List Int := sx 0 ++ sx 1 ++ sx 2 ++ sx 3 ++ sx 4 ++ sx 5 ++ sx 6 ++ sx 7 ++ sx 8 ++ sx 9 ++ sx 10 ++ sx 11
section STD
variable {S : GS} {s d : Nat}
theorem s8_standardTo (hs : gSh s) (hd : 6 ≤ d) (hG : Good S) (hr : 1000 ≤ g_room (s + 1)) : Ev (fun n => f_X8_standardTo n d 0 S [((s : Nat) : Int)]) (fun _ S1 => SX s S stdL S1) := by
  have l0 : (sx 0).length ≤ 80 := by rw [sx_len]; decide +kernel
  have l1 : (sx 1).length ≤ 80 := by rw [sx_len]; decide +kernel
  have l2 : (sx 2).length ≤ 80 := by rw [sx_len]; decide +kernel
  have l3 : (sx 3).length ≤ 80 := by rw [sx_len]; decide +kernel
  have l4 : (sx 4).length ≤ 80 := by rw [sx_len]; decide +kernel
  have l5 : (sx 5).length ≤ 80 := by rw [sx_len]; decide +kernel
  have l6 : (sx 6).length ≤ 80 := by rw [sx_len]; decide +kernel
  have l7 : (sx 7).length ≤ 80 := by rw [sx_len]; decide +kernel
  have l8 : (sx 8).length ≤ 80 := by rw [sx_len]; decide +kernel
  have l9 : (sx 9).length ≤ 80 := by rw [sx_len]; decide +kernel
  have l10 : (sx 10).length ≤ 80 := by rw [sx_len]; decide +kernel
  have l11 : (sx 11).length ≤ 80 := by rw [sx_len]; decide +kernel
  refine ev_up (fun n => e_X8_standardTo_0) ?_
  unfold b_X8_standardTo_0
  refine ev_gg (by omega) ?_
  refine ev_gg hs ?_
  refine ev_gc (sx_clear hs hG) (fun _ S h0 => ?_)
  refine ev_gc (sx_addAll (t := 0) hs (by decide) (by omega) h0 (by rw [List.length_nil]; omega)) (fun _ S h1 => ?_)
  refine ev_gc (sx_addAll (t := 1) hs (by decide) (by omega) h1 (by simp only [List.length_append, List.length_nil]; omega)) (fun _ S h2 => ?_)
  refine ev_gc (sx_addAll (t := 2) hs (by decide) (by omega) h2 (by simp only [List.length_append, List.length_nil]; omega)) (fun _ S h3 => ?_)
  refine ev_gc (sx_addAll (t := 3) hs (by decide) (by omega) h3 (by simp only [List.length_append, List.length_nil]; omega)) (fun _ S h4 => ?_)
  refine ev_gc (sx_addAll (t := 4) hs (by decide) (by omega) h4 (by simp only [List.length_append, List.length_nil]; omega)) (fun _ S h5 => ?_)
  refine ev_gc (sx_addAll (t := 5) hs (by decide) (by omega) h5 (by simp only [List.length_append, List.length_nil]; omega)) (fun _ S h6 => ?_)
  refine ev_gc (sx_addAll (t := 6) hs (by decide) (by omega) h6 (by simp only [List.length_append, List.length_nil]; omega)) (fun _ S h7 => ?_)
  refine ev_gc (sx_addAll (t := 7) hs (by decide) (by omega) h7 (by simp only [List.length_append, List.length_nil]; omega)) (fun _ S h8 => ?_)
  refine ev_gc (sx_addAll (t := 8) hs (by decide) (by omega) h8 (by simp only [List.length_append, List.length_nil]; omega)) (fun _ S h9 => ?_)
  refine ev_gc (sx_addAll (t := 9) hs (by decide) (by omega) h9 (by simp only [List.length_append, List.length_nil]; omega)) (fun _ S h10 => ?_)
  refine ev_gc (sx_addAll (t := 10) hs (by decide) (by omega) h10 (by simp only [List.length_append, List.length_nil]; omega)) (fun _ S h11 => ?_)
  refine ev_gc (sx_addAll (t := 11) hs (by decide) (by omega) h11 (by simp only [List.length_append, List.length_nil]; omega)) (fun _ S h12 => ?_)
  refine ev_ret ?_
  simp only [List.nil_append] at h12
  exact h12
end STD
