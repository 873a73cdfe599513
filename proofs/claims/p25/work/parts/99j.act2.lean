theorem c_L_act (D : va_G) (y : Nat → ClassId) (l : Launch) (S : fb_Sh) (V I : fb_V) (a1 ns nt N F : Nat) (rho cf rf df : Nat → Nat) (hI : Iv a1 S V I ns nt rho cf rf df N F) (hn1 : 1 ≤ ns) (ht1 : 1 ≤ nt) (hN : N ≤ 600000) (x : Int32) : CI D y l yL_act wsL_act rm_L_act [.ref (sa S 0), .ref (sa S 1000), .int x] (S, V, sT V, I) (fun z u => ActP a1 S V I ns nt rho cf rf df N z u) 10 60 := by
  have h := blN_lt (x >>> (8 &&& 31)) (n := 9) (by decide)
  rcases (show blN (x >>> (8 &&& 31)) 9 = 0 ∨ blN (x >>> (8 &&& 31)) 9 = 1 ∨ blN (x >>> (8 &&& 31)) 9 = 2 ∨ blN (x >>> (8 &&& 31)) 9 = 3 ∨ blN (x >>> (8 &&& 31)) 9 = 4 ∨ blN (x >>> (8 &&& 31)) 9 = 5 ∨ blN (x >>> (8 &&& 31)) 9 = 6 ∨ blN (x >>> (8 &&& 31)) 9 = 7 ∨ blN (x >>> (8 &&& 31)) 9 = 8 by omega) with h | h | h | h | h | h | h | h | h
  · exact c_L_act_0 D y l S V I a1 ns nt N F rho cf rf df hI hn1 ht1 hN x h
  · exact c_L_act_1 D y l S V I a1 ns nt N F rho cf rf df hI hn1 ht1 hN x h
  · exact c_L_act_2 D y l S V I a1 ns nt N F rho cf rf df hI hn1 ht1 hN x h
  · exact c_L_act_3 D y l S V I a1 ns nt N F rho cf rf df hI hn1 ht1 hN x h
  · exact c_L_act_4 D y l S V I a1 ns nt N F rho cf rf df hI hn1 ht1 hN x h
  · exact c_L_act_5 D y l S V I a1 ns nt N F rho cf rf df hI hn1 ht1 hN x h
  · exact c_L_act_6 D y l S V I a1 ns nt N F rho cf rf df hI hn1 ht1 hN x h
  · exact c_L_act_7 D y l S V I a1 ns nt N F rho cf rf df hI hn1 ht1 hN x h
  · exact c_L_act_8 D y l S V I a1 ns nt N F rho cf rf df hI hn1 ht1 hN x h
