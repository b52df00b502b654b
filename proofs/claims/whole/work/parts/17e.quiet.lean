/-! ===== steps by the judge's kinds (written by wip/gen/ops6.py) ===== -/
theorem zLe.set {l' lt : Nat → Nat} (h : zLe l' lt) (a k : Nat) : zLe (zset l' a k) (zset lt a k) := fun i hi => by
  unfold zset
  by_cases c : i = a
  · rw [if_pos c, if_pos c]; exact Or.inr rfl
  · rw [if_neg c, if_neg c]; exact h i hi
theorem zLe.at {l' lt : Nat → Nat} (h : zLe l' lt) {a k : Nat} (ha : a < 16) (hk : 0 < k) (e : l' a = k) : lt a = k := by
  rcases h a ha with h | h
  · omega
  · omega
section ZST
variable {N w b K S f0 t p m : Nat} {F ρ α π lt st : Nat → Nat} {D : Nat → Nat → Prop} {C : zC} {M : zM} {r : zv_X} {Q : zQo} {φ : Nat → zFd}
theorem zs_96 (hR : zRn w b K F ρ α π r Q D C M S f0 φ) (hO : zOn C M) (hφ : φ f0 = (t, p, m, lt, st)) (hop : uC (Q.2.2.1 m) p = 96) : zStp N w b K F ρ α π r Q C M S := by
  obtain ⟨hc, hm, hK, l', hl, s1, hp, s2, l2, hh, hlen, hfl⟩ := hR.ty hO hφ hop
  have hh : some (s1, l') = some (s2, l2) := hh
  cases hh
  have hp : zpop [1, 1] (zrv st t) = some s1 := hp
  obtain ⟨t, rfl, k0, hp⟩ := zpopc hp
  obtain ⟨t, rfl, k1, hp⟩ := zpopc hp
  have hp := zpop0 hp
  subst hp
  obtain ⟨l3, h3, h4⟩ := (hfl lt hl).2 (by unfold zgoes; decide)
  refine zStp_q hR hO hφ (zo_96 hc hop k0 k1) ⟨l3, ?_, h4⟩
  rw [zrv_push]
  exact h3

theorem zs_100 (hR : zRn w b K F ρ α π r Q D C M S f0 φ) (hO : zOn C M) (hφ : φ f0 = (t, p, m, lt, st)) (hop : uC (Q.2.2.1 m) p = 100) : zStp N w b K F ρ α π r Q C M S := by
  obtain ⟨hc, hm, hK, l', hl, s1, hp, s2, l2, hh, hlen, hfl⟩ := hR.ty hO hφ hop
  have hh : some (s1, l') = some (s2, l2) := hh
  cases hh
  have hp : zpop [1, 1] (zrv st t) = some s1 := hp
  obtain ⟨t, rfl, k0, hp⟩ := zpopc hp
  obtain ⟨t, rfl, k1, hp⟩ := zpopc hp
  have hp := zpop0 hp
  subst hp
  obtain ⟨l3, h3, h4⟩ := (hfl lt hl).2 (by unfold zgoes; decide)
  refine zStp_q hR hO hφ (zo_100 hc hop k0 k1) ⟨l3, ?_, h4⟩
  rw [zrv_push]
  exact h3

theorem zs_104 (hR : zRn w b K F ρ α π r Q D C M S f0 φ) (hO : zOn C M) (hφ : φ f0 = (t, p, m, lt, st)) (hop : uC (Q.2.2.1 m) p = 104) : zStp N w b K F ρ α π r Q C M S := by
  obtain ⟨hc, hm, hK, l', hl, s1, hp, s2, l2, hh, hlen, hfl⟩ := hR.ty hO hφ hop
  have hh : some (s1, l') = some (s2, l2) := hh
  cases hh
  have hp : zpop [1, 1] (zrv st t) = some s1 := hp
  obtain ⟨t, rfl, k0, hp⟩ := zpopc hp
  obtain ⟨t, rfl, k1, hp⟩ := zpopc hp
  have hp := zpop0 hp
  subst hp
  obtain ⟨l3, h3, h4⟩ := (hfl lt hl).2 (by unfold zgoes; decide)
  refine zStp_q hR hO hφ (zo_104 hc hop k0 k1) ⟨l3, ?_, h4⟩
  rw [zrv_push]
  exact h3

theorem zs_126 (hR : zRn w b K F ρ α π r Q D C M S f0 φ) (hO : zOn C M) (hφ : φ f0 = (t, p, m, lt, st)) (hop : uC (Q.2.2.1 m) p = 126) : zStp N w b K F ρ α π r Q C M S := by
  obtain ⟨hc, hm, hK, l', hl, s1, hp, s2, l2, hh, hlen, hfl⟩ := hR.ty hO hφ hop
  have hh : some (s1, l') = some (s2, l2) := hh
  cases hh
  have hp : zpop [1, 1] (zrv st t) = some s1 := hp
  obtain ⟨t, rfl, k0, hp⟩ := zpopc hp
  obtain ⟨t, rfl, k1, hp⟩ := zpopc hp
  have hp := zpop0 hp
  subst hp
  obtain ⟨l3, h3, h4⟩ := (hfl lt hl).2 (by unfold zgoes; decide)
  refine zStp_q hR hO hφ (zo_126 hc hop k0 k1) ⟨l3, ?_, h4⟩
  rw [zrv_push]
  exact h3

theorem zs_128 (hR : zRn w b K F ρ α π r Q D C M S f0 φ) (hO : zOn C M) (hφ : φ f0 = (t, p, m, lt, st)) (hop : uC (Q.2.2.1 m) p = 128) : zStp N w b K F ρ α π r Q C M S := by
  obtain ⟨hc, hm, hK, l', hl, s1, hp, s2, l2, hh, hlen, hfl⟩ := hR.ty hO hφ hop
  have hh : some (s1, l') = some (s2, l2) := hh
  cases hh
  have hp : zpop [1, 1] (zrv st t) = some s1 := hp
  obtain ⟨t, rfl, k0, hp⟩ := zpopc hp
  obtain ⟨t, rfl, k1, hp⟩ := zpopc hp
  have hp := zpop0 hp
  subst hp
  obtain ⟨l3, h3, h4⟩ := (hfl lt hl).2 (by unfold zgoes; decide)
  refine zStp_q hR hO hφ (zo_128 hc hop k0 k1) ⟨l3, ?_, h4⟩
  rw [zrv_push]
  exact h3

theorem zs_130 (hR : zRn w b K F ρ α π r Q D C M S f0 φ) (hO : zOn C M) (hφ : φ f0 = (t, p, m, lt, st)) (hop : uC (Q.2.2.1 m) p = 130) : zStp N w b K F ρ α π r Q C M S := by
  obtain ⟨hc, hm, hK, l', hl, s1, hp, s2, l2, hh, hlen, hfl⟩ := hR.ty hO hφ hop
  have hh : some (s1, l') = some (s2, l2) := hh
  cases hh
  have hp : zpop [1, 1] (zrv st t) = some s1 := hp
  obtain ⟨t, rfl, k0, hp⟩ := zpopc hp
  obtain ⟨t, rfl, k1, hp⟩ := zpopc hp
  have hp := zpop0 hp
  subst hp
  obtain ⟨l3, h3, h4⟩ := (hfl lt hl).2 (by unfold zgoes; decide)
  refine zStp_q hR hO hφ (zo_130 hc hop k0 k1) ⟨l3, ?_, h4⟩
  rw [zrv_push]
  exact h3

theorem zs_97 (hR : zRn w b K F ρ α π r Q D C M S f0 φ) (hO : zOn C M) (hφ : φ f0 = (t, p, m, lt, st)) (hop : uC (Q.2.2.1 m) p = 97) : zStp N w b K F ρ α π r Q C M S := by
  obtain ⟨hc, hm, hK, l', hl, s1, hp, s2, l2, hh, hlen, hfl⟩ := hR.ty hO hφ hop
  have hh : some (s1, l') = some (s2, l2) := hh
  cases hh
  have hp : zpop [2, 2] (zrv st t) = some s1 := hp
  obtain ⟨t, rfl, k0, hp⟩ := zpopc hp
  obtain ⟨t, rfl, k1, hp⟩ := zpopc hp
  have hp := zpop0 hp
  subst hp
  obtain ⟨l3, h3, h4⟩ := (hfl lt hl).2 (by unfold zgoes; decide)
  refine zStp_q hR hO hφ (zo_97 hc hop k0 k1) ⟨l3, ?_, h4⟩
  rw [zrv_push]
  exact h3

theorem zs_101 (hR : zRn w b K F ρ α π r Q D C M S f0 φ) (hO : zOn C M) (hφ : φ f0 = (t, p, m, lt, st)) (hop : uC (Q.2.2.1 m) p = 101) : zStp N w b K F ρ α π r Q C M S := by
  obtain ⟨hc, hm, hK, l', hl, s1, hp, s2, l2, hh, hlen, hfl⟩ := hR.ty hO hφ hop
  have hh : some (s1, l') = some (s2, l2) := hh
  cases hh
  have hp : zpop [2, 2] (zrv st t) = some s1 := hp
  obtain ⟨t, rfl, k0, hp⟩ := zpopc hp
  obtain ⟨t, rfl, k1, hp⟩ := zpopc hp
  have hp := zpop0 hp
  subst hp
  obtain ⟨l3, h3, h4⟩ := (hfl lt hl).2 (by unfold zgoes; decide)
  refine zStp_q hR hO hφ (zo_101 hc hop k0 k1) ⟨l3, ?_, h4⟩
  rw [zrv_push]
  exact h3

theorem zs_105 (hR : zRn w b K F ρ α π r Q D C M S f0 φ) (hO : zOn C M) (hφ : φ f0 = (t, p, m, lt, st)) (hop : uC (Q.2.2.1 m) p = 105) : zStp N w b K F ρ α π r Q C M S := by
  obtain ⟨hc, hm, hK, l', hl, s1, hp, s2, l2, hh, hlen, hfl⟩ := hR.ty hO hφ hop
  have hh : some (s1, l') = some (s2, l2) := hh
  cases hh
  have hp : zpop [2, 2] (zrv st t) = some s1 := hp
  obtain ⟨t, rfl, k0, hp⟩ := zpopc hp
  obtain ⟨t, rfl, k1, hp⟩ := zpopc hp
  have hp := zpop0 hp
  subst hp
  obtain ⟨l3, h3, h4⟩ := (hfl lt hl).2 (by unfold zgoes; decide)
  refine zStp_q hR hO hφ (zo_105 hc hop k0 k1) ⟨l3, ?_, h4⟩
  rw [zrv_push]
  exact h3

theorem zs_127 (hR : zRn w b K F ρ α π r Q D C M S f0 φ) (hO : zOn C M) (hφ : φ f0 = (t, p, m, lt, st)) (hop : uC (Q.2.2.1 m) p = 127) : zStp N w b K F ρ α π r Q C M S := by
  obtain ⟨hc, hm, hK, l', hl, s1, hp, s2, l2, hh, hlen, hfl⟩ := hR.ty hO hφ hop
  have hh : some (s1, l') = some (s2, l2) := hh
  cases hh
  have hp : zpop [2, 2] (zrv st t) = some s1 := hp
  obtain ⟨t, rfl, k0, hp⟩ := zpopc hp
  obtain ⟨t, rfl, k1, hp⟩ := zpopc hp
  have hp := zpop0 hp
  subst hp
  obtain ⟨l3, h3, h4⟩ := (hfl lt hl).2 (by unfold zgoes; decide)
  refine zStp_q hR hO hφ (zo_127 hc hop k0 k1) ⟨l3, ?_, h4⟩
  rw [zrv_push]
  exact h3

theorem zs_129 (hR : zRn w b K F ρ α π r Q D C M S f0 φ) (hO : zOn C M) (hφ : φ f0 = (t, p, m, lt, st)) (hop : uC (Q.2.2.1 m) p = 129) : zStp N w b K F ρ α π r Q C M S := by
  obtain ⟨hc, hm, hK, l', hl, s1, hp, s2, l2, hh, hlen, hfl⟩ := hR.ty hO hφ hop
  have hh : some (s1, l') = some (s2, l2) := hh
  cases hh
  have hp : zpop [2, 2] (zrv st t) = some s1 := hp
  obtain ⟨t, rfl, k0, hp⟩ := zpopc hp
  obtain ⟨t, rfl, k1, hp⟩ := zpopc hp
  have hp := zpop0 hp
  subst hp
  obtain ⟨l3, h3, h4⟩ := (hfl lt hl).2 (by unfold zgoes; decide)
  refine zStp_q hR hO hφ (zo_129 hc hop k0 k1) ⟨l3, ?_, h4⟩
  rw [zrv_push]
  exact h3

theorem zs_131 (hR : zRn w b K F ρ α π r Q D C M S f0 φ) (hO : zOn C M) (hφ : φ f0 = (t, p, m, lt, st)) (hop : uC (Q.2.2.1 m) p = 131) : zStp N w b K F ρ α π r Q C M S := by
  obtain ⟨hc, hm, hK, l', hl, s1, hp, s2, l2, hh, hlen, hfl⟩ := hR.ty hO hφ hop
  have hh : some (s1, l') = some (s2, l2) := hh
  cases hh
  have hp : zpop [2, 2] (zrv st t) = some s1 := hp
  obtain ⟨t, rfl, k0, hp⟩ := zpopc hp
  obtain ⟨t, rfl, k1, hp⟩ := zpopc hp
  have hp := zpop0 hp
  subst hp
  obtain ⟨l3, h3, h4⟩ := (hfl lt hl).2 (by unfold zgoes; decide)
  refine zStp_q hR hO hφ (zo_131 hc hop k0 k1) ⟨l3, ?_, h4⟩
  rw [zrv_push]
  exact h3

theorem zs_120 (hR : zRn w b K F ρ α π r Q D C M S f0 φ) (hO : zOn C M) (hφ : φ f0 = (t, p, m, lt, st)) (hop : uC (Q.2.2.1 m) p = 120) : zStp N w b K F ρ α π r Q C M S := by
  obtain ⟨hc, hm, hK, l', hl, s1, hp, s2, l2, hh, hlen, hfl⟩ := hR.ty hO hφ hop
  have hh : some (s1, l') = some (s2, l2) := hh
  cases hh
  have hp : zpop [1, 1] (zrv st t) = some s1 := hp
  obtain ⟨t, rfl, k0, hp⟩ := zpopc hp
  obtain ⟨t, rfl, k1, hp⟩ := zpopc hp
  have hp := zpop0 hp
  subst hp
  obtain ⟨l3, h3, h4⟩ := (hfl lt hl).2 (by unfold zgoes; decide)
  refine zStp_q hR hO hφ (zo_120 hc hop k0 k1) ⟨l3, ?_, h4⟩
  rw [zrv_push]
  exact h3

theorem zs_122 (hR : zRn w b K F ρ α π r Q D C M S f0 φ) (hO : zOn C M) (hφ : φ f0 = (t, p, m, lt, st)) (hop : uC (Q.2.2.1 m) p = 122) : zStp N w b K F ρ α π r Q C M S := by
  obtain ⟨hc, hm, hK, l', hl, s1, hp, s2, l2, hh, hlen, hfl⟩ := hR.ty hO hφ hop
  have hh : some (s1, l') = some (s2, l2) := hh
  cases hh
  have hp : zpop [1, 1] (zrv st t) = some s1 := hp
  obtain ⟨t, rfl, k0, hp⟩ := zpopc hp
  obtain ⟨t, rfl, k1, hp⟩ := zpopc hp
  have hp := zpop0 hp
  subst hp
  obtain ⟨l3, h3, h4⟩ := (hfl lt hl).2 (by unfold zgoes; decide)
  refine zStp_q hR hO hφ (zo_122 hc hop k0 k1) ⟨l3, ?_, h4⟩
  rw [zrv_push]
  exact h3

theorem zs_124 (hR : zRn w b K F ρ α π r Q D C M S f0 φ) (hO : zOn C M) (hφ : φ f0 = (t, p, m, lt, st)) (hop : uC (Q.2.2.1 m) p = 124) : zStp N w b K F ρ α π r Q C M S := by
  obtain ⟨hc, hm, hK, l', hl, s1, hp, s2, l2, hh, hlen, hfl⟩ := hR.ty hO hφ hop
  have hh : some (s1, l') = some (s2, l2) := hh
  cases hh
  have hp : zpop [1, 1] (zrv st t) = some s1 := hp
  obtain ⟨t, rfl, k0, hp⟩ := zpopc hp
  obtain ⟨t, rfl, k1, hp⟩ := zpopc hp
  have hp := zpop0 hp
  subst hp
  obtain ⟨l3, h3, h4⟩ := (hfl lt hl).2 (by unfold zgoes; decide)
  refine zStp_q hR hO hφ (zo_124 hc hop k0 k1) ⟨l3, ?_, h4⟩
  rw [zrv_push]
  exact h3

theorem zs_121 (hR : zRn w b K F ρ α π r Q D C M S f0 φ) (hO : zOn C M) (hφ : φ f0 = (t, p, m, lt, st)) (hop : uC (Q.2.2.1 m) p = 121) : zStp N w b K F ρ α π r Q C M S := by
  obtain ⟨hc, hm, hK, l', hl, s1, hp, s2, l2, hh, hlen, hfl⟩ := hR.ty hO hφ hop
  have hh : some (s1, l') = some (s2, l2) := hh
  cases hh
  have hp : zpop [1, 2] (zrv st t) = some s1 := hp
  obtain ⟨t, rfl, k0, hp⟩ := zpopc hp
  obtain ⟨t, rfl, k1, hp⟩ := zpopc hp
  have hp := zpop0 hp
  subst hp
  obtain ⟨l3, h3, h4⟩ := (hfl lt hl).2 (by unfold zgoes; decide)
  refine zStp_q hR hO hφ (zo_121 hc hop k0 k1) ⟨l3, ?_, h4⟩
  rw [zrv_push]
  exact h3

theorem zs_123 (hR : zRn w b K F ρ α π r Q D C M S f0 φ) (hO : zOn C M) (hφ : φ f0 = (t, p, m, lt, st)) (hop : uC (Q.2.2.1 m) p = 123) : zStp N w b K F ρ α π r Q C M S := by
  obtain ⟨hc, hm, hK, l', hl, s1, hp, s2, l2, hh, hlen, hfl⟩ := hR.ty hO hφ hop
  have hh : some (s1, l') = some (s2, l2) := hh
  cases hh
  have hp : zpop [1, 2] (zrv st t) = some s1 := hp
  obtain ⟨t, rfl, k0, hp⟩ := zpopc hp
  obtain ⟨t, rfl, k1, hp⟩ := zpopc hp
  have hp := zpop0 hp
  subst hp
  obtain ⟨l3, h3, h4⟩ := (hfl lt hl).2 (by unfold zgoes; decide)
  refine zStp_q hR hO hφ (zo_123 hc hop k0 k1) ⟨l3, ?_, h4⟩
  rw [zrv_push]
  exact h3

theorem zs_125 (hR : zRn w b K F ρ α π r Q D C M S f0 φ) (hO : zOn C M) (hφ : φ f0 = (t, p, m, lt, st)) (hop : uC (Q.2.2.1 m) p = 125) : zStp N w b K F ρ α π r Q C M S := by
  obtain ⟨hc, hm, hK, l', hl, s1, hp, s2, l2, hh, hlen, hfl⟩ := hR.ty hO hφ hop
  have hh : some (s1, l') = some (s2, l2) := hh
  cases hh
  have hp : zpop [1, 2] (zrv st t) = some s1 := hp
  obtain ⟨t, rfl, k0, hp⟩ := zpopc hp
  obtain ⟨t, rfl, k1, hp⟩ := zpopc hp
  have hp := zpop0 hp
  subst hp
  obtain ⟨l3, h3, h4⟩ := (hfl lt hl).2 (by unfold zgoes; decide)
  refine zStp_q hR hO hφ (zo_125 hc hop k0 k1) ⟨l3, ?_, h4⟩
  rw [zrv_push]
  exact h3

theorem zs_116 (hR : zRn w b K F ρ α π r Q D C M S f0 φ) (hO : zOn C M) (hφ : φ f0 = (t, p, m, lt, st)) (hop : uC (Q.2.2.1 m) p = 116) : zStp N w b K F ρ α π r Q C M S := by
  obtain ⟨hc, hm, hK, l', hl, s1, hp, s2, l2, hh, hlen, hfl⟩ := hR.ty hO hφ hop
  have hh : some (s1, l') = some (s2, l2) := hh
  cases hh
  have hp : zpop [1] (zrv st t) = some s1 := hp
  obtain ⟨t, rfl, k0, hp⟩ := zpopc hp
  have hp := zpop0 hp
  subst hp
  obtain ⟨l3, h3, h4⟩ := (hfl lt hl).2 (by unfold zgoes; decide)
  refine zStp_q hR hO hφ (zo_116 hc hop k0) ⟨l3, ?_, h4⟩
  rw [zrv_push]
  exact h3

theorem zs_117 (hR : zRn w b K F ρ α π r Q D C M S f0 φ) (hO : zOn C M) (hφ : φ f0 = (t, p, m, lt, st)) (hop : uC (Q.2.2.1 m) p = 117) : zStp N w b K F ρ α π r Q C M S := by
  obtain ⟨hc, hm, hK, l', hl, s1, hp, s2, l2, hh, hlen, hfl⟩ := hR.ty hO hφ hop
  have hh : some (s1, l') = some (s2, l2) := hh
  cases hh
  have hp : zpop [2] (zrv st t) = some s1 := hp
  obtain ⟨t, rfl, k0, hp⟩ := zpopc hp
  have hp := zpop0 hp
  subst hp
  obtain ⟨l3, h3, h4⟩ := (hfl lt hl).2 (by unfold zgoes; decide)
  refine zStp_q hR hO hφ (zo_117 hc hop k0) ⟨l3, ?_, h4⟩
  rw [zrv_push]
  exact h3

theorem zs_133 (hR : zRn w b K F ρ α π r Q D C M S f0 φ) (hO : zOn C M) (hφ : φ f0 = (t, p, m, lt, st)) (hop : uC (Q.2.2.1 m) p = 133) : zStp N w b K F ρ α π r Q C M S := by
  obtain ⟨hc, hm, hK, l', hl, s1, hp, s2, l2, hh, hlen, hfl⟩ := hR.ty hO hφ hop
  have hh : some (s1, l') = some (s2, l2) := hh
  cases hh
  have hp : zpop [1] (zrv st t) = some s1 := hp
  obtain ⟨t, rfl, k0, hp⟩ := zpopc hp
  have hp := zpop0 hp
  subst hp
  obtain ⟨l3, h3, h4⟩ := (hfl lt hl).2 (by unfold zgoes; decide)
  refine zStp_q hR hO hφ (zo_133 hc hop k0) ⟨l3, ?_, h4⟩
  rw [zrv_push]
  exact h3

theorem zs_136 (hR : zRn w b K F ρ α π r Q D C M S f0 φ) (hO : zOn C M) (hφ : φ f0 = (t, p, m, lt, st)) (hop : uC (Q.2.2.1 m) p = 136) : zStp N w b K F ρ α π r Q C M S := by
  obtain ⟨hc, hm, hK, l', hl, s1, hp, s2, l2, hh, hlen, hfl⟩ := hR.ty hO hφ hop
  have hh : some (s1, l') = some (s2, l2) := hh
  cases hh
  have hp : zpop [2] (zrv st t) = some s1 := hp
  obtain ⟨t, rfl, k0, hp⟩ := zpopc hp
  have hp := zpop0 hp
  subst hp
  obtain ⟨l3, h3, h4⟩ := (hfl lt hl).2 (by unfold zgoes; decide)
  refine zStp_q hR hO hφ (zo_136 hc hop k0) ⟨l3, ?_, h4⟩
  rw [zrv_push]
  exact h3

theorem zs_145 (hR : zRn w b K F ρ α π r Q D C M S f0 φ) (hO : zOn C M) (hφ : φ f0 = (t, p, m, lt, st)) (hop : uC (Q.2.2.1 m) p = 145) : zStp N w b K F ρ α π r Q C M S := by
  obtain ⟨hc, hm, hK, l', hl, s1, hp, s2, l2, hh, hlen, hfl⟩ := hR.ty hO hφ hop
  have hh : some (s1, l') = some (s2, l2) := hh
  cases hh
  have hp : zpop [1] (zrv st t) = some s1 := hp
  obtain ⟨t, rfl, k0, hp⟩ := zpopc hp
  have hp := zpop0 hp
  subst hp
  obtain ⟨l3, h3, h4⟩ := (hfl lt hl).2 (by unfold zgoes; decide)
  refine zStp_q hR hO hφ (zo_145 hc hop k0) ⟨l3, ?_, h4⟩
  rw [zrv_push]
  exact h3

theorem zs_146 (hR : zRn w b K F ρ α π r Q D C M S f0 φ) (hO : zOn C M) (hφ : φ f0 = (t, p, m, lt, st)) (hop : uC (Q.2.2.1 m) p = 146) : zStp N w b K F ρ α π r Q C M S := by
  obtain ⟨hc, hm, hK, l', hl, s1, hp, s2, l2, hh, hlen, hfl⟩ := hR.ty hO hφ hop
  have hh : some (s1, l') = some (s2, l2) := hh
  cases hh
  have hp : zpop [1] (zrv st t) = some s1 := hp
  obtain ⟨t, rfl, k0, hp⟩ := zpopc hp
  have hp := zpop0 hp
  subst hp
  obtain ⟨l3, h3, h4⟩ := (hfl lt hl).2 (by unfold zgoes; decide)
  refine zStp_q hR hO hφ (zo_146 hc hop k0) ⟨l3, ?_, h4⟩
  rw [zrv_push]
  exact h3

theorem zs_147 (hR : zRn w b K F ρ α π r Q D C M S f0 φ) (hO : zOn C M) (hφ : φ f0 = (t, p, m, lt, st)) (hop : uC (Q.2.2.1 m) p = 147) : zStp N w b K F ρ α π r Q C M S := by
  obtain ⟨hc, hm, hK, l', hl, s1, hp, s2, l2, hh, hlen, hfl⟩ := hR.ty hO hφ hop
  have hh : some (s1, l') = some (s2, l2) := hh
  cases hh
  have hp : zpop [1] (zrv st t) = some s1 := hp
  obtain ⟨t, rfl, k0, hp⟩ := zpopc hp
  have hp := zpop0 hp
  subst hp
  obtain ⟨l3, h3, h4⟩ := (hfl lt hl).2 (by unfold zgoes; decide)
  refine zStp_q hR hO hφ (zo_147 hc hop k0) ⟨l3, ?_, h4⟩
  rw [zrv_push]
  exact h3

theorem zs_148 (hR : zRn w b K F ρ α π r Q D C M S f0 φ) (hO : zOn C M) (hφ : φ f0 = (t, p, m, lt, st)) (hop : uC (Q.2.2.1 m) p = 148) : zStp N w b K F ρ α π r Q C M S := by
  obtain ⟨hc, hm, hK, l', hl, s1, hp, s2, l2, hh, hlen, hfl⟩ := hR.ty hO hφ hop
  have hh : some (s1, l') = some (s2, l2) := hh
  cases hh
  have hp : zpop [2, 2] (zrv st t) = some s1 := hp
  obtain ⟨t, rfl, k0, hp⟩ := zpopc hp
  obtain ⟨t, rfl, k1, hp⟩ := zpopc hp
  have hp := zpop0 hp
  subst hp
  obtain ⟨l3, h3, h4⟩ := (hfl lt hl).2 (by unfold zgoes; decide)
  refine zStp_q hR hO hφ (zo_148 hc hop k0 k1) ⟨l3, ?_, h4⟩
  rw [zrv_push]
  exact h3

theorem zs_2 (hR : zRn w b K F ρ α π r Q D C M S f0 φ) (hO : zOn C M) (hφ : φ f0 = (t, p, m, lt, st)) (hop : uC (Q.2.2.1 m) p = 2) : zStp N w b K F ρ α π r Q C M S := by
  obtain ⟨hc, hm, hK, l', hl, s1, hp, s2, l2, hh, hlen, hfl⟩ := hR.ty hO hφ hop
  have hh : some (s1, l') = some (s2, l2) := hh
  cases hh
  have hp : zpop [] (zrv st t) = some s1 := hp
  have hp := zpop0 hp
  subst hp
  have hlen : (zrv st t).length + 1 ≤ uSk (Q.2.2.1 m) := hlen
  rw [zrv_len] at hlen
  have hsk := hK.2.2.2.2.2.2.2.2.2.1
  obtain ⟨l3, h3, h4⟩ := (hfl lt hl).2 (by unfold zgoes; decide)
  refine zStp_q hR hO hφ (zo_2 hc hop (by omega)) ⟨l3, ?_, h4⟩
  rw [zrv_push]
  exact h3

theorem zs_3 (hR : zRn w b K F ρ α π r Q D C M S f0 φ) (hO : zOn C M) (hφ : φ f0 = (t, p, m, lt, st)) (hop : uC (Q.2.2.1 m) p = 3) : zStp N w b K F ρ α π r Q C M S := by
  obtain ⟨hc, hm, hK, l', hl, s1, hp, s2, l2, hh, hlen, hfl⟩ := hR.ty hO hφ hop
  have hh : some (s1, l') = some (s2, l2) := hh
  cases hh
  have hp : zpop [] (zrv st t) = some s1 := hp
  have hp := zpop0 hp
  subst hp
  have hlen : (zrv st t).length + 1 ≤ uSk (Q.2.2.1 m) := hlen
  rw [zrv_len] at hlen
  have hsk := hK.2.2.2.2.2.2.2.2.2.1
  obtain ⟨l3, h3, h4⟩ := (hfl lt hl).2 (by unfold zgoes; decide)
  refine zStp_q hR hO hφ (zo_3 hc hop (by omega)) ⟨l3, ?_, h4⟩
  rw [zrv_push]
  exact h3

theorem zs_4 (hR : zRn w b K F ρ α π r Q D C M S f0 φ) (hO : zOn C M) (hφ : φ f0 = (t, p, m, lt, st)) (hop : uC (Q.2.2.1 m) p = 4) : zStp N w b K F ρ α π r Q C M S := by
  obtain ⟨hc, hm, hK, l', hl, s1, hp, s2, l2, hh, hlen, hfl⟩ := hR.ty hO hφ hop
  have hh : some (s1, l') = some (s2, l2) := hh
  cases hh
  have hp : zpop [] (zrv st t) = some s1 := hp
  have hp := zpop0 hp
  subst hp
  have hlen : (zrv st t).length + 1 ≤ uSk (Q.2.2.1 m) := hlen
  rw [zrv_len] at hlen
  have hsk := hK.2.2.2.2.2.2.2.2.2.1
  obtain ⟨l3, h3, h4⟩ := (hfl lt hl).2 (by unfold zgoes; decide)
  refine zStp_q hR hO hφ (zo_4 hc hop (by omega)) ⟨l3, ?_, h4⟩
  rw [zrv_push]
  exact h3

theorem zs_5 (hR : zRn w b K F ρ α π r Q D C M S f0 φ) (hO : zOn C M) (hφ : φ f0 = (t, p, m, lt, st)) (hop : uC (Q.2.2.1 m) p = 5) : zStp N w b K F ρ α π r Q C M S := by
  obtain ⟨hc, hm, hK, l', hl, s1, hp, s2, l2, hh, hlen, hfl⟩ := hR.ty hO hφ hop
  have hh : some (s1, l') = some (s2, l2) := hh
  cases hh
  have hp : zpop [] (zrv st t) = some s1 := hp
  have hp := zpop0 hp
  subst hp
  have hlen : (zrv st t).length + 1 ≤ uSk (Q.2.2.1 m) := hlen
  rw [zrv_len] at hlen
  have hsk := hK.2.2.2.2.2.2.2.2.2.1
  obtain ⟨l3, h3, h4⟩ := (hfl lt hl).2 (by unfold zgoes; decide)
  refine zStp_q hR hO hφ (zo_5 hc hop (by omega)) ⟨l3, ?_, h4⟩
  rw [zrv_push]
  exact h3

theorem zs_6 (hR : zRn w b K F ρ α π r Q D C M S f0 φ) (hO : zOn C M) (hφ : φ f0 = (t, p, m, lt, st)) (hop : uC (Q.2.2.1 m) p = 6) : zStp N w b K F ρ α π r Q C M S := by
  obtain ⟨hc, hm, hK, l', hl, s1, hp, s2, l2, hh, hlen, hfl⟩ := hR.ty hO hφ hop
  have hh : some (s1, l') = some (s2, l2) := hh
  cases hh
  have hp : zpop [] (zrv st t) = some s1 := hp
  have hp := zpop0 hp
  subst hp
  have hlen : (zrv st t).length + 1 ≤ uSk (Q.2.2.1 m) := hlen
  rw [zrv_len] at hlen
  have hsk := hK.2.2.2.2.2.2.2.2.2.1
  obtain ⟨l3, h3, h4⟩ := (hfl lt hl).2 (by unfold zgoes; decide)
  refine zStp_q hR hO hφ (zo_6 hc hop (by omega)) ⟨l3, ?_, h4⟩
  rw [zrv_push]
  exact h3

theorem zs_7 (hR : zRn w b K F ρ α π r Q D C M S f0 φ) (hO : zOn C M) (hφ : φ f0 = (t, p, m, lt, st)) (hop : uC (Q.2.2.1 m) p = 7) : zStp N w b K F ρ α π r Q C M S := by
  obtain ⟨hc, hm, hK, l', hl, s1, hp, s2, l2, hh, hlen, hfl⟩ := hR.ty hO hφ hop
  have hh : some (s1, l') = some (s2, l2) := hh
  cases hh
  have hp : zpop [] (zrv st t) = some s1 := hp
  have hp := zpop0 hp
  subst hp
  have hlen : (zrv st t).length + 1 ≤ uSk (Q.2.2.1 m) := hlen
  rw [zrv_len] at hlen
  have hsk := hK.2.2.2.2.2.2.2.2.2.1
  obtain ⟨l3, h3, h4⟩ := (hfl lt hl).2 (by unfold zgoes; decide)
  refine zStp_q hR hO hφ (zo_7 hc hop (by omega)) ⟨l3, ?_, h4⟩
  rw [zrv_push]
  exact h3

theorem zs_8 (hR : zRn w b K F ρ α π r Q D C M S f0 φ) (hO : zOn C M) (hφ : φ f0 = (t, p, m, lt, st)) (hop : uC (Q.2.2.1 m) p = 8) : zStp N w b K F ρ α π r Q C M S := by
  obtain ⟨hc, hm, hK, l', hl, s1, hp, s2, l2, hh, hlen, hfl⟩ := hR.ty hO hφ hop
  have hh : some (s1, l') = some (s2, l2) := hh
  cases hh
  have hp : zpop [] (zrv st t) = some s1 := hp
  have hp := zpop0 hp
  subst hp
  have hlen : (zrv st t).length + 1 ≤ uSk (Q.2.2.1 m) := hlen
  rw [zrv_len] at hlen
  have hsk := hK.2.2.2.2.2.2.2.2.2.1
  obtain ⟨l3, h3, h4⟩ := (hfl lt hl).2 (by unfold zgoes; decide)
  refine zStp_q hR hO hφ (zo_8 hc hop (by omega)) ⟨l3, ?_, h4⟩
  rw [zrv_push]
  exact h3

theorem zs_9 (hR : zRn w b K F ρ α π r Q D C M S f0 φ) (hO : zOn C M) (hφ : φ f0 = (t, p, m, lt, st)) (hop : uC (Q.2.2.1 m) p = 9) : zStp N w b K F ρ α π r Q C M S := by
  obtain ⟨hc, hm, hK, l', hl, s1, hp, s2, l2, hh, hlen, hfl⟩ := hR.ty hO hφ hop
  have hh : some (s1, l') = some (s2, l2) := hh
  cases hh
  have hp : zpop [] (zrv st t) = some s1 := hp
  have hp := zpop0 hp
  subst hp
  have hlen : (zrv st t).length + 1 ≤ uSk (Q.2.2.1 m) := hlen
  rw [zrv_len] at hlen
  have hsk := hK.2.2.2.2.2.2.2.2.2.1
  obtain ⟨l3, h3, h4⟩ := (hfl lt hl).2 (by unfold zgoes; decide)
  refine zStp_q hR hO hφ (zo_9 hc hop (by omega)) ⟨l3, ?_, h4⟩
  rw [zrv_push]
  exact h3

theorem zs_10 (hR : zRn w b K F ρ α π r Q D C M S f0 φ) (hO : zOn C M) (hφ : φ f0 = (t, p, m, lt, st)) (hop : uC (Q.2.2.1 m) p = 10) : zStp N w b K F ρ α π r Q C M S := by
  obtain ⟨hc, hm, hK, l', hl, s1, hp, s2, l2, hh, hlen, hfl⟩ := hR.ty hO hφ hop
  have hh : some (s1, l') = some (s2, l2) := hh
  cases hh
  have hp : zpop [] (zrv st t) = some s1 := hp
  have hp := zpop0 hp
  subst hp
  have hlen : (zrv st t).length + 1 ≤ uSk (Q.2.2.1 m) := hlen
  rw [zrv_len] at hlen
  have hsk := hK.2.2.2.2.2.2.2.2.2.1
  obtain ⟨l3, h3, h4⟩ := (hfl lt hl).2 (by unfold zgoes; decide)
  refine zStp_q hR hO hφ (zo_10 hc hop (by omega)) ⟨l3, ?_, h4⟩
  rw [zrv_push]
  exact h3

theorem zs_1 (hR : zRn w b K F ρ α π r Q D C M S f0 φ) (hO : zOn C M) (hφ : φ f0 = (t, p, m, lt, st)) (hop : uC (Q.2.2.1 m) p = 1) : zStp N w b K F ρ α π r Q C M S := by
  obtain ⟨hc, hm, hK, l', hl, s1, hp, s2, l2, hh, hlen, hfl⟩ := hR.ty hO hφ hop
  have hh : some (s1, l') = some (s2, l2) := hh
  cases hh
  have hp : zpop [] (zrv st t) = some s1 := hp
  have hp := zpop0 hp
  subst hp
  have hlen : (zrv st t).length + 1 ≤ uSk (Q.2.2.1 m) := hlen
  rw [zrv_len] at hlen
  have hsk := hK.2.2.2.2.2.2.2.2.2.1
  obtain ⟨l3, h3, h4⟩ := (hfl lt hl).2 (by unfold zgoes; decide)
  refine zStp_q hR hO hφ (zo_1 hc hop (by omega)) ⟨l3, ?_, h4⟩
  rw [zrv_push]
  exact h3

theorem zs_16 (hR : zRn w b K F ρ α π r Q D C M S f0 φ) (hO : zOn C M) (hφ : φ f0 = (t, p, m, lt, st)) (hop : uC (Q.2.2.1 m) p = 16) : zStp N w b K F ρ α π r Q C M S := by
  obtain ⟨hc, hm, hK, l', hl, s1, hp, s2, l2, hh, hlen, hfl⟩ := hR.ty hO hφ hop
  have hh : some (s1, l') = some (s2, l2) := hh
  cases hh
  have hp : zpop [] (zrv st t) = some s1 := hp
  have hp := zpop0 hp
  subst hp
  have hlen : (zrv st t).length + 1 ≤ uSk (Q.2.2.1 m) := hlen
  rw [zrv_len] at hlen
  have hsk := hK.2.2.2.2.2.2.2.2.2.1
  obtain ⟨l3, h3, h4⟩ := (hfl lt hl).2 (by unfold zgoes; decide)
  refine zStp_q hR hO hφ (zo_16 hc hop (by omega)) ⟨l3, ?_, h4⟩
  rw [zrv_push]
  exact h3

theorem zs_17 (hR : zRn w b K F ρ α π r Q D C M S f0 φ) (hO : zOn C M) (hφ : φ f0 = (t, p, m, lt, st)) (hop : uC (Q.2.2.1 m) p = 17) : zStp N w b K F ρ α π r Q C M S := by
  obtain ⟨hc, hm, hK, l', hl, s1, hp, s2, l2, hh, hlen, hfl⟩ := hR.ty hO hφ hop
  have hh : some (s1, l') = some (s2, l2) := hh
  cases hh
  have hp : zpop [] (zrv st t) = some s1 := hp
  have hp := zpop0 hp
  subst hp
  have hlen : (zrv st t).length + 1 ≤ uSk (Q.2.2.1 m) := hlen
  rw [zrv_len] at hlen
  have hsk := hK.2.2.2.2.2.2.2.2.2.1
  obtain ⟨l3, h3, h4⟩ := (hfl lt hl).2 (by unfold zgoes; decide)
  refine zStp_q hR hO hφ (zo_17 hc hop (by omega)) ⟨l3, ?_, h4⟩
  rw [zrv_push]
  exact h3

theorem zs_0 (hR : zRn w b K F ρ α π r Q D C M S f0 φ) (hO : zOn C M) (hφ : φ f0 = (t, p, m, lt, st)) (hop : uC (Q.2.2.1 m) p = 0) : zStp N w b K F ρ α π r Q C M S := by
  obtain ⟨hc, hm, hK, l', hl, s1, hp, s2, l2, hh, hlen, hfl⟩ := hR.ty hO hφ hop
  have hh : some (s1, l') = some (s2, l2) := hh
  cases hh
  have hp : zpop [] (zrv st t) = some s1 := hp
  have hp := zpop0 hp
  subst hp
  obtain ⟨l3, h3, h4⟩ := (hfl lt hl).2 (by unfold zgoes; decide)
  exact zStp_q hR hO hφ (zo_0 hc hop) ⟨l3, h3, h4⟩

theorem zs_21 (hR : zRn w b K F ρ α π r Q D C M S f0 φ) (hO : zOn C M) (hφ : φ f0 = (t, p, m, lt, st)) (hop : uC (Q.2.2.1 m) p = 21) : zStp N w b K F ρ α π r Q C M S := by
  obtain ⟨hc, hm, hK, l', hl, s1, hp, s2, l2, hh, hlen, hfl⟩ := hR.ty hO hφ hop
  have hh : (if uC (Q.2.2.1 m) (p + 1) < uLo (Q.2.2.1 m) ∧ l' (uC (Q.2.2.1 m) (p + 1)) = 1 then some (s1, l') else none) = some (s2, l2) := hh
  obtain ⟨c, hh⟩ := zg hh
  cases hh
  have hp : zpop [] (zrv st t) = some s1 := hp
  have hp := zpop0 hp
  subst hp
  have hlen : (zrv st t).length + 1 ≤ uSk (Q.2.2.1 m) := hlen
  rw [zrv_len] at hlen
  have hsk := hK.2.2.2.2.2.2.2.2.2.1
  have hlo := hK.2.2.2.2.2.2.2.2.1
  obtain ⟨l3, h3, h4⟩ := (hfl lt hl).2 (by unfold zgoes; decide)
  refine zStp_q hR hO hφ (zo_21 hc hop (by omega) (by omega) (hl.at (by omega) (by omega) c.2)) ⟨l3, ?_, h4⟩
  rw [zrv_push]
  exact h3

theorem zs_22 (hR : zRn w b K F ρ α π r Q D C M S f0 φ) (hO : zOn C M) (hφ : φ f0 = (t, p, m, lt, st)) (hop : uC (Q.2.2.1 m) p = 22) : zStp N w b K F ρ α π r Q C M S := by
  obtain ⟨hc, hm, hK, l', hl, s1, hp, s2, l2, hh, hlen, hfl⟩ := hR.ty hO hφ hop
  have hh : (if uC (Q.2.2.1 m) (p + 1) < uLo (Q.2.2.1 m) ∧ l' (uC (Q.2.2.1 m) (p + 1)) = 2 then some (s1, l') else none) = some (s2, l2) := hh
  obtain ⟨c, hh⟩ := zg hh
  cases hh
  have hp : zpop [] (zrv st t) = some s1 := hp
  have hp := zpop0 hp
  subst hp
  have hlen : (zrv st t).length + 1 ≤ uSk (Q.2.2.1 m) := hlen
  rw [zrv_len] at hlen
  have hsk := hK.2.2.2.2.2.2.2.2.2.1
  have hlo := hK.2.2.2.2.2.2.2.2.1
  obtain ⟨l3, h3, h4⟩ := (hfl lt hl).2 (by unfold zgoes; decide)
  refine zStp_q hR hO hφ (zo_22 hc hop (by omega) (by omega) (hl.at (by omega) (by omega) c.2)) ⟨l3, ?_, h4⟩
  rw [zrv_push]
  exact h3

theorem zs_25 (hR : zRn w b K F ρ α π r Q D C M S f0 φ) (hO : zOn C M) (hφ : φ f0 = (t, p, m, lt, st)) (hop : uC (Q.2.2.1 m) p = 25) : zStp N w b K F ρ α π r Q C M S := by
  obtain ⟨hc, hm, hK, l', hl, s1, hp, s2, l2, hh, hlen, hfl⟩ := hR.ty hO hφ hop
  have hh : (if uC (Q.2.2.1 m) (p + 1) < uLo (Q.2.2.1 m) ∧ l' (uC (Q.2.2.1 m) (p + 1)) = 3 then some (s1, l') else none) = some (s2, l2) := hh
  obtain ⟨c, hh⟩ := zg hh
  cases hh
  have hp : zpop [] (zrv st t) = some s1 := hp
  have hp := zpop0 hp
  subst hp
  have hlen : (zrv st t).length + 1 ≤ uSk (Q.2.2.1 m) := hlen
  rw [zrv_len] at hlen
  have hsk := hK.2.2.2.2.2.2.2.2.2.1
  have hlo := hK.2.2.2.2.2.2.2.2.1
  obtain ⟨l3, h3, h4⟩ := (hfl lt hl).2 (by unfold zgoes; decide)
  refine zStp_q hR hO hφ (zo_25 hc hop (by omega) (by omega) (hl.at (by omega) (by omega) c.2)) ⟨l3, ?_, h4⟩
  rw [zrv_push]
  exact h3

theorem zs_54 (hR : zRn w b K F ρ α π r Q D C M S f0 φ) (hO : zOn C M) (hφ : φ f0 = (t, p, m, lt, st)) (hop : uC (Q.2.2.1 m) p = 54) : zStp N w b K F ρ α π r Q C M S := by
  obtain ⟨hc, hm, hK, l', hl, s1, hp, s2, l2, hh, hlen, hfl⟩ := hR.ty hO hφ hop
  have hh : (if uC (Q.2.2.1 m) (p + 1) < uLo (Q.2.2.1 m) then some (s1, zset l' (uC (Q.2.2.1 m) (p + 1)) 1) else none) = some (s2, l2) := hh
  obtain ⟨c, hh⟩ := zg hh
  cases hh
  have hp : zpop [1] (zrv st t) = some s1 := hp
  obtain ⟨t, rfl, k0, hp⟩ := zpopc hp
  have hp := zpop0 hp
  subst hp
  have hlo := hK.2.2.2.2.2.2.2.2.1
  obtain ⟨l3, h3, h4⟩ := (hfl (zset lt (uC (Q.2.2.1 m) (p + 1)) 1) (hl.set _ _)).2 (by unfold zgoes; decide)
  exact zStp_q hR hO hφ (zo_54 hc hop k0 (by omega)) ⟨l3, h3, h4⟩

theorem zs_55 (hR : zRn w b K F ρ α π r Q D C M S f0 φ) (hO : zOn C M) (hφ : φ f0 = (t, p, m, lt, st)) (hop : uC (Q.2.2.1 m) p = 55) : zStp N w b K F ρ α π r Q C M S := by
  obtain ⟨hc, hm, hK, l', hl, s1, hp, s2, l2, hh, hlen, hfl⟩ := hR.ty hO hφ hop
  have hh : (if uC (Q.2.2.1 m) (p + 1) < uLo (Q.2.2.1 m) then some (s1, zset l' (uC (Q.2.2.1 m) (p + 1)) 2) else none) = some (s2, l2) := hh
  obtain ⟨c, hh⟩ := zg hh
  cases hh
  have hp : zpop [2] (zrv st t) = some s1 := hp
  obtain ⟨t, rfl, k0, hp⟩ := zpopc hp
  have hp := zpop0 hp
  subst hp
  have hlo := hK.2.2.2.2.2.2.2.2.1
  obtain ⟨l3, h3, h4⟩ := (hfl (zset lt (uC (Q.2.2.1 m) (p + 1)) 2) (hl.set _ _)).2 (by unfold zgoes; decide)
  exact zStp_q hR hO hφ (zo_55 hc hop k0 (by omega)) ⟨l3, h3, h4⟩

theorem zs_58 (hR : zRn w b K F ρ α π r Q D C M S f0 φ) (hO : zOn C M) (hφ : φ f0 = (t, p, m, lt, st)) (hop : uC (Q.2.2.1 m) p = 58) : zStp N w b K F ρ α π r Q C M S := by
  obtain ⟨hc, hm, hK, l', hl, s1, hp, s2, l2, hh, hlen, hfl⟩ := hR.ty hO hφ hop
  have hh : (if uC (Q.2.2.1 m) (p + 1) < uLo (Q.2.2.1 m) then some (s1, zset l' (uC (Q.2.2.1 m) (p + 1)) 3) else none) = some (s2, l2) := hh
  obtain ⟨c, hh⟩ := zg hh
  cases hh
  have hp : zpop [3] (zrv st t) = some s1 := hp
  obtain ⟨t, rfl, k0, hp⟩ := zpopc hp
  have hp := zpop0 hp
  subst hp
  have hlo := hK.2.2.2.2.2.2.2.2.1
  obtain ⟨l3, h3, h4⟩ := (hfl (zset lt (uC (Q.2.2.1 m) (p + 1)) 3) (hl.set _ _)).2 (by unfold zgoes; decide)
  exact zStp_q hR hO hφ (zo_58 hc hop k0 (by omega)) ⟨l3, h3, h4⟩

theorem zs_132 (hR : zRn w b K F ρ α π r Q D C M S f0 φ) (hO : zOn C M) (hφ : φ f0 = (t, p, m, lt, st)) (hop : uC (Q.2.2.1 m) p = 132) : zStp N w b K F ρ α π r Q C M S := by
  obtain ⟨hc, hm, hK, l', hl, s1, hp, s2, l2, hh, hlen, hfl⟩ := hR.ty hO hφ hop
  have hh : (if uC (Q.2.2.1 m) (p + 1) < uLo (Q.2.2.1 m) ∧ l' (uC (Q.2.2.1 m) (p + 1)) = 1 then some (s1, l') else none) = some (s2, l2) := hh
  obtain ⟨c, hh⟩ := zg hh
  cases hh
  have hp : zpop [] (zrv st t) = some s1 := hp
  have hp := zpop0 hp
  subst hp
  have hlo := hK.2.2.2.2.2.2.2.2.1
  obtain ⟨l3, h3, h4⟩ := (hfl lt hl).2 (by unfold zgoes; decide)
  exact zStp_q hR hO hφ (zo_132 hc hop (by omega) (hl.at (by omega) (by omega) c.2)) ⟨l3, h3, h4⟩

theorem zs_88 (hR : zRn w b K F ρ α π r Q D C M S f0 φ) (hO : zOn C M) (hφ : φ f0 = (t, p, m, lt, st)) (hop : uC (Q.2.2.1 m) p = 88) : zStp N w b K F ρ α π r Q C M S := by
  obtain ⟨hc, hm, hK, l', hl, s1, hp, s2, l2, hh, hlen, hfl⟩ := hR.ty hO hφ hop
  have hh : some (s1, l') = some (s2, l2) := hh
  cases hh
  have hp : zpop [2] (zrv st t) = some s1 := hp
  obtain ⟨t, rfl, k0, hp⟩ := zpopc hp
  have hp := zpop0 hp
  subst hp
  obtain ⟨l3, h3, h4⟩ := (hfl lt hl).2 (by unfold zgoes; decide)
  exact zStp_q hR hO hφ (zo_88 hc hop) ⟨l3, h3, h4⟩

theorem zs_87 (hR : zRn w b K F ρ α π r Q D C M S f0 φ) (hO : zOn C M) (hφ : φ f0 = (t, p, m, lt, st)) (hop : uC (Q.2.2.1 m) p = 87) : zStp N w b K F ρ α π r Q C M S := by
  obtain ⟨hc, hm, hK, l', hl, s1, hp, s2, l2, hh, hlen, hfl⟩ := hR.ty hO hφ hop
  have hp : zpop [] (zrv st t) = some s1 := hp
  have hp := zpop0 hp
  subst hp
  cases t with
  | zero => exact absurd hh (by intro e; cases e)
  | succ t =>
    have hh : (if st t = 1 ∨ st t = 3 then some (zrv st t, l') else none) = some (s2, l2) := hh
    obtain ⟨c, hh⟩ := zg hh
    cases hh
    obtain ⟨l3, h3, h4⟩ := (hfl lt hl).2 (by unfold zgoes; decide)
    exact zStp_q hR hO hφ (zo_87 hc hop) ⟨l3, h3, h4⟩

theorem zs_89 (hR : zRn w b K F ρ α π r Q D C M S f0 φ) (hO : zOn C M) (hφ : φ f0 = (t, p, m, lt, st)) (hop : uC (Q.2.2.1 m) p = 89) : zStp N w b K F ρ α π r Q C M S := by
  obtain ⟨hc, hm, hK, l', hl, s1, hp, s2, l2, hh, hlen, hfl⟩ := hR.ty hO hφ hop
  have hp : zpop [] (zrv st t) = some s1 := hp
  have hp := zpop0 hp
  subst hp
  cases t with
  | zero => exact absurd hh (by intro e; cases e)
  | succ t =>
    have hh : (if st t = 1 ∨ st t = 3 then some (st t :: st t :: zrv st t, l') else none) = some (s2, l2) := hh
    obtain ⟨c, hh⟩ := zg hh
    cases hh
    have hlen : (zrv st t).length + 2 ≤ uSk (Q.2.2.1 m) := hlen
    rw [zrv_len] at hlen
    have hsk := hK.2.2.2.2.2.2.2.2.2.1
    obtain ⟨l3, h3, h4⟩ := (hfl lt hl).2 (by unfold zgoes; decide)
    refine zStp_q hR hO hφ (zo_89 hc hop (by omega)) ⟨l3, ?_, h4⟩
    rw [zrv_push]
    exact h3

theorem zs_95 (hR : zRn w b K F ρ α π r Q D C M S f0 φ) (hO : zOn C M) (hφ : φ f0 = (t, p, m, lt, st)) (hop : uC (Q.2.2.1 m) p = 95) : zStp N w b K F ρ α π r Q C M S := by
  obtain ⟨hc, hm, hK, l', hl, s1, hp, s2, l2, hh, hlen, hfl⟩ := hR.ty hO hφ hop
  have hp : zpop [] (zrv st t) = some s1 := hp
  have hp := zpop0 hp
  subst hp
  cases t with
  | zero => exact absurd hh (by intro e; cases e)
  | succ t =>
    cases t with
    | zero => exact absurd hh (by intro e; cases e)
    | succ t =>
      have hh : (if (st (t + 1) = 1 ∨ st (t + 1) = 3) ∧ (st t = 1 ∨ st t = 3) then some (st t :: st (t + 1) :: zrv st t, l') else none) = some (s2, l2) := hh
      obtain ⟨c, hh⟩ := zg hh
      cases hh
      obtain ⟨l3, h3, h4⟩ := (hfl lt hl).2 (by unfold zgoes; decide)
      refine zStp_q hR hO hφ (zo_95 hc hop) ⟨l3, ?_, h4⟩
      have e : zrv (zset (zset st (t + 1) (st t)) t (st (t + 1))) (t + 2) = st t :: st (t + 1) :: zrv st t := by
        show zset (zset st (t + 1) (st t)) t (st (t + 1)) (t + 1) :: zrv (zset (zset st (t + 1) (st t)) t (st (t + 1))) (t + 1) = _
        rw [zrv_push, zrv_set st (t + 1) (st t) t (by omega)]
        unfold zset
        rw [if_neg (by omega), if_pos rfl]
      rw [e]
      exact h3

theorem zs_153 (hR : zRn w b K F ρ α π r Q D C M S f0 φ) (hO : zOn C M) (hφ : φ f0 = (t, p, m, lt, st)) (hop : uC (Q.2.2.1 m) p = 153) : zStp N w b K F ρ α π r Q C M S := by
  obtain ⟨hc, hm, hK, l', hl, s1, hp, s2, l2, hh, hlen, hfl⟩ := hR.ty hO hφ hop
  have hh : some (s1, l') = some (s2, l2) := hh
  cases hh
  have hp : zpop [1] (zrv st t) = some s1 := hp
  obtain ⟨t, rfl, k0, hp⟩ := zpopc hp
  have hp := zpop0 hp
  subst hp
  obtain ⟨l3, h3, h4⟩ := (hfl lt hl).2 (by unfold zgoes; decide)
  obtain ⟨q, hq, l4, h5, h6⟩ := (hfl lt hl).1 (by unfold zjumps; decide)
  refine zStp_q hR hO hφ (zo_153 hc hop k0 hq) ?_
  split
  · exact ⟨l4, h5, h6⟩
  · exact ⟨l3, h3, h4⟩

theorem zs_154 (hR : zRn w b K F ρ α π r Q D C M S f0 φ) (hO : zOn C M) (hφ : φ f0 = (t, p, m, lt, st)) (hop : uC (Q.2.2.1 m) p = 154) : zStp N w b K F ρ α π r Q C M S := by
  obtain ⟨hc, hm, hK, l', hl, s1, hp, s2, l2, hh, hlen, hfl⟩ := hR.ty hO hφ hop
  have hh : some (s1, l') = some (s2, l2) := hh
  cases hh
  have hp : zpop [1] (zrv st t) = some s1 := hp
  obtain ⟨t, rfl, k0, hp⟩ := zpopc hp
  have hp := zpop0 hp
  subst hp
  obtain ⟨l3, h3, h4⟩ := (hfl lt hl).2 (by unfold zgoes; decide)
  obtain ⟨q, hq, l4, h5, h6⟩ := (hfl lt hl).1 (by unfold zjumps; decide)
  refine zStp_q hR hO hφ (zo_154 hc hop k0 hq) ?_
  split
  · exact ⟨l4, h5, h6⟩
  · exact ⟨l3, h3, h4⟩

theorem zs_155 (hR : zRn w b K F ρ α π r Q D C M S f0 φ) (hO : zOn C M) (hφ : φ f0 = (t, p, m, lt, st)) (hop : uC (Q.2.2.1 m) p = 155) : zStp N w b K F ρ α π r Q C M S := by
  obtain ⟨hc, hm, hK, l', hl, s1, hp, s2, l2, hh, hlen, hfl⟩ := hR.ty hO hφ hop
  have hh : some (s1, l') = some (s2, l2) := hh
  cases hh
  have hp : zpop [1] (zrv st t) = some s1 := hp
  obtain ⟨t, rfl, k0, hp⟩ := zpopc hp
  have hp := zpop0 hp
  subst hp
  obtain ⟨l3, h3, h4⟩ := (hfl lt hl).2 (by unfold zgoes; decide)
  obtain ⟨q, hq, l4, h5, h6⟩ := (hfl lt hl).1 (by unfold zjumps; decide)
  refine zStp_q hR hO hφ (zo_155 hc hop k0 hq) ?_
  split
  · exact ⟨l4, h5, h6⟩
  · exact ⟨l3, h3, h4⟩

theorem zs_156 (hR : zRn w b K F ρ α π r Q D C M S f0 φ) (hO : zOn C M) (hφ : φ f0 = (t, p, m, lt, st)) (hop : uC (Q.2.2.1 m) p = 156) : zStp N w b K F ρ α π r Q C M S := by
  obtain ⟨hc, hm, hK, l', hl, s1, hp, s2, l2, hh, hlen, hfl⟩ := hR.ty hO hφ hop
  have hh : some (s1, l') = some (s2, l2) := hh
  cases hh
  have hp : zpop [1] (zrv st t) = some s1 := hp
  obtain ⟨t, rfl, k0, hp⟩ := zpopc hp
  have hp := zpop0 hp
  subst hp
  obtain ⟨l3, h3, h4⟩ := (hfl lt hl).2 (by unfold zgoes; decide)
  obtain ⟨q, hq, l4, h5, h6⟩ := (hfl lt hl).1 (by unfold zjumps; decide)
  refine zStp_q hR hO hφ (zo_156 hc hop k0 hq) ?_
  split
  · exact ⟨l4, h5, h6⟩
  · exact ⟨l3, h3, h4⟩

theorem zs_157 (hR : zRn w b K F ρ α π r Q D C M S f0 φ) (hO : zOn C M) (hφ : φ f0 = (t, p, m, lt, st)) (hop : uC (Q.2.2.1 m) p = 157) : zStp N w b K F ρ α π r Q C M S := by
  obtain ⟨hc, hm, hK, l', hl, s1, hp, s2, l2, hh, hlen, hfl⟩ := hR.ty hO hφ hop
  have hh : some (s1, l') = some (s2, l2) := hh
  cases hh
  have hp : zpop [1] (zrv st t) = some s1 := hp
  obtain ⟨t, rfl, k0, hp⟩ := zpopc hp
  have hp := zpop0 hp
  subst hp
  obtain ⟨l3, h3, h4⟩ := (hfl lt hl).2 (by unfold zgoes; decide)
  obtain ⟨q, hq, l4, h5, h6⟩ := (hfl lt hl).1 (by unfold zjumps; decide)
  refine zStp_q hR hO hφ (zo_157 hc hop k0 hq) ?_
  split
  · exact ⟨l4, h5, h6⟩
  · exact ⟨l3, h3, h4⟩

theorem zs_158 (hR : zRn w b K F ρ α π r Q D C M S f0 φ) (hO : zOn C M) (hφ : φ f0 = (t, p, m, lt, st)) (hop : uC (Q.2.2.1 m) p = 158) : zStp N w b K F ρ α π r Q C M S := by
  obtain ⟨hc, hm, hK, l', hl, s1, hp, s2, l2, hh, hlen, hfl⟩ := hR.ty hO hφ hop
  have hh : some (s1, l') = some (s2, l2) := hh
  cases hh
  have hp : zpop [1] (zrv st t) = some s1 := hp
  obtain ⟨t, rfl, k0, hp⟩ := zpopc hp
  have hp := zpop0 hp
  subst hp
  obtain ⟨l3, h3, h4⟩ := (hfl lt hl).2 (by unfold zgoes; decide)
  obtain ⟨q, hq, l4, h5, h6⟩ := (hfl lt hl).1 (by unfold zjumps; decide)
  refine zStp_q hR hO hφ (zo_158 hc hop k0 hq) ?_
  split
  · exact ⟨l4, h5, h6⟩
  · exact ⟨l3, h3, h4⟩

theorem zs_159 (hR : zRn w b K F ρ α π r Q D C M S f0 φ) (hO : zOn C M) (hφ : φ f0 = (t, p, m, lt, st)) (hop : uC (Q.2.2.1 m) p = 159) : zStp N w b K F ρ α π r Q C M S := by
  obtain ⟨hc, hm, hK, l', hl, s1, hp, s2, l2, hh, hlen, hfl⟩ := hR.ty hO hφ hop
  have hh : some (s1, l') = some (s2, l2) := hh
  cases hh
  have hp : zpop [1, 1] (zrv st t) = some s1 := hp
  obtain ⟨t, rfl, k0, hp⟩ := zpopc hp
  obtain ⟨t, rfl, k1, hp⟩ := zpopc hp
  have hp := zpop0 hp
  subst hp
  obtain ⟨l3, h3, h4⟩ := (hfl lt hl).2 (by unfold zgoes; decide)
  obtain ⟨q, hq, l4, h5, h6⟩ := (hfl lt hl).1 (by unfold zjumps; decide)
  refine zStp_q hR hO hφ (zo_159 hc hop k0 k1 hq) ?_
  split
  · exact ⟨l4, h5, h6⟩
  · exact ⟨l3, h3, h4⟩

theorem zs_160 (hR : zRn w b K F ρ α π r Q D C M S f0 φ) (hO : zOn C M) (hφ : φ f0 = (t, p, m, lt, st)) (hop : uC (Q.2.2.1 m) p = 160) : zStp N w b K F ρ α π r Q C M S := by
  obtain ⟨hc, hm, hK, l', hl, s1, hp, s2, l2, hh, hlen, hfl⟩ := hR.ty hO hφ hop
  have hh : some (s1, l') = some (s2, l2) := hh
  cases hh
  have hp : zpop [1, 1] (zrv st t) = some s1 := hp
  obtain ⟨t, rfl, k0, hp⟩ := zpopc hp
  obtain ⟨t, rfl, k1, hp⟩ := zpopc hp
  have hp := zpop0 hp
  subst hp
  obtain ⟨l3, h3, h4⟩ := (hfl lt hl).2 (by unfold zgoes; decide)
  obtain ⟨q, hq, l4, h5, h6⟩ := (hfl lt hl).1 (by unfold zjumps; decide)
  refine zStp_q hR hO hφ (zo_160 hc hop k0 k1 hq) ?_
  split
  · exact ⟨l4, h5, h6⟩
  · exact ⟨l3, h3, h4⟩

theorem zs_161 (hR : zRn w b K F ρ α π r Q D C M S f0 φ) (hO : zOn C M) (hφ : φ f0 = (t, p, m, lt, st)) (hop : uC (Q.2.2.1 m) p = 161) : zStp N w b K F ρ α π r Q C M S := by
  obtain ⟨hc, hm, hK, l', hl, s1, hp, s2, l2, hh, hlen, hfl⟩ := hR.ty hO hφ hop
  have hh : some (s1, l') = some (s2, l2) := hh
  cases hh
  have hp : zpop [1, 1] (zrv st t) = some s1 := hp
  obtain ⟨t, rfl, k0, hp⟩ := zpopc hp
  obtain ⟨t, rfl, k1, hp⟩ := zpopc hp
  have hp := zpop0 hp
  subst hp
  obtain ⟨l3, h3, h4⟩ := (hfl lt hl).2 (by unfold zgoes; decide)
  obtain ⟨q, hq, l4, h5, h6⟩ := (hfl lt hl).1 (by unfold zjumps; decide)
  refine zStp_q hR hO hφ (zo_161 hc hop k0 k1 hq) ?_
  split
  · exact ⟨l4, h5, h6⟩
  · exact ⟨l3, h3, h4⟩

theorem zs_162 (hR : zRn w b K F ρ α π r Q D C M S f0 φ) (hO : zOn C M) (hφ : φ f0 = (t, p, m, lt, st)) (hop : uC (Q.2.2.1 m) p = 162) : zStp N w b K F ρ α π r Q C M S := by
  obtain ⟨hc, hm, hK, l', hl, s1, hp, s2, l2, hh, hlen, hfl⟩ := hR.ty hO hφ hop
  have hh : some (s1, l') = some (s2, l2) := hh
  cases hh
  have hp : zpop [1, 1] (zrv st t) = some s1 := hp
  obtain ⟨t, rfl, k0, hp⟩ := zpopc hp
  obtain ⟨t, rfl, k1, hp⟩ := zpopc hp
  have hp := zpop0 hp
  subst hp
  obtain ⟨l3, h3, h4⟩ := (hfl lt hl).2 (by unfold zgoes; decide)
  obtain ⟨q, hq, l4, h5, h6⟩ := (hfl lt hl).1 (by unfold zjumps; decide)
  refine zStp_q hR hO hφ (zo_162 hc hop k0 k1 hq) ?_
  split
  · exact ⟨l4, h5, h6⟩
  · exact ⟨l3, h3, h4⟩

theorem zs_163 (hR : zRn w b K F ρ α π r Q D C M S f0 φ) (hO : zOn C M) (hφ : φ f0 = (t, p, m, lt, st)) (hop : uC (Q.2.2.1 m) p = 163) : zStp N w b K F ρ α π r Q C M S := by
  obtain ⟨hc, hm, hK, l', hl, s1, hp, s2, l2, hh, hlen, hfl⟩ := hR.ty hO hφ hop
  have hh : some (s1, l') = some (s2, l2) := hh
  cases hh
  have hp : zpop [1, 1] (zrv st t) = some s1 := hp
  obtain ⟨t, rfl, k0, hp⟩ := zpopc hp
  obtain ⟨t, rfl, k1, hp⟩ := zpopc hp
  have hp := zpop0 hp
  subst hp
  obtain ⟨l3, h3, h4⟩ := (hfl lt hl).2 (by unfold zgoes; decide)
  obtain ⟨q, hq, l4, h5, h6⟩ := (hfl lt hl).1 (by unfold zjumps; decide)
  refine zStp_q hR hO hφ (zo_163 hc hop k0 k1 hq) ?_
  split
  · exact ⟨l4, h5, h6⟩
  · exact ⟨l3, h3, h4⟩

theorem zs_164 (hR : zRn w b K F ρ α π r Q D C M S f0 φ) (hO : zOn C M) (hφ : φ f0 = (t, p, m, lt, st)) (hop : uC (Q.2.2.1 m) p = 164) : zStp N w b K F ρ α π r Q C M S := by
  obtain ⟨hc, hm, hK, l', hl, s1, hp, s2, l2, hh, hlen, hfl⟩ := hR.ty hO hφ hop
  have hh : some (s1, l') = some (s2, l2) := hh
  cases hh
  have hp : zpop [1, 1] (zrv st t) = some s1 := hp
  obtain ⟨t, rfl, k0, hp⟩ := zpopc hp
  obtain ⟨t, rfl, k1, hp⟩ := zpopc hp
  have hp := zpop0 hp
  subst hp
  obtain ⟨l3, h3, h4⟩ := (hfl lt hl).2 (by unfold zgoes; decide)
  obtain ⟨q, hq, l4, h5, h6⟩ := (hfl lt hl).1 (by unfold zjumps; decide)
  refine zStp_q hR hO hφ (zo_164 hc hop k0 k1 hq) ?_
  split
  · exact ⟨l4, h5, h6⟩
  · exact ⟨l3, h3, h4⟩

theorem zs_165 (hR : zRn w b K F ρ α π r Q D C M S f0 φ) (hO : zOn C M) (hφ : φ f0 = (t, p, m, lt, st)) (hop : uC (Q.2.2.1 m) p = 165) : zStp N w b K F ρ α π r Q C M S := by
  obtain ⟨hc, hm, hK, l', hl, s1, hp, s2, l2, hh, hlen, hfl⟩ := hR.ty hO hφ hop
  have hh : some (s1, l') = some (s2, l2) := hh
  cases hh
  have hp : zpop [3, 3] (zrv st t) = some s1 := hp
  obtain ⟨t, rfl, k0, hp⟩ := zpopc hp
  obtain ⟨t, rfl, k1, hp⟩ := zpopc hp
  have hp := zpop0 hp
  subst hp
  obtain ⟨l3, h3, h4⟩ := (hfl lt hl).2 (by unfold zgoes; decide)
  obtain ⟨q, hq, l4, h5, h6⟩ := (hfl lt hl).1 (by unfold zjumps; decide)
  refine zStp_q hR hO hφ (zo_165 hc hop k0 k1 hR.2.1.1 hq) ?_
  split
  · exact ⟨l4, h5, h6⟩
  · exact ⟨l3, h3, h4⟩

theorem zs_166 (hR : zRn w b K F ρ α π r Q D C M S f0 φ) (hO : zOn C M) (hφ : φ f0 = (t, p, m, lt, st)) (hop : uC (Q.2.2.1 m) p = 166) : zStp N w b K F ρ α π r Q C M S := by
  obtain ⟨hc, hm, hK, l', hl, s1, hp, s2, l2, hh, hlen, hfl⟩ := hR.ty hO hφ hop
  have hh : some (s1, l') = some (s2, l2) := hh
  cases hh
  have hp : zpop [3, 3] (zrv st t) = some s1 := hp
  obtain ⟨t, rfl, k0, hp⟩ := zpopc hp
  obtain ⟨t, rfl, k1, hp⟩ := zpopc hp
  have hp := zpop0 hp
  subst hp
  obtain ⟨l3, h3, h4⟩ := (hfl lt hl).2 (by unfold zgoes; decide)
  obtain ⟨q, hq, l4, h5, h6⟩ := (hfl lt hl).1 (by unfold zjumps; decide)
  refine zStp_q hR hO hφ (zo_166 hc hop k0 k1 hR.2.1.1 hq) ?_
  split
  · exact ⟨l4, h5, h6⟩
  · exact ⟨l3, h3, h4⟩

theorem zs_198 (hR : zRn w b K F ρ α π r Q D C M S f0 φ) (hO : zOn C M) (hφ : φ f0 = (t, p, m, lt, st)) (hop : uC (Q.2.2.1 m) p = 198) : zStp N w b K F ρ α π r Q C M S := by
  obtain ⟨hc, hm, hK, l', hl, s1, hp, s2, l2, hh, hlen, hfl⟩ := hR.ty hO hφ hop
  have hh : some (s1, l') = some (s2, l2) := hh
  cases hh
  have hp : zpop [3] (zrv st t) = some s1 := hp
  obtain ⟨t, rfl, k0, hp⟩ := zpopc hp
  have hp := zpop0 hp
  subst hp
  obtain ⟨l3, h3, h4⟩ := (hfl lt hl).2 (by unfold zgoes; decide)
  obtain ⟨q, hq, l4, h5, h6⟩ := (hfl lt hl).1 (by unfold zjumps; decide)
  refine zStp_q hR hO hφ (zo_198 hc hop k0 hR.2.1.1 hq) ?_
  split
  · exact ⟨l4, h5, h6⟩
  · exact ⟨l3, h3, h4⟩

theorem zs_199 (hR : zRn w b K F ρ α π r Q D C M S f0 φ) (hO : zOn C M) (hφ : φ f0 = (t, p, m, lt, st)) (hop : uC (Q.2.2.1 m) p = 199) : zStp N w b K F ρ α π r Q C M S := by
  obtain ⟨hc, hm, hK, l', hl, s1, hp, s2, l2, hh, hlen, hfl⟩ := hR.ty hO hφ hop
  have hh : some (s1, l') = some (s2, l2) := hh
  cases hh
  have hp : zpop [3] (zrv st t) = some s1 := hp
  obtain ⟨t, rfl, k0, hp⟩ := zpopc hp
  have hp := zpop0 hp
  subst hp
  obtain ⟨l3, h3, h4⟩ := (hfl lt hl).2 (by unfold zgoes; decide)
  obtain ⟨q, hq, l4, h5, h6⟩ := (hfl lt hl).1 (by unfold zjumps; decide)
  refine zStp_q hR hO hφ (zo_199 hc hop k0 hR.2.1.1 hq) ?_
  split
  · exact ⟨l4, h5, h6⟩
  · exact ⟨l3, h3, h4⟩

theorem zs_167 (hR : zRn w b K F ρ α π r Q D C M S f0 φ) (hO : zOn C M) (hφ : φ f0 = (t, p, m, lt, st)) (hop : uC (Q.2.2.1 m) p = 167) : zStp N w b K F ρ α π r Q C M S := by
  obtain ⟨hc, hm, hK, l', hl, s1, hp, s2, l2, hh, hlen, hfl⟩ := hR.ty hO hφ hop
  have hh : some (s1, l') = some (s2, l2) := hh
  cases hh
  have hp : zpop [] (zrv st t) = some s1 := hp
  have hp := zpop0 hp
  subst hp
  obtain ⟨q, hq, l4, h5, h6⟩ := (hfl lt hl).1 (by unfold zjumps; decide)
  refine zStp_q hR hO hφ (zo_167 hc hop hq) ?_
  rw [if_pos trivial]
  exact ⟨l4, h5, h6⟩

theorem zs_108 (hN : 1700 < N) (hw : w ≤ 400) (hS : S + 1 < 2 ^ 31) (h7 : ∀ k, k < 7 → F k = 0) (hR : zRn w b K F ρ α π r Q D C M S f0 φ) (hO : zOn C M) (hφ : φ f0 = (t, p, m, lt, st)) (hop : uC (Q.2.2.1 m) p = 108) : zStp N w b K F ρ α π r Q C M S := by
  obtain ⟨hc, hm, hK, l', hl, s1, hp, s2, l2, hh, hlen, hfl⟩ := hR.ty hO hφ hop
  have hh : some (s1, l') = some (s2, l2) := hh
  cases hh
  have hp : zpop [1, 1] (zrv st t) = some s1 := hp
  obtain ⟨t, rfl, k0, hp⟩ := zpopc hp
  obtain ⟨t, rfl, k1, hp⟩ := zpopc hp
  have hp := zpop0 hp
  subst hp
  by_cases hz : M.2 45 (12 * f0 + (t + 1)) = 0
  · have hc' := hc
    obtain ⟨h1, h2, h3, h4, h5, hfr, _, h8, h9, h10, h11, h12⟩ := hc
    obtain ⟨a1, a2, a3, a4, a5, a6, a7, a8, a9⟩ := hfr
    have u0 := (a9 (t + 1) (by omega)).2.2.2
    rw [k0] at u0
    have n0 := u0.num (Or.inl rfl)
    refine zStp_e (e := 1) hN hw hS h7 hR hO (by decide) (fun M0 => ?_) (Or.inl ⟨Int32.ofNat f0, Int32.ofNat p, 1, fun C0 r0 => ?_⟩)
    · have e0 : mX1_opcode N (b + (3 * f0 + 27)) (zc w b C M0 r) = some (zc w b C M0 r, 108) := ze_step0 (N := N) (w := w) hc' hop M0
      have g0 : mX1_number N (b + (3 * f0 + 27)) 0 (zc w b C M0 r) = _ := zf_number (N := N) (w := w) (b := b) (r := r) (k := 0) h1 a1 a3 (by omega) M0
      have z1 : lg_cmp (C.2.1 (f0 + 120) (15 + (t + 1 + 1) - 0)) 0 = 0 := by rw [show 15 + (t + 1 + 1) - 0 = 16 + (t + 1) by omega, n0.1, zw_cmp]; exact hz
      simp (decide := true) only [mX4_step_107, mX4_step_249, mX4_step_0, mX4_step, mX4_reckon_172, mX4_reckon_145, mX4_reckon_118, mX4_reckon_117, mX4_reckon_91, mX4_reckon_82, mX4_reckon_61, mX4_reckon_11, mX4_reckon_0, mX4_reckon, e0, zqg_15_5 h2, zqkF h1, id, zqk_15, g0, z1, Option.map_some, Int32.reduceLT, Int32.reduceLE, Int32.reduceAdd, Int32.reduceSub, Int32.reduceMul, Int32.reduceDiv, Int32.reduceMod, ↓reduceIte, Option.bind_some]
      rfl
    · have f0' : mX9_step N (b + 75) (zc w b C0 M r0) = mX9_step_74 N (b + 75) (Int32.ofNat f0) (Int32.ofNat m) (Int32.ofNat p) 108 1 0 0 (zc w b C0 M r0) := zn_step (N := N) (w := w) hc' hop (n := 1) rfl rfl rfl C0 r0
      have fp : mX9_peek N (b + 75) 0 (zc w b C0 M r0) = some (zc w b C0 M r0, M.2 45 (12 * f0 + (t + 1))) := zn_peek (N := N) (w := w) (b := b) (M := M) (t := t + 2) (k := 0) h1 h3 a2 a3 (by omega) C0 r0
      have z1 : lg_cmp (M.2 45 (12 * f0 + (t + 1))) 0 = 0 := zw_cmp.mpr hz
      refine f0'.trans ?_
      simp (decide := true) only [mX9_step_74, mX9_doReckoning_352, mX9_doReckoning_244, mX9_doReckoning_229, mX9_doReckoning_210, mX9_doReckoning_302, mX9_doReckoning_279, mX9_doReckoning_274, mX9_doReckoning_192, mX9_doReckoning_144, mX9_doReckoning_138, mX9_doReckoning_0, mX9_doReckoning, zqk_75, fp, id, z1, Option.map_some, Int32.reduceLT, Int32.reduceLE, Int32.reduceAdd, Int32.reduceSub, Int32.reduceMul, Int32.reduceDiv, Int32.reduceMod, ↓reduceIte, Option.bind_some]
      show ((mX9_fail N (b + 75) 1 (zc w b C0 M r0)).bind _).bind _ = (mX9_fail N (b + 75) 1 (zc w b C0 M r0)).bind _
      cases mX9_fail N (b + 75) 1 (zc w b C0 M r0) <;> rfl
  · obtain ⟨l3, h3, h4⟩ := (hfl lt hl).2 (by unfold zgoes; decide)
    refine zStp_q hR hO hφ (zo_108 hc hop k0 k1 hz) ⟨l3, ?_, h4⟩
    rw [zrv_push]
    exact h3

theorem zs_109 (hN : 1700 < N) (hw : w ≤ 400) (hS : S + 1 < 2 ^ 31) (h7 : ∀ k, k < 7 → F k = 0) (hR : zRn w b K F ρ α π r Q D C M S f0 φ) (hO : zOn C M) (hφ : φ f0 = (t, p, m, lt, st)) (hop : uC (Q.2.2.1 m) p = 109) : zStp N w b K F ρ α π r Q C M S := by
  obtain ⟨hc, hm, hK, l', hl, s1, hp, s2, l2, hh, hlen, hfl⟩ := hR.ty hO hφ hop
  have hh : some (s1, l') = some (s2, l2) := hh
  cases hh
  have hp : zpop [2, 2] (zrv st t) = some s1 := hp
  obtain ⟨t, rfl, k0, hp⟩ := zpopc hp
  obtain ⟨t, rfl, k1, hp⟩ := zpopc hp
  have hp := zpop0 hp
  subst hp
  by_cases hz : M.2 45 (12 * f0 + (t + 1)) = 0
  · have hc' := hc
    obtain ⟨h1, h2, h3, h4, h5, hfr, _, h8, h9, h10, h11, h12⟩ := hc
    obtain ⟨a1, a2, a3, a4, a5, a6, a7, a8, a9⟩ := hfr
    have u0 := (a9 (t + 1) (by omega)).2.2.2
    rw [k0] at u0
    have n0 := u0.num (Or.inr rfl)
    refine zStp_e (e := 1) hN hw hS h7 hR hO (by decide) (fun M0 => ?_) (Or.inl ⟨Int32.ofNat f0, Int32.ofNat p, 1, fun C0 r0 => ?_⟩)
    · have e0 : mX1_opcode N (b + (3 * f0 + 27)) (zc w b C M0 r) = some (zc w b C M0 r, 109) := ze_step0 (N := N) (w := w) hc' hop M0
      have g0 : mX1_number N (b + (3 * f0 + 27)) 0 (zc w b C M0 r) = _ := zf_number (N := N) (w := w) (b := b) (r := r) (k := 0) h1 a1 a3 (by omega) M0
      have z1 : lg_cmp (C.2.1 (f0 + 120) (15 + (t + 1 + 1) - 0)) 0 = 0 := by rw [show 15 + (t + 1 + 1) - 0 = 16 + (t + 1) by omega, n0.1, zw_cmp]; exact hz
      simp (decide := true) only [mX4_step_107, mX4_step_249, mX4_step_0, mX4_step, mX4_reckon_172, mX4_reckon_145, mX4_reckon_118, mX4_reckon_117, mX4_reckon_91, mX4_reckon_82, mX4_reckon_61, mX4_reckon_11, mX4_reckon_0, mX4_reckon, e0, zqg_15_5 h2, zqkF h1, id, zqk_15, g0, z1, Option.map_some, Int32.reduceLT, Int32.reduceLE, Int32.reduceAdd, Int32.reduceSub, Int32.reduceMul, Int32.reduceDiv, Int32.reduceMod, ↓reduceIte, Option.bind_some]
      rfl
    · have f0' : mX9_step N (b + 75) (zc w b C0 M r0) = mX9_step_74 N (b + 75) (Int32.ofNat f0) (Int32.ofNat m) (Int32.ofNat p) 109 1 0 0 (zc w b C0 M r0) := zn_step (N := N) (w := w) hc' hop (n := 1) rfl rfl rfl C0 r0
      have fp : mX9_peek N (b + 75) 0 (zc w b C0 M r0) = some (zc w b C0 M r0, M.2 45 (12 * f0 + (t + 1))) := zn_peek (N := N) (w := w) (b := b) (M := M) (t := t + 2) (k := 0) h1 h3 a2 a3 (by omega) C0 r0
      have z1 : lg_cmp (M.2 45 (12 * f0 + (t + 1))) 0 = 0 := zw_cmp.mpr hz
      refine f0'.trans ?_
      simp (decide := true) only [mX9_step_74, mX9_doReckoning_352, mX9_doReckoning_244, mX9_doReckoning_229, mX9_doReckoning_210, mX9_doReckoning_302, mX9_doReckoning_279, mX9_doReckoning_274, mX9_doReckoning_192, mX9_doReckoning_144, mX9_doReckoning_138, mX9_doReckoning_0, mX9_doReckoning, zqk_75, fp, id, z1, Option.map_some, Int32.reduceLT, Int32.reduceLE, Int32.reduceAdd, Int32.reduceSub, Int32.reduceMul, Int32.reduceDiv, Int32.reduceMod, ↓reduceIte, Option.bind_some]
      show ((mX9_fail N (b + 75) 1 (zc w b C0 M r0)).bind _).bind _ = (mX9_fail N (b + 75) 1 (zc w b C0 M r0)).bind _
      cases mX9_fail N (b + 75) 1 (zc w b C0 M r0) <;> rfl
  · obtain ⟨l3, h3, h4⟩ := (hfl lt hl).2 (by unfold zgoes; decide)
    refine zStp_q hR hO hφ (zo_109 hc hop k0 k1 hz) ⟨l3, ?_, h4⟩
    rw [zrv_push]
    exact h3

theorem zs_112 (hN : 1700 < N) (hw : w ≤ 400) (hS : S + 1 < 2 ^ 31) (h7 : ∀ k, k < 7 → F k = 0) (hR : zRn w b K F ρ α π r Q D C M S f0 φ) (hO : zOn C M) (hφ : φ f0 = (t, p, m, lt, st)) (hop : uC (Q.2.2.1 m) p = 112) : zStp N w b K F ρ α π r Q C M S := by
  obtain ⟨hc, hm, hK, l', hl, s1, hp, s2, l2, hh, hlen, hfl⟩ := hR.ty hO hφ hop
  have hh : some (s1, l') = some (s2, l2) := hh
  cases hh
  have hp : zpop [1, 1] (zrv st t) = some s1 := hp
  obtain ⟨t, rfl, k0, hp⟩ := zpopc hp
  obtain ⟨t, rfl, k1, hp⟩ := zpopc hp
  have hp := zpop0 hp
  subst hp
  by_cases hz : M.2 45 (12 * f0 + (t + 1)) = 0
  · have hc' := hc
    obtain ⟨h1, h2, h3, h4, h5, hfr, _, h8, h9, h10, h11, h12⟩ := hc
    obtain ⟨a1, a2, a3, a4, a5, a6, a7, a8, a9⟩ := hfr
    have u0 := (a9 (t + 1) (by omega)).2.2.2
    rw [k0] at u0
    have n0 := u0.num (Or.inl rfl)
    refine zStp_e (e := 1) hN hw hS h7 hR hO (by decide) (fun M0 => ?_) (Or.inl ⟨Int32.ofNat f0, Int32.ofNat p, 1, fun C0 r0 => ?_⟩)
    · have e0 : mX1_opcode N (b + (3 * f0 + 27)) (zc w b C M0 r) = some (zc w b C M0 r, 112) := ze_step0 (N := N) (w := w) hc' hop M0
      have g0 : mX1_number N (b + (3 * f0 + 27)) 0 (zc w b C M0 r) = _ := zf_number (N := N) (w := w) (b := b) (r := r) (k := 0) h1 a1 a3 (by omega) M0
      have z1 : lg_cmp (C.2.1 (f0 + 120) (15 + (t + 1 + 1) - 0)) 0 = 0 := by rw [show 15 + (t + 1 + 1) - 0 = 16 + (t + 1) by omega, n0.1, zw_cmp]; exact hz
      simp (decide := true) only [mX4_step_107, mX4_step_249, mX4_step_0, mX4_step, mX4_reckon_172, mX4_reckon_145, mX4_reckon_118, mX4_reckon_117, mX4_reckon_91, mX4_reckon_82, mX4_reckon_61, mX4_reckon_11, mX4_reckon_0, mX4_reckon, e0, zqg_15_5 h2, zqkF h1, id, zqk_15, g0, z1, Option.map_some, Int32.reduceLT, Int32.reduceLE, Int32.reduceAdd, Int32.reduceSub, Int32.reduceMul, Int32.reduceDiv, Int32.reduceMod, ↓reduceIte, Option.bind_some]
      rfl
    · have f0' : mX9_step N (b + 75) (zc w b C0 M r0) = mX9_step_74 N (b + 75) (Int32.ofNat f0) (Int32.ofNat m) (Int32.ofNat p) 112 1 0 0 (zc w b C0 M r0) := zn_step (N := N) (w := w) hc' hop (n := 1) rfl rfl rfl C0 r0
      have fp : mX9_peek N (b + 75) 0 (zc w b C0 M r0) = some (zc w b C0 M r0, M.2 45 (12 * f0 + (t + 1))) := zn_peek (N := N) (w := w) (b := b) (M := M) (t := t + 2) (k := 0) h1 h3 a2 a3 (by omega) C0 r0
      have z1 : lg_cmp (M.2 45 (12 * f0 + (t + 1))) 0 = 0 := zw_cmp.mpr hz
      refine f0'.trans ?_
      simp (decide := true) only [mX9_step_74, mX9_doReckoning_352, mX9_doReckoning_244, mX9_doReckoning_229, mX9_doReckoning_210, mX9_doReckoning_302, mX9_doReckoning_279, mX9_doReckoning_274, mX9_doReckoning_192, mX9_doReckoning_144, mX9_doReckoning_138, mX9_doReckoning_0, mX9_doReckoning, zqk_75, fp, id, z1, Option.map_some, Int32.reduceLT, Int32.reduceLE, Int32.reduceAdd, Int32.reduceSub, Int32.reduceMul, Int32.reduceDiv, Int32.reduceMod, ↓reduceIte, Option.bind_some]
      show ((mX9_fail N (b + 75) 1 (zc w b C0 M r0)).bind _).bind _ = (mX9_fail N (b + 75) 1 (zc w b C0 M r0)).bind _
      cases mX9_fail N (b + 75) 1 (zc w b C0 M r0) <;> rfl
  · obtain ⟨l3, h3, h4⟩ := (hfl lt hl).2 (by unfold zgoes; decide)
    refine zStp_q hR hO hφ (zo_112 hc hop k0 k1 hz) ⟨l3, ?_, h4⟩
    rw [zrv_push]
    exact h3

theorem zs_113 (hN : 1700 < N) (hw : w ≤ 400) (hS : S + 1 < 2 ^ 31) (h7 : ∀ k, k < 7 → F k = 0) (hR : zRn w b K F ρ α π r Q D C M S f0 φ) (hO : zOn C M) (hφ : φ f0 = (t, p, m, lt, st)) (hop : uC (Q.2.2.1 m) p = 113) : zStp N w b K F ρ α π r Q C M S := by
  obtain ⟨hc, hm, hK, l', hl, s1, hp, s2, l2, hh, hlen, hfl⟩ := hR.ty hO hφ hop
  have hh : some (s1, l') = some (s2, l2) := hh
  cases hh
  have hp : zpop [2, 2] (zrv st t) = some s1 := hp
  obtain ⟨t, rfl, k0, hp⟩ := zpopc hp
  obtain ⟨t, rfl, k1, hp⟩ := zpopc hp
  have hp := zpop0 hp
  subst hp
  by_cases hz : M.2 45 (12 * f0 + (t + 1)) = 0
  · have hc' := hc
    obtain ⟨h1, h2, h3, h4, h5, hfr, _, h8, h9, h10, h11, h12⟩ := hc
    obtain ⟨a1, a2, a3, a4, a5, a6, a7, a8, a9⟩ := hfr
    have u0 := (a9 (t + 1) (by omega)).2.2.2
    rw [k0] at u0
    have n0 := u0.num (Or.inr rfl)
    refine zStp_e (e := 1) hN hw hS h7 hR hO (by decide) (fun M0 => ?_) (Or.inl ⟨Int32.ofNat f0, Int32.ofNat p, 1, fun C0 r0 => ?_⟩)
    · have e0 : mX1_opcode N (b + (3 * f0 + 27)) (zc w b C M0 r) = some (zc w b C M0 r, 113) := ze_step0 (N := N) (w := w) hc' hop M0
      have g0 : mX1_number N (b + (3 * f0 + 27)) 0 (zc w b C M0 r) = _ := zf_number (N := N) (w := w) (b := b) (r := r) (k := 0) h1 a1 a3 (by omega) M0
      have z1 : lg_cmp (C.2.1 (f0 + 120) (15 + (t + 1 + 1) - 0)) 0 = 0 := by rw [show 15 + (t + 1 + 1) - 0 = 16 + (t + 1) by omega, n0.1, zw_cmp]; exact hz
      simp (decide := true) only [mX4_step_107, mX4_step_249, mX4_step_0, mX4_step, mX4_reckon_172, mX4_reckon_145, mX4_reckon_118, mX4_reckon_117, mX4_reckon_91, mX4_reckon_82, mX4_reckon_61, mX4_reckon_11, mX4_reckon_0, mX4_reckon, e0, zqg_15_5 h2, zqkF h1, id, zqk_15, g0, z1, Option.map_some, Int32.reduceLT, Int32.reduceLE, Int32.reduceAdd, Int32.reduceSub, Int32.reduceMul, Int32.reduceDiv, Int32.reduceMod, ↓reduceIte, Option.bind_some]
      rfl
    · have f0' : mX9_step N (b + 75) (zc w b C0 M r0) = mX9_step_74 N (b + 75) (Int32.ofNat f0) (Int32.ofNat m) (Int32.ofNat p) 113 1 0 0 (zc w b C0 M r0) := zn_step (N := N) (w := w) hc' hop (n := 1) rfl rfl rfl C0 r0
      have fp : mX9_peek N (b + 75) 0 (zc w b C0 M r0) = some (zc w b C0 M r0, M.2 45 (12 * f0 + (t + 1))) := zn_peek (N := N) (w := w) (b := b) (M := M) (t := t + 2) (k := 0) h1 h3 a2 a3 (by omega) C0 r0
      have z1 : lg_cmp (M.2 45 (12 * f0 + (t + 1))) 0 = 0 := zw_cmp.mpr hz
      refine f0'.trans ?_
      simp (decide := true) only [mX9_step_74, mX9_doReckoning_352, mX9_doReckoning_244, mX9_doReckoning_229, mX9_doReckoning_210, mX9_doReckoning_302, mX9_doReckoning_279, mX9_doReckoning_274, mX9_doReckoning_192, mX9_doReckoning_144, mX9_doReckoning_138, mX9_doReckoning_0, mX9_doReckoning, zqk_75, fp, id, z1, Option.map_some, Int32.reduceLT, Int32.reduceLE, Int32.reduceAdd, Int32.reduceSub, Int32.reduceMul, Int32.reduceDiv, Int32.reduceMod, ↓reduceIte, Option.bind_some]
      show ((mX9_fail N (b + 75) 1 (zc w b C0 M r0)).bind _).bind _ = (mX9_fail N (b + 75) 1 (zc w b C0 M r0)).bind _
      cases mX9_fail N (b + 75) 1 (zc w b C0 M r0) <;> rfl
  · obtain ⟨l3, h3, h4⟩ := (hfl lt hl).2 (by unfold zgoes; decide)
    refine zStp_q hR hO hφ (zo_113 hc hop k0 k1 hz) ⟨l3, ?_, h4⟩
    rw [zrv_push]
    exact h3

end ZST
