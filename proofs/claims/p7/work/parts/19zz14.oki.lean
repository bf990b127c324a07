section
theorem ok_law0 : ∀ r ∈ r_law0, okRow mCl mDf mG mAr mSx 65 mt m_law r := chkRowsW_ok (o := 0) (n := 574) rfl (ps := p_law0) (by decide +kernel)
theorem ok_law1 : ∀ r ∈ r_law1, okRow mCl mDf mG mAr mSx 65 mt m_law r := chkRowsW_ok (o := 572) (n := 288) rfl (ps := p_law1) (by decide +kernel)
theorem ok_law2 : ∀ r ∈ r_law2, okRow mCl mDf mG mAr mSx 65 mt m_law r := chkRowsW_ok (o := 860) (n := 300) rfl (ps := p_law2) (by decide +kernel)
theorem ok_law3 : ∀ r ∈ r_law3, okRow mCl mDf mG mAr mSx 65 mt m_law r := chkRowsW_ok (o := 1160) (n := 330) rfl (ps := p_law3) (by decide +kernel)
end
