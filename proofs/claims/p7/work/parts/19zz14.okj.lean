section
theorem ok_law4 : ∀ r ∈ r_law4, okRow mCl mDf mG mAr mSx 65 mt m_law r := chkRowsW_ok (o := 1488) (n := 300) rfl (ps := p_law4) (by decide +kernel)
theorem ok_law5 : ∀ r ∈ r_law5, okRow mCl mDf mG mAr mSx 65 mt m_law r := chkRowsW_ok (o := 1788) (n := 300) rfl (ps := p_law5) (by decide +kernel)
theorem ok_law6 : ∀ r ∈ r_law6, okRow mCl mDf mG mAr mSx 65 mt m_law r := chkRowsW_ok (o := 2088) (n := 39) rfl (ps := p_law6) (by decide +kernel)
end
