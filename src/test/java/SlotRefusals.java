/** The refusals that deliver and drop share. */
final class SlotRefusals {
    /** deliver or drop. */
    interface Call {
        boolean of(CutDetectMember c, int slot, int p);
    }

    private final Checks checks;
    private final String name;
    private final Call call;

    SlotRefusals(Checks checks, String name, Call call) {
        this.checks = checks;
        this.name = name;
        this.call = call;
    }

    void all() {
        wrongSlots();
        wrongIds();
        noReceiver();
        receivedAlready();
        droppedAlready();
        freeSlots();
    }

    private void refused(CutDetectMember c, int slot, int p) {
        checks.refused(name + "(" + slot + ", " + p + ")", c, () -> call.of(c, slot, p));
    }

    /** "slot is not in 0..SLOTS-1" */
    private void wrongSlots() {
        CutDetectMember c = new CutDetectMember(16, 2, 2, 1);
        Drive.fillPool(c, 0);
        for (int wrong : Checks.WRONG_SLOTS) {
            for (int p = 0; p < 16; p++) {
                refused(c, wrong, p);
            }
        }
    }

    /** "p is not in 0..15" */
    private void wrongIds() {
        CutDetectMember c = new CutDetectMember(16, 2, 2, 1);
        Drive.fillPool(c, 0);
        for (int wrong : Checks.WRONG_IDS) {
            for (int slot = 0; slot < CutDetectMember.SLOTS; slot++) {
                refused(c, slot, wrong);
            }
        }
    }

    /** "p is not in the dest of the slot." */
    private void noReceiver() {
        CutDetectMember c = new CutDetectMember(5, 2, 2, 1);
        Drive.must(c.observe(0, 4), "observe(0, 4)");
        for (int p = 5; p < 16; p++) {
            refused(c, 0, p);
        }
        Drive.must(c.fallback(3) && c.deliver(1, 2), "a promise");
        checks.message("a promise to 3 alone", c, 2, CutDetectMember.PROMISE, 2, 0, 19, -1, 0, 8);
        for (int p : new int[] {0, 1, 2, 4}) {
            refused(c, 2, p);
        }
    }

    /** "p is not in the dest of the slot.": it was, but has received the message. */
    private void receivedAlready() {
        CutDetectMember c = new CutDetectMember(5, 2, 2, 1);
        Drive.must(c.observe(0, 4) && c.deliver(0, 2), "an alert to 2");
        refused(c, 0, 2);
        checks.due("reportCount(2, 4)", c.reportCount(2, 4), 1);
    }

    /** "p is not in the dest of the slot.": it was, but has lost the message. */
    private void droppedAlready() {
        CutDetectMember c = new CutDetectMember(5, 2, 2, 1);
        Drive.must(c.observe(0, 4) && c.drop(0, 2), "an alert that 2 loses");
        refused(c, 0, 2);
        checks.due("reportCount(2, 4)", c.reportCount(2, 4), 0);
    }

    /** "A free slot has dest 0, so delivering from it is always refused." */
    private void freeSlots() {
        CutDetectMember c = new CutDetectMember(5, 2, 2, 1);
        Drive.fillPool(c, 0);
        Drive.dropAll(c);
        for (int slot = 0; slot < CutDetectMember.SLOTS; slot++) {
            for (int p = 0; p < 16; p++) {
                refused(c, slot, p);
            }
        }
    }
}
