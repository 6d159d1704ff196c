/** One test for each sentence of promises 1 to 9 that names a boundary case. */
public final class PromiseBoundaryTest {
    private static final int ALL = -1;
    private static final int[] NO_SLOTS = {-1, 212, 213, 256, -212, 1 << 16, Integer.MIN_VALUE, Integer.MAX_VALUE};

    private static final Check check = new Check();

    public static void main(String[] args) {
        newObjectHasNoDeeds();
        newObjectHasNothingToTake();
        newObjectsAreApart();
        changeAnswersHowMany();
        changeRefusesNoSlot();
        changeRefusedIsNoChange();
        changeRefusedIsNoFlush();
        changeFullWith17();
        changeFullIsNoChange();
        changeFullNoMoreBehindAnEnd();
        changeRefusesNoSlotWith17();
        commitAnswersHowMany();
        commitRefusesNone();
        commitRefusedDoesNothing();
        forgetAnswersHowMany();
        forgetLeavesTheRest();
        flushForgetsTheDeed();
        flushAnswersDeedsSinceTheLatest();
        flushAnswersNoneBehindOneByItself();
        crashAnswersHowManyAreGone();
        crashIsNoFlush();
        crashLeavesNoneSince();
        crashTakesPartsFrom0To500();
        crashRefusesOtherParts();
        crashRefusedIsNoCrash();
        getOfNoSlotIsZero();
        tornIsNone();
        countOfDeedsThatAreThere();
        countOfDeedsSinceTheFlush();
        countOfBlocks();
        countOfChanges();
        countOfFlushes();
        countOfCrashes();
        countRefusesOthers();
        countAndGetChangeNothing();
        check.end();
    }

    private static void due(String call, long got, long want) {
        check.due(call, got, want);
    }

    private static void counts(String when, JournalShelf shelf, int... want) {
        check.counts(when, shelf, want);
    }

    private static void deed(JournalShelf shelf, int from, int length, int add) {
        check.deed(shelf, from, length, add);
    }

    private static void newObjectHasNoDeeds() {
        check.sentence("1: All VALUES 0; no DEEDS");
        JournalShelf shelf = new JournalShelf();
        for (int slot = -1; slot <= 212; slot++) {
            due("get(" + slot + ")", shelf.get(slot), 0);
        }
        counts("new", shelf, 0, 0, 0, 0, 0, 0);
    }

    private static void newObjectHasNothingToTake() {
        check.sentence("1: no DEEDS, to commit, forget, flush or lose");
        due("commit", new JournalShelf().commit(), JournalShelf.REFUSED);
        due("forget", new JournalShelf().forget(), 0);
        due("flush", new JournalShelf().flush(), 0);
        due("crash", new JournalShelf().crash(0, 0), 0);
        due("change", new JournalShelf().change(0, 0), 1);
        due("torn", new JournalShelf().torn(), 0);
    }

    private static void newObjectsAreApart() {
        check.sentence("1: a new object, whatever others hold");
        JournalShelf full = new JournalShelf();
        deed(full, 0, 17, 1);
        due("flush", full.flush(), 1);
        due("crash", full.crash(0, 0), 0);
        check.changes(full, 0, 3, 1);
        JournalShelf shelf = new JournalShelf();
        counts("new", shelf, 0, 0, 0, 0, 0, 0);
        due("get(0)", shelf.get(0), 0);
        due("the other's changes", full.count(3), 3);
    }

    private static void changeAnswersHowMany() {
        check.sentence("2: how many it has");
        JournalShelf shelf = new JournalShelf();
        for (int i = 1; i <= 17; i++) {
            due("change " + i, shelf.change(i * 12, -i), i);
            due("count(3)", shelf.count(3), i);
        }
    }

    private static void changeRefusesNoSlot() {
        check.sentence("2: REFUSED if slot is not 0 to 211");
        for (int slot : NO_SLOTS) {
            due("change(" + slot + ")", new JournalShelf().change(slot, 1), JournalShelf.REFUSED);
        }
        for (int slot = 0; slot < 212; slot++) {
            due("change(" + slot + ")", new JournalShelf().change(slot, 1), 1);
        }
    }

    private static void changeRefusedIsNoChange() {
        check.sentence("2: REFUSED, and no CHANGE");
        JournalShelf shelf = new JournalShelf();
        for (int slot : NO_SLOTS) {
            due("change(" + slot + ")", shelf.change(slot, 1), JournalShelf.REFUSED);
        }
        due("nothing to commit", shelf.commit(), JournalShelf.REFUSED);
        check.changes(shelf, 0, 2, 1);
        for (int slot : NO_SLOTS) {
            due("change(" + slot + ")", shelf.change(slot, 1), JournalShelf.REFUSED);
        }
        due("two as before", shelf.commit(), 2);
        counts("committed", shelf, 1, 1, 2, 0, 0, 0);
        due("get(0)", shelf.get(0), 1);
        due("get(211)", shelf.get(211), 0);
    }

    private static void changeRefusedIsNoFlush() {
        check.sentence("2: REFUSED: no FLUSH by itself either");
        JournalShelf shelf = new JournalShelf();
        deed(shelf, 0, 8, 1);
        for (int slot : NO_SLOTS) {
            due("change(" + slot + ")", shelf.change(slot, 1), JournalShelf.REFUSED);
        }
        counts("not flushed", shelf, 1, 1, 8, 0, 0, 0);
        due("the deed can be lost", shelf.crash(0, 0), 1);
        deed(shelf, 0, 8, 1);
        due("refused", shelf.change(212, 1), JournalShelf.REFUSED);
        due("the flush comes with the next change", shelf.change(211, 1), 1);
        due("flushes", shelf.count(4), 1);
    }

    private static void changeFullWith17() {
        check.sentence("2: FULL with 17");
        JournalShelf shelf = new JournalShelf();
        check.changes(shelf, 0, 16, 1);
        due("change 17", shelf.change(16, 17), 17);
        due("change 18, another slot", shelf.change(17, 18), JournalShelf.FULL);
        due("change 18, a slot it has", shelf.change(0, 18), JournalShelf.FULL);
        due("change 18, the value it has", shelf.change(16, 17), JournalShelf.FULL);
    }

    private static void changeFullIsNoChange() {
        check.sentence("2: FULL, and no CHANGE");
        JournalShelf shelf = new JournalShelf();
        deed(shelf, 100, 7, 1);
        check.changes(shelf, 0, 17, 1);
        for (int i = 0; i < 20; i++) {
            due("change 18", shelf.change(i, 99), JournalShelf.FULL);
        }
        counts("full", shelf, 1, 1, 7, 17, 0, 0);
        due("commit", shelf.commit(), 17);
        for (int slot = 0; slot < 20; slot++) {
            due("get(" + slot + ")", shelf.get(slot), slot < 17 ? slot + 1 : 0);
        }
        counts("committed", shelf, 2, 2, 24, 0, 0, 0);
    }

    private static void changeFullNoMoreBehindAnEnd() {
        check.sentence("2: FULL with 17 of the DEED that is put together");
        JournalShelf shelf = new JournalShelf();
        check.changes(shelf, 0, 17, 1);
        due("forget", shelf.forget(), 17);
        check.changes(shelf, 0, 17, 1);
        due("flush", shelf.flush(), 0);
        check.changes(shelf, 0, 17, 1);
        due("crash", shelf.crash(0, 0), 0);
        check.changes(shelf, 0, 17, 1);
        due("commit", shelf.commit(), 17);
        check.changes(shelf, 0, 17, 1);
        due("full again", shelf.change(0, 0), JournalShelf.FULL);
    }

    private static void changeRefusesNoSlotWith17() {
        check.sentence("2: REFUSED stands before FULL");
        JournalShelf shelf = new JournalShelf();
        check.changes(shelf, 0, 17, 1);
        due("change(-1)", shelf.change(-1, 1), JournalShelf.REFUSED);
        due("change(212)", shelf.change(212, 1), JournalShelf.REFUSED);
        due("changes", shelf.count(3), 17);
    }

    private static void commitAnswersHowMany() {
        check.sentence("3: how many CHANGES it has");
        for (int length = 1; length <= 17; length++) {
            JournalShelf shelf = new JournalShelf();
            check.changes(shelf, 0, length, 1);
            due("commit of " + length, shelf.commit(), length);
            counts("committed", shelf, 1, 1, length, 0, 0, 0);
        }
    }

    private static void commitRefusesNone() {
        check.sentence("3: REFUSED if it has none");
        JournalShelf shelf = new JournalShelf();
        due("new", shelf.commit(), JournalShelf.REFUSED);
        deed(shelf, 0, 1, 1);
        due("behind a commit", shelf.commit(), JournalShelf.REFUSED);
        due("change", shelf.change(1, 1), 1);
        due("forget", shelf.forget(), 1);
        due("behind a forget", shelf.commit(), JournalShelf.REFUSED);
        due("change", shelf.change(1, 1), 1);
        due("flush", shelf.flush(), 1);
        due("behind a flush", shelf.commit(), JournalShelf.REFUSED);
        due("change", shelf.change(1, 1), 1);
        due("crash", shelf.crash(ALL, 0), 0);
        due("behind a crash", shelf.commit(), JournalShelf.REFUSED);
        due("refused change", shelf.change(212, 1), JournalShelf.REFUSED);
        due("behind a refused change", shelf.commit(), JournalShelf.REFUSED);
    }

    private static void commitRefusedDoesNothing() {
        check.sentence("3: REFUSED, and no DEED");
        JournalShelf shelf = new JournalShelf();
        deed(shelf, 0, 8, 1);
        due("refused", shelf.commit(), JournalShelf.REFUSED);
        counts("refused", shelf, 1, 1, 8, 0, 0, 0);
        due("one deed to flush", shelf.flush(), 1);
        due("refused", shelf.commit(), JournalShelf.REFUSED);
        due("none to lose", shelf.crash(0, 0), 0);
        counts("crashed", shelf, 1, 0, 0, 0, 1, 1);
    }

    private static void forgetAnswersHowMany() {
        check.sentence("4: how many CHANGES it had");
        JournalShelf shelf = new JournalShelf();
        for (int length = 0; length <= 17; length++) {
            check.changes(shelf, 0, length, 1);
            due("forget of " + length, shelf.forget(), length);
            due("forget again", shelf.forget(), 0);
            counts("forgotten", shelf, 0, 0, 0, 0, 0, 0);
        }
        due("get(0)", shelf.get(0), 0);
    }

    private static void forgetLeavesTheRest() {
        check.sentence("4: The DEED that is put together is forgotten, and no other");
        JournalShelf shelf = new JournalShelf();
        deed(shelf, 0, 8, 1);
        due("forget of nothing", shelf.forget(), 0);
        counts("not flushed", shelf, 1, 1, 8, 0, 0, 0);
        due("change", shelf.change(0, 99), 1);
        due("forget", shelf.forget(), 1);
        counts("the flush by itself stays", shelf, 1, 0, 8, 0, 1, 0);
        due("get(0)", shelf.get(0), 1);
        deed(shelf, 1, 1, 50);
        due("forget behind a commit", shelf.forget(), 0);
        counts("the committed deed stays", shelf, 2, 1, 9, 0, 1, 0);
        due("get(1)", shelf.get(1), 51);
    }

    private static void flushForgetsTheDeed() {
        check.sentence("5: the DEED that is put together is forgotten");
        for (int length = 0; length <= 17; length++) {
            JournalShelf shelf = new JournalShelf();
            check.changes(shelf, 0, length, 1);
            due("flush", shelf.flush(), 0);
            counts("flushed", shelf, 0, 0, 0, 0, 1, 0);
            due("nothing to forget", shelf.forget(), 0);
            due("get(0)", shelf.get(0), 0);
        }
    }

    private static void flushAnswersDeedsSinceTheLatest() {
        check.sentence("5: how many DEEDS were committed since the latest one");
        JournalShelf shelf = new JournalShelf();
        due("none", shelf.flush(), 0);
        for (int deeds = 1; deeds <= 8; deeds++) {
            for (int i = 0; i < deeds; i++) {
                deed(shelf, i, 1, deeds);
            }
            due(deeds + " deeds", shelf.flush(), deeds);
            due("none since", shelf.flush(), 0);
        }
        deed(shelf, 0, 1, 1);
        due("crash that keeps it", shelf.crash(ALL, 0), 0);
        due("none since a crash", shelf.flush(), 0);
    }

    private static void flushAnswersNoneBehindOneByItself() {
        check.sentence("5: since the latest one, by itself, too");
        JournalShelf shelf = new JournalShelf();
        deed(shelf, 0, 8, 1);
        due("change", shelf.change(0, 1), 1);
        due("flush", shelf.flush(), 0);
        counts("flushed twice", shelf, 1, 0, 0, 0, 2, 0);
        deed(shelf, 0, 8, 1);
        deed(shelf, 0, 1, 1);
        due("the one behind it", shelf.flush(), 1);
        counts("flushed four times", shelf, 3, 0, 1, 0, 4, 0);
    }

    private static void crashAnswersHowManyAreGone() {
        check.sentence("6: how many committed DEEDS are gone");
        for (int deeds = 0; deeds <= 8; deeds++) {
            for (int stand = 0; stand <= deeds; stand++) {
                JournalShelf shelf = new JournalShelf();
                for (int i = 0; i < deeds; i++) {
                    deed(shelf, i, 1, 1);
                }
                due(stand + " of " + deeds + " stand", shelf.crash((1 << stand) - 1, 0), deeds - stand);
            }
        }
        JournalShelf open = new JournalShelf();
        check.changes(open, 0, 2, 1);
        due("an uncommitted deed is not counted", open.crash(0, 0), 0);
    }

    private static void crashIsNoFlush() {
        check.sentence("6: it is no FLUSH");
        JournalShelf shelf = new JournalShelf();
        for (int i = 1; i <= 3; i++) {
            deed(shelf, 0, 17, i);
            due("crash", shelf.crash(ALL, 0), 0);
            due("flushes", shelf.count(4), 0);
            due("crashes", shelf.count(5), i);
        }
        due("a flush is no crash", shelf.flush(), 0);
        due("flushes", shelf.count(4), 1);
        due("crashes", shelf.count(5), 3);
    }

    private static void crashLeavesNoneSince() {
        check.sentence("6: none is committed and no BLOCK written since then");
        for (int mask : new int[] {0, 0b111111, 0b1111, ALL}) {
            JournalShelf shelf = new JournalShelf();
            deed(shelf, 0, 2, 1);
            due("flush", shelf.flush(), 1);
            deed(shelf, 0, 2, 5);
            deed(shelf, 2, 2, 5);
            int gone = shelf.crash(mask, 0);
            String when = "mask " + mask;
            due(when, gone, mask == 0 ? 2 : mask == 0b1111 ? 1 : 0);
            counts(when, shelf, 3 - gone, 0, 0, 0, 1, 1);
            due(when + ": a crash again", shelf.crash(0, 0), 0);
            due(when + ": a flush", shelf.flush(), 0);
            counts(when, shelf, 3 - gone, 0, 0, 0, 2, 2);
        }
    }

    private static void crashTakesPartsFrom0To500() {
        check.sentence("6: part 0 to 500");
        for (int part = 0; part <= 500; part++) {
            JournalShelf shelf = new JournalShelf();
            deed(shelf, 9, 1, 1);
            deed(shelf, 0, 2, 1);
            due("crash(3, " + part + ")", shelf.crash(3, part), 1);
            due("what stands is whole: get(9)", shelf.get(9), 10);
            due("crashes", shelf.count(5), 1);
        }
    }

    private static void crashRefusesOtherParts() {
        check.sentence("6: REFUSED if part is not 0 to 500");
        for (int part : new int[] {-1, 501, -500, 512, 1 << 16, Integer.MIN_VALUE, Integer.MAX_VALUE}) {
            for (int mask : new int[] {0, 1, ALL}) {
                due("crash(" + mask + ", " + part + ")", new JournalShelf().crash(mask, part), JournalShelf.REFUSED);
            }
        }
    }

    private static void crashRefusedIsNoCrash() {
        check.sentence("6: REFUSED, and no CRASH");
        JournalShelf shelf = new JournalShelf();
        deed(shelf, 0, 2, 1);
        due("flush", shelf.flush(), 1);
        deed(shelf, 0, 1, 9);
        check.changes(shelf, 5, 2, 1);
        for (int part : new int[] {-1, 501, Integer.MIN_VALUE, Integer.MAX_VALUE}) {
            due("crash(0, " + part + ")", shelf.crash(0, part), JournalShelf.REFUSED);
            counts("refused", shelf, 2, 1, 3, 2, 1, 0);
            due("get(0)", shelf.get(0), 9);
        }
        due("the deed goes on", shelf.change(7, 8), 3);
        due("commit", shelf.commit(), 3);
        due("get(7)", shelf.get(7), 8);
    }

    private static void getOfNoSlotIsZero() {
        check.sentence("7: 0 if there is no such SLOT");
        JournalShelf shelf = new JournalShelf();
        for (int from = 0; from < 212; from += 17) {
            deed(shelf, from, Math.min(17, 212 - from), 1000);
        }
        for (int slot : NO_SLOTS) {
            due("get(" + slot + ")", shelf.get(slot), 0);
        }
        for (int slot = 0; slot < 212; slot++) {
            due("get(" + slot + ")", shelf.get(slot), slot + 1000);
        }
    }

    private static void tornIsNone() {
        check.sentence("8: SLOTS with something else on the DISK than one whole VALUE: 0");
        JournalShelf shelf = new JournalShelf();
        for (int part = 0; part <= 500; part += 50) {
            deed(shelf, 0, 3, part);
            due("written", shelf.torn(), 0);
            due("flush", shelf.flush(), 1);
            due("flushed", shelf.torn(), 0);
            deed(shelf, 0, 3, -part);
            due("torn in the flush's blocks and the deed's", shelf.crash(0b010101, part), 1);
            due("crashed", shelf.torn(), 0);
            due("get(2)", shelf.get(2), 2 + part);
        }
        due("refused crash", shelf.crash(0, 501), JournalShelf.REFUSED);
        due("not crashed", shelf.torn(), 0);
    }

    private static void countOfDeedsThatAreThere() {
        check.sentence("9: 0: DEEDS that are there");
        JournalShelf shelf = new JournalShelf();
        deed(shelf, 0, 1, 1);
        due("flush", shelf.flush(), 1);
        due("flushed", shelf.count(0), 1);
        deed(shelf, 0, 1, 1);
        deed(shelf, 0, 1, 1);
        due("change", shelf.change(0, 1), 1);
        due("and two behind it", shelf.count(0), 3);
        due("crash", shelf.crash(0b011, 0), 1);
        due("the last is gone", shelf.count(0), 2);
    }

    private static void countOfDeedsSinceTheFlush() {
        check.sentence("9: 1: those of them that were committed since the latest FLUSH");
        JournalShelf shelf = new JournalShelf();
        deed(shelf, 0, 7, 1);
        deed(shelf, 0, 1, 1);
        due("two", shelf.count(1), 2);
        due("change", shelf.change(0, 1), 1);
        due("none behind a flush by itself", shelf.count(1), 0);
        due("commit", shelf.commit(), 1);
        due("one", shelf.count(1), 1);
        due("flush", shelf.flush(), 1);
        due("none behind a flush", shelf.count(1), 0);
        deed(shelf, 0, 1, 1);
        due("crash", shelf.crash(ALL, 0), 0);
        due("none behind a crash", shelf.count(1), 0);
    }

    private static void countOfBlocks() {
        check.sentence("9: 2: BLOCKS written since the latest FLUSH (its own ones, too)");
        JournalShelf shelf = new JournalShelf();
        deed(shelf, 0, 7, 1);
        deed(shelf, 100, 17, 1);
        due("24 of deeds", shelf.count(2), 24);
        due("change", shelf.change(0, 1), 1);
        due("24 of the flush by itself", shelf.count(2), 24);
        due("forget", shelf.forget(), 1);
        deed(shelf, 0, 7, 1);
        deed(shelf, 100, 17, 1);
        due("24 of the flush, 24 of deeds", shelf.count(2), 48);
        due("flush", shelf.flush(), 2);
        due("24 of the flush", shelf.count(2), 24);
        due("flush", shelf.flush(), 0);
        due("none", shelf.count(2), 0);
    }

    private static void countOfChanges() {
        check.sentence("9: 3: CHANGES of the DEED that is put together");
        JournalShelf shelf = new JournalShelf();
        check.changes(shelf, 0, 17, 1);
        due("full", shelf.change(0, 1), JournalShelf.FULL);
        due("17", shelf.count(3), 17);
        due("commit", shelf.commit(), 17);
        due("none behind a commit", shelf.count(3), 0);
        due("change", shelf.change(0, 1), 1);
        due("one behind a flush by itself", shelf.count(3), 1);
    }

    private static void countOfFlushes() {
        check.sentence("9: 4: FLUSHES so far, those by themselves, too");
        JournalShelf shelf = new JournalShelf();
        due("flush", shelf.flush(), 0);
        due("one that wrote nothing", shelf.count(4), 1);
        for (int i = 1; i <= 5; i++) {
            deed(shelf, 0, 8, 1);
            due("by itself", shelf.count(4), i);
        }
        due("flush", shelf.flush(), 1);
        due("both kinds", shelf.count(4), 6);
    }

    private static void countOfCrashes() {
        check.sentence("9: 5: CRASHES so far");
        JournalShelf shelf = new JournalShelf();
        due("crash", shelf.crash(0, 0), 0);
        due("one that took nothing", shelf.count(5), 1);
        due("refused", shelf.crash(0, -1), JournalShelf.REFUSED);
        due("a refused one is none", shelf.count(5), 1);
        deed(shelf, 0, 1, 1);
        due("crash", shelf.crash(0, 500), 1);
        due("two", shelf.count(5), 2);
    }

    private static void countRefusesOthers() {
        check.sentence("9: REFUSED for others");
        JournalShelf shelf = new JournalShelf();
        deed(shelf, 0, 3, 1);
        for (int what : new int[] {-1, 6, 7, -6, 256, 1 << 16, Integer.MIN_VALUE, Integer.MAX_VALUE}) {
            due("count(" + what + ")", shelf.count(what), JournalShelf.REFUSED);
        }
        counts("0 to 5", shelf, 1, 1, 3, 0, 0, 0);
    }

    private static void countAndGetChangeNothing() {
        check.sentence("7, 8, 9: what only tells changes nothing");
        JournalShelf shelf = new JournalShelf();
        deed(shelf, 0, 8, 1);
        for (int i = -2; i < 10; i++) {
            shelf.get(i);
            shelf.count(i);
            shelf.torn();
        }
        counts("not flushed", shelf, 1, 1, 8, 0, 0, 0);
        due("the deed can be lost", shelf.crash(0, 0), 1);
    }
}
