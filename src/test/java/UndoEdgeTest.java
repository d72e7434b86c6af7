/** The sentences of promises 21 to 23, undo and saved states, that name a boundary case, one test each. */
public final class UndoEdgeTest {
    private static final int BAD_VALUE = GenerationNames.BAD_VALUE;
    private static final int NOT_POSSIBLE = GenerationNames.NOT_POSSIBLE;
    private static final int NONE = GenerationNames.NONE;
    private static final int[] WRONG_SLOTS = {-1, 2, 3, 255, Integer.MIN_VALUE, Integer.MAX_VALUE};

    private UndoEdgeTest() {
    }

    public static void main(String[] args) {
        Sentences all = new Sentences("Promises 21 to 23");
        all.test("21: Undoes the latest change", UndoEdgeTest::undoLatest);
        all.test("21: everything except the pad, the slots and the history is as it was before it", UndoEdgeTest::undoEverything);
        all.test("21: except the pad, the slots", UndoEdgeTest::undoKeeps);
        all.test("21: A history of at most 6 states is kept", UndoEdgeTest::sixStates);
        all.test("21: each method that is a change, and returns no error, records the state before it", UndoEdgeTest::eachChange);
        all.test("21: and returns no error: those that do record nothing, and neither do those that are no change",
            UndoEdgeTest::noChange);
        all.test("21: (also if nothing is different then)", UndoEdgeTest::nothingDifferent);
        all.test("21: when one more is recorded, the oldest one is dropped", UndoEdgeTest::oldestDropped);
        all.test("21: An order of a text records nothing by itself.", UndoEdgeTest::ordersRecordNothing);
        all.test("21: Returns how many changes can be undone then; NOT_POSSIBLE if there is none.", UndoEdgeTest::undoAnswers);
        all.test("22: Saves everything except the pad, the history and the slots in a slot", UndoEdgeTest::saveEverything);
        all.test("22: and overwrites what was saved there", UndoEdgeTest::overwrites);
        all.test("22: slot: 0 or 1; BAD_VALUE if there is no such slot.", UndoEdgeTest::saveSlots);
        all.test("22: Returns how many generations there are without holes", UndoEdgeTest::saveCounts);
        all.test("23: Restores what was saved last in a slot, which keeps it.", UndoEdgeTest::restoreLast);
        all.test("23: This is a change.", UndoEdgeTest::restoreIsAChange);
        all.test("23: Returns how many generations there are without holes then", UndoEdgeTest::restoreCounts);
        all.test("23: BAD_VALUE if there is no such slot; NOT_POSSIBLE if nothing was saved in it.", UndoEdgeTest::restoreErrors);
        all.end();
    }

    /** All that can be looked at, but for the pad, its fault and how many changes can be undone. */
    private static String world(GenerationNames x) {
        return Look.all(x).replaceAll(" -?\\d+ -?\\d+, groups", " , groups").replaceAll("fault.*", "");
    }

    /** Something of everything: KEEP, a row that went round, holes, reads, jobs, one that failed and is run again. */
    private static GenerationNames full() {
        GenerationNames x = new GenerationNames();
        Due.type(x, "w0+=1" + ";w0+=2".repeat(10));
        x.carryOut();
        x.keep(1, 8);
        x.keep(5, 1);
        Look.make(x, 1, 5);
        x.write(5, 1, 9999);
        x.delete(1, -2);
        x.begin();
        x.write(0, 1, 40);
        x.read(0, 0);
        x.read(4, 0);
        x.end(0);
        x.write(2, 1, 7);
        x.again();
        x.write(1, 1, 60);
        x.write(3, 1, 60);
        x.delete(3, 1);
        return x;
    }

    /** Returns whether it was a change: some are refused in some states. */
    private static boolean change(GenerationNames x, int which) {
        int answer = changed(x, which);
        return answer >= 0 || answer == NONE;
    }

    private static int changed(GenerationNames x, int which) {
        switch (which) {
            case 0: return x.keep(1, 2);
            case 1: return x.write(0, 1, 5);
            case 2: return x.write(1, 1, 5);
            case 3: return x.write(1, -1, 5);
            case 4: return x.read(1, 0);
            case 5: return x.read(3, 1);
            case 6: return x.delete(1, -4);
            case 7: return x.delete(1, 1);
            case 8: return x.end(1);
            case 9: return x.end(0);
            case 10: Due.type(x, "f;a;w0+=5;w1+=6;g;j;d1-1"); return x.carryOut();
            case 11: return x.again();
            case 12: return x.begin();
            default: return x.restore(1);
        }
    }

    private static void undoLatest(Due due) {
        GenerationNames x = Look.made(0, 8, 5);
        for (int i = 5; i >= 1; i--) {
            due.is("the latest one", x.named(0, 0), i);
            due.is("undone", x.undo(), i);
        }
        due.is("none is there", x.ofGroup(0, 1), 0);
        due.is("KEEP is still changed", x.ofGroup(0, 0), 8);
        x.undo();
        due.is("that was the first one", x.ofGroup(0, 0), 3);
        due.is("numbers begin again", x.write(0, 1, 1), 1);
    }

    private static void undoEverything(Due due) {
        String saved = world(full());
        for (int first = 0; first < 14; first++) {
            for (int left = 0; left < 6; left++) {
                GenerationNames x = full();
                GenerationNames y = full();
                x.save(1);
                y.save(1);
                int toUndo = 0;
                for (int i = 0; i < 6; i++) {
                    boolean isChange = change(x, (first + i) % 14);
                    if (i < left) {
                        change(y, (first + i) % 14);
                    } else {
                        toUndo += isChange ? 1 : 0;
                    }
                }
                for (int i = 0; i < toUndo; i++) {
                    x.undo();
                }
                due.is("undone as far as " + left + " from " + first, world(x), world(y));
            }
        }
        for (int which = 0; which < 10; which++) {
            GenerationNames x = full();
            change(x, which);
            due.holds("the change " + which + " is one that is seen", !world(x).equals(saved));
        }
    }

    private static void undoKeeps(Due due) {
        GenerationNames x = Look.made(0, 3, 1);
        x.save(0);
        x.write(0, 1, 20);
        x.save(1);
        x.put(Due.packed("r00"));
        x.write(0, 1, 30);
        x.undo();
        due.is("the pad", x.count(8), 3);
        due.is("its text", x.carryOut(), 1);
        x.put('j');
        x.undo();
        due.is("an empty pad is not filled again", x.count(8), 1);
        x.undo();
        x.undo();
        due.is("nothing is left", x.ofGroup(0, 1), 0);
        due.is("slot 1, saved behind what is undone", x.restore(1), 2);
        due.is("slot 0", x.restore(0), 1);
        x.save(1);
        x.undo();
        due.is("a save is not undone", x.restore(1), 1);
    }

    private static void sixStates(Due due) {
        for (int changes = 0; changes <= 20; changes++) {
            GenerationNames x = new GenerationNames();
            for (int i = 1; i <= changes; i++) {
                x.write(0, 1, i);
            }
            int most = Math.min(6, changes);
            due.is("can be undone of " + changes, x.count(9), most);
            for (int i = most - 1; i >= 0; i--) {
                due.is("undo", x.undo(), i);
                int left = changes - most + i;
                due.is("newest", x.ofGroup(0, 3), left);
                due.is("row", x.ofGroup(0, 1), Math.min(3, left));
                due.is("rolled off", x.ofGroup(0, 4), Math.max(0, left - 3));
            }
            due.is("no more", x.undo(), NOT_POSSIBLE);
            due.is("nothing changed by that", x.ofGroup(0, 3), changes - most);
        }
    }

    private static void eachChange(Due due) {
        GenerationNames x = new GenerationNames();
        x.save(0);
        int[] answers = {x.keep(0, 3), x.write(0, 1, 1), x.write(0, 0, 1), x.read(0, 0), x.delete(0, 0), x.begin()};
        for (int i = 0; i < answers.length; i++) {
            due.holds("no error", answers[i] >= 0);
        }
        due.is("six changes", x.count(9), 6);
        x = new GenerationNames();
        x.save(0);
        x.begin();
        x.end(0);
        due.is("end, too", x.count(9), 2);
        x.again();
        due.is("again, too", x.count(9), 3);
        x.put('g');
        x.carryOut();
        due.is("carryOut, too", x.count(9), 4);
        x.restore(0);
        due.is("restore, too", x.count(9), 5);
        due.is("undo of restore", x.undo(), 4);
        due.is("none runs", x.count(0) * 10 + x.count(1), 20);
        due.is("undo of carryOut", x.undo(), 3);
        due.is("one runs", x.count(0) * 10 + x.count(1), 21);
        due.is("undo of again", x.undo(), 2);
        due.is("it failed", x.count(0) * 10 + x.count(2), 11);
        due.is("undo of end", x.undo(), 1);
        due.is("it runs", x.count(1) * 10 + x.count(2), 10);
        due.is("undo of begin", x.undo(), 0);
        due.is("none began", x.count(0) + x.count(1), 0);
    }

    private static void noChange(Due due) {
        GenerationNames x = Look.made(0, 3, 1);
        int[] answers = {x.keep(6, 3), x.keep(0, 0), x.write(6, 1, 1), x.write(0, 2, 1), x.write(0, 1, 10000), x.write(0, -1, 1),
            x.read(6, 0), x.read(0, 2), x.delete(6, 0), x.delete(0, 2), x.delete(0, -1), x.end(2), x.end(0), x.again(), x.restore(2),
            x.restore(1), x.carryOut(), x.put(0), x.save(2)};
        for (int answer : answers) {
            due.holds("an error", answer <= -1 && answer >= -5);
        }
        x.begin();
        due.is("one runs", x.begin(), NOT_POSSIBLE);
        x.put('x');
        x.carryOut();
        x.wipe();
        x.save(1);
        Look.all(x);
        due.is("keep, write and begin", x.count(9), 3);
        due.is("undo of begin", x.undo(), 2);
        due.is("none runs", x.count(1), 0);
        due.is("undo of write", x.undo(), 1);
        due.is("none is there", x.count(3), 0);
    }

    private static void nothingDifferent(Due due) {
        GenerationNames x = new GenerationNames();
        x.write(0, 1, 5);
        x.write(0, 0, 5);
        due.is("the same data", x.count(9), 2);
        x.keep(0, 3);
        due.is("the same KEEP", x.count(9), 3);
        x.save(0);
        x.restore(0);
        due.is("the same state", x.count(9), 4);
        x.put('g');
        x.carryOut();
        due.is("a text of which nothing is carried out", x.count(9), 5);
        for (int i = 4; i >= 1; i--) {
            due.is("undo", x.undo(), i);
            due.is("nothing is different", x.ofGroup(0, 6), 5);
        }
        x.undo();
        due.is("but by the first one", x.ofGroup(0, 1), 0);
    }

    private static void oldestDropped(Due due) {
        GenerationNames x = new GenerationNames();
        for (int i = 1; i <= 7; i++) {
            x.write(0, 1, i);
        }
        for (int i = 0; i < 6; i++) {
            x.undo();
        }
        due.is("the first one is dropped", x.ofGroup(0, 3), 1);
        due.is("it can't be undone", x.undo(), NOT_POSSIBLE);
        for (int i = 2; i <= 4; i++) {
            due.is("the next one", x.write(0, 1, i), i);
        }
        due.is("three", x.count(9), 3);
        x.undo();
        x.write(0, 1, 7);
        due.is("one instead of another", x.count(9), 3);
        for (int i = 0; i < 5; i++) {
            x.read(0, 0);
        }
        due.is("six again", x.count(9), 6);
        for (int i = 0; i < 6; i++) {
            x.undo();
        }
        due.is("two of eight are dropped", x.ofGroup(0, 3), 3);
        due.is("reads undone", x.count(5), 0);
        due.is("no more", x.undo(), NOT_POSSIBLE);
    }

    private static void ordersRecordNothing(Due due) {
        GenerationNames x = Look.made(0, 3, 1);
        Due.type(x, "j;w0+=1;r00;r0+;d00;f;a;w0+=2;w0+=3;g;d00;w00=1");
        due.is("eleven, and an error", x.carryOut(), 11);
        due.is("one more than before", x.count(9), 3);
        due.is("all of them at once", x.undo(), 2);
        due.is("as before", Look.row(x, 0), "1");
        due.is("no job", x.count(0) + x.count(2), 0);
        for (int i = 0; i < 4; i++) {
            x.write(0, 1, i);
        }
        Due.type(x, "r00;r00;r00;r00;r00;r00;r00;r00");
        x.carryOut();
        due.is("the oldest one alone is dropped", x.count(9), 6);
        for (int i = 0; i < 6; i++) {
            x.undo();
        }
        due.is("KEEP and no more", x.ofGroup(0, 1), 0);
    }

    private static void undoAnswers(Due due) {
        GenerationNames x = new GenerationNames();
        due.is("none", x.undo(), NOT_POSSIBLE);
        due.is("still none", x.undo(), NOT_POSSIBLE);
        x.read(0, 0);
        due.is("one", x.undo(), 0);
        due.is("it is no change itself", x.undo(), NOT_POSSIBLE);
        x.read(0, 0);
        x.read(0, 0);
        due.is("two", x.undo(), 1);
        x.read(0, 0);
        due.is("as many as count tells", x.count(9), 2);
        due.is("two again", x.undo(), 1);
        due.is("and none", x.undo(), 0);
        x.save(0);
        due.is("save is none", x.undo(), NOT_POSSIBLE);
    }

    private static void saveEverything(Due due) {
        GenerationNames x = full();
        String want = world(x);
        x = full();
        x.put(Due.packed("j;g"));
        due.is("saved", x.save(0), 3 + 5 - 1 + 1 + 1);
        x.end(1);
        Due.type(x, ";j");
        x.keep(0, 1);
        x.delete(1, 0);
        x.read(5, 0);
        x.write(4, 1, 1);
        x.begin();
        x.wipe();
        x.put('g');
        int changes = x.count(9);
        due.is("restored", x.restore(0), 9);
        due.is("the pad is as it is", x.count(8), 1);
        due.is("the history, too", changes, 6);
        due.is("everything else", world(x), want);
        x = full();
        x.end(0);
        x.save(1);
        x.begin();
        x.end(1);
        x.restore(1);
        due.is("also that the last job failed", x.again(), 3);
        due.is("and the names that it had", x.named(0, 0), 11);
        due.is("not those without a job", x.named(2, 0), NONE);
    }

    private static void overwrites(Due due) {
        GenerationNames x = new GenerationNames();
        for (int i = 1; i <= 20; i++) {
            x.write(i % 6, 1, i);
            int there = x.count(3);
            due.is("saved", x.save(i % 2), there);
            due.is("restored", x.restore(i % 2), there);
            if (i > 1) {
                due.is("the other slot is as it was", x.restore(1 - i % 2), x.count(3));
                due.is("the number before", x.ofGroup((i - 1) % 6, 6) > 0 ? 1 : 0, 1);
                x.restore(i % 2);
            }
        }
        GenerationNames empty = new GenerationNames();
        empty.save(0);
        empty.write(0, 1, 1);
        empty.save(0);
        empty.delete(0, 0);
        due.is("what was saved last", empty.restore(0), 1);
    }

    private static void saveSlots(Due due) {
        GenerationNames x = Look.made(0, 3, 2);
        for (int slot : WRONG_SLOTS) {
            due.is("slot " + slot, x.save(slot), BAD_VALUE);
        }
        due.is("nothing in 0", x.restore(0), NOT_POSSIBLE);
        due.is("nothing in 1", x.restore(1), NOT_POSSIBLE);
        due.is("slot 0", x.save(0), 2);
        due.is("nothing in 1 still", x.restore(1), NOT_POSSIBLE);
        x.write(0, 1, 1);
        due.is("slot 1", x.save(1), 3);
        due.is("slot 0 by itself", x.restore(0), 2);
        due.is("slot 1 by itself", x.restore(1), 3);
    }

    private static void saveCounts(Due due) {
        GenerationNames x = new GenerationNames();
        due.is("none", x.save(0), 0);
        for (int g = 0; g < 6; g++) {
            x.keep(g, 8);
            Look.make(x, g, 9);
            due.is("all", x.save(g % 2), 8 * g + 8);
            x.delete(g, 0);
            due.is("without a hole", x.save(g % 2), 8 * g + 7);
            x.undo();
        }
        x.delete(0, -7);
        due.is("the most but one", x.save(0), 47);
    }

    private static void restoreLast(Due due) {
        GenerationNames x = Look.made(0, 3, 2);
        x.begin();
        x.write(0, 1, 30);
        x.save(0);
        for (int i = 0; i < 10; i++) {
            x.write(0, 1, 40 + i);
            x.delete(0, 0);
            x.keep(0, 1);
            x.end(i % 2);
            due.is("restored", x.restore(0), 3);
            due.is("the row", Look.row(x, 0), "3 2 1");
            due.is("data", x.ofGroup(0, 6), 60);
            due.is("names", Look.names(x, 0), "3 2 1");
            due.is("the job runs", x.count(1), 1);
        }
        x.save(1);
        x.restore(1);
        x.write(0, 0, 21);
        x.save(1);
        due.is("slot 0 keeps it", x.restore(0), 3);
        due.is("as it was saved", x.ofGroup(0, 6), 60);
        due.is("slot 1 what was saved last", x.restore(1), 3);
        due.is("in it", x.ofGroup(0, 6), 61);
    }

    private static void restoreIsAChange(Due due) {
        GenerationNames x = new GenerationNames();
        x.save(0);
        x.write(0, 1, 1);
        x.restore(0);
        due.is("two changes", x.count(9), 2);
        due.is("nothing is there", x.count(3), 0);
        due.is("undo", x.undo(), 1);
        due.is("the write is back", x.count(3), 1);
        due.is("undo of that", x.undo(), 0);
        for (int i = 1; i <= 10; i++) {
            x.restore(0);
            due.is("also if nothing is different", x.count(9), Math.min(6, i));
        }
        x.restore(1);
        x.restore(2);
        due.is("undo", x.undo(), 5);
        x.restore(1);
        x.restore(2);
        due.is("none that is refused", x.count(9), 5);
    }

    private static void restoreCounts(Due due) {
        GenerationNames x = new GenerationNames();
        x.save(0);
        due.is("none", x.restore(0), 0);
        for (int g = 0; g < 6; g++) {
            x.keep(g, 8);
            Look.make(x, g, 8);
        }
        x.save(0);
        due.is("the most", x.restore(0), 48);
        x.delete(3, -1);
        x.delete(3, -7);
        x.save(1);
        due.is("without holes", x.restore(1), 46);
        due.is("without holes then", x.restore(0), 48);
        x.undo();
        due.is("undone", x.count(3), 46);
    }

    private static void restoreErrors(Due due) {
        GenerationNames x = Look.made(0, 3, 1);
        for (int slot : WRONG_SLOTS) {
            due.is("slot " + slot, x.restore(slot), BAD_VALUE);
        }
        due.is("nothing in 0", x.restore(0), NOT_POSSIBLE);
        due.is("nothing in 1", x.restore(1), NOT_POSSIBLE);
        x.save(1);
        for (int slot : WRONG_SLOTS) {
            due.is("slot " + slot + " with one saved", x.restore(slot), BAD_VALUE);
        }
        due.is("nothing in 0 still", x.restore(0), NOT_POSSIBLE);
        due.is("1", x.restore(1), 1);
        x.undo();
        x.undo();
        x.undo();
        due.is("undo takes nothing out of it", x.restore(1), 1);
    }
}
