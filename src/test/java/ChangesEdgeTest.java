/** The sentences of promises 1 to 8, a new object and the changes, that name a boundary case, one test each. */
public final class ChangesEdgeTest {
    private static final int NO_SUCH = GenerationNames.NO_SUCH;
    private static final int BAD_VALUE = GenerationNames.BAD_VALUE;
    private static final int NOT_POSSIBLE = GenerationNames.NOT_POSSIBLE;
    private static final int NONE = GenerationNames.NONE;
    private static final int LEAST = Integer.MIN_VALUE;
    private static final int MOST = Integer.MAX_VALUE;
    private static final int[] WRONG_GROUPS = {-1, 6, LEAST, MOST};

    private ChangesEdgeTest() {
    }

    public static void main(String[] args) {
        Sentences all = new Sentences("Promises 1 to 8");
        all.test("1: Creates groups without generations.", ChangesEdgeTest::newObject);
        all.test("2: Changes KEEP of a group; if it has more generations, the oldest ones roll off.", ChangesEdgeTest::keepLess);
        all.test("2: if it has more: as many or fewer stay, and none comes back", ChangesEdgeTest::keepMore);
        all.test("2: if it has more generations: holes are among them", ChangesEdgeTest::keepWithHoles);
        all.test("2: This is a change.", ChangesEdgeTest::keepIsAChange);
        all.test("2: keep: 1 to 8", ChangesEdgeTest::keepRange);
        all.test("2: Returns the previous KEEP; NO_SUCH if there is no such group; BAD_VALUE if keep is out of range.",
            ChangesEdgeTest::keepAnswers);
        all.test("3: Without a job the name 1 makes a new generation each time.", ChangesEdgeTest::writeEachTime);
        all.test("3: name: -7 to 0, or 1 for a new one", ChangesEdgeTest::writeNames);
        all.test("3: data: 0 to 9999", ChangesEdgeTest::writeData);
        all.test("3: Returns the number of the generation", ChangesEdgeTest::writeNumber);
        all.test("3: NOT_POSSIBLE if the name (-7 to 0) tells nothing", ChangesEdgeTest::writeTellsNothing);
        all.test("3: or it is 1, and what the job made is gone", ChangesEdgeTest::writeGone);
        all.test("4: This is a change (it is counted).", ChangesEdgeTest::readIsAChange);
        all.test("4: name: -7 to 1", ChangesEdgeTest::readNames);
        all.test("4: Returns the data; NO_SUCH if there is no such group; BAD_VALUE if name is out of range",
            ChangesEdgeTest::readAnswers);
        all.test("4: NONE if it tells nothing (1 without a job, or if the job made none, too)", ChangesEdgeTest::readNothing);
        all.test("5: Deletes a generation by a name. name: -7 to 1", ChangesEdgeTest::deleteNames);
        all.test("5: Returns its number; NO_SUCH if there is no such group; BAD_VALUE if name is out of range",
            ChangesEdgeTest::deleteAnswers);
        all.test("5: NOT_POSSIBLE if it tells nothing", ChangesEdgeTest::deleteNothing);
        all.test("6: Returns how many jobs began so far, this one included", ChangesEdgeTest::beginCounts);
        all.test("6: NOT_POSSIBLE if one runs", ChangesEdgeTest::beginWhileOneRuns);
        all.test("7: well: 1 if it ends well, 0 if it fails; BAD_VALUE if well is neither 0 nor 1", ChangesEdgeTest::endRange);
        all.test("7: Returns how many generations it made that are there then", ChangesEdgeTest::endCounts);
        all.test("7: NOT_POSSIBLE if none runs", ChangesEdgeTest::endWhileNoneRuns);
        all.test("8: The job that failed last is run again.", ChangesEdgeTest::againLast);
        all.test("8: Returns how many jobs began so far, this one included", ChangesEdgeTest::againCounts);
        all.test("8: NOT_POSSIBLE if one runs, or the last one did not fail", ChangesEdgeTest::againRefused);
        all.end();
    }

    private static void newObject(Due due) {
        GenerationNames x = new GenerationNames();
        String none = " is 3 0 0 0 0 0 0, named -6 -6 -6 -6 -6 -6 -6 -6 -6, if -6 -6 1";
        for (int place = 0; place < 8; place++) {
            none += ", at " + place + " -1 -1 -1 -1 -1 -1";
        }
        String want = "";
        for (int g = 0; g < 6; g++) {
            want += "\ngroup " + g + none;
        }
        due.is("all of it", Look.all(x), want + "\ncounts 0 0 0 0 0 0 0 0 0 0, groups 0 0 63, fault 0");
        due.is("no change", x.undo(), NOT_POSSIBLE);
        due.is("nothing in slot 0", x.restore(0), NOT_POSSIBLE);
        due.is("nothing in slot 1", x.restore(1), NOT_POSSIBLE);
        due.is("no job", x.end(1), NOT_POSSIBLE);
        due.is("none that failed", x.again(), NOT_POSSIBLE);
        due.is("an empty pad", x.wipe(), 0);
        GenerationNames other = Look.made(0, 8, 8);
        other.begin();
        due.is("each object by itself", Look.all(new GenerationNames()), want
            + "\ncounts 0 0 0 0 0 0 0 0 0 0, groups 0 0 63, fault 0");
    }

    private static void keepLess(Due due) {
        for (int from = 1; from <= 8; from++) {
            for (int to = 1; to <= 8; to++) {
                GenerationNames x = Look.made(0, from, from);
                due.is("previous KEEP", x.keep(0, to), from);
                int left = Math.min(from, to);
                due.is("left of " + from + " by " + to, x.ofGroup(0, 1), left);
                due.is("rolled off", x.ofGroup(0, 4), from - left);
                due.is("the newest one stays", x.named(0, 0), from);
                due.is("the oldest one that stays", x.named(0, 1 - left), from - left + 1);
                due.is("none is deleted", x.ofGroup(0, 5), 0);
            }
        }
    }

    private static void keepMore(Due due) {
        GenerationNames x = Look.made(0, 8, 8);
        x.keep(0, 1);
        for (int keep = 2; keep <= 8; keep++) {
            x.keep(0, keep);
            due.is("none comes back", Look.row(x, 0), "8");
        }
        x.write(0, 1, 1);
        x.keep(0, 2);
        due.is("as many as there are", Look.row(x, 0), "9 8");
        due.is("rolled off once", x.ofGroup(0, 4), 7);
        due.is("an empty group", x.keep(1, 1), 3);
        due.is("still empty", x.ofGroup(1, 1), 0);
        due.is("none of it rolled off", x.ofGroup(1, 4), 0);
    }

    private static void keepWithHoles(Due due) {
        GenerationNames x = Look.made(0, 8, 6);
        x.delete(0, -4);
        x.delete(0, -2);
        due.is("two holes", Look.row(x, 0), "6 5 (4) 3 (2) 1");
        x.keep(0, 6);
        due.is("as many as there are", Look.row(x, 0), "6 5 (4) 3 (2) 1");
        x.keep(0, 5);
        due.is("one, and the hole behind it", Look.row(x, 0), "6 5 (4) 3");
        due.is("rolled off", x.ofGroup(0, 4), 1);
        x.keep(0, 4);
        due.is("four are there", Look.row(x, 0), "6 5 (4) 3");
        x.keep(0, 2);
        due.is("one and a hole", Look.row(x, 0), "6 5");
        due.is("rolled off without holes", x.ofGroup(0, 4), 2);
        due.is("deleted", x.ofGroup(0, 5), 2);
        x = Look.made(0, 8, 3);
        x.delete(0, 0);
        x.delete(0, -1);
        x.keep(0, 2);
        due.is("holes alone do not stay", Look.row(x, 0), "");
        due.is("one rolled off", x.ofGroup(0, 4), 1);
    }

    private static void keepIsAChange(Due due) {
        GenerationNames x = new GenerationNames();
        x.keep(0, 3);
        due.is("also if nothing is different", x.count(9), 1);
        x.keep(5, 1);
        due.is("another one", x.count(9), 2);
        x.keep(5, 9);
        x.keep(6, 1);
        due.is("none that is refused", x.count(9), 2);
        due.is("undone", x.undo(), 1);
        due.is("KEEP as before", x.ofGroup(5, 0), 3);
    }

    private static void keepRange(Due due) {
        GenerationNames x = new GenerationNames();
        due.is("least", x.keep(0, 1), 3);
        due.is("most", x.keep(0, 8), 1);
        for (int wrong : new int[] {0, 9, -1, -8, 99, 257, LEAST, MOST}) {
            due.is("keep " + wrong, x.keep(0, wrong), BAD_VALUE);
        }
        due.is("none of them is kept", x.ofGroup(0, 0), 8);
    }

    private static void keepAnswers(Due due) {
        GenerationNames x = new GenerationNames();
        int previous = 3;
        for (int keep : new int[] {8, 8, 1, 1, 7, 2, 5}) {
            due.is("previous", x.keep(3, keep), previous);
            previous = keep;
        }
        due.is("each group by itself", x.keep(2, 3), 3);
        for (int g : WRONG_GROUPS) {
            due.is("no such group", x.keep(g, 3), NO_SUCH);
            due.is("no such group first", x.keep(g, 0), NO_SUCH);
        }
        x.begin();
        due.is("in a job", x.keep(3, 6), 5);
    }

    private static void writeEachTime(Due due) {
        GenerationNames x = new GenerationNames();
        for (int i = 1; i <= 12; i++) {
            due.is("a new one", x.write(1, 1, 7), i);
            due.is("by no job", x.generation(1, 0, 4), 0);
        }
        x.begin();
        due.is("in a job", x.write(1, 1, 7), 13);
        due.is("no new one in a job", x.write(1, 1, 8), 13);
        x.end(1);
        due.is("behind it", x.write(1, 1, 7), 14);
        due.is("by no job again", x.generation(1, 0, 4), 0);
        due.is("each time", x.write(1, 1, 7), 15);
    }

    private static void writeNames(Due due) {
        GenerationNames x = Look.made(0, 8, 8);
        for (int name = -7; name <= 0; name++) {
            due.is("name " + name, x.write(0, name, 500 - name), 8 + name);
            due.is("its data", x.generation(0, -name, 1), 500 - name);
        }
        due.is("no new one", x.ofGroup(0, 3), 8);
        due.is("name 1", x.write(0, 1, 500), 9);
        for (int wrong : new int[] {-8, 2, -9, 3, 11, -107, LEAST, MOST}) {
            due.is("name " + wrong, x.write(0, wrong, 1), BAD_VALUE);
        }
        due.is("none of them makes one", x.ofGroup(0, 3), 9);
    }

    private static void writeData(Due due) {
        GenerationNames x = new GenerationNames();
        x.begin();
        due.is("data of a new one, too much", x.write(0, 1, 10000), BAD_VALUE);
        due.is("too little", x.write(0, 1, -1), BAD_VALUE);
        due.is("it makes none", x.count(7), 0);
        due.is("most", x.write(0, 1, 9999), 1);
        due.is("least, to the same", x.write(0, 1, 0), 1);
        due.is("too much, to the same", x.write(0, 1, 10000), BAD_VALUE);
        due.is("NONE is no data", x.write(0, 1, NONE), BAD_VALUE);
        due.is("its data", x.read(0, 1), 0);
        x.delete(0, 1);
        due.is("data first", x.write(0, 1, 10000), BAD_VALUE);
    }

    private static void writeNumber(Due due) {
        GenerationNames x = Look.made(0, 3, 5);
        due.is("0", x.write(0, 0, 1), 5);
        due.is("-1", x.write(0, -1, 1), 4);
        due.is("-2", x.write(0, -2, 1), 3);
        due.is("1", x.write(0, 1, 1), 6);
        x.begin();
        due.is("0 in a job", x.write(0, 0, 2), 6);
        due.is("1 in a job", x.write(0, 1, 2), 7);
        due.is("0 then", x.write(0, 0, 3), 6);
        due.is("-1 then", x.write(0, -1, 3), 5);
        due.is("-2 rolled off", x.write(0, -2, 3), NOT_POSSIBLE);
        due.is("1 then", x.write(0, 1, 3), 7);
        due.is("data", x.ofGroup(0, 6), 9);
        for (int g : WRONG_GROUPS) {
            due.is("no such group", x.write(g, 1, 1), NO_SUCH);
            due.is("no such group first", x.write(g, -8, -1), NO_SUCH);
        }
    }

    private static void writeTellsNothing(Due due) {
        for (int many = 0; many <= 8; many++) {
            GenerationNames x = Look.made(0, 8, many);
            for (int name = -7; name <= 0; name++) {
                due.is("name " + name + " of " + many, x.write(0, name, 1), -name < many ? many + name : NOT_POSSIBLE);
            }
            x.delete(0, 0);
            due.is("a hole", x.write(0, 0, 1), NOT_POSSIBLE);
            due.is("no new one", x.ofGroup(0, 3), many);
            x.begin();
            due.is("a hole in a job", x.write(0, 0, 1), NOT_POSSIBLE);
            due.is("ahead of it", x.write(0, -1, 2), many > 1 ? many - 1 : NOT_POSSIBLE);
        }
    }

    private static void writeGone(Due due) {
        GenerationNames x = Look.made(0, 3, 1);
        x.begin();
        x.write(0, 1, 20);
        x.write(1, 1, 20);
        x.delete(0, 1);
        x.delete(1, 1);
        due.is("a hole", x.write(0, 1, 1), NOT_POSSIBLE);
        due.is("not even a hole", x.write(1, 1, 1), NOT_POSSIBLE);
        due.is("no new one", x.ofGroup(0, 3) * 10 + x.ofGroup(1, 3), 21);
        due.is("another group", x.write(2, 1, 1), 1);
        x.delete(0, 0);
        due.is("with all gone", x.ofGroup(0, 1), 0);
        due.is("not even a hole then", x.write(0, 1, 1), NOT_POSSIBLE);
        x.keep(0, 1);
        due.is("with another KEEP", x.write(0, 1, 1), NOT_POSSIBLE);
        x.end(0);
        due.is("behind the job", x.write(0, 1, 1), 3);
        x.again();
        due.is("in the job that is run again", x.write(1, 1, 1), 2);
        x.undo();
        x.undo();
        due.is("undone", x.write(0, 1, 1), 4);
    }

    private static void readIsAChange(Due due) {
        GenerationNames x = Look.made(0, 3, 1);
        due.is("changes", x.count(9), 2);
        x.read(0, 0);
        due.is("one more", x.count(9), 3);
        x.read(0, -7);
        due.is("also one that tells nothing", x.count(9), 4);
        x.read(0, 2);
        x.read(6, 0);
        due.is("none that is refused", x.count(9), 4);
        due.is("reads", x.count(5), 2);
        due.is("in vain", x.count(6), 1);
        x.undo();
        due.is("reads, one undone", x.count(5), 1);
        due.is("in vain, it undone", x.count(6), 0);
        x.undo();
        due.is("reads, two undone", x.count(5), 0);
        due.is("of the generation", x.generation(0, 0, 3), 0);
    }

    private static void readNames(Due due) {
        GenerationNames x = Look.made(0, 8, 8);
        x.begin();
        for (int name = -7; name <= 0; name++) {
            due.is("name " + name, x.read(0, name), 80 + 10 * name);
            due.is("read once", x.generation(0, -name, 3), 1);
        }
        x.write(0, 1, 9999);
        due.is("name 1", x.read(0, 1), 9999);
        for (int wrong : new int[] {-8, 2, -9, 3, LEAST, MOST}) {
            due.is("name " + wrong, x.read(0, wrong), BAD_VALUE);
        }
        due.is("reads", x.count(5), 9);
        due.is("in vain", x.count(6), 0);
    }

    private static void readAnswers(Due due) {
        GenerationNames x = new GenerationNames();
        x.write(5, 1, 0);
        due.is("the least data", x.read(5, 0), 0);
        x.write(5, 0, 9999);
        due.is("the most data", x.read(5, 0), 9999);
        for (int g : WRONG_GROUPS) {
            due.is("no such group", x.read(g, 0), NO_SUCH);
            due.is("no such group first", x.read(g, -8), NO_SUCH);
        }
        due.is("bad name", x.read(5, -8), BAD_VALUE);
        due.is("bad name of an empty group", x.read(0, 2), BAD_VALUE);
        due.is("reads", x.count(5), 2);
    }

    private static void readNothing(Due due) {
        GenerationNames x = Look.made(0, 2, 2);
        due.is("1 without a job", x.read(0, 1), NONE);
        due.is("never was", x.read(0, -2), NONE);
        due.is("an empty group", x.read(1, 0), NONE);
        x.delete(0, 0);
        due.is("a hole", x.read(0, 0), NONE);
        due.is("the hole was not read", x.generation(0, 0, 3), 0);
        x.begin();
        due.is("1, and the job made none", x.read(0, 1), NONE);
        x.write(0, 1, 30);
        due.is("what rolled off", x.read(0, -1), NONE);
        due.is("what it made", x.read(0, 1), 30);
        x.delete(0, 1);
        due.is("1, and it is gone", x.read(0, 1), NONE);
        x.end(1);
        due.is("1 behind the job", x.read(0, 1), NONE);
        due.is("reads", x.count(5), 9);
        due.is("in vain", x.count(6), 8);
    }

    private static void deleteNames(Due due) {
        for (int name = -7; name <= 0; name++) {
            GenerationNames x = Look.made(0, 8, 8);
            due.is("name " + name, x.delete(0, name), 8 + name);
            due.is("it is gone", x.named(0, name), NONE);
            due.is("it alone", x.count(3), 7);
        }
        GenerationNames x = Look.made(0, 8, 8);
        x.begin();
        x.write(0, 1, 1);
        due.is("name 1", x.delete(0, 1), 9);
        for (int wrong : new int[] {-8, 2, -9, 3, LEAST, MOST}) {
            due.is("name " + wrong, x.delete(0, wrong), BAD_VALUE);
        }
        due.is("one was deleted", x.ofGroup(0, 5), 1);
    }

    private static void deleteAnswers(Due due) {
        GenerationNames x = Look.made(5, 3, 4);
        for (int g : WRONG_GROUPS) {
            due.is("no such group", x.delete(g, 0), NO_SUCH);
            due.is("no such group first", x.delete(g, 2), NO_SUCH);
        }
        due.is("bad name of an empty group", x.delete(0, -8), BAD_VALUE);
        due.is("its number", x.delete(5, -2), 2);
        due.is("its number", x.delete(5, 0), 4);
        due.is("its number", x.delete(5, -1), 3);
        due.is("all are deleted", x.ofGroup(5, 5), 3);
        due.is("none is there", x.ofGroup(5, 1), 0);
    }

    private static void deleteNothing(Due due) {
        GenerationNames x = Look.made(0, 3, 3);
        due.is("never was", x.delete(0, -3), NOT_POSSIBLE);
        due.is("1 without a job", x.delete(0, 1), NOT_POSSIBLE);
        due.is("an empty group", x.delete(1, 0), NOT_POSSIBLE);
        x.delete(0, -1);
        due.is("a hole", x.delete(0, -1), NOT_POSSIBLE);
        x.begin();
        due.is("1, and the job made none", x.delete(0, 1), NOT_POSSIBLE);
        x.write(0, 1, 1);
        due.is("what rolled off", x.delete(0, -2), NOT_POSSIBLE);
        due.is("what it made", x.delete(0, 1), 4);
        due.is("1, and it is a hole", x.delete(0, 1), NOT_POSSIBLE);
        due.is("0 as it began", x.delete(0, 0), 3);
        due.is("1, and it is gone", x.delete(0, 1), NOT_POSSIBLE);
        due.is("deleted", x.ofGroup(0, 5), 3);
    }

    private static void beginCounts(Due due) {
        GenerationNames x = new GenerationNames();
        for (int i = 1; i <= 100; i += 2) {
            due.is("begin", x.begin(), i);
            due.is("count", x.count(0), i);
            x.end(0);
            due.is("again is one, too", x.again(), i + 1);
            x.end(1);
        }
        x.begin();
        x.undo();
        due.is("not one that is undone", x.begin(), 101);
    }

    private static void beginWhileOneRuns(Due due) {
        GenerationNames x = Look.made(0, 3, 1);
        x.begin();
        x.write(0, 1, 20);
        due.is("one runs", x.begin(), NOT_POSSIBLE);
        due.is("the names are still those", Look.names(x, 0), "2 1");
        due.is("one began", x.count(0), 1);
        x.end(0);
        x.again();
        due.is("one is run again", x.begin(), NOT_POSSIBLE);
        x.end(1);
        due.is("none runs", x.begin(), 3);
    }

    private static void endRange(Due due) {
        GenerationNames x = new GenerationNames();
        for (int wrong : new int[] {-1, 2, 3, -2, 256, LEAST, MOST}) {
            due.is("no job, well " + wrong, x.end(wrong), BAD_VALUE);
        }
        x.begin();
        for (int wrong : new int[] {-1, 2, 3, -2, 256, LEAST, MOST}) {
            due.is("well " + wrong, x.end(wrong), BAD_VALUE);
        }
        due.is("it still runs", x.count(1), 1);
        due.is("1", x.end(1), 0);
        due.is("none failed", x.count(2), 0);
        x.begin();
        due.is("0", x.end(0), 0);
        due.is("one failed", x.count(2), 1);
    }

    private static void endCounts(Due due) {
        for (int gone = 0; gone < 64; gone++) {
            GenerationNames x = new GenerationNames();
            x.begin();
            for (int g = 0; g < 6; g++) {
                x.write(g, 1, g);
                x.write(g, 1, g + 1);
            }
            for (int g = 0; g < 6; g++) {
                if ((gone >> g & 1) == 1) {
                    x.delete(g, 1);
                }
            }
            due.is("that are there", x.count(7), 6 - Integer.bitCount(gone));
            due.is("that are there then", x.end(1), 6 - Integer.bitCount(gone));
            x.begin();
            due.is("not those of another job", x.end(1), 0);
        }
        GenerationNames x = Look.made(0, 1, 1);
        x.begin();
        x.write(0, 0, 1);
        due.is("not those that it wrote to", x.count(7), 0);
        x.write(0, 1, 1);
        x.keep(0, 1);
        due.is("the newest one never rolls off", x.end(1), 1);
    }

    private static void endWhileNoneRuns(Due due) {
        GenerationNames x = new GenerationNames();
        due.is("none began", x.end(1), NOT_POSSIBLE);
        due.is("none began", x.end(0), NOT_POSSIBLE);
        x.begin();
        x.end(0);
        due.is("it ended", x.end(0), NOT_POSSIBLE);
        due.is("it ended", x.end(1), NOT_POSSIBLE);
        due.is("it failed once", x.count(2), 1);
        due.is("and can be run again", x.again(), 2);
    }

    private static void againLast(Due due) {
        GenerationNames x = Look.made(0, 8, 1);
        x.begin();
        x.end(0);
        x.write(0, 1, 20);
        x.begin();
        x.end(0);
        x.write(0, 1, 30);
        due.is("again", x.again(), 3);
        due.is("the names of the last one", x.named(0, 0), 2);
        x.write(0, 1, 40);
        x.end(0);
        x.write(0, 1, 50);
        due.is("again once more", x.again(), 4);
        due.is("the names that it had", x.named(0, 0), 2);
        due.is("and makes its own", x.write(0, 1, 60), 6);
        due.is("by the job 4", x.generation(0, 0, 4), 4);
    }

    private static void againCounts(Due due) {
        GenerationNames x = new GenerationNames();
        x.begin();
        for (int i = 2; i <= 60; i++) {
            x.end(0);
            due.is("again", x.again(), i);
            due.is("began", x.count(0), i);
            due.is("failed", x.count(2), i - 1);
            due.is("runs", x.count(1), 1);
        }
    }

    private static void againRefused(Due due) {
        GenerationNames x = new GenerationNames();
        due.is("none began", x.again(), NOT_POSSIBLE);
        x.begin();
        due.is("one runs", x.again(), NOT_POSSIBLE);
        x.end(1);
        due.is("it ended well", x.again(), NOT_POSSIBLE);
        x.begin();
        x.end(0);
        due.is("it failed", x.again(), 3);
        due.is("it runs again", x.again(), NOT_POSSIBLE);
        x.end(1);
        due.is("it ended well this time", x.again(), NOT_POSSIBLE);
        x.begin();
        x.end(0);
        x.begin();
        due.is("another one runs", x.again(), NOT_POSSIBLE);
        x.end(1);
        due.is("another one ended well", x.again(), NOT_POSSIBLE);
        x.undo();
        x.undo();
        due.is("that one undone", x.again(), 5);
        x.undo();
        x.undo();
        due.is("also the failure undone: it runs", x.again(), NOT_POSSIBLE);
        due.is("none was counted by that", x.count(0), 4);
    }
}
