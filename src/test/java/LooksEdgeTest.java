/** The sentences of promises 9 to 16, what there is and what if, that name a boundary case, one test each. */
public final class LooksEdgeTest {
    private static final int NO_SUCH = GenerationNames.NO_SUCH;
    private static final int BAD_VALUE = GenerationNames.BAD_VALUE;
    private static final int NONE = GenerationNames.NONE;
    private static final int LEAST = Integer.MIN_VALUE;
    private static final int MOST = Integer.MAX_VALUE;
    private static final int[] WRONG_GROUPS = {-1, 6, LEAST, MOST};

    private LooksEdgeTest() {
    }

    public static void main(String[] args) {
        Sentences all = new Sentences("Promises 9 to 16");
        all.test("9: what: 0 KEEP, 1 its generations (with holes), 2 holes", LooksEdgeTest::groupsGenerations);
        all.test("9: 3 the number of the newest one that there was (0 if it never had one)", LooksEdgeTest::newestNumber);
        all.test("9: 4 generations that rolled off so far (holes not)", LooksEdgeTest::rolledOff);
        all.test("9: 5 that were deleted so far (also by jobs that failed)", LooksEdgeTest::deleted);
        all.test("9: 6 all data that are there", LooksEdgeTest::allData);
        all.test("9: NO_SUCH if there is no such group; BAD_VALUE if what is out of range.", LooksEdgeTest::groupErrors);
        all.test("10: its place now. place: 0 for the newest one", LooksEdgeTest::placeNow);
        all.test("10: what: 0 its number, 1 its data (NONE for a hole), 2 whether it is a hole", LooksEdgeTest::dataOfHoles);
        all.test("10: 3 how often it was read", LooksEdgeTest::readsOfOne);
        all.test("10: 4 the job that made it (0 without one)", LooksEdgeTest::jobThatMadeIt);
        all.test("10: 5 the name by which the job that runs knows it, and 10", LooksEdgeTest::nameAndTen);
        all.test("10: 5 (NONE without a job, if it does not, or for a hole)", LooksEdgeTest::noName);
        all.test("10: NO_SUCH if there is no such group or place; BAD_VALUE if what is out of range.", LooksEdgeTest::generationErrors);
        all.test("11: Returns the number of the generation that a name tells. name: -7 to 1", LooksEdgeTest::namedByEach);
        all.test("11: NO_SUCH if there is no such group; BAD_VALUE if name is out of range; NONE if it tells nothing.",
            LooksEdgeTest::namedErrors);
        all.test("12: what: 0 jobs that began so far, 1 whether one runs (1 or 0), 2 jobs that failed so far", LooksEdgeTest::jobCounts);
        all.test("12: 3 all generations without holes, 4 holes", LooksEdgeTest::generationCounts);
        all.test("12: 5 reads so far (also those that told nothing), 6 reads that told nothing so far", LooksEdgeTest::readCounts);
        all.test("12: 7 generations that the job that runs made and that are there (0 without one)", LooksEdgeTest::madeCount);
        all.test("12: 8 the length of the pad, 9 how many changes can be undone", LooksEdgeTest::padAndHistoryCounts);
        all.test("12: BAD_VALUE if what is out of range.", LooksEdgeTest::countErrors);
        all.test("13: Returns the groups that are so, as a set. what: 0 those that have a hole", LooksEdgeTest::groupsWithHoles);
        all.test("13: 1 those whose newest generation (also a hole) is one that the job that runs made", LooksEdgeTest::groupsOfJob);
        all.test("13: whose newest generation is one that the job that runs made: the only one", LooksEdgeTest::groupsOfJobAlone);
        all.test("13: 2 those in which the name 0 tells nothing", LooksEdgeTest::groupsWithoutNewest);
        all.test("13: BAD_VALUE if what is out of range.", LooksEdgeTest::groupsErrors);
        all.test("14: Tells the number of the generation that would roll off by a new one now.", LooksEdgeTest::rolls);
        all.test("14: NO_SUCH if there is no such group; NONE if none would.", LooksEdgeTest::rollsNone);
        all.test("15: Tells what the name 0 would tell if the job failed now (without a job: as it is)", LooksEdgeTest::ifFailed);
        all.test("15: by what is so then", LooksEdgeTest::ifFailedThen);
        all.test("15: NO_SUCH if there is no such group; NONE if it would tell nothing.", LooksEdgeTest::ifFailedNone);
        all.test("16: Finds the least KEEP, 1 to 8, to which that of a group could be set now so that none rolls off.",
            LooksEdgeTest::leastKeep);
        all.test("16: so that none rolls off: tried, with each hole", LooksEdgeTest::leastKeepTried);
        all.test("16: NO_SUCH if there is no such group.", LooksEdgeTest::leastKeepErrors);
        all.end();
    }

    private static String of(GenerationNames x, int group) {
        StringBuilder told = new StringBuilder();
        for (int what = 0; what <= 6; what++) {
            told.append(what == 0 ? "" : " ").append(x.ofGroup(group, what));
        }
        return told.toString();
    }

    private static void groupsGenerations(Due due) {
        GenerationNames x = new GenerationNames();
        due.is("at first", of(x, 0), "3 0 0 0 0 0 0");
        x.keep(0, 8);
        for (int i = 1; i <= 8; i++) {
            x.write(0, 1, 0);
            due.is("with " + i, of(x, 0), "8 " + i + " 0 " + i + " 0 0 0");
        }
        x.write(0, 1, 0);
        due.is("full", of(x, 0), "8 8 0 9 1 0 0");
        for (int i = 1; i <= 7; i++) {
            x.delete(0, 1 - i);
            due.is("holes are among them", of(x, 0), "8 8 " + i + " 9 1 " + i + " 0");
        }
        x.delete(0, -7);
        due.is("empty again", of(x, 0), "8 0 0 9 1 8 0");
        due.is("the groups beside it", of(x, 1), "3 0 0 0 0 0 0");
    }

    private static void newestNumber(Due due) {
        GenerationNames x = new GenerationNames();
        due.is("never had one", x.ofGroup(2, 3), 0);
        x.read(2, 0);
        x.write(2, 0, 1);
        due.is("still never had one", x.ofGroup(2, 3), 0);
        for (int i = 1; i <= 100; i++) {
            x.write(2, 1, 1);
            due.is("newest", x.ofGroup(2, 3), i == 100 ? 1 : i);
        }
        x.delete(2, 0);
        due.is("a hole", x.ofGroup(2, 3), 1);
        x.delete(2, -1);
        x.delete(2, -2);
        due.is("gone", x.ofGroup(2, 1), 0);
        due.is("that there was", x.ofGroup(2, 3), 1);
        x.begin();
        x.write(2, 1, 1);
        due.is("of the job", x.ofGroup(2, 3), 2);
        x.end(0);
        due.is("that there was in the job", x.ofGroup(2, 3), 2);
        x.undo();
        x.undo();
        due.is("not what is undone", x.ofGroup(2, 3), 1);
    }

    private static void rolledOff(Due due) {
        GenerationNames x = Look.made(0, 1, 1);
        due.is("none", x.ofGroup(0, 4), 0);
        for (int i = 1; i <= 100; i++) {
            x.write(0, 1, i);
            due.is("one each time", x.ofGroup(0, 4), i);
        }
        GenerationNames y = Look.made(0, 5, 5);
        y.delete(0, -1);
        y.delete(0, -3);
        y.keep(0, 2);
        due.is("two of three, not the hole between", y.ofGroup(0, 4), 2);
        due.is("nor the one behind", Look.row(y, 0), "5");
        y.delete(0, 0);
        due.is("nor what is deleted", y.ofGroup(0, 4), 2);
        y.write(0, 1, 1);
        due.is("nor with room", y.ofGroup(0, 4), 2);
    }

    private static void deleted(Due due) {
        GenerationNames x = new GenerationNames();
        for (int i = 1; i <= 20; i++) {
            x.write(0, 1, 0);
            x.delete(0, 0);
            x.delete(0, 0);
            due.is("each once", x.ofGroup(0, 5), i);
        }
        for (int i = 1; i <= 20; i++) {
            x.begin();
            x.write(0, 1, 0);
            x.end(0);
            due.is("by a job that failed", x.ofGroup(0, 5), 20 + i);
        }
        x.begin();
        x.write(0, 1, 0);
        x.delete(0, 1);
        x.end(0);
        due.is("not twice", x.ofGroup(0, 5), 41);
        x.again();
        x.end(0);
        due.is("not by a job that made none", x.ofGroup(0, 5), 41);
        x.keep(0, 1);
        x.write(0, 1, 0);
        x.write(0, 1, 0);
        due.is("not what rolls off", x.ofGroup(0, 5), 41);
        x.begin();
        x.write(0, 1, 0);
        x.end(1);
        due.is("not what a job that ended well made", x.ofGroup(0, 5), 41);
    }

    private static void allData(Due due) {
        GenerationNames x = new GenerationNames();
        x.keep(0, 8);
        for (int i = 1; i <= 8; i++) {
            x.write(0, 1, 9999);
            due.is("the most", x.ofGroup(0, 6), 9999 * i);
        }
        x.write(0, 1, 0);
        due.is("not what rolled off", x.ofGroup(0, 6), 9999 * 7);
        x.delete(0, -1);
        due.is("not what was deleted", x.ofGroup(0, 6), 9999 * 6);
        x.write(0, -2, 1);
        due.is("as it was written last", x.ofGroup(0, 6), 9999 * 5 + 1);
        x.keep(0, 2);
        due.is("no data but 0", x.ofGroup(0, 6), 0);
        x.delete(0, 0);
        due.is("none", x.ofGroup(0, 6), 0);
    }

    private static void groupErrors(Due due) {
        GenerationNames x = Look.made(0, 3, 1);
        for (int what : new int[] {-1, 7, 8, -6, LEAST, MOST}) {
            due.is("what " + what, x.ofGroup(0, what), BAD_VALUE);
            due.is("of an empty group, what " + what, x.ofGroup(5, what), BAD_VALUE);
            for (int g : WRONG_GROUPS) {
                due.is("the group first", x.ofGroup(g, what), NO_SUCH);
            }
        }
        for (int g : WRONG_GROUPS) {
            due.is("the group", x.ofGroup(g, 6), NO_SUCH);
        }
    }

    private static void placeNow(Due due) {
        GenerationNames x = Look.made(0, 3, 3);
        x.begin();
        x.write(0, 1, 40);
        due.is("now, not as the job began", Look.row(x, 0), "4 3 2");
        due.is("the newest one", x.generation(0, 0, 0), 4);
        due.is("the oldest one", x.generation(0, 2, 0), 2);
        due.is("it rolled off", x.generation(0, 3, 0), NO_SUCH);
        x.delete(0, 0);
        due.is("a hole has its place", x.generation(0, 1, 0), 3);
        due.is("and those ahead of it theirs", x.generation(0, 2, 0), 2);
        x.delete(0, -1);
        due.is("but not the oldest holes", x.generation(0, 1, 0), NO_SUCH);
    }

    private static void dataOfHoles(Due due) {
        GenerationNames x = new GenerationNames();
        x.write(0, 1, 9999);
        x.write(0, 1, 0);
        due.is("number", x.generation(0, 0, 0), 2);
        due.is("the least data", x.generation(0, 0, 1), 0);
        due.is("are no hole", x.generation(0, 0, 2), 0);
        due.is("the most data", x.generation(0, 1, 1), 9999);
        x.delete(0, 0);
        due.is("number of a hole", x.generation(0, 0, 0), 2);
        due.is("data of a hole", x.generation(0, 0, 1), NONE);
        due.is("whether it is one", x.generation(0, 0, 2), 1);
        due.is("the one ahead is none", x.generation(0, 1, 2), 0);
    }

    private static void readsOfOne(Due due) {
        GenerationNames x = Look.made(0, 3, 2);
        due.is("never", x.generation(0, 0, 3), 0);
        x.read(0, 0);
        x.begin();
        x.write(0, 1, 30);
        x.read(0, 0);
        x.read(0, 1);
        Due.type(x, "r00;r00;r0+;r0-5");
        x.carryOut();
        due.is("by the name 0, before and in a job and in a text", x.generation(0, 1, 3), 4);
        due.is("by the name 1", x.generation(0, 0, 3), 2);
        due.is("never", x.generation(0, 2, 3), 0);
        x.write(0, 1, 31);
        due.is("also with other data", x.generation(0, 0, 3), 2);
        x.named(0, 0);
        x.generation(0, 1, 1);
        due.is("looks are no reads", x.generation(0, 1, 3), 4);
    }

    private static void jobThatMadeIt(Due due) {
        GenerationNames x = new GenerationNames();
        x.keep(0, 8);
        x.write(0, 1, 1);
        due.is("no job", x.generation(0, 0, 4), 0);
        x.begin();
        x.write(0, 1, 1);
        due.is("the first job", x.generation(0, 0, 4), 1);
        x.end(1);
        due.is("also when it ended", x.generation(0, 0, 4), 1);
        x.write(0, 1, 1);
        due.is("no job behind it", x.generation(0, 0, 4), 0);
        x.begin();
        x.end(0);
        x.again();
        x.write(0, 1, 1);
        due.is("a job that is run again counts by itself", x.generation(0, 0, 4), 3);
        x.write(0, 0, 2);
        due.is("a later write leaves it", x.generation(0, 1, 4), 0);
        due.is("the first one", x.generation(0, 3, 4), 0);
        due.is("the second one", x.generation(0, 2, 4), 1);
    }

    private static void nameAndTen(Due due) {
        for (int many = 1; many <= 8; many++) {
            GenerationNames x = Look.made(0, 8, many);
            x.begin();
            for (int place = 0; place < many; place++) {
                due.is("place " + place, x.generation(0, place, 5), 10 - place);
            }
            x.write(0, 1, 1);
            due.is("the new one", x.generation(0, 0, 5), 11);
            for (int place = 1; place < x.ofGroup(0, 1); place++) {
                due.is("place " + place + " then", x.generation(0, place, 5), 11 - place);
            }
        }
    }

    private static void noName(Due due) {
        GenerationNames x = Look.made(0, 8, 8);
        for (int place = 0; place < 8; place++) {
            due.is("without a job", x.generation(0, place, 5), NONE);
        }
        x.begin();
        x.delete(0, -7);
        x.delete(0, -2);
        due.is("a hole", x.generation(0, 2, 5), NONE);
        due.is("-6 is the oldest one", x.generation(0, 6, 5), 4);
        x.write(0, 1, 1);
        x.delete(0, 1);
        due.is("the hole of the new one", x.generation(0, 0, 5), NONE);
        x.end(0);
        due.is("behind the job", x.generation(0, 1, 5), NONE);
        x.write(0, 1, 1);
        x.again();
        due.is("made since", x.generation(0, 0, 5), NONE);
        due.is("the hole of the first run", x.generation(0, 1, 5), NONE);
        due.is("0 as it was then", x.generation(0, 2, 5), 10);
        due.is("the new one of this run", x.write(0, 1, 1), 11);
        due.is("is known", x.generation(0, 0, 5), 11);
        due.is("the one made between is not", x.generation(0, 1, 5), NONE);
        x = Look.made(0, 3, 1);
        x.begin();
        x.end(0);
        x.write(0, 1, 1);
        x.again();
        due.is("the one made since is not the job's +1", x.generation(0, 0, 5), NONE);
        due.is("0", x.generation(0, 1, 5), 10);
    }

    private static void generationErrors(Due due) {
        GenerationNames x = Look.made(0, 8, 8);
        due.is("the last place", x.generation(0, 7, 0), 1);
        for (int place : new int[] {-1, 8, 9, -8, LEAST, MOST}) {
            due.is("place " + place, x.generation(0, place, 0), NO_SUCH);
            due.is("the place first", x.generation(0, place, 6), NO_SUCH);
        }
        for (int what : new int[] {-1, 6, 7, LEAST, MOST}) {
            due.is("what " + what, x.generation(0, 0, what), BAD_VALUE);
            due.is("what " + what, x.generation(0, 7, what), BAD_VALUE);
            due.is("the place first, in an empty group", x.generation(1, 0, what), NO_SUCH);
            for (int g : WRONG_GROUPS) {
                due.is("the group first", x.generation(g, 0, what), NO_SUCH);
            }
        }
        x.delete(0, 0);
        due.is("of a hole, too", x.generation(0, 0, 6), BAD_VALUE);
        x.delete(0, -7);
        due.is("a place that is gone", x.generation(0, 7, 0), NO_SUCH);
    }

    private static void namedByEach(Due due) {
        GenerationNames x = Look.made(0, 8, 10);
        for (int name = -7; name <= 0; name++) {
            due.is("name " + name, x.named(0, name), 10 + name);
        }
        due.is("name 1", x.named(0, 1), NONE);
        x.begin();
        x.write(0, 1, 1);
        due.is("name 1 in a job", x.named(0, 1), 11);
        due.is("name 0 in a job", x.named(0, 0), 10);
        due.is("name -6 in a job", x.named(0, -6), 4);
        due.is("name -7 in a job", x.named(0, -7), NONE);
        due.is("nothing is read by that", x.count(5), 0);
    }

    private static void namedErrors(Due due) {
        GenerationNames x = Look.made(0, 3, 1);
        for (int name : new int[] {-8, 2, -9, 3, LEAST, MOST}) {
            due.is("name " + name, x.named(0, name), BAD_VALUE);
            due.is("in an empty group", x.named(1, name), BAD_VALUE);
            for (int g : WRONG_GROUPS) {
                due.is("the group first", x.named(g, name), NO_SUCH);
            }
        }
        due.is("never was", x.named(0, -1), NONE);
        due.is("an empty group", x.named(1, 0), NONE);
        x.begin();
        due.is("the job made none", x.named(0, 1), NONE);
        x.write(0, 1, 1);
        x.delete(0, 1);
        due.is("what it made is a hole", x.named(0, 1), NONE);
        x.delete(0, 0);
        due.is("0 is gone", x.named(0, 0), NONE);
        due.is("and what it made, too", x.named(0, 1), NONE);
    }

    private static void jobCounts(Due due) {
        GenerationNames x = new GenerationNames();
        for (int i = 0; i < 40; i++) {
            due.is("began", x.count(0), i);
            due.is("none runs", x.count(1), 0);
            due.is("failed", x.count(2), (i + 1) / 2);
            if (i % 4 == 3) {
                x.begin();
            } else if (x.again() == GenerationNames.NOT_POSSIBLE) {
                x.begin();
            }
            due.is("one runs", x.count(1), 1);
            x.end(i % 2);
        }
        due.is("all", x.count(0), 40);
    }

    private static void generationCounts(Due due) {
        GenerationNames x = new GenerationNames();
        for (int g = 0; g < 6; g++) {
            x.keep(g, 8);
            Look.make(x, g, 9);
            due.is("all", x.count(3), 8 * (g + 1));
            due.is("holes", x.count(4), 0);
        }
        for (int g = 0; g < 6; g++) {
            for (int place = 0; place < 7; place++) {
                x.delete(g, -place);
                due.is("without holes", x.count(3), 48 - 7 * g - place - 1);
                due.is("holes", x.count(4), 7 * g + place + 1);
            }
        }
        for (int g = 0; g < 6; g++) {
            x.delete(g, -7);
            due.is("without holes", x.count(3), 5 - g);
            due.is("holes that are gone", x.count(4), 7 * (5 - g));
        }
    }

    private static void readCounts(Due due) {
        GenerationNames x = Look.made(0, 3, 2);
        for (int i = 1; i <= 30; i++) {
            x.read(0, i % 3 == 0 ? -2 : i % 3 == 1 ? 0 : -1);
            x.read(0, -8);
            x.read(6, 0);
            due.is("reads", x.count(5), i);
            due.is("in vain", x.count(6), i / 3);
        }
        Due.type(x, "r00;r0+;r50");
        x.carryOut();
        due.is("also those of texts", x.count(5), 33);
        due.is("also those of texts in vain", x.count(6), 32 - 20);
        x.undo();
        due.is("not those that are undone", x.count(5), 30);
        due.is("in vain, not those", x.count(6), 10);
    }

    private static void madeCount(Due due) {
        GenerationNames x = Look.made(0, 3, 3);
        due.is("without a job", x.count(7), 0);
        x.begin();
        due.is("none yet", x.count(7), 0);
        for (int g = 0; g < 6; g++) {
            x.write(g, 1, 1);
            x.write(g, 1, 2);
            due.is("one of each group", x.count(7), g + 1);
        }
        x.delete(0, 1);
        due.is("without its hole", x.count(7), 5);
        x.delete(5, 1);
        due.is("without the one that is gone", x.count(7), 4);
        due.is("ended", x.end(0), 0);
        due.is("without a job again", x.count(7), 0);
        x.again();
        due.is("not those of the first run", x.count(7), 0);
        x.write(3, 1, 1);
        due.is("one", x.count(7), 1);
        due.is("as many as end() tells", x.end(1), 1);
        due.is("behind the job", x.count(7), 0);
    }

    private static void padAndHistoryCounts(Due due) {
        GenerationNames x = new GenerationNames();
        for (int i = 1; i <= 10; i++) {
            x.put(Due.packed("jjjjjjjj"));
            due.is("pad", x.count(8), 8 * i);
            due.is("no change", x.count(9), 0);
        }
        x.put('j');
        due.is("full", x.count(8), 80);
        x.wipe();
        due.is("empty", x.count(8), 0);
        for (int i = 1; i <= 10; i++) {
            x.keep(0, 3);
            due.is("changes", x.count(9), Math.min(i, 6));
        }
        for (int i = 5; i >= 0; i--) {
            x.undo();
            due.is("undone", x.count(9), i);
        }
    }

    private static void countErrors(Due due) {
        GenerationNames x = new GenerationNames();
        for (int what : new int[] {-1, 10, 11, -10, LEAST, MOST}) {
            due.is("what " + what, x.count(what), BAD_VALUE);
        }
        for (int what = 0; what <= 9; what++) {
            due.is("what " + what, x.count(what), 0);
        }
    }

    private static void groupsWithHoles(Due due) {
        for (int set = 0; set < 64; set++) {
            GenerationNames x = new GenerationNames();
            for (int g = 0; g < 6; g++) {
                x.write(g, 1, 1);
                x.write(g, 1, 2);
                if ((set >> g & 1) == 1) {
                    x.delete(g, 0);
                } else {
                    x.delete(g, -1);
                }
            }
            due.is("holes", x.groups(0), set);
            due.is("no job", x.groups(1), 0);
            due.is("the newest one is a hole", x.groups(2), set);
        }
    }

    private static void groupsOfJob(Due due) {
        for (int set = 0; set < 64; set++) {
            GenerationNames x = new GenerationNames();
            for (int g = 0; g < 6; g++) {
                x.write(g, 1, 1);
            }
            x.begin();
            due.is("none yet", x.groups(1), 0);
            for (int g = 0; g < 6; g++) {
                if ((set >> g & 1) == 1) {
                    x.write(g, 1, 2);
                } else {
                    x.write(g, 0, 2);
                }
            }
            due.is("those that it made", x.groups(1), set);
            for (int g = 0; g < 6; g++) {
                x.delete(g, 1);
            }
            due.is("also holes", x.groups(1), set);
            x.delete(0, 0);
            due.is("not those in which nothing is left", x.groups(1), set & 62);
            x.end(set & 1);
            due.is("behind the job", x.groups(1), 0);
            x.begin();
            due.is("not those of another job", x.groups(1), 0);
        }
    }

    private static void groupsOfJobAlone(Due due) {
        GenerationNames x = new GenerationNames();
        x.begin();
        for (int g = 0; g < 6; g++) {
            x.write(g, 1, 1);
            due.is("the only one of its group", x.groups(1), (2 << g) - 1);
        }
        for (int g = 0; g < 6; g++) {
            x.delete(g, 1);
            due.is("it is gone, with its hole", x.groups(1), 63 & -(2 << g));
        }
    }

    private static void groupsWithoutNewest(Due due) {
        GenerationNames x = new GenerationNames();
        due.is("all", x.groups(2), 63);
        x.write(0, 1, 1);
        x.write(5, 1, 1);
        due.is("but two", x.groups(2), 30);
        x.begin();
        x.write(1, 1, 1);
        due.is("the name 0 of the job, not the newest one", x.groups(2), 30);
        x.keep(5, 1);
        x.write(5, 1, 2);
        due.is("it rolled off", x.groups(2), 62);
        x.delete(0, 0);
        due.is("it is deleted", x.groups(2), 63);
        x.end(1);
        due.is("the newest ones behind the job", x.groups(2), 29);
        x.delete(1, 0);
        due.is("none is left", x.groups(2), 31);
        x.write(5, 1, 3);
        x.keep(5, 2);
        x.write(5, 1, 4);
        x.delete(5, 0);
        due.is("a hole", x.groups(2), 63);
    }

    private static void groupsErrors(Due due) {
        GenerationNames x = Look.made(0, 3, 1);
        for (int what : new int[] {-1, 3, 4, LEAST, MOST}) {
            due.is("what " + what, x.groups(what), BAD_VALUE);
        }
        x.begin();
        due.is("in a job", x.groups(3), BAD_VALUE);
    }

    private static void rolls(Due due) {
        for (int keep = 1; keep <= 8; keep++) {
            GenerationNames x = new GenerationNames();
            x.keep(0, keep);
            for (int i = 0; i < 20; i++) {
                int before = x.ofGroup(0, 4);
                int told = x.rolls(0);
                due.is("rolls, " + i + " made of " + keep, told, i < keep ? NONE : i - keep + 1);
                due.is("nothing changes", x.ofGroup(0, 1), Math.min(i, keep));
                x.write(0, 1, i);
                due.is("so it is", x.ofGroup(0, 4) - before, told == NONE ? 0 : 1);
            }
        }
        GenerationNames x = Look.made(0, 3, 3);
        x.delete(0, -1);
        due.is("holes take room", x.rolls(0), 1);
        x.delete(0, 0);
        due.is("also all but one", x.rolls(0), 1);
        x.begin();
        due.is("in a job", x.rolls(0), 1);
        x.write(0, 1, 1);
        due.is("then there is room", x.rolls(0), NONE);
        x.keep(0, 1);
        due.is("then there is none", x.rolls(0), 4);
    }

    private static void rollsNone(Due due) {
        GenerationNames x = new GenerationNames();
        x.keep(0, 1);
        due.is("an empty group", x.rolls(0), NONE);
        x.write(0, 1, 1);
        due.is("a full one", x.rolls(0), 1);
        x.delete(0, 0);
        due.is("an empty one again", x.rolls(0), NONE);
        Look.make(x, 1, 2);
        due.is("one is missing", x.rolls(1), NONE);
        x.keep(1, 2);
        due.is("none is", x.rolls(1), 1);
        x.delete(1, -1);
        due.is("one is again", x.rolls(1), NONE);
        for (int g : WRONG_GROUPS) {
            due.is("no such group", x.rolls(g), NO_SUCH);
        }
        x.undo();
        due.is("it is no change: the deletion was the latest one", x.rolls(1), 1);
    }

    private static void ifFailed(Due due) {
        for (int many = 0; many <= 8; many++) {
            GenerationNames x = Look.made(0, 8, many);
            due.is("without a job", x.ifFailed(0), many == 0 ? NONE : many);
            x.begin();
            due.is("a job that made none", x.ifFailed(0), many == 0 ? NONE : many);
            x.write(0, 1, 1);
            due.is("a job that made one", x.ifFailed(0), NONE);
            x.end(0);
            due.is("so it is", x.named(0, 0), NONE);
            due.is("as it is", x.ifFailed(0), NONE);
            x.undo();
            x.end(1);
            due.is("it ended well", x.ifFailed(0), many + 1);
        }
    }

    private static void ifFailedThen(Due due) {
        GenerationNames x = Look.made(0, 8, 2);
        x.begin();
        x.end(0);
        x.write(0, 1, 30);
        x.again();
        due.is("0 of the job", x.named(0, 0), 2);
        due.is("0 then is another one", x.ifFailed(0), 3);
        x.delete(0, 0);
        due.is("0 of the job is gone", x.named(0, 0), NONE);
        due.is("0 then is not", x.ifFailed(0), 3);
        x.end(0);
        due.is("so it is", x.named(0, 0), 3);
        x.begin();
        x.delete(0, 0);
        due.is("deleted by the job", x.ifFailed(0), NONE);
        x.end(0);
        due.is("so it is", x.named(0, 0), NONE);
        x.write(0, 1, 40);
        x.begin();
        x.write(1, 1, 1);
        due.is("the other groups do not matter", x.ifFailed(0), 4);
        due.is("but that one", x.ifFailed(1), NONE);
        x.write(0, 1, 50);
        x.delete(0, 1);
        due.is("what it made is a hole by now", x.ifFailed(0), NONE);
        x.end(0);
        due.is("so it is", x.named(0, 0), NONE);
    }

    private static void ifFailedNone(Due due) {
        GenerationNames x = new GenerationNames();
        due.is("an empty group", x.ifFailed(0), NONE);
        x.write(0, 1, 1);
        x.write(0, 1, 2);
        x.delete(0, 0);
        due.is("a hole", x.ifFailed(0), NONE);
        x.begin();
        due.is("a hole in a job", x.ifFailed(0), NONE);
        x.write(1, 1, 1);
        due.is("the only one goes", x.ifFailed(1), NONE);
        for (int g : WRONG_GROUPS) {
            due.is("no such group", x.ifFailed(g), NO_SUCH);
        }
        due.is("nothing changes", x.named(1, 1), 1);
        due.is("the job runs", x.count(1), 1);
        due.is("none failed", x.count(2), 0);
    }

    private static void leastKeep(Due due) {
        for (int many = 0; many <= 8; many++) {
            GenerationNames x = Look.made(0, 8, many);
            due.is("of " + many, x.leastKeep(0), Math.max(1, many));
            due.is("nothing changes", x.ofGroup(0, 0), 8);
        }
        GenerationNames x = Look.made(0, 8, 30);
        due.is("8 at most", x.leastKeep(0), 8);
        for (int place = 0; place < 7; place++) {
            x.delete(0, -place);
            due.is("holes count", x.leastKeep(0), 8);
        }
        x.delete(0, -7);
        due.is("1 at least", x.leastKeep(0), 1);
        due.is("a group that never had one", x.leastKeep(5), 1);
    }

    private static void leastKeepTried(Due due) {
        for (int holes = 0; holes < 64; holes++) {
            GenerationNames x = Look.made(0, 8, 6);
            for (int place = 0; place < 6; place++) {
                if ((holes >> place & 1) == 1) {
                    x.delete(0, -place);
                }
            }
            int least = x.leastKeep(0);
            due.is("by the oldest one that is there", least, Math.max(1, 32 - Integer.numberOfLeadingZeros(63 & ~holes)));
            x.keep(0, least);
            due.is("none rolls off", x.ofGroup(0, 4), 0);
            x.keep(0, Math.max(1, least - 1));
            due.is("one would by less", x.ofGroup(0, 4), least > 1 ? 1 : 0);
        }
    }

    private static void leastKeepErrors(Due due) {
        GenerationNames x = new GenerationNames();
        for (int g : WRONG_GROUPS) {
            due.is("no such group", x.leastKeep(g), NO_SUCH);
        }
        due.is("no change", x.count(9), 0);
    }
}
