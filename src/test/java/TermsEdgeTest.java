/** The sentences of 'Terms' that name a boundary case, one test each, and that of how many calls an object is used for. */
public final class TermsEdgeTest {
    private static final int NO_SUCH = GenerationNames.NO_SUCH;
    private static final int BAD_VALUE = GenerationNames.BAD_VALUE;
    private static final int BAD_TEXT = GenerationNames.BAD_TEXT;
    private static final int TOO_MANY = GenerationNames.TOO_MANY;
    private static final int NOT_POSSIBLE = GenerationNames.NOT_POSSIBLE;
    private static final int NONE = GenerationNames.NONE;
    private static final int LEAST = Integer.MIN_VALUE;
    private static final int MOST = Integer.MAX_VALUE;

    private TermsEdgeTest() {
    }

    public static void main(String[] args) {
        Sentences all = new Sentences("Terms");
        all.test("An object is used for at most 512 calls after it has been made.", TermsEdgeTest::lastCalls);
        all.test("A method that fails returns one of the error codes.", TermsEdgeTest::codes);
        all.test("It names its errors in the order in which they are checked, and the first one that applies is returned.",
            TermsEdgeTest::firstError);
        all.test("NONE (-6) is returned only if no error applies.", TermsEdgeTest::noneAfterErrors);
        all.test("Everything is numbered from 0. Sets of generations are bit masks by their places.", TermsEdgeTest::fromZero);
        all.test("There are 6 groups, 0 to 5.", TermsEdgeTest::sixGroups);
        all.test("A group keeps KEEP generations (1 to 8; 3 at first).", TermsEdgeTest::keeps);
        all.test("A generation has a number (1 to 99; behind 99 comes 1 again)", TermsEdgeTest::goesRound);
        all.test("behind 99 comes 1 again: the second time round", TermsEdgeTest::goesRoundTwice);
        all.test("behind 99 comes 1 again: also in a job, in a text, in each group by itself", TermsEdgeTest::goesRoundInJobs);
        all.test("data (0 to 9999)", TermsEdgeTest::data);
        all.test("and how often it was read", TermsEdgeTest::howOften);
        all.test("the newest one has the place 0, the one ahead of it the place 1, and so on (holes count, too)",
            TermsEdgeTest::places);
        all.test("A new generation of a group has the number behind that of the newest one (1 if the group never had one)",
            TermsEdgeTest::numberBehind);
        all.test("the number of the newest one is remembered, also if it is gone", TermsEdgeTest::numberRemembered);
        all.test("If the group has more than KEEP generations then, the oldest ones roll off, until there are as many as KEEP.",
            TermsEdgeTest::rollOff);
        all.test("(Holes count as generations in this.)", TermsEdgeTest::holesCount);
        all.test("When a generation is deleted, a hole stays in its place: it has its number, and no data.", TermsEdgeTest::hole);
        all.test("Holes that are the oldest ones of a group are gone at once, whenever that is so.", TermsEdgeTest::oldestHoles);
        all.test("whenever that is so: by deletions in any order", TermsEdgeTest::oldestHolesInAnyOrder);
        all.test("whenever that is so: by what rolls off, by KEEP and by jobs that fail", TermsEdgeTest::oldestHolesByOthers);
        all.test("A relative name is 0, or -1 to -7, or +1. Without a job, a name tells what is so now.", TermsEdgeTest::namesNow);
        all.test("While a job runs, names tell the generations that were so named as it began, whatever was made or deleted since",
            TermsEdgeTest::namesOfJob);
        all.test("whatever was made or deleted since: each name by itself", TermsEdgeTest::namesOfJobDeleted);
        all.test("+1: the first write to it makes it, later ones of this job change its data", TermsEdgeTest::newOne);
        all.test("A name tells nothing if there is no such generation now (it rolled off, or never was), or if it is a hole.",
            TermsEdgeTest::tellsNothing);
        all.test("When a job ends well, what it made stays.", TermsEdgeTest::endsWell);
        all.test("When it fails, the generations that it made are deleted (as told, with holes)", TermsEdgeTest::fails);
        all.test("but those that rolled off do not come back", TermsEdgeTest::failsAfterRollOff);
        all.test("A job that failed can be run again: with the names (0 and below) that the one that failed had",
            TermsEdgeTest::namesAgain);
        all.test("if no other job began since", TermsEdgeTest::noOtherBegan);
        all.test("The pad is a text of at most 80 characters", TermsEdgeTest::longestText);
        all.end();
    }

    private static void lastCalls(Due due) {
        GenerationNames x = new GenerationNames();
        for (int i = 1; i <= 512; i++) {
            due.is("write " + i, x.write(0, 1, i), (i - 1) % 99 + 1);
        }
        x = new GenerationNames();
        for (int i = 1; i <= 511; i++) {
            due.is("begin and end " + i, i % 2 == 1 ? x.begin() : x.end(i % 4 / 2), i % 2 == 1 ? (i + 1) / 2 : 0);
        }
        due.is("the 512th", x.count(2), 127);
        x = new GenerationNames();
        for (int i = 1; i <= 46; i++) {
            // Eleven calls: the text takes ten.
            Due.type(x, "w5+=0;".repeat(11) + "r50;r5+");
            due.is("thirteen orders", x.carryOut(), 13);
        }
        due.is("reads", x.count(5), 92);
        due.is("the number of the last one", x.ofGroup(5, 3), (46 * 11 - 1) % 99 + 1);
        for (int i = 0; i < 10000; i++) {
            // What it answers is free then, but it does answer.
            x.write(5, 1, 1);
            x.undo();
        }
    }

    private static void codes(Due due) {
        due.is("NO_SUCH", GenerationNames.NO_SUCH, -1);
        due.is("BAD_VALUE", GenerationNames.BAD_VALUE, -2);
        due.is("BAD_TEXT", GenerationNames.BAD_TEXT, -3);
        due.is("TOO_MANY", GenerationNames.TOO_MANY, -4);
        due.is("NOT_POSSIBLE", GenerationNames.NOT_POSSIBLE, -5);
        due.is("NONE", GenerationNames.NONE, -6);
        GenerationNames x = new GenerationNames();
        due.is("no such group", x.keep(6, 3), -1);
        due.is("a bad value", x.keep(5, 9), -2);
        due.is("a bad text", x.carryOut(), -3);
        Due.type(x, "j".repeat(80));
        due.is("too many", x.put('j'), -4);
        due.is("not possible", x.undo(), -5);
        due.is("none", x.named(0, 0), -6);
    }

    private static void firstError(Due due) {
        GenerationNames x = new GenerationNames();
        due.is("keep: the group, then KEEP", x.keep(6, 0), NO_SUCH);
        due.is("write: the group, then the name", x.write(6, 2, 0), NO_SUCH);
        due.is("write: the group, then data", x.write(-1, 1, 10000), NO_SUCH);
        due.is("write: the group, then what it tells", x.write(6, 0, 1), NO_SUCH);
        due.is("write: the name, then what it tells", x.write(0, -8, 1), BAD_VALUE);
        due.is("write: data, then what it tells", x.write(0, 0, 10000), BAD_VALUE);
        due.is("write: data, then what it tells", x.write(0, -7, -1), BAD_VALUE);
        due.is("write: what it tells", x.write(0, 0, 1), NOT_POSSIBLE);
        due.is("read: the group, then the name", x.read(6, 2), NO_SUCH);
        due.is("delete: the group, then the name", x.delete(6, 2), NO_SUCH);
        due.is("delete: the group, then what it tells", x.delete(6, 0), NO_SUCH);
        due.is("delete: the name, then what it tells", x.delete(0, 2), BAD_VALUE);
        due.is("end: well, then whether one runs", x.end(2), BAD_VALUE);
        due.is("end: whether one runs", x.end(0), NOT_POSSIBLE);
        due.is("ofGroup: the group, then what", x.ofGroup(6, 7), NO_SUCH);
        due.is("generation: the group, then what", x.generation(6, 0, 6), NO_SUCH);
        due.is("generation: the place, then what", x.generation(0, 0, 6), NO_SUCH);
        due.is("named: the group, then the name", x.named(6, 2), NO_SUCH);
        Due.type(x, "j".repeat(80));
        due.is("put: a character, then how many", x.put(32), BAD_VALUE);
        due.is("put: none, then how many", x.put(0), BAD_VALUE);
        due.is("restore: the slot, then whether it was saved", x.restore(2), BAD_VALUE);
        due.is("restore: whether it was saved", x.restore(1), NOT_POSSIBLE);
    }

    private static void noneAfterErrors(Due due) {
        GenerationNames x = new GenerationNames();
        due.is("read", x.read(0, 0), NONE);
        due.is("read of no group", x.read(6, 0), NO_SUCH);
        due.is("read by no name", x.read(0, -8), BAD_VALUE);
        due.is("named", x.named(0, -7), NONE);
        due.is("named of no group", x.named(-1, -7), NO_SUCH);
        due.is("named by no name", x.named(0, -8), BAD_VALUE);
        due.is("rolls", x.rolls(0), NONE);
        due.is("rolls of no group", x.rolls(6), NO_SUCH);
        due.is("ifFailed", x.ifFailed(0), NONE);
        due.is("ifFailed of no group", x.ifFailed(6), NO_SUCH);
        x.write(0, 1, 1);
        due.is("generation", x.generation(0, 0, 5), NONE);
        due.is("generation at no place", x.generation(0, 1, 5), NO_SUCH);
        due.is("generation, no such thing", x.generation(0, 0, 6), BAD_VALUE);
    }

    private static void fromZero(Due due) {
        GenerationNames x = Look.made(0, 3, 2);
        due.is("the group 0", x.ofGroup(0, 1), 2);
        due.is("the place 0", x.generation(0, 0, 0), 2);
        due.is("the slot 0", x.save(0), 2);
        due.is("the set of the other groups", x.groups(2), 62);
        x.put('x');
        due.is("the character 0", x.fault(), 0);
    }

    private static void sixGroups(Due due) {
        GenerationNames x = new GenerationNames();
        for (int g = 0; g <= 5; g++) {
            due.is("keep", x.keep(g, 3), 3);
            due.is("write", x.write(g, 1, 100 + g), 1);
            due.is("read", x.read(g, 0), 100 + g);
            due.is("named", x.named(g, 0), 1);
            due.is("its own generation alone", x.count(3), g + 1);
        }
        due.is("all of them", x.groups(2), 0);
        due.is("delete", x.delete(5, 0), 1);
        due.is("the last one", x.groups(2), 32);
        x.begin();
        for (int g : new int[] {-1, 6, 7, 8, 63, 64, -6, 256, LEAST, MOST}) {
            due.is("keep " + g, x.keep(g, 3), NO_SUCH);
            due.is("write " + g, x.write(g, 1, 1), NO_SUCH);
            due.is("read " + g, x.read(g, 0), NO_SUCH);
            due.is("delete " + g, x.delete(g, 0), NO_SUCH);
            due.is("ofGroup " + g, x.ofGroup(g, 0), NO_SUCH);
            due.is("generation " + g, x.generation(g, 0, 0), NO_SUCH);
            due.is("named " + g, x.named(g, 0), NO_SUCH);
            due.is("rolls " + g, x.rolls(g), NO_SUCH);
            due.is("ifFailed " + g, x.ifFailed(g), NO_SUCH);
            due.is("leastKeep " + g, x.leastKeep(g), NO_SUCH);
        }
    }

    private static void keeps(Due due) {
        GenerationNames x = new GenerationNames();
        for (int g = 0; g <= 5; g++) {
            due.is("at first", x.ofGroup(g, 0), 3);
            Look.make(x, g, 4);
            due.is("three are kept", x.ofGroup(g, 1), 3);
        }
        for (int keep = 1; keep <= 8; keep++) {
            GenerationNames y = Look.made(1, keep, keep - 1);
            due.is("one less than it keeps", y.ofGroup(1, 1), keep - 1);
            y.write(1, 1, 1);
            due.is("as many", y.ofGroup(1, 1), keep);
            y.write(1, 1, 1);
            due.is("not one more", y.ofGroup(1, 1), keep);
        }
    }

    private static void goesRound(Due due) {
        GenerationNames x = Look.made(0, 8, 98);
        due.is("the 98th", x.named(0, 0), 98);
        due.is("the 99th", x.write(0, 1, 1), 99);
        due.is("the newest number", x.ofGroup(0, 3), 99);
        due.is("the 100th", x.write(0, 1, 2), 1);
        due.is("the newest number then", x.ofGroup(0, 3), 1);
        due.is("the 101st", x.write(0, 1, 3), 2);
        due.is("by places", Look.row(x, 0), "2 1 99 98 97 96 95 94");
        due.is("by names", Look.names(x, 0), "- 2 1 99 98 97 96 95 94");
        due.is("rolls", x.rolls(0), 94);
        due.is("write by a name behind 99", x.write(0, -2, 77), 99);
        due.is("its data", x.read(0, -2), 77);
        due.is("delete", x.delete(0, -2), 99);
        due.is("its hole", Look.row(x, 0), "2 1 (99) 98 97 96 95 94");
        due.is("keep", x.keep(0, 3), 8);
        due.is("the hole is gone", Look.row(x, 0), "2 1");
        due.is("rolled off", x.ofGroup(0, 4), 98);
        due.is("delete the 1", x.delete(0, -1), 1);
        due.is("the next one", x.write(0, 1, 4), 3);
        due.is("ifFailed", x.ifFailed(0), 3);
    }

    private static void goesRoundTwice(Due due) {
        GenerationNames x = new GenerationNames();
        for (int i = 1; i <= 199; i++) {
            x.write(0, 1, i);
        }
        due.is("three times 1", Look.row(x, 0), "1 99 98");
        x.delete(0, -1);
        x.delete(0, 0);
        due.is("holes", Look.row(x, 0), "(1) (99) 98");
        due.is("the newest one was", x.ofGroup(0, 3), 1);
        x.delete(0, -2);
        due.is("gone", Look.row(x, 0), "");
        due.is("the newest one was still", x.ofGroup(0, 3), 1);
        due.is("behind it", x.write(0, 1, 1), 2);
        due.is("rolled off", x.ofGroup(0, 4), 196);
        due.is("deleted", x.ofGroup(0, 5), 3);
    }

    private static void goesRoundInJobs(Due due) {
        GenerationNames x = Look.made(0, 3, 99);
        x.begin();
        due.is("made by the job", x.write(0, 1, 5), 1);
        due.is("changed by it", x.write(0, 1, 6), 1);
        due.is("its names", Look.names(x, 0), "1 99 98");
        due.is("the name of 1", x.generation(0, 0, 5), 11);
        due.is("the name of 99", x.generation(0, 1, 5), 10);
        due.is("fails", x.end(0), 0);
        due.is("its hole", Look.row(x, 0), "(1) 99 98");
        x.again();
        due.is("its names again", Look.names(x, 0), "- 99 98");
        due.is("made again", x.write(0, 1, 7), 2);
        due.is("the row", Look.row(x, 0), "2 (1) 99");
        x.end(1);
        due.is("another group", x.write(1, 1, 1), 1);
        GenerationNames y = Look.made(3, 2, 98);
        Due.type(y, "w3+=1;w3+=2;w3+=3;w30=4;w3-1=5");
        due.is("in a text", y.carryOut(), 5);
        due.is("numbers", Look.row(y, 3), "2 1");
        due.is("data", y.ofGroup(3, 6), 9);
        y.undo();
        due.is("undone", Look.row(y, 3), "98 97");
        due.is("and on", y.write(3, 1, 1), 99);
        y.save(0);
        due.is("behind it", y.write(3, 1, 1), 1);
        y.restore(0);
        due.is("restored", y.ofGroup(3, 3), 99);
        due.is("behind it again", y.write(3, 1, 1), 1);
    }

    private static void data(Due due) {
        GenerationNames x = new GenerationNames();
        due.is("least", x.write(0, 1, 0), 1);
        due.is("it is there", x.named(0, 0), 1);
        due.is("it is 0", x.read(0, 0), 0);
        due.is("generation", x.generation(0, 0, 1), 0);
        due.is("it is no hole", x.generation(0, 0, 2), 0);
        due.is("most", x.write(0, 1, 9999), 2);
        due.is("it is 9999", x.read(0, 0), 9999);
        due.is("the same by a name", x.write(0, -1, 9999), 1);
        due.is("and back", x.write(0, 0, 0), 2);
        for (int wrong : new int[] {-1, 10000, -6, 65536, LEAST, MOST}) {
            for (int name = -7; name <= 1; name++) {
                due.is(wrong + " by " + name, x.write(0, name, wrong), BAD_VALUE);
            }
        }
        due.is("none is changed", x.ofGroup(0, 6), 9999);
        due.is("none is made", x.ofGroup(0, 3), 2);
    }

    private static void howOften(Due due) {
        GenerationNames x = Look.made(0, 2, 2);
        for (int i = 0; i < 20; i++) {
            due.is("reads", x.generation(0, 0, 3), i);
            due.is("read", x.read(0, 0), 20);
        }
        due.is("not the other one", x.generation(0, 1, 3), 0);
        x.read(0, -1);
        x.write(0, 1, 30);
        due.is("the new one was never read", x.generation(0, 0, 3), 0);
        due.is("the one ahead was", x.generation(0, 1, 3), 20);
        x.write(0, 1, 40);
        x.write(0, 1, 50);
        due.is("all are new", x.generation(0, 0, 3) + x.generation(0, 1, 3), 0);
        due.is("reads so far", x.count(5), 21);
        GenerationNames y = new GenerationNames();
        y.keep(0, 8);
        for (int i = 1; i <= 30; i++) {
            y.write(0, 1, i);
            due.is("a new one was never read", y.generation(0, 0, 3), 0);
            due.is("whatever was read before it", y.read(0, 0), i);
        }
    }

    private static void places(Due due) {
        for (int many = 0; many <= 8; many++) {
            GenerationNames x = Look.made(2, 8, many);
            for (int place = 0; place < many; place++) {
                due.is("place " + place, x.generation(2, place, 0), many - place);
            }
            due.is("behind the oldest one", x.generation(2, many, 0), NO_SUCH);
            due.is("-1", x.generation(2, -1, 0), NO_SUCH);
            for (int place = 0; place < many - 1; place++) {
                x.delete(2, -place);
                due.is("a hole has a place", x.generation(2, place, 0), many - place);
                due.is("the oldest one keeps its place", x.generation(2, many - 1, 0), 1);
                due.is("as many as before", x.ofGroup(2, 1), many);
            }
        }
    }

    private static void numberBehind(Due due) {
        GenerationNames x = new GenerationNames();
        for (int g = 5; g >= 0; g--) {
            due.is("the newest one is", x.ofGroup(g, 3), 0);
            for (int number = 1; number <= 9; number++) {
                due.is("number", x.write(g, 1, 0), number);
            }
        }
    }

    private static void numberRemembered(Due due) {
        GenerationNames x = new GenerationNames();
        for (int number = 1; number <= 101; number++) {
            int told = (number - 1) % 99 + 1;
            due.is("made", x.write(0, 1, 0), told);
            due.is("deleted", x.delete(0, 0), told);
            due.is("gone", x.ofGroup(0, 1), 0);
            due.is("remembered", x.ofGroup(0, 3), told);
        }
        x.begin();
        due.is("in a job", x.write(0, 1, 0), 3);
        x.end(0);
        due.is("gone with the job", x.ofGroup(0, 1), 0);
        due.is("remembered behind it", x.ofGroup(0, 3), 3);
        due.is("the next one", x.write(0, 1, 0), 4);
    }

    private static void rollOff(Due due) {
        for (int keep = 1; keep <= 8; keep++) {
            GenerationNames x = Look.made(0, keep, keep);
            due.is("none rolled off", x.ofGroup(0, 4), 0);
            due.is("all are there", x.ofGroup(0, 1), keep);
            for (int i = 1; i <= 10; i++) {
                x.write(0, 1, 1);
                due.is("rolled off", x.ofGroup(0, 4), i);
                due.is("as many as KEEP", x.ofGroup(0, 1), keep);
                due.is("the oldest one", x.generation(0, keep - 1, 0), i + 1);
                due.is("not the one ahead of it", x.generation(0, keep, 0), NO_SUCH);
            }
            due.is("none was deleted", x.ofGroup(0, 5), 0);
        }
    }

    private static void holesCount(Due due) {
        GenerationNames x = Look.made(0, 3, 3);
        x.delete(0, 0);
        x.write(0, 1, 40);
        due.is("the oldest one rolls off, not the hole", Look.row(x, 0), "4 (3) 2");
        due.is("rolled off", x.ofGroup(0, 4), 1);
        x.write(0, 1, 50);
        due.is("the next one, and the hole behind it", Look.row(x, 0), "5 4");
        due.is("holes do not roll off", x.ofGroup(0, 4), 2);
        x.write(0, 1, 60);
        due.is("there was room", Look.row(x, 0), "6 5 4");
        due.is("none rolled off", x.ofGroup(0, 4), 2);
        GenerationNames y = Look.made(0, 8, 8);
        for (int place = 0; place < 7; place++) {
            y.delete(0, -place);
        }
        due.is("seven holes", Look.row(y, 0), "(8) (7) (6) (5) (4) (3) (2) 1");
        due.is("would roll off", y.rolls(0), 1);
        y.write(0, 1, 1);
        due.is("one rolls off, seven are gone", Look.row(y, 0), "9");
        due.is("one rolled off", y.ofGroup(0, 4), 1);
    }

    private static void hole(Due due) {
        for (int place = 0; place < 7; place++) {
            GenerationNames x = Look.made(0, 8, 8);
            due.is("deleted", x.delete(0, -place), 8 - place);
            due.is("as many as before", x.ofGroup(0, 1), 8);
            due.is("one hole", x.ofGroup(0, 2), 1);
            due.is("its number", x.generation(0, place, 0), 8 - place);
            due.is("no data", x.generation(0, place, 1), NONE);
            due.is("a hole", x.generation(0, place, 2), 1);
            due.is("the data of the others", x.ofGroup(0, 6), 360 - 10 * (8 - place));
            due.is("the names of the others", x.named(0, place == 0 ? -1 : 0), place == 0 ? 7 : 8);
        }
        GenerationNames x = Look.made(0, 8, 8);
        x.delete(0, -7);
        due.is("not of the oldest one", x.ofGroup(0, 2), 0);
    }

    private static void oldestHoles(Due due) {
        GenerationNames x = Look.made(0, 8, 1);
        due.is("the only one", x.delete(0, 0), 1);
        due.is("is gone", x.ofGroup(0, 1), 0);
        due.is("and so is its hole", x.ofGroup(0, 2), 0);
        due.is("no place", x.generation(0, 0, 2), NO_SUCH);
        Look.make(x, 0, 8);
        x.delete(0, -6);
        x.delete(0, -5);
        due.is("not yet the oldest ones", Look.row(x, 0), "9 8 7 6 5 (4) (3) 2");
        x.delete(0, -7);
        due.is("three at once", Look.row(x, 0), "9 8 7 6 5");
        due.is("deleted", x.ofGroup(0, 5), 4);
        due.is("none rolled off", x.ofGroup(0, 4), 0);
        due.is("no hole is left", x.groups(0), 0);
        x.delete(0, -3);
        x.delete(0, 0);
        x.delete(0, -4);
        due.is("only as far as the holes go", Look.row(x, 0), "(9) 8 7");
    }

    private static void oldestHolesInAnyOrder(Due due) {
        for (int many = 1; many <= 8; many++) {
            GenerationNames x = Look.made(0, 8, many);
            GenerationNames y = Look.made(0, 8, many);
            for (int i = 0; i < many; i++) {
                x.delete(0, -i);
                due.is("the newest one first", x.ofGroup(0, 1), i == many - 1 ? 0 : many);
                due.is("its holes", x.count(4), i == many - 1 ? 0 : i + 1);
                y.delete(0, i + 1 - many);
                due.is("the oldest one first", y.ofGroup(0, 1), many - 1 - i);
                due.is("no holes", y.count(4), 0);
            }
            due.is("nothing is left", Look.row(x, 0) + Look.row(y, 0), "");
            due.is("deleted", x.ofGroup(0, 5) + y.ofGroup(0, 5), 2 * many);
            due.is("rolled off", x.ofGroup(0, 4) + y.ofGroup(0, 4), 0);
            due.is("next", x.write(0, 1, 1), many + 1);
            due.is("that alone", Look.row(x, 0), "" + (many + 1));
        }
    }

    private static void oldestHolesByOthers(Due due) {
        GenerationNames x = Look.made(0, 4, 4);
        x.delete(0, -1);
        x.delete(0, -2);
        x.write(0, 1, 50);
        due.is("the one ahead rolls off", Look.row(x, 0), "5 4");
        due.is("rolled off", x.ofGroup(0, 4), 1);
        x = Look.made(0, 4, 4);
        x.delete(0, -1);
        x.delete(0, -2);
        x.keep(0, 3);
        due.is("the one ahead rolls off by KEEP", Look.row(x, 0), "4");
        due.is("rolled off by KEEP", x.ofGroup(0, 4), 1);
        x = Look.made(0, 3, 1);
        x.begin();
        x.write(0, 1, 20);
        x.delete(0, 0);
        due.is("only what the job made", Look.row(x, 0), "2");
        x.end(0);
        due.is("and that is gone, too", Look.row(x, 0), "");
        due.is("none is left", x.count(4), 0);
        x.begin();
        x.write(0, 1, 30);
        x.write(1, 1, 30);
        x.write(1, 1, 31);
        x.delete(1, 1);
        due.is("deleted by the job that made it", Look.row(x, 1), "");
        x.end(0);
        due.is("gone by the failure", Look.row(x, 0), "");
    }

    private static void namesNow(Due due) {
        String[] want = {"-", "- 1", "- 2 1", "- 3 2 1", "- 4 3 2 1", "- 5 4 3 2 1", "- 6 5 4 3 2 1", "- 7 6 5 4 3 2 1",
            "- 8 7 6 5 4 3 2 1", "- 9 8 7 6 5 4 3 2"};
        GenerationNames x = new GenerationNames();
        x.keep(4, 8);
        for (int many = 0; many <= 9; many++) {
            due.is("names of " + many, Look.names(x, 4), want[many]);
            x.write(4, 1, many);
        }
        x.delete(4, -1);
        x.delete(4, 0);
        due.is("past holes", Look.names(x, 4), "- - - 8 7 6 5 4 3");
        x.keep(4, 3);
        due.is("none but ahead of holes", Look.names(x, 4), "- - - 8");
        for (int wrong : new int[] {-8, 2, -9, 3, 9, LEAST, MOST}) {
            due.is("read " + wrong, x.read(4, wrong), BAD_VALUE);
            due.is("write " + wrong, x.write(4, wrong, 1), BAD_VALUE);
            due.is("delete " + wrong, x.delete(4, wrong), BAD_VALUE);
            due.is("named " + wrong, x.named(4, wrong), BAD_VALUE);
        }
    }

    private static void namesOfJob(Due due) {
        for (int keep = 1; keep <= 8; keep++) {
            for (int many = 0; many <= keep; many++) {
                GenerationNames x = Look.made(0, keep, many);
                String asItBegan = Look.names(x, 0);
                x.begin();
                due.is("as it began", Look.names(x, 0), asItBegan);
                due.is("+1 tells nothing yet", x.named(0, 1), NONE);
                x.write(0, 1, 1);
                due.is("+1", x.named(0, 1), many + 1);
                for (int name = 0; name >= -7; name--) {
                    boolean there = -name < many && -name < keep - 1;
                    due.is("name " + name + " of " + many + " of " + keep, x.named(0, name), there ? many + name : NONE);
                }
                x.end(1);
                due.is("0 behind the job", x.named(0, 0), many + 1);
                due.is("+1 behind the job", x.named(0, 1), NONE);
            }
        }
    }

    private static void namesOfJobDeleted(Due due) {
        for (int gone = 0; gone <= 7; gone++) {
            GenerationNames x = Look.made(0, 8, 8);
            x.begin();
            due.is("deleted", x.delete(0, -gone), 8 - gone);
            for (int name = 0; name >= -7; name--) {
                due.is("name " + name + " without " + gone, x.named(0, name), name == -gone ? NONE : 8 + name);
            }
            x.write(0, 1, 1);
            for (int name = 0; name >= -7; name--) {
                // The oldest one rolls off, but not if it is the one that was deleted: then there is room.
                due.is("name " + name + " then", x.named(0, name), name == -gone || name == -7 ? NONE : 8 + name);
            }
            due.is("rolled off", x.ofGroup(0, 4), gone == 7 ? 0 : 1);
        }
    }

    private static void newOne(Due due) {
        GenerationNames x = Look.made(0, 3, 1);
        x.begin();
        due.is("the first write", x.write(0, 1, 5), 2);
        for (int i = 0; i < 9; i++) {
            due.is("a later write", x.write(0, 1, 100 + i), 2);
            due.is("its data", x.read(0, 1), 100 + i);
            due.is("one was made", x.ofGroup(0, 1), 2);
        }
        due.is("one of its own in each group", x.write(5, 1, 5), 1);
        due.is("made by the job", x.count(7), 2);
        due.is("its reads stay with it", x.generation(0, 0, 3), 9);
        x.end(1);
        due.is("without a job each makes one", x.write(0, 1, 6), 3);
        due.is("each", x.write(0, 1, 6), 4);
        x.begin();
        due.is("the next job makes its own", x.write(0, 1, 7), 5);
        due.is("which is 5", x.named(0, 1), 5);
    }

    private static void tellsNothing(Due due) {
        GenerationNames x = Look.made(0, 2, 3);
        due.is("never was", x.named(1, 0), NONE);
        due.is("rolled off", x.named(0, -2), NONE);
        x.delete(0, 0);
        due.is("a hole", x.named(0, 0), NONE);
        x.begin();
        due.is("a hole in a job", x.named(0, 0), NONE);
        due.is("ahead of it", x.named(0, -1), 2);
        x.write(0, 1, 1);
        due.is("rolled off in a job", x.named(0, -1), NONE);
        due.is("made since", x.named(0, 1), 4);
        x.write(1, 1, 1);
        due.is("not there as the job began", x.named(1, 0), NONE);
        due.is("read", x.read(1, 0), NONE);
        due.is("write", x.write(1, 0, 1), NOT_POSSIBLE);
        due.is("delete", x.delete(1, 0), NOT_POSSIBLE);
        due.is("read of what rolled off", x.read(0, -1), NONE);
        due.is("write to what rolled off", x.write(0, -1, 1), NOT_POSSIBLE);
        due.is("delete of what rolled off", x.delete(0, -1), NOT_POSSIBLE);
        due.is("read of a hole", x.read(0, 0), NONE);
        due.is("write to a hole", x.write(0, 0, 1), NOT_POSSIBLE);
        due.is("delete of a hole", x.delete(0, 0), NOT_POSSIBLE);
    }

    private static void endsWell(Due due) {
        for (int many = 0; many <= 6; many++) {
            GenerationNames x = new GenerationNames();
            x.begin();
            for (int g = 0; g < many; g++) {
                x.write(g, 1, g);
            }
            due.is("as many as it made", x.end(1), many);
            due.is("they stay", x.count(3), many);
            due.is("no holes", x.count(4), 0);
            due.is("none failed", x.count(2), 0);
            due.is("the other groups have none", x.groups(2), 63 & -(1 << many));
        }
    }

    private static void fails(Due due) {
        for (int many = 0; many <= 6; many++) {
            GenerationNames x = new GenerationNames();
            for (int g = 0; g < 3; g++) {
                x.write(g, 1, g);
            }
            x.begin();
            for (int g = 0; g < many; g++) {
                x.write(g, 1, 1);
            }
            due.is("none is there", x.end(0), 0);
            due.is("those from before stay", x.count(3), 3);
            due.is("holes behind them", x.groups(0), 7 & (1 << many) - 1);
            due.is("no hole that is the oldest one", x.count(4), Math.min(3, many));
            due.is("deleted", x.ofGroup(0, 5), many > 0 ? 1 : 0);
            due.is("deleted of the last one", x.ofGroup(5, 5), many > 5 ? 1 : 0);
        }
        GenerationNames x = Look.made(0, 3, 2);
        x.begin();
        x.write(0, 0, 77);
        x.delete(0, -1);
        x.write(0, 1, 1);
        x.delete(0, 1);
        x.keep(0, 5);
        x.end(0);
        due.is("what it changed otherwise stays", x.read(0, -1), 77);
        due.is("what it deleted stays so", Look.row(x, 0), "(3) 2");
        due.is("nothing is deleted twice", x.ofGroup(0, 5), 2);
        due.is("KEEP stays", x.ofGroup(0, 0), 5);
    }

    private static void failsAfterRollOff(Due due) {
        for (int keep = 1; keep <= 8; keep++) {
            GenerationNames x = Look.made(0, keep, keep);
            x.begin();
            x.write(0, 1, 1);
            due.is("the oldest one rolled off", x.ofGroup(0, 4), 1);
            x.end(0);
            due.is("it does not come back", x.ofGroup(0, 4), 1);
            due.is("the hole is there, or gone as the only one", x.ofGroup(0, 1), keep == 1 ? 0 : keep);
            due.is("one less is left", x.count(3), keep - 1);
            due.is("its name tells nothing", x.named(0, -keep < -7 ? -7 : -keep), keep == 8 ? 2 : NONE);
            due.is("again", x.again(), 2);
            due.is("nor by the names of the job", x.named(0, 1 - keep), NONE);
            due.is("the next number", x.write(0, 1, 1), keep + 2);
        }
    }

    private static void namesAgain(Due due) {
        for (int keep = 1; keep <= 8; keep++) {
            GenerationNames x = Look.made(0, keep, keep);
            x.begin();
            String asItBegan = Look.names(x, 0);
            x.end(0);
            x.again();
            due.is("the same names", Look.names(x, 0), asItBegan);
            x.write(0, 1, 1);
            x.end(0);
            x.again();
            due.is("+1 tells nothing yet", x.named(0, 1), NONE);
            for (int name = 0; name >= -7; name--) {
                due.is("name " + name, x.named(0, name), -name < keep - 1 ? keep + name : NONE);
            }
            due.is("made anew", x.write(0, 1, 1), keep + 2);
            due.is("the name +1", x.named(0, 1), keep + 2);
        }
        GenerationNames x = Look.made(0, 8, 2);
        x.begin();
        x.write(0, 1, 30);
        x.end(0);
        x.write(0, 1, 40);
        x.delete(0, -2);
        due.is("names without a job", Look.names(x, 0), "- 4 - - 1");
        x.again();
        due.is("as the job had them, what is deleted since is gone", Look.names(x, 0), "- - 1");
        due.is("the one made since has none", x.generation(0, 0, 5), NONE);
    }

    private static void noOtherBegan(Due due) {
        GenerationNames x = Look.made(0, 3, 1);
        due.is("none failed", x.again(), NOT_POSSIBLE);
        x.begin();
        x.end(0);
        x.begin();
        due.is("another one runs", x.again(), NOT_POSSIBLE);
        x.end(1);
        due.is("another one ended well", x.again(), NOT_POSSIBLE);
        x.begin();
        x.end(0);
        x.write(0, 1, 20);
        x.begin();
        x.end(0);
        due.is("another one failed: that one is run again", x.again(), 5);
        due.is("with the names of that one", x.named(0, 0), 2);
        x.end(1);
        due.is("and ended well", x.again(), NOT_POSSIBLE);
    }

    private static void longestText(Due due) {
        GenerationNames x = new GenerationNames();
        due.is("79", Due.type(x, "j;".repeat(39) + "j"), 79);
        due.is("two more", x.put(Due.packed(";j")), TOO_MANY);
        due.is("still 79", x.count(8), 79);
        due.is("without a fault", x.fault(), NONE);
        due.is("one more", x.put(';'), 80);
        due.is("80", x.count(8), 80);
        due.is("its fault is behind the last one", x.fault(), 80);
        due.is("another one", x.put('j'), TOO_MANY);
        due.is("BAD_TEXT", x.carryOut(), BAD_TEXT);
        due.is("wiped", x.wipe(), 80);
        due.is("80 without a fault", Due.type(x, "j;".repeat(38) + "r0-1"), 80);
        due.is("none", x.fault(), NONE);
    }
}
