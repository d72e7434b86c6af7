/** The promises of ../shared/DOC.md, one by one: ordinary inputs, the edges that it names, and wrong inputs. */
public final class PromiseTest {
    private static final int NO_SUCH = GenerationNames.NO_SUCH;
    private static final int BAD_VALUE = GenerationNames.BAD_VALUE;
    private static final int BAD_TEXT = GenerationNames.BAD_TEXT;
    private static final int TOO_MANY = GenerationNames.TOO_MANY;
    private static final int NOT_POSSIBLE = GenerationNames.NOT_POSSIBLE;
    private static final int NONE = GenerationNames.NONE;
    private static final int[] WRONG_GROUPS = {-1, 6, Integer.MIN_VALUE, Integer.MAX_VALUE};
    private static final int[] WRONG_NAMES = {-8, 2, Integer.MIN_VALUE, Integer.MAX_VALUE};

    private PromiseTest() {
    }

    public static void main(String[] args) {
        int wrong = 0;
        for (int promise = 1; promise <= 23; promise++) {
            Due due = new Due("promise " + promise);
            test(promise, due);
            due.holds("something was asked", due.asked() > 0);
            wrong += due.wrong();
            System.out.println("promise " + promise + ": " + due.asked() + " answers, " + due.wrong() + " wrong");
        }
        if (wrong != 0) {
            System.exit(1);
        }
    }

    private static void test(int promise, Due due) {
        switch (promise) {
            case 1: newObject(due); break;
            case 2: keep(due); keepPastHoles(due); break;
            case 3: write(due); writeInJob(due); numbersGoRound(due); writeErrors(due); break;
            case 4: read(due); break;
            case 5: delete(due); deleteInJob(due); break;
            case 6: begin(due); namesOfJob(due); break;
            case 7: end(due); endAsFailed(due); break;
            case 8: again(due); againByNamesNotNumbers(due); break;
            case 9: ofGroup(due); break;
            case 10: generation(due); namesOfGenerations(due); break;
            case 11: named(due); break;
            case 12: count(due); break;
            case 13: groups(due); break;
            case 14: rolls(due); break;
            case 15: ifFailed(due); break;
            case 16: leastKeep(due); break;
            case 17: put(due); break;
            case 18: wipe(due); break;
            case 19: fault(due); faultAtEachSign(due); break;
            case 20: carryOut(due); carryOutStops(due); break;
            case 21: undo(due); undoOfEachChange(due); undoIntoJobs(due); undoOfEachAnswer(due); errorsRecordNothing(due); break;
            case 22: save(due); break;
            case 23: restore(due); restoreKeepsTheRest(due); break;
            default: due.holds("a test", false); break;
        }
    }

    private static GenerationNames with(int group, int... data) {
        GenerationNames x = new GenerationNames();
        for (int content : data) {
            x.write(group, 1, content);
        }
        return x;
    }

    private static void newObject(Due due) {
        GenerationNames x = new GenerationNames();
        for (int g = 0; g < 6; g++) {
            due.is("KEEP", x.ofGroup(g, 0), 3);
            for (int what = 1; what <= 6; what++) {
                due.is("ofGroup " + what, x.ofGroup(g, what), 0);
            }
            due.is("named 0", x.named(g, 0), NONE);
            due.is("generation", x.generation(g, 0, 0), NO_SUCH);
        }
        for (int what = 0; what <= 9; what++) {
            due.is("count " + what, x.count(what), 0);
        }
        due.is("groups 0", x.groups(0), 0);
        due.is("groups 1", x.groups(1), 0);
        due.is("groups 2", x.groups(2), 63);
        due.is("undo", x.undo(), NOT_POSSIBLE);
        due.is("restore", x.restore(0), NOT_POSSIBLE);
        GenerationNames other = with(0, 5);
        due.is("an object of its own", x.named(0, 0), NONE);
        due.is("the other", other.named(0, 0), 1);
        GenerationNames first = new GenerationNames();
        first.begin();
        due.is("no name in a first job", first.named(0, 1), NONE);
    }

    private static void keep(Due due) {
        GenerationNames x = with(2, 10, 20, 30);
        due.is("keep 2", x.keep(2, 2), 3);
        due.is("oldest rolled off", x.named(2, -2), NONE);
        due.is("size", x.ofGroup(2, 1), 2);
        due.is("rolled off", x.ofGroup(2, 4), 1);
        due.is("keep 8", x.keep(2, 8), 2);
        due.is("none comes back", x.ofGroup(2, 1), 2);
        for (int i = 0; i < 7; i++) {
            x.write(2, 1, i);
        }
        due.is("eight are kept", x.ofGroup(2, 1), 8);
        due.is("-7", x.named(2, -7), 3);
        due.is("keep 1", x.keep(2, 1), 8);
        due.is("one is left", x.ofGroup(2, 1), 1);
        due.is("the newest", x.named(2, 0), 10);
        due.is("all rolled off", x.ofGroup(2, 4), 9);
        due.is("the same again", x.keep(2, 1), 1);
        due.is("other groups", x.ofGroup(1, 0), 3);
        due.is("keep 0", x.keep(2, 0), BAD_VALUE);
        due.is("keep 9", x.keep(2, 9), BAD_VALUE);
        due.is("keep -1", x.keep(2, -1), BAD_VALUE);
        due.is("keep least", x.keep(2, Integer.MIN_VALUE), BAD_VALUE);
        due.is("still 1", x.ofGroup(2, 0), 1);
        for (int g : WRONG_GROUPS) {
            due.is("no group", x.keep(g, 3), NO_SUCH);
            due.is("no group first", x.keep(g, 9), NO_SUCH);
        }
    }

    private static void keepPastHoles(Due due) {
        GenerationNames x = with(0, 10, 20, 30);
        x.delete(0, -1);
        due.is("a hole counts", x.ofGroup(0, 1), 3);
        due.is("keep 2", x.keep(0, 2), 3);
        due.is("the hole is the oldest one then, and gone", x.ofGroup(0, 1), 1);
        due.is("only one rolled off", x.ofGroup(0, 4), 1);
        due.is("named 0", x.named(0, 0), 3);
        x = with(0, 10, 20, 30);
        x.delete(0, -1);
        x.keep(0, 1);
        due.is("holes do not roll off", x.ofGroup(0, 4), 1);
        due.is("one is left", x.ofGroup(0, 1), 1);
        x = with(0, 10, 20);
        x.delete(0, 0);
        x.keep(0, 1);
        due.is("nothing is left but a hole, which is gone", x.ofGroup(0, 1), 0);
        due.is("the number is remembered", x.write(0, 1, 1), 3);
    }

    private static void write(Due due) {
        GenerationNames x = new GenerationNames();
        due.is("first", x.write(0, 1, 0), 1);
        due.is("second", x.write(0, 1, 9999), 2);
        due.is("by 0", x.write(0, 0, 7), 2);
        due.is("by -1", x.write(0, -1, 8), 1);
        due.is("data of 2", x.generation(0, 0, 1), 7);
        due.is("data of 1", x.generation(0, 1, 1), 8);
        due.is("no new ones", x.ofGroup(0, 1), 2);
        due.is("third", x.write(0, 1, 3), 3);
        due.is("fourth", x.write(0, 1, 4), 4);
        due.is("the first rolled off", x.named(0, -3), NONE);
        due.is("rolled off", x.ofGroup(0, 4), 1);
        due.is("a group of its own", x.write(5, 1, 4), 1);
        x.read(0, 0);
        x.write(0, 0, 44);
        due.is("a write leaves the reads", x.generation(0, 0, 3), 1);
        for (int i = 0; i < 9; i++) {
            x.write(0, 1, i);
            due.is("a new one was not read", x.generation(0, 0, 3), 0);
            x.read(0, 0);
        }
    }

    private static void writeInJob(Due due) {
        GenerationNames x = with(0, 10, 20);
        x.begin();
        due.is("by 0", x.write(0, 0, 21), 2);
        due.is("new", x.write(0, 1, 30), 3);
        due.is("the same", x.write(0, 1, 31), 3);
        due.is("its data", x.read(0, 1), 31);
        due.is("0 is as it began", x.write(0, 0, 22), 2);
        due.is("delete the new one", x.delete(0, 1), 3);
        due.is("what it made is gone", x.write(0, 1, 32), NOT_POSSIBLE);
        due.is("the hole stays", x.ofGroup(0, 1), 3);
        due.is("another group", x.write(1, 1, 1), 1);
        due.is("a group that was empty as it began", x.write(1, 0, 1), NOT_POSSIBLE);
        x.end(1);
        due.is("each time without a job", x.write(0, 1, 40), 4);
        due.is("each time", x.write(0, 1, 50), 5);
        x.begin();
        due.is("a job makes its own", x.write(0, 1, 60), 6);
    }

    private static void numbersGoRound(Due due) {
        GenerationNames x = new GenerationNames();
        for (int i = 1; i <= 99; i++) {
            due.is("number", x.write(3, 1, i), i);
        }
        due.is("behind 99", x.write(3, 1, 100), 1);
        due.is("name -1", x.named(3, -1), 99);
        due.is("newest number", x.ofGroup(3, 3), 1);
        x.write(3, 1, 101);
        x.write(3, 1, 102);
        due.is("newest of its number", x.named(3, 0), 3);
        due.is("what rolls off next", x.rolls(3), 1);
        due.is("rolled off", x.ofGroup(3, 4), 99);
    }

    private static void writeErrors(Due due) {
        GenerationNames x = with(0, 10);
        for (int g : WRONG_GROUPS) {
            due.is("no group", x.write(g, 1, 1), NO_SUCH);
            due.is("no group first", x.write(g, 2, -1), NO_SUCH);
        }
        for (int name : WRONG_NAMES) {
            due.is("bad name", x.write(0, name, 1), BAD_VALUE);
        }
        due.is("data -1", x.write(0, 1, -1), BAD_VALUE);
        due.is("data 10000", x.write(0, 1, 10000), BAD_VALUE);
        due.is("bad data first", x.write(0, -1, -1), BAD_VALUE);
        due.is("NONE is no data", x.write(0, 0, NONE), BAD_VALUE);
        for (int name = -7; name < 0; name++) {
            due.is("tells nothing", x.write(0, name, 1), NOT_POSSIBLE);
        }
        x.write(0, 1, 20);
        x.delete(0, 0);
        due.is("a hole", x.write(0, 0, 1), NOT_POSSIBLE);
        due.is("nothing changed", x.ofGroup(0, 6), 10);
    }

    private static void read(Due due) {
        GenerationNames x = with(1, 10, 20);
        due.is("by 0", x.read(1, 0), 20);
        due.is("by -1", x.read(1, -1), 10);
        due.is("by -2", x.read(1, -2), NONE);
        due.is("by 1 without a job", x.read(1, 1), NONE);
        due.is("again", x.read(1, 0), 20);
        due.is("reads of the newest", x.generation(1, 0, 3), 2);
        due.is("reads of the other", x.generation(1, 1, 3), 1);
        due.is("reads", x.count(5), 5);
        due.is("in vain", x.count(6), 2);
        x.begin();
        due.is("by 1, none made", x.read(1, 1), NONE);
        x.write(1, 1, 30);
        due.is("by 1", x.read(1, 1), 30);
        due.is("0 as it began", x.read(1, 0), 20);
        x.delete(1, 0);
        due.is("a hole", x.read(1, 0), NONE);
        due.is("reads then", x.count(5), 9);
        due.is("in vain then", x.count(6), 4);
        for (int g : WRONG_GROUPS) {
            due.is("no group", x.read(g, 0), NO_SUCH);
            due.is("no group first", x.read(g, 2), NO_SUCH);
        }
        for (int name : WRONG_NAMES) {
            due.is("bad name", x.read(1, name), BAD_VALUE);
        }
        due.is("errors are not counted", x.count(5), 9);
        GenerationNames vain = new GenerationNames();
        due.is("nothing there", vain.read(0, 0), NONE);
        due.is("a change all the same", vain.undo(), 0);
        due.is("and uncounted then", vain.count(5), 0);
    }

    private static void delete(Due due) {
        GenerationNames x = with(4, 10, 20, 30);
        due.is("the one in the middle", x.delete(4, -1), 2);
        due.is("its hole", x.generation(4, 1, 2), 1);
        due.is("has its number", x.generation(4, 1, 0), 2);
        due.is("and no data", x.generation(4, 1, 1), NONE);
        due.is("twice", x.delete(4, -1), NOT_POSSIBLE);
        due.is("the oldest", x.delete(4, -2), 1);
        due.is("both are gone at once", x.ofGroup(4, 1), 1);
        due.is("no hole is left", x.ofGroup(4, 2), 0);
        due.is("the newest", x.delete(4, 0), 3);
        due.is("none is left", x.ofGroup(4, 1), 0);
        due.is("deleted", x.ofGroup(4, 5), 3);
        due.is("rolled off", x.ofGroup(4, 4), 0);
        due.is("the number is remembered", x.ofGroup(4, 3), 3);
        due.is("the next number", x.write(4, 1, 1), 4);
        due.is("by 1 without a job", x.delete(4, 1), NOT_POSSIBLE);
        due.is("by -7", x.delete(4, -7), NOT_POSSIBLE);
        for (int g : WRONG_GROUPS) {
            due.is("no group", x.delete(g, 0), NO_SUCH);
            due.is("no group first", x.delete(g, 2), NO_SUCH);
        }
        for (int name : WRONG_NAMES) {
            due.is("bad name", x.delete(4, name), BAD_VALUE);
        }
    }

    private static void deleteInJob(Due due) {
        GenerationNames x = with(0, 10, 20, 30);
        x.begin();
        x.write(0, 1, 40);
        due.is("-2 rolled off", x.delete(0, -2), NOT_POSSIBLE);
        due.is("0 as it began", x.delete(0, 0), 3);
        due.is("its hole is at place 1", x.generation(0, 1, 2), 1);
        due.is("-1 is still the same", x.delete(0, -1), 2);
        due.is("only the new one", x.ofGroup(0, 1), 1);
        due.is("by 1", x.delete(0, 1), 4);
        due.is("twice", x.delete(0, 1), NOT_POSSIBLE);
        due.is("deleted", x.ofGroup(0, 5), 3);
        x.end(0);
        due.is("not deleted twice", x.ofGroup(0, 5), 3);
    }

    private static void begin(Due due) {
        GenerationNames x = new GenerationNames();
        due.is("first", x.begin(), 1);
        due.is("one runs", x.begin(), NOT_POSSIBLE);
        x.end(1);
        due.is("second", x.begin(), 2);
        x.end(0);
        x.again();
        x.end(1);
        due.is("fourth", x.begin(), 4);
    }

    private static void namesOfJob(Due due) {
        GenerationNames x = with(0, 10, 20, 30);
        x.delete(0, -1);
        x.begin();
        due.is("0", x.named(0, 0), 3);
        due.is("-1 is a hole", x.named(0, -1), NONE);
        due.is("-2: holes count", x.named(0, -2), 1);
        x.delete(0, 0);
        due.is("0 is a hole then", x.named(0, 0), NONE);
        due.is("-2 still", x.named(0, -2), 1);
        x.write(0, 1, 40);
        due.is("-2 rolled off", x.named(0, -2), NONE);
        due.is("1", x.named(0, 1), 4);
        x.end(1);
        due.is("0 after the job", x.named(0, 0), 4);
        x.begin();
        due.is("0 for the next job", x.named(0, 0), 4);
        due.is("1 for the next job", x.named(0, 1), NONE);
    }

    private static void end(Due due) {
        GenerationNames x = with(0, 10);
        due.is("none runs", x.end(1), NOT_POSSIBLE);
        due.is("bad first", x.end(2), BAD_VALUE);
        due.is("bad -1", x.end(-1), BAD_VALUE);
        x.begin();
        x.write(0, 1, 20);
        x.write(1, 1, 20);
        x.write(2, 1, 20);
        x.delete(1, 1);
        due.is("bad in a job", x.end(2), BAD_VALUE);
        due.is("ends well", x.end(1), 2);
        due.is("what it made stays", x.named(0, 0), 2);
        due.is("ended", x.end(0), NOT_POSSIBLE);
        due.is("none failed", x.count(2), 0);
        x.begin();
        due.is("a job that made none", x.end(1), 0);
    }

    private static void endAsFailed(Due due) {
        GenerationNames x = with(0, 10, 20, 30);
        x.begin();
        x.write(0, 1, 40);
        x.write(1, 1, 50);
        x.write(0, 0, 31);
        due.is("fails", x.end(0), 0);
        due.is("a hole is left", x.generation(0, 0, 2), 1);
        due.is("its number", x.generation(0, 0, 0), 4);
        due.is("what rolled off stays away", x.ofGroup(0, 1), 3);
        due.is("what was changed stays so", x.named(0, -1), 3);
        due.is("its data", x.generation(0, 1, 1), 31);
        due.is("a hole that is the oldest one is gone", x.ofGroup(1, 1), 0);
        due.is("deleted by the job", x.ofGroup(0, 5), 1);
        due.is("deleted by the job in 1", x.ofGroup(1, 5), 1);
        due.is("failed", x.count(2), 1);
        due.is("next number", x.write(1, 1, 1), 2);
    }

    private static void again(Due due) {
        GenerationNames x = with(0, 10, 20);
        due.is("none began", x.again(), NOT_POSSIBLE);
        x.begin();
        due.is("one runs", x.again(), NOT_POSSIBLE);
        x.write(0, 1, 30);
        x.end(0);
        due.is("0 without a job is a hole", x.named(0, 0), NONE);
        due.is("again", x.again(), 2);
        due.is("0 as the failed one had it", x.named(0, 0), 2);
        due.is("-1 too", x.named(0, -1), 1);
        due.is("1 is not what that one made", x.named(0, 1), NONE);
        due.is("it makes its own", x.write(0, 1, 31), 4);
        due.is("runs", x.again(), NOT_POSSIBLE);
        x.end(0);
        due.is("once more", x.again(), 3);
        due.is("the same names", x.named(0, 0), 2);
        x.end(1);
        due.is("ended well", x.again(), NOT_POSSIBLE);
        x.begin();
        x.end(0);
        x.begin();
        due.is("another began", x.again(), NOT_POSSIBLE);
        x.end(1);
        due.is("and ended well", x.again(), NOT_POSSIBLE);
    }

    private static void againByNamesNotNumbers(Due due) {
        GenerationNames x = with(0, 10, 20);
        x.begin();
        x.end(0);
        x.write(0, 1, 30);
        x.again();
        due.is("0 is from before", x.named(0, 0), 2);
        due.is("one made between has no name", x.generation(0, 0, 5), NONE);
        due.is("1 is not it", x.named(0, 1), NONE);
        due.is("new", x.write(0, 1, 40), 4);
        x.end(0);
        for (int i = 0; i < 98; i++) {
            x.write(0, 1, i);
        }
        due.is("the numbers went round", x.named(0, -1), 2);
        x.again();
        due.is("another one with its number", x.named(0, 0), NONE);
        due.is("has no name", x.generation(0, 1, 5), NONE);
    }

    private static void ofGroup(Due due) {
        GenerationNames x = with(5, 10, 20, 30, 40, 50);
        x.keep(5, 4);
        x.write(5, 1, 60);
        x.delete(5, -1);
        int[] want = {4, 4, 1, 6, 2, 1, 30 + 40 + 60};
        for (int what = 0; what < want.length; what++) {
            due.is("what " + what, x.ofGroup(5, what), want[what]);
        }
        x.write(5, 1, 70);
        x.write(5, 1, 80);
        due.is("a hole that is gone did not roll off", x.ofGroup(5, 4), 4);
        due.is("gone with the oldest ones", x.ofGroup(5, 1), 3);
        x.begin();
        x.write(5, 1, 90);
        x.end(0);
        due.is("deleted also by failed jobs", x.ofGroup(5, 5), 2);
        due.is("what 7", x.ofGroup(5, 7), BAD_VALUE);
        due.is("what -1", x.ofGroup(5, -1), BAD_VALUE);
        for (int g : WRONG_GROUPS) {
            due.is("no group", x.ofGroup(g, 0), NO_SUCH);
            due.is("no group first", x.ofGroup(g, 7), NO_SUCH);
        }
    }

    private static void generation(Due due) {
        GenerationNames x = with(0, 10, 20);
        x.begin();
        x.write(0, 1, 30);
        x.read(0, 1);
        x.read(0, 1);
        int[] want = {3, 30, 0, 2, 1, 11};
        int[] wantAhead = {2, 20, 0, 0, 0, 10};
        for (int what = 0; what < want.length; what++) {
            due.is("place 0, what " + what, x.generation(0, 0, what), want[what]);
            due.is("place 1, what " + what, x.generation(0, 1, what), wantAhead[what]);
        }
        due.is("place 2", x.generation(0, 2, 0), 1);
        due.is("no place 3", x.generation(0, 3, 0), NO_SUCH);
        due.is("no place first", x.generation(0, 3, 6), NO_SUCH);
        due.is("no place -1", x.generation(0, -1, 0), NO_SUCH);
        due.is("no such place", x.generation(0, Integer.MAX_VALUE, 0), NO_SUCH);
        due.is("no such place", x.generation(0, Integer.MIN_VALUE, 0), NO_SUCH);
        due.is("what 6", x.generation(0, 0, 6), BAD_VALUE);
        due.is("what -1", x.generation(0, 0, -1), BAD_VALUE);
        due.is("an empty group", x.generation(1, 0, 0), NO_SUCH);
        for (int g : WRONG_GROUPS) {
            due.is("no group", x.generation(g, 0, 0), NO_SUCH);
        }
        x.end(0);
        int[] wantHole = {3, NONE, 1, 2, 1, NONE};
        for (int what = 0; what < wantHole.length; what++) {
            due.is("a hole, what " + what, x.generation(0, 0, what), wantHole[what]);
        }
    }

    private static void namesOfGenerations(Due due) {
        GenerationNames x = new GenerationNames();
        x.keep(0, 8);
        for (int i = 0; i < 8; i++) {
            x.write(0, 1, i);
        }
        due.is("without a job", x.generation(0, 0, 5), NONE);
        x.begin();
        for (int place = 0; place < 8; place++) {
            due.is("as it began, place " + place, x.generation(0, place, 5), 10 - place);
        }
        x.delete(0, -3);
        due.is("a hole", x.generation(0, 3, 5), NONE);
        x.write(0, 1, 9);
        due.is("the new one", x.generation(0, 0, 5), 11);
        due.is("the oldest one", x.generation(0, 7, 5), 4);
        x.delete(0, 1);
        due.is("the new one's hole", x.generation(0, 0, 5), NONE);
        x.end(1);
        due.is("after the job", x.generation(0, 1, 5), NONE);
    }

    private static void named(Due due) {
        GenerationNames x = with(0, 10, 20, 30);
        due.is("0", x.named(0, 0), 3);
        due.is("-1", x.named(0, -1), 2);
        due.is("-2", x.named(0, -2), 1);
        due.is("-3", x.named(0, -3), NONE);
        due.is("-7", x.named(0, -7), NONE);
        due.is("1", x.named(0, 1), NONE);
        x.delete(0, -1);
        due.is("a hole", x.named(0, -1), NONE);
        due.is("behind the hole", x.named(0, -2), 1);
        x.begin();
        x.write(0, 1, 40);
        due.is("1 in a job", x.named(0, 1), 4);
        due.is("0 in a job", x.named(0, 0), 3);
        due.is("it is no read", x.count(5), 0);
        for (int g : WRONG_GROUPS) {
            due.is("no group", x.named(g, 0), NO_SUCH);
            due.is("no group first", x.named(g, 2), NO_SUCH);
        }
        for (int name : WRONG_NAMES) {
            due.is("bad name", x.named(0, name), BAD_VALUE);
        }
    }

    private static void count(Due due) {
        GenerationNames x = with(0, 10, 20, 30);
        x.write(1, 1, 1);
        x.delete(0, -1);
        x.begin();
        x.end(0);
        x.again();
        x.read(0, 0);
        x.read(0, -1);
        x.read(5, 1);
        x.write(2, 1, 2);
        x.write(3, 1, 2);
        x.delete(3, 1);
        x.put(Due.packed("jj"));
        int[] want = {2, 1, 1, 4, 1, 3, 2, 1, 2, 6};
        for (int what = 0; what < want.length; what++) {
            due.is("what " + what, x.count(what), want[what]);
        }
        x.end(1);
        due.is("none runs", x.count(1), 0);
        due.is("none runs that made any", x.count(7), 0);
        due.is("what 10", x.count(10), BAD_VALUE);
        due.is("what -1", x.count(-1), BAD_VALUE);
        due.is("what least", x.count(Integer.MIN_VALUE), BAD_VALUE);
    }

    private static void groups(Due due) {
        GenerationNames x = new GenerationNames();
        for (int g = 0; g < 5; g++) {
            x.write(g, 1, g);
        }
        x.write(1, 1, 1);
        x.delete(1, 0);
        x.begin();
        x.write(0, 1, 1);
        x.write(2, 1, 1);
        x.delete(2, 1);
        x.write(5, 1, 1);
        x.delete(5, 1);
        x.delete(3, 0);
        due.is("with holes", x.groups(0), 2 + 4);
        due.is("the newest is the job's, also a hole", x.groups(1), 1 + 4);
        due.is("0 tells nothing", x.groups(2), 2 + 8 + 32);
        x.undo();
        x.undo();
        x.undo();
        due.is("also the only one", x.groups(1), 1 + 4);
        x.write(5, 1, 1);
        due.is("as long as it is there", x.groups(1), 1 + 4 + 32);
        x.delete(5, 1);
        x.delete(3, 0);
        x.end(1);
        due.is("no job", x.groups(1), 0);
        due.is("0 tells nothing now", x.groups(2), 2 + 4 + 8 + 32);
        x.begin();
        due.is("another job", x.groups(1), 0);
        due.is("what 3", x.groups(3), BAD_VALUE);
        due.is("what -1", x.groups(-1), BAD_VALUE);
    }

    private static void rolls(Due due) {
        GenerationNames x = with(0, 10, 20);
        due.is("there is room", x.rolls(0), NONE);
        x.write(0, 1, 30);
        due.is("the oldest", x.rolls(0), 1);
        x.delete(0, -1);
        due.is("a hole counts", x.rolls(0), 1);
        x.delete(0, -2);
        due.is("room again", x.rolls(0), NONE);
        x.keep(0, 1);
        due.is("the only one", x.rolls(0), 3);
        due.is("an empty group", x.rolls(1), NONE);
        for (int g : WRONG_GROUPS) {
            due.is("no group", x.rolls(g), NO_SUCH);
        }
        x.write(0, 1, 40);
        due.is("nothing changed but by the write", x.ofGroup(0, 4), 1);
    }

    private static void ifFailed(Due due) {
        GenerationNames x = with(0, 10, 20);
        due.is("without a job", x.ifFailed(0), 2);
        x.write(1, 1, 1);
        x.write(1, 1, 1);
        x.delete(1, 0);
        due.is("a hole", x.ifFailed(1), NONE);
        due.is("an empty group", x.ifFailed(2), NONE);
        x.begin();
        due.is("a job that made none", x.ifFailed(0), 2);
        x.write(0, 1, 30);
        due.is("its hole would be the newest", x.ifFailed(0), NONE);
        x.write(2, 1, 30);
        due.is("none would be left", x.ifFailed(2), NONE);
        due.is("nothing changed", x.named(0, 1), 3);
        x.end(1);
        due.is("it stays", x.ifFailed(0), 3);
        x.begin();
        x.end(0);
        x.write(0, 1, 40);
        x.again();
        due.is("what is so then, not what the job's 0 is", x.ifFailed(0), 4);
        x.delete(0, 0);
        due.is("the job's 0 is gone", x.named(0, 0), NONE);
        due.is("what is so then", x.ifFailed(0), 4);
        for (int g : WRONG_GROUPS) {
            due.is("no group", x.ifFailed(g), NO_SUCH);
        }
    }

    private static void leastKeep(Due due) {
        GenerationNames x = new GenerationNames();
        due.is("an empty group", x.leastKeep(0), 1);
        x.keep(0, 8);
        for (int i = 1; i <= 8; i++) {
            x.write(0, 1, i);
            due.is("as many as there are", x.leastKeep(0), i);
        }
        x.write(0, 1, 9);
        due.is("not above 8", x.leastKeep(0), 8);
        x.delete(0, -6);
        due.is("a hole within", x.leastKeep(0), 8);
        x.delete(0, -7);
        due.is("holes that are gone", x.leastKeep(0), 6);
        due.is("so none rolls off", x.keep(0, 6), 8);
        due.is("none", x.ofGroup(0, 4), 1);
        for (int g : WRONG_GROUPS) {
            due.is("no group", x.leastKeep(g), NO_SUCH);
        }
    }

    private static void put(Due due) {
        GenerationNames x = new GenerationNames();
        due.is("one", x.put('j'), 1);
        due.is("eight", x.put(Due.packed(";w0+=12;")), 9);
        due.is("two", x.put(Due.packed("r0")), 11);
        due.is("33", x.put(33), 12);
        due.is("126", x.put(126), 13);
        due.is("none", x.put(0), BAD_VALUE);
        due.is("32", x.put(32), BAD_VALUE);
        due.is("127", x.put(127), BAD_VALUE);
        due.is("a bad one ahead", x.put(Due.packed(" j")), BAD_VALUE);
        due.is("0 within", x.put((long) 'j' << 16 | 'j'), BAD_VALUE);
        due.is("0 at the end", x.put((long) 'j' << 8), BAD_VALUE);
        due.is("far above", x.put((long) 'j' << 56 | 'j'), BAD_VALUE);
        due.is("-1", x.put(-1), BAD_VALUE);
        due.is("least", x.put(Long.MIN_VALUE), BAD_VALUE);
        due.is("above 127", x.put(200), BAD_VALUE);
        due.is("nothing was put", x.count(8), 13);
        for (int length = 21; length <= 77; length += 8) {
            due.is("more", x.put(Due.packed("jjjjjjjj")), length);
        }
        due.is("four more", x.put(Due.packed("jjjj")), TOO_MANY);
        due.is("bad first", x.put(Due.packed("jjj ")), BAD_VALUE);
        due.is("three more", x.put(Due.packed("jjj")), 80);
        due.is("one more", x.put('j'), TOO_MANY);
        due.is("80", x.count(8), 80);
        due.is("it is no change", x.count(9), 0);
    }

    private static void wipe(Due due) {
        GenerationNames x = new GenerationNames();
        due.is("empty", x.wipe(), 0);
        x.put(Due.packed("jjj"));
        due.is("three", x.wipe(), 3);
        due.is("none are left", x.count(8), 0);
        due.is("twice", x.wipe(), 0);
        due.is("put behind it", x.put('g'), 1);
        due.is("it is no change", x.count(9), 0);
    }

    private static int faultOf(String text) {
        GenerationNames x = new GenerationNames();
        Due.type(x, text);
        return x.fault();
    }

    private static void fault(Due due) {
        String[] good = {"j", "g", "f", "a", "w0+=0", "w5-7=9999", "w30=10", "r0+", "r50", "d0-1", "d2+", "j;g", "w0+=1;r0-7;a"};
        for (String text : good) {
            due.is(text, faultOf(text), NONE);
        }
        due.is("an empty text", faultOf(""), 0);
        String[] early = {"w", "r", "d", "w0", "w0+", "w0-", "w0-1", "w0+=", "r0", "r0-", "j;", "w0+=1;", "j;w"};
        for (String text : early) {
            due.is(text, faultOf(text), text.length());
        }
        GenerationNames x = new GenerationNames();
        Due.type(x, "j;x");
        due.is("fault", x.fault(), 2);
        due.is("the pad stays", x.count(8), 3);
        due.is("80 signs", faultOf("w0-1=1000;".repeat(7) + "w0-1=10000"), 79);
    }

    private static void faultAtEachSign(Due due) {
        String[] faulty = {"x", ";", "J", "0", "jj", "j;;", "j ", "j;g;x", "w6", "w9", "r-", "w0=", "w0*", "r01", "r00;1", "w0+1",
            "w0+;", "w0-0", "w0-8", "r0-0", "r0-8", "r0-11", "w0-11", "w0+=-", "w0+=;", "w0+=00", "w0+=01", "w0+=1-", "w0+=12+",
            "w0+=123j", "w0+=1234;x", "w0+=12345", "w0+=99990", "w0+=10000", "d0++", "d0+=", "j0", "r0+;w0+=5=", "w0--", "r0;"};
        for (String text : faulty) {
            String told = text.replace(" ", "!");
            due.is(told, faultOf(told), told.length() - 1);
            due.is(told + "j", faultOf(told + "j"), told.length() - 1);
        }
    }

    private static void carryOut(Due due) {
        GenerationNames x = new GenerationNames();
        Due.type(x, "w0+=10;w0+=9999;w1+=7;j;w0+=30;w0-1=11;w00=21;r0+;r0-1;r3+;d10;g");
        due.is("all", x.carryOut(), 12);
        due.is("the pad is empty", x.count(8), 0);
        due.is("one change", x.count(9), 1);
        due.is("made by the job", x.generation(0, 0, 4), 1);
        due.is("30", x.generation(0, 0, 1), 30);
        due.is("21", x.generation(0, 1, 1), 21);
        due.is("11", x.generation(0, 2, 1), 11);
        due.is("deleted", x.ofGroup(1, 5), 1);
        due.is("reads", x.count(5), 3);
        due.is("in vain", x.count(6), 1);
        due.is("ended", x.count(1), 0);
        due.is("none failed", x.count(2), 0);
        Due.type(x, "j;w2+=0;f;a;w2+=5;g;d0-2;r0-7");
        due.is("fails and again", x.carryOut(), 8);
        due.is("failed", x.count(2), 1);
        due.is("the one behind", x.named(2, 0), 2);
        due.is("-2 deleted", x.ofGroup(0, 1), 2);
        due.is("undo", x.undo(), 1);
        due.is("all of the text is undone", x.count(0), 1);
        due.is("the pad is not", x.count(8), 0);
    }

    private static void carryOutStops(Due due) {
        GenerationNames x = new GenerationNames();
        due.is("an empty text", x.carryOut(), BAD_TEXT);
        Due.type(x, "j;x");
        due.is("a fault", x.carryOut(), BAD_TEXT);
        due.is("the pad stays", x.count(8), 3);
        due.is("no change", x.count(9), 0);
        due.is("nothing is carried out", x.count(0), 0);
        x.wipe();
        Due.type(x, "j;w0+=1;j;w0+=2;g");
        due.is("up to the error", x.carryOut(), 2);
        due.is("not behind it", x.read(0, 1), 1);
        due.is("the pad is empty", x.count(8), 0);
        Due.type(x, "a;g");
        due.is("none", x.carryOut(), 0);
        due.is("a change all the same", x.count(9), 3);
        due.is("the job runs", x.count(1), 1);
        Due.type(x, "f;d0+");
        due.is("a name that tells nothing", x.carryOut(), 1);
        Due.type(x, "r0+;w00=1");
        due.is("no error but the write", x.carryOut(), 1);
    }

    private static void undo(Due due) {
        GenerationNames x = new GenerationNames();
        due.is("none", x.undo(), NOT_POSSIBLE);
        for (int i = 1; i <= 8; i++) {
            x.write(0, 1, i);
            due.is("can be undone", x.count(9), Math.min(i, 6));
            due.is("an error between", x.again(), NOT_POSSIBLE);
        }
        for (int i = 5; i >= 0; i--) {
            due.is("undo", x.undo(), i);
            due.is("the newest then", x.named(0, 0), 2 + i);
        }
        due.is("the older ones are dropped", x.undo(), NOT_POSSIBLE);
        due.is("two are left", x.ofGroup(0, 1), 2);
        x.write(0, 1, 30);
        due.is("numbers too", x.named(0, 0), 3);
        x.put('j');
        x.save(1);
        due.is("undo", x.undo(), 0);
        due.is("the pad stays", x.count(8), 1);
        due.is("the slot stays", x.restore(1), 3);
    }

    private static void undoOfEachChange(Due due) {
        GenerationNames x = with(0, 10, 20);
        x.keep(0, 1);
        x.undo();
        due.is("keep", x.ofGroup(0, 0), 3);
        due.is("what rolled off is back", x.named(0, -1), 1);
        due.is("and uncounted", x.ofGroup(0, 4), 0);
        x.write(0, 0, 21);
        x.undo();
        due.is("write", x.generation(0, 0, 1), 20);
        x.read(0, 0);
        x.undo();
        due.is("read", x.generation(0, 0, 3) + x.count(5), 0);
        x.delete(0, -1);
        x.undo();
        due.is("delete", x.named(0, -1), 1);
        due.is("deleted", x.ofGroup(0, 5), 0);
        x.begin();
        x.undo();
        due.is("begin", x.count(0) + x.count(1), 0);
        x.begin();
        x.write(0, 1, 30);
        x.end(0);
        x.undo();
        due.is("end", x.count(1), 1);
        due.is("it made one", x.named(0, 1), 3);
        due.is("none failed", x.count(2), 0);
        x.end(0);
        x.again();
        x.undo();
        due.is("again", x.again(), 2);
        x.keep(3, 3);
        x.undo();
        due.is("also if nothing is different", x.count(0), 2);
    }

    private static void undoIntoJobs(Due due) {
        GenerationNames x = with(0, 10, 20);
        x.begin();
        x.write(0, 1, 30);
        x.end(1);
        x.begin();
        x.undo();
        x.undo();
        due.is("the job knows its own", x.named(0, 1), 3);
        due.is("and its names", x.named(0, 0), 2);
        due.is("the job that made it", x.generation(0, 0, 4), 1);
        due.is("a write of its own", x.write(0, 1, 31), 3);
        x.undo();
        x.undo();
        due.is("it made none yet", x.named(0, 1), NONE);
        due.is("then it does", x.write(0, 1, 32), 3);
        x.read(0, -7);
        x.undo();
        due.is("reads in vain", x.count(6), 0);
        x.write(0, 0, 1);
        x.end(1);
        for (int i = 0; i < 5; i++) {
            x.write(0, 1, i);
        }
        x.undo();
        due.is("without a job it is told which one made what", x.generation(0, 0, 4), 0);
        x = new GenerationNames();
        x.keep(0, 8);
        x.begin();
        x.write(0, 1, 0);
        x.end(0);
        x.again();
        x.write(0, 1, 1);
        x.end(1);
        for (int i = 0; i < 8; i++) {
            x.write(0, 1, i);
        }
        x.undo();
        due.is("the job of one that rolled off", x.generation(0, 7, 4), 2);
        x.begin();
        x.end(0);
        x.begin();
        x.end(1);
        due.is("ended well", x.again(), NOT_POSSIBLE);
        x.undo();
        x.undo();
        due.is("the last one failed then", x.again(), 4);
    }

    /** Undoes each kind of change, with the one before it having changed the same. */
    private static void undoOfEachAnswer(Due due) {
        GenerationNames x = with(0, 10, 20, 30);
        for (int i = 0; i < 10; i++) {
            x.keep(0, 3 + i % 3);
            x.keep(0, 8);
            x.undo();
            due.is("keep", x.ofGroup(0, 0), 3 + i % 3);
            x.write(0, 0, 100 + i);
            x.write(0, 0, 200 + i);
            x.undo();
            due.is("write", x.generation(0, 0, 1), 100 + i);
            x.read(0, 0);
            x.read(0, 0);
            x.undo();
            due.is("read", x.generation(0, 0, 3), 1);
            due.is("all reads", x.count(5), 1 + i);
            x.write(0, 0, 250 + i);
            x.begin();
            x.undo();
            due.is("begin", x.count(0), i);
            due.is("not what was before it", x.generation(0, 0, 1), 250 + i);
            x.begin();
            x.write(0, 1, 300);
            x.delete(0, 1);
            x.undo();
            due.is("delete", x.named(0, 1) > 0 ? 1 : 0, 1);
            x.end(1);
            x.put('j');
            x.carryOut();
            x.undo();
            due.is("carryOut", x.count(0), i + 1);
            x.save(0);
            x.write(0, 0, 400);
            x.restore(0);
            x.undo();
            due.is("restore", x.generation(0, 0, 1), 400);
        }
    }

    private static void errorsRecordNothing(Due due) {
        GenerationNames x = with(0, 10);
        x.keep(9, 1);
        x.keep(0, 9);
        x.write(0, 5, 1);
        x.write(0, -1, 1);
        x.read(0, 5);
        x.delete(0, 1);
        x.end(1);
        x.end(5);
        x.again();
        x.restore(0);
        x.restore(5);
        x.carryOut();
        x.save(0);
        x.wipe();
        x.fault();
        x.rolls(0);
        due.is("only the write", x.count(9), 1);
        x.begin();
        x.begin();
        due.is("one more", x.count(9), 2);
        due.is("undo", x.undo(), 1);
        due.is("not running", x.count(1), 0);
    }

    private static void save(Due due) {
        GenerationNames x = new GenerationNames();
        due.is("empty", x.save(0), 0);
        x.write(0, 1, 10);
        x.write(0, 1, 20);
        x.write(5, 1, 30);
        x.write(5, 1, 40);
        x.delete(5, 0);
        due.is("without holes", x.save(1), 3);
        due.is("it is no change", x.count(9), 5);
        due.is("slot 2", x.save(2), BAD_VALUE);
        due.is("slot -1", x.save(-1), BAD_VALUE);
        due.is("slot least", x.save(Integer.MIN_VALUE), BAD_VALUE);
        due.is("slot 0 is as it was", x.restore(0), 0);
        due.is("slot 1", x.restore(1), 3);
        x.write(1, 1, 1);
        due.is("overwrites", x.save(0), 4);
        x.delete(1, 0);
        due.is("what was saved last", x.restore(0), 4);
    }

    private static void restore(Due due) {
        GenerationNames x = with(0, 10, 20);
        due.is("slot 2", x.restore(2), BAD_VALUE);
        due.is("slot -1", x.restore(-1), BAD_VALUE);
        due.is("nothing saved", x.restore(0), NOT_POSSIBLE);
        x.begin();
        x.write(0, 1, 30);
        x.read(0, 0);
        x.save(0);
        due.is("nothing saved in 1", x.restore(1), NOT_POSSIBLE);
        x.end(1);
        x.keep(0, 1);
        x.delete(0, 0);
        due.is("restore", x.restore(0), 3);
        due.is("the job runs", x.count(1), 1);
        due.is("its names", x.named(0, 0), 2);
        due.is("its new one", x.named(0, 1), 3);
        due.is("keep", x.ofGroup(0, 0), 3);
        due.is("reads", x.generation(0, 1, 3), 1);
        due.is("all reads", x.count(5), 1);
        x.write(0, 0, 99);
        due.is("the slot keeps it", x.restore(0), 3);
        due.is("as it was saved", x.generation(0, 1, 1), 20);
    }

    private static void restoreKeepsTheRest(Due due) {
        GenerationNames x = with(0, 10);
        x.save(0);
        x.write(0, 1, 20);
        x.save(1);
        x.write(0, 1, 30);
        x.put('j');
        due.is("restore", x.restore(0), 1);
        due.is("it is a change", x.count(9), 4);
        due.is("the pad stays", x.count(8), 1);
        due.is("the other slot stays", x.restore(1), 2);
        due.is("undo", x.undo(), 4);
        due.is("before it", x.ofGroup(0, 1), 1);
        due.is("undo", x.undo(), 3);
        due.is("before that", x.ofGroup(0, 1), 3);
    }
}
