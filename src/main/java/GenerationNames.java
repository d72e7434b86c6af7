/**
 * Generations of data groups that are kept by count and read by names relative to the newest one.
 * ../shared/DOC.md says what each call promises.
 */
public final class GenerationNames {
    public static final int NO_SUCH = -1, BAD_VALUE = -2, BAD_TEXT = -3, TOO_MANY = -4, NOT_POSSIBLE = -5, NONE = -6;

    private static final int GROUPS = 6;
    private static final int MOST_KEPT = 8;
    /** The bits of a serial that are its index in a row of MOST_KEPT. */
    private static final int INDEX_BITS = MOST_KEPT - 1;
    private static final int FIRST_KEEP = 3;
    private static final int LAST_NUMBER = 99;
    private static final int MOST_DATA = 9999;
    private static final int LEAST_NAME = -7;
    private static final int NEW_NAME = 1;
    private static final int MOST_UNDONE = 6;
    private static final int SLOTS = 2;
    private static final int PAD_LENGTH = 80;

    private final State now = new State();
    /** The states to which changes can be undone, the oldest one first; behind them a row that is free for the next. */
    private final State[] history = new State[MOST_UNDONE + 1];
    private int undoable = 0;
    private final State[] slots = new State[SLOTS];
    private final boolean[] saved = new boolean[SLOTS];
    private final Pad pad = new Pad();

    public GenerationNames() {
        for (int i = 0; i < history.length; i++) {
            history[i] = new State();
        }
        for (int i = 0; i < slots.length; i++) {
            slots[i] = new State();
        }
    }

    // ---- changes

    public int keep(int group, int keep) {
        noteStateBefore();
        return recorded(now.changeKeep(group, keep));
    }

    public int write(int group, int name, int data) {
        noteStateBefore();
        return recorded(now.writeByName(group, name, data));
    }

    public int read(int group, int name) {
        noteStateBefore();
        return recorded(now.readByName(group, name));
    }

    public int delete(int group, int name) {
        noteStateBefore();
        return recorded(now.deleteByName(group, name));
    }

    public int begin() {
        noteStateBefore();
        return recorded(now.beginJob());
    }

    public int end(int well) {
        noteStateBefore();
        return recorded(now.endJob(well));
    }

    public int again() {
        noteStateBefore();
        return recorded(now.repeatJob());
    }

    // ---- what there is

    public int ofGroup(int group, int what) {
        return now.aboutGroup(group, what);
    }

    public int generation(int group, int place, int what) {
        return now.aboutGeneration(group, place, what);
    }

    public int named(int group, int name) {
        return now.numberByName(group, name);
    }

    public int count(int what) {
        if (what == 8) {
            return pad.size();
        }
        if (what == 9) {
            return undoable;
        }
        return now.counted(what);
    }

    public int groups(int what) {
        return now.groupsThatAre(what);
    }

    // ---- what if; nothing changes

    public int rolls(int group) {
        return now.numberThatRolls(group);
    }

    public int ifFailed(int group) {
        return now.newestIfFailed(group);
    }

    public int leastKeep(int group) {
        return now.leastKeepOf(group);
    }

    // ---- texts

    public int put(long characters) {
        return pad.append(characters);
    }

    public int wipe() {
        return pad.empty();
    }

    public int fault() {
        return pad.findFault();
    }

    public int carryOut() {
        if (pad.findFault() != NONE) {
            return BAD_TEXT;
        }
        noteStateBefore();
        int done = carryOutOrders();
        pad.empty();
        return recorded(done);
    }

    // ---- undo, saving

    public int undo() {
        if (undoable < 1) {
            return NOT_POSSIBLE;
        }
        undoable--;
        now.copyFrom(history[undoable]);
        return undoable;
    }

    public int save(int slot) {
        if (!isSlot(slot)) {
            return BAD_VALUE;
        }
        slots[slot].copyFrom(now);
        saved[slot] = true;
        return now.countThere();
    }

    public int restore(int slot) {
        if (!isSlot(slot)) {
            return BAD_VALUE;
        }
        if (!saved[slot]) {
            return NOT_POSSIBLE;
        }
        noteStateBefore();
        now.copyFrom(slots[slot]);
        return recorded(now.countThere());
    }

    // ---- helpers

    private static boolean isSlot(int slot) {
        return slot >= 0 && slot < SLOTS;
    }

    private static boolean isError(int answer) {
        return answer < 0 && answer != NONE;
    }

    /** Only recorded() lets the noted state count, so that a change which turns out to be an error leaves no trace. */
    private void noteStateBefore() {
        history[undoable].copyFrom(now);
    }

    private int recorded(int answer) {
        if (isError(answer)) {
            return answer;
        }
        if (undoable < MOST_UNDONE) {
            undoable++;
        } else {
            dropOldestState();
        }
        return answer;
    }

    /** The dropped row goes behind the others and is used again. */
    private void dropOldestState() {
        State dropped = history[0];
        for (int i = 0; i < MOST_UNDONE; i++) {
            history[i] = history[i + 1];
        }
        history[MOST_UNDONE] = dropped;
    }

    private int carryOutOrders() {
        int done = 0;
        for (int at = 0; at < pad.size(); at++) {
            if (pad.startsOrder(at)) {
                if (isError(carryOutOrder(at))) {
                    return done;
                }
                done++;
            }
        }
        return done;
    }

    private int carryOutOrder(int at) {
        switch (pad.sign(at)) {
            case 'j':
                return now.beginJob();
            case 'g':
                return now.endJob(1);
            case 'f':
                return now.endJob(0);
            case 'a':
                return now.repeatJob();
            case 'w':
                return now.writeByName(pad.groupOfOrder(at), pad.nameOfOrder(at), pad.dataOfOrder(at));
            case 'r':
                return now.readByName(pad.groupOfOrder(at), pad.nameOfOrder(at));
            case 'd':
                return now.deleteByName(pad.groupOfOrder(at), pad.nameOfOrder(at));
            default:
                return BAD_TEXT;
        }
    }

    /**
     * A group's row of generations. Each generation has a serial, 1 for the first one that the group ever had and
     * one more for each next: other than its number, it never comes again. Only the oldest ones leave the row, so
     * what is there are always the serials newest - size + 1 to newest, and a relative name is a sum of serials.
     */
    private static final class Group {
        int keep = FIRST_KEEP;
        /** The serial of the newest one that there ever was, 0 if there was none. */
        int newest = 0;
        int size = 0;
        int rolledOff = 0;
        int deleted = 0;
        /** The serial that the name 0 tells while a job runs. */
        int newestForJob = 0;
        /** The serial that the name +1 tells while a job runs, 0 if the job made none; without a job it means nothing. */
        int madeByJob = 0;
        /** NONE in a hole. This and the next two are by serial & INDEX_BITS. */
        final int[] data = new int[MOST_KEPT];
        final int[] reads = new int[MOST_KEPT];
        final int[] jobs = new int[MOST_KEPT];

        void copyFrom(Group other) {
            keep = other.keep;
            newest = other.newest;
            size = other.size;
            rolledOff = other.rolledOff;
            deleted = other.deleted;
            newestForJob = other.newestForJob;
            madeByJob = other.madeByJob;
            System.arraycopy(other.data, 0, data, 0, MOST_KEPT);
            System.arraycopy(other.reads, 0, reads, 0, MOST_KEPT);
            System.arraycopy(other.jobs, 0, jobs, 0, MOST_KEPT);
        }

        int numberOf(int serial) {
            return serial < 1 ? 0 : (serial - 1) % LAST_NUMBER + 1;
        }

        int oldest() {
            return newest - size + 1;
        }

        boolean isHole(int serial) {
            return data[serial & INDEX_BITS] == NONE;
        }

        /** Whether it is there, and not as a hole. */
        boolean isThere(int serial) {
            return serial >= oldest() && serial <= newest && !isHole(serial);
        }

        int numberIfThere(int serial) {
            return isThere(serial) ? numberOf(serial) : NONE;
        }

        /** Returns the serial that a name tells, there or not: isThere() says so of each, and never of 0. */
        int serialOf(int name, boolean jobRuns) {
            if (name == NEW_NAME) {
                return jobRuns ? madeByJob : 0;
            }
            return (jobRuns ? newestForJob : newest) + name;
        }

        /** Returns the name, and 10, by which a job knows a generation, NONE if it does not. */
        int nameForJob(int serial) {
            if (serial == madeByJob) {
                return NEW_NAME + 10;
            }
            int name = serial - newestForJob;
            return name >= LEAST_NAME && name <= 0 ? name + 10 : NONE;
        }

        int make(int content, int job) {
            // The room is made first: the new one uses an index again that an older one had.
            leaveMost(keep - 1);
            newest++;
            size++;
            int index = newest & INDEX_BITS;
            data[index] = content;
            reads[index] = 0;
            jobs[index] = job;
            madeByJob = newest;
            return newest;
        }

        /** The oldest ones go: those that are too many roll off, and holes go in any case, without rolling off. */
        void leaveMost(int most) {
            while (size > 0 && (size > most || isHole(oldest()))) {
                if (!isHole(oldest())) {
                    rolledOff++;
                }
                size--;
            }
        }

        void makeHole(int serial) {
            data[serial & INDEX_BITS] = NONE;
            deleted++;
            leaveMost(keep);
        }

        int countHoles() {
            int holes = 0;
            for (int place = 0; place < size; place++) {
                if (isHole(newest - place)) {
                    holes++;
                }
            }
            return holes;
        }

        int sumOfData() {
            int sum = 0;
            for (int place = 0; place < size; place++) {
                if (!isHole(newest - place)) {
                    sum += data[(newest - place) & INDEX_BITS];
                }
            }
            return sum;
        }
    }

    /** Everything that undo, save and restore bring back. */
    private static final class State {
        final Group[] groups = new Group[GROUPS];
        int jobsBegun = 0;
        boolean jobRuns = false;
        /** Of the last one that ended. */
        boolean lastJobFailed = false;
        int jobsFailed = 0;
        int reads = 0;
        int vainReads = 0;

        State() {
            for (int g = 0; g < GROUPS; g++) {
                groups[g] = new Group();
            }
        }

        void copyFrom(State other) {
            for (int g = 0; g < GROUPS; g++) {
                groups[g].copyFrom(other.groups[g]);
            }
            jobsBegun = other.jobsBegun;
            jobRuns = other.jobRuns;
            lastJobFailed = other.lastJobFailed;
            jobsFailed = other.jobsFailed;
            reads = other.reads;
            vainReads = other.vainReads;
        }

        boolean isGroup(int group) {
            return group >= 0 && group < GROUPS;
        }

        boolean isName(int name) {
            return name >= LEAST_NAME && name <= NEW_NAME;
        }

        int changeKeep(int group, int keep) {
            if (!isGroup(group)) {
                return NO_SUCH;
            }
            if (keep < 1 || keep > MOST_KEPT) {
                return BAD_VALUE;
            }
            Group row = groups[group];
            int previous = row.keep;
            row.keep = keep;
            row.leaveMost(keep);
            return previous;
        }

        /** What a job makes of a group is its newest one as long as the job runs: no other can be made then. */
        boolean hasNewestOfJob(Group row) {
            return jobRuns && row.madeByJob != 0;
        }

        int writeByName(int group, int name, int data) {
            if (!isGroup(group)) {
                return NO_SUCH;
            }
            if (!isName(name) || data < 0 || data > MOST_DATA) {
                return BAD_VALUE;
            }
            Group row = groups[group];
            if (name == NEW_NAME && !hasNewestOfJob(row)) {
                return row.numberOf(row.make(data, jobRuns ? jobsBegun : 0));
            }
            int serial = row.serialOf(name, jobRuns);
            if (!row.isThere(serial)) {
                return NOT_POSSIBLE;
            }
            row.data[serial & INDEX_BITS] = data;
            return row.numberOf(serial);
        }

        int readByName(int group, int name) {
            if (!isGroup(group)) {
                return NO_SUCH;
            }
            if (!isName(name)) {
                return BAD_VALUE;
            }
            Group row = groups[group];
            int serial = row.serialOf(name, jobRuns);
            reads++;
            if (!row.isThere(serial)) {
                vainReads++;
                return NONE;
            }
            int index = serial & INDEX_BITS;
            row.reads[index]++;
            return row.data[index];
        }

        int deleteByName(int group, int name) {
            if (!isGroup(group)) {
                return NO_SUCH;
            }
            if (!isName(name)) {
                return BAD_VALUE;
            }
            Group row = groups[group];
            int serial = row.serialOf(name, jobRuns);
            if (!row.isThere(serial)) {
                return NOT_POSSIBLE;
            }
            row.makeHole(serial);
            return row.numberOf(serial);
        }

        int beginJob() {
            if (jobRuns) {
                return NOT_POSSIBLE;
            }
            for (int g = 0; g < GROUPS; g++) {
                groups[g].newestForJob = groups[g].newest;
            }
            return startJob();
        }

        /** The names of the job that failed still stand in newestForJob, which only beginJob() changes. */
        int repeatJob() {
            if (jobRuns || !lastJobFailed) {
                return NOT_POSSIBLE;
            }
            return startJob();
        }

        int startJob() {
            for (int g = 0; g < GROUPS; g++) {
                groups[g].madeByJob = 0;
            }
            jobRuns = true;
            jobsBegun++;
            return jobsBegun;
        }

        int endJob(int well) {
            if (well != 0 && well != 1) {
                return BAD_VALUE;
            }
            if (!jobRuns) {
                return NOT_POSSIBLE;
            }
            lastJobFailed = well == 0;
            if (lastJobFailed) {
                jobsFailed++;
            }
            for (int g = 0; g < GROUPS; g++) {
                if (lastJobFailed && groups[g].isThere(groups[g].madeByJob)) {
                    groups[g].makeHole(groups[g].madeByJob);
                }
            }
            int there = countMadeByJob();
            jobRuns = false;
            return there;
        }

        int countMadeByJob() {
            int made = 0;
            for (int g = 0; g < GROUPS; g++) {
                if (jobRuns && groups[g].isThere(groups[g].madeByJob)) {
                    made++;
                }
            }
            return made;
        }

        int aboutGroup(int group, int what) {
            if (!isGroup(group)) {
                return NO_SUCH;
            }
            Group row = groups[group];
            switch (what) {
                case 0:
                    return row.keep;
                case 1:
                    return row.size;
                case 2:
                    return row.countHoles();
                case 3:
                    return row.numberOf(row.newest);
                case 4:
                    return row.rolledOff;
                case 5:
                    return row.deleted;
                case 6:
                    return row.sumOfData();
                default:
                    return BAD_VALUE;
            }
        }

        int aboutGeneration(int group, int place, int what) {
            if (!isGroup(group) || place < 0 || place >= groups[group].size) {
                return NO_SUCH;
            }
            Group row = groups[group];
            int serial = row.newest - place;
            int index = serial & INDEX_BITS;
            switch (what) {
                case 0:
                    return row.numberOf(serial);
                case 1:
                    return row.data[index];
                case 2:
                    return row.isHole(serial) ? 1 : 0;
                case 3:
                    return row.reads[index];
                case 4:
                    return row.jobs[index];
                case 5:
                    return jobRuns && !row.isHole(serial) ? row.nameForJob(serial) : NONE;
                default:
                    return BAD_VALUE;
            }
        }

        int numberByName(int group, int name) {
            if (!isGroup(group)) {
                return NO_SUCH;
            }
            if (!isName(name)) {
                return BAD_VALUE;
            }
            Group row = groups[group];
            return row.numberIfThere(row.serialOf(name, jobRuns));
        }

        int counted(int what) {
            switch (what) {
                case 0:
                    return jobsBegun;
                case 1:
                    return jobRuns ? 1 : 0;
                case 2:
                    return jobsFailed;
                case 3:
                    return countThere();
                case 4:
                    return countHoles();
                case 5:
                    return reads;
                case 6:
                    return vainReads;
                case 7:
                    return countMadeByJob();
                default:
                    return BAD_VALUE;
            }
        }

        int countHoles() {
            int holes = 0;
            for (int g = 0; g < GROUPS; g++) {
                holes += groups[g].countHoles();
            }
            return holes;
        }

        int countThere() {
            int there = 0;
            for (int g = 0; g < GROUPS; g++) {
                there += groups[g].size - groups[g].countHoles();
            }
            return there;
        }

        int groupsThatAre(int what) {
            if (what < 0 || what > 2) {
                return BAD_VALUE;
            }
            int set = 0;
            for (int g = 0; g < GROUPS; g++) {
                if (isSo(groups[g], what)) {
                    set |= 1 << g;
                }
            }
            return set;
        }

        boolean isSo(Group row, int what) {
            switch (what) {
                case 0:
                    return row.countHoles() > 0;
                case 1:
                    return hasNewestOfJob(row) && row.size > 0;
                default:
                    return !row.isThere(row.serialOf(0, jobRuns));
            }
        }

        /** The oldest one is never a hole, so what rolls off is a generation with data. */
        int numberThatRolls(int group) {
            if (!isGroup(group)) {
                return NO_SUCH;
            }
            Group row = groups[group];
            return row.size >= row.keep ? row.numberIfThere(row.oldest()) : NONE;
        }

        int newestIfFailed(int group) {
            if (!isGroup(group)) {
                return NO_SUCH;
            }
            Group row = groups[group];
            return hasNewestOfJob(row) ? NONE : row.numberIfThere(row.newest);
        }

        int leastKeepOf(int group) {
            if (!isGroup(group)) {
                return NO_SUCH;
            }
            return Math.max(1, groups[group].size);
        }
    }

    /** The text of orders. */
    private static final class Pad {
        /** What may stand at a place of the text; the W kinds are those of an order that writes, which goes on behind its name. */
        static final int WRONG = 0, ORDER = 1, GROUP = 2, W_GROUP = 3, NAME = 4, W_NAME = 5, PLACE = 6, W_PLACE = 7;
        static final int EQUALS = 8, NUMBER = 9, DIGIT_2 = 10, DIGIT_3 = 11, DIGIT_4 = 12, ORDER_ENDS = 13;

        final char[] signs = new char[PAD_LENGTH];
        int length = 0;

        int size() {
            return length;
        }

        int sign(int at) {
            return at >= 0 && at < length ? signs[at] : 0;
        }

        int empty() {
            int before = length;
            length = 0;
            return before;
        }

        int append(long characters) {
            int more = countCharacters(characters);
            if (more < 1) {
                return BAD_VALUE;
            }
            if (length + more > PAD_LENGTH) {
                return TOO_MANY;
            }
            for (int shift = 8 * (more - 1); shift >= 0; shift -= 8) {
                signs[length] = (char) (characters >>> shift & 255);
                length++;
            }
            return length;
        }

        /** Returns 0 if they are not as a put wants them. */
        int countCharacters(long characters) {
            long rest = characters;
            int found = 0;
            while (found < 8 && (rest & 255) != 0) {
                long code = rest & 255;
                if (code < 33 || code > 126) {
                    return 0;
                }
                rest >>>= 8;
                found++;
            }
            return rest == 0 ? found : 0;
        }

        int findFault() {
            int place = ORDER;
            for (int at = 0; at < length; at++) {
                place = placeBehind(place, signs[at]);
                if (place == WRONG) {
                    return at;
                }
            }
            return place >= DIGIT_2 ? NONE : length;
        }

        /** Returns what may stand behind a character at such a place, WRONG if the character can't stand there. */
        int placeBehind(int place, int sign) {
            switch (place) {
                case ORDER:
                    return placeBehindLetter(sign);
                case GROUP:
                    return sign >= '0' && sign <= '5' ? NAME : WRONG;
                case W_GROUP:
                    return sign >= '0' && sign <= '5' ? W_NAME : WRONG;
                case NAME:
                    return placeBehindName(sign, PLACE, ORDER_ENDS);
                case W_NAME:
                    return placeBehindName(sign, W_PLACE, EQUALS);
                case PLACE:
                    return sign >= '1' && sign <= '7' ? ORDER_ENDS : WRONG;
                case W_PLACE:
                    return sign >= '1' && sign <= '7' ? EQUALS : WRONG;
                case EQUALS:
                    return sign == '=' ? NUMBER : WRONG;
                case NUMBER:
                    return sign == '0' ? ORDER_ENDS : isDigit(sign) ? DIGIT_2 : WRONG;
                case DIGIT_2:
                    return isDigit(sign) ? DIGIT_3 : placeBehindOrder(sign);
                case DIGIT_3:
                    return isDigit(sign) ? DIGIT_4 : placeBehindOrder(sign);
                case DIGIT_4:
                    return isDigit(sign) ? ORDER_ENDS : placeBehindOrder(sign);
                default:
                    return placeBehindOrder(sign);
            }
        }

        int placeBehindLetter(int sign) {
            switch (sign) {
                case 'j':
                case 'g':
                case 'f':
                case 'a':
                    return ORDER_ENDS;
                case 'w':
                    return W_GROUP;
                case 'r':
                case 'd':
                    return GROUP;
                default:
                    return WRONG;
            }
        }

        int placeBehindName(int sign, int behindMinus, int behindName) {
            if (sign == '-') {
                return behindMinus;
            }
            return sign == '0' || sign == '+' ? behindName : WRONG;
        }

        int placeBehindOrder(int sign) {
            return sign == ';' ? ORDER : WRONG;
        }

        boolean isDigit(int sign) {
            return sign >= '0' && sign <= '9';
        }

        // ---- the parts of an order that begins at a place, in a text without a fault

        boolean startsOrder(int at) {
            return at == 0 || sign(at - 1) == ';';
        }

        int groupOfOrder(int at) {
            return sign(at + 1) - '0';
        }

        int nameOfOrder(int at) {
            switch (sign(at + 2)) {
                case '+':
                    return NEW_NAME;
                case '-':
                    return '0' - sign(at + 3);
                default:
                    return 0;
            }
        }

        int dataOfOrder(int at) {
            int start = at + (sign(at + 2) == '-' ? 5 : 4);
            int number = 0;
            for (int i = start; i < length && isDigit(sign(i)); i++) {
                number = 10 * number + sign(i) - '0';
            }
            return number;
        }
    }
}
