import java.util.ArrayList;
import java.util.IdentityHashMap;
import java.util.List;
import java.util.Map;
import java.util.regex.Matcher;
import java.util.regex.Pattern;

/**
 * The document, word by word and without regard to speed, to compare GenerationNames with. It is built
 * otherwise on purpose: generations are objects, a job keeps the ones that its names tell, texts are read by
 * a regular expression.
 */
final class Reference {
    private static final int NO_SUCH = -1, BAD_VALUE = -2, BAD_TEXT = -3, TOO_MANY = -4, NOT_POSSIBLE = -5, NONE = -6;
    private static final String NAME = "(0|-[1-7]|\\+)";
    private static final String ORDER = "([jgfa]|w[0-5]" + NAME + "=(0|[1-9][0-9]{0,3})|[rd][0-5]" + NAME + ")";
    private static final Pattern TEXT = Pattern.compile(ORDER + "(;" + ORDER + ")*");

    /** One generation; its data are null when it is a hole. */
    private static final class Generation {
        int number;
        Integer data;
        int reads;
        int job;
    }

    private static final class Row {
        int keep = 3;
        int lastNumber = 0;
        int rolledOff = 0;
        int deleted = 0;
        /** The newest one first. */
        List<Generation> generations = new ArrayList<>();
        List<Generation> ofJob = new ArrayList<>();
        Generation made = null;
    }

    private static final class World {
        Row[] rows = new Row[6];
        int begun = 0;
        int failed = 0;
        int reads = 0;
        int vain = 0;
        boolean runs = false;
        boolean canRunAgain = false;
    }

    private World world = new World();
    private final List<World> history = new ArrayList<>();
    private final World[] slots = new World[2];
    private String pad = "";

    Reference() {
        for (int g = 0; g < 6; g++) {
            world.rows[g] = new Row();
        }
    }

    private static Generation copy(Generation old, Map<Generation, Generation> copies) {
        if (old == null) {
            return null;
        }
        Generation known = copies.get(old);
        if (known == null) {
            known = new Generation();
            known.number = old.number;
            known.data = old.data;
            known.reads = old.reads;
            known.job = old.job;
            copies.put(old, known);
        }
        return known;
    }

    private static World copy(World old) {
        World world = new World();
        Map<Generation, Generation> copies = new IdentityHashMap<>();
        for (int g = 0; g < 6; g++) {
            Row row = new Row();
            row.keep = old.rows[g].keep;
            row.lastNumber = old.rows[g].lastNumber;
            row.rolledOff = old.rows[g].rolledOff;
            row.deleted = old.rows[g].deleted;
            for (Generation each : old.rows[g].generations) {
                row.generations.add(copy(each, copies));
            }
            for (Generation each : old.rows[g].ofJob) {
                row.ofJob.add(copy(each, copies));
            }
            row.made = copy(old.rows[g].made, copies);
            world.rows[g] = row;
        }
        world.begun = old.begun;
        world.failed = old.failed;
        world.reads = old.reads;
        world.vain = old.vain;
        world.runs = old.runs;
        world.canRunAgain = old.canRunAgain;
        return world;
    }

    private static boolean noGroup(int group) {
        return group < 0 || group > 5;
    }

    private static boolean noName(int name) {
        return name < -7 || name > 1;
    }

    /** Returns null if the name tells nothing. */
    private Generation told(int group, int name) {
        Row row = world.rows[group];
        Generation one = null;
        if (name == 1) {
            one = world.runs ? row.made : null;
        } else {
            List<Generation> named = world.runs ? row.ofJob : row.generations;
            one = -name < named.size() ? named.get(-name) : null;
        }
        return one != null && one.data != null && row.generations.contains(one) ? one : null;
    }

    private static void tidy(Row row) {
        while (row.generations.size() > row.keep) {
            Generation off = row.generations.remove(row.generations.size() - 1);
            if (off.data != null) {
                row.rolledOff++;
            }
        }
        while (!row.generations.isEmpty() && row.generations.get(row.generations.size() - 1).data == null) {
            row.generations.remove(row.generations.size() - 1);
        }
    }

    private static void remove(Row row, Generation one) {
        one.data = null;
        row.deleted++;
        tidy(row);
    }

    private interface Change {
        int make();
    }

    private int change(Change change) {
        World before = copy(world);
        int answer = change.make();
        if (answer >= 0 || answer == NONE) {
            history.add(before);
            if (history.size() > 6) {
                history.remove(0);
            }
        }
        return answer;
    }

    int keep(int group, int keep) {
        if (noGroup(group)) {
            return NO_SUCH;
        }
        if (keep < 1 || keep > 8) {
            return BAD_VALUE;
        }
        return change(() -> {
            int old = world.rows[group].keep;
            world.rows[group].keep = keep;
            tidy(world.rows[group]);
            return old;
        });
    }

    int write(int group, int name, int data) {
        return change(() -> doWrite(group, name, data));
    }

    private int doWrite(int group, int name, int data) {
        if (noGroup(group)) {
            return NO_SUCH;
        }
        if (noName(name) || data < 0 || data > 9999) {
            return BAD_VALUE;
        }
        Row row = world.rows[group];
        if (name == 1 && (!world.runs || row.made == null)) {
            Generation made = new Generation();
            made.number = row.lastNumber == 99 ? 1 : row.lastNumber + 1;
            made.data = data;
            made.job = world.runs ? world.begun : 0;
            row.lastNumber = made.number;
            row.generations.add(0, made);
            row.made = world.runs ? made : null;
            tidy(row);
            return made.number;
        }
        Generation one = told(group, name);
        if (one == null) {
            return NOT_POSSIBLE;
        }
        one.data = data;
        return one.number;
    }

    int read(int group, int name) {
        return change(() -> doRead(group, name));
    }

    private int doRead(int group, int name) {
        if (noGroup(group)) {
            return NO_SUCH;
        }
        if (noName(name)) {
            return BAD_VALUE;
        }
        world.reads++;
        Generation one = told(group, name);
        if (one == null) {
            world.vain++;
            return NONE;
        }
        one.reads++;
        return one.data;
    }

    int delete(int group, int name) {
        return change(() -> doDelete(group, name));
    }

    private int doDelete(int group, int name) {
        if (noGroup(group)) {
            return NO_SUCH;
        }
        if (noName(name)) {
            return BAD_VALUE;
        }
        Generation one = told(group, name);
        if (one == null) {
            return NOT_POSSIBLE;
        }
        remove(world.rows[group], one);
        return one.number;
    }

    int begin() {
        return change(this::doBegin);
    }

    private int doBegin() {
        if (world.runs) {
            return NOT_POSSIBLE;
        }
        for (Row row : world.rows) {
            row.ofJob = new ArrayList<>(row.generations);
        }
        return start();
    }

    private int start() {
        for (Row row : world.rows) {
            row.made = null;
        }
        world.runs = true;
        world.canRunAgain = false;
        return ++world.begun;
    }

    int again() {
        return change(this::doAgain);
    }

    private int doAgain() {
        return world.runs || !world.canRunAgain ? NOT_POSSIBLE : start();
    }

    int end(int well) {
        return change(() -> doEnd(well));
    }

    private int doEnd(int well) {
        if (well < 0 || well > 1) {
            return BAD_VALUE;
        }
        if (!world.runs) {
            return NOT_POSSIBLE;
        }
        for (Row row : world.rows) {
            if (well == 0 && row.made != null && row.made.data != null) {
                remove(row, row.made);
            }
        }
        int there = count(7);
        world.runs = false;
        world.canRunAgain = well == 0;
        world.failed += well == 0 ? 1 : 0;
        return there;
    }

    private static int holes(Row row) {
        int holes = 0;
        for (Generation one : row.generations) {
            holes += one.data == null ? 1 : 0;
        }
        return holes;
    }

    int ofGroup(int group, int what) {
        if (noGroup(group)) {
            return NO_SUCH;
        }
        if (what < 0 || what > 6) {
            return BAD_VALUE;
        }
        Row row = world.rows[group];
        int sum = 0;
        for (Generation one : row.generations) {
            sum += one.data == null ? 0 : one.data;
        }
        return new int[] {row.keep, row.generations.size(), holes(row), row.lastNumber, row.rolledOff, row.deleted, sum}[what];
    }

    int generation(int group, int place, int what) {
        if (noGroup(group) || place < 0 || place >= world.rows[group].generations.size()) {
            return NO_SUCH;
        }
        Generation one = world.rows[group].generations.get(place);
        switch (what) {
            case 0: return one.number;
            case 1: return one.data == null ? NONE : one.data;
            case 2: return one.data == null ? 1 : 0;
            case 3: return one.reads;
            case 4: return one.job;
            case 5: return nameOf(group, one);
            default: return BAD_VALUE;
        }
    }

    private int nameOf(int group, Generation one) {
        for (int name = -7; name <= 1; name++) {
            if (world.runs && told(group, name) == one) {
                return name + 10;
            }
        }
        return NONE;
    }

    int named(int group, int name) {
        if (noGroup(group)) {
            return NO_SUCH;
        }
        if (noName(name)) {
            return BAD_VALUE;
        }
        Generation one = told(group, name);
        return one == null ? NONE : one.number;
    }

    int count(int what) {
        int there = 0;
        int holes = 0;
        int made = 0;
        for (Row row : world.rows) {
            for (Generation one : row.generations) {
                there += one.data != null ? 1 : 0;
                holes += one.data == null ? 1 : 0;
                made += one.data != null && world.runs && one.job == world.begun ? 1 : 0;
            }
        }
        if (what < 0 || what > 9) {
            return BAD_VALUE;
        }
        return new int[] {world.begun, world.runs ? 1 : 0, world.failed, there, holes, world.reads, world.vain, made,
            pad.length(), history.size()}[what];
    }

    int groups(int what) {
        if (what < 0 || what > 2) {
            return BAD_VALUE;
        }
        int set = 0;
        for (int g = 0; g < 6; g++) {
            Row row = world.rows[g];
            boolean newestOfJob = world.runs && !row.generations.isEmpty() && row.generations.get(0).job == world.begun;
            boolean so = what == 0 ? holes(row) > 0 : what == 1 ? newestOfJob : told(g, 0) == null;
            set += so ? 1 << g : 0;
        }
        return set;
    }

    /** Tries it out and takes it back. */
    private int tried(Change change) {
        World before = world;
        world = copy(before);
        int answer = change.make();
        world = before;
        return answer;
    }

    int rolls(int group) {
        if (noGroup(group)) {
            return NO_SUCH;
        }
        return tried(() -> {
            Row row = world.rows[group];
            int before = row.rolledOff;
            int oldest = row.generations.isEmpty() ? NONE : row.generations.get(row.generations.size() - 1).number;
            world.runs = false;
            doWrite(group, 1, 0);
            return row.rolledOff > before ? oldest : NONE;
        });
    }

    int ifFailed(int group) {
        if (noGroup(group)) {
            return NO_SUCH;
        }
        return tried(() -> {
            doEnd(0);
            return named(group, 0);
        });
    }

    int leastKeep(int group) {
        if (noGroup(group)) {
            return NO_SUCH;
        }
        for (int keep = 1; keep < 8; keep++) {
            int setting = keep;
            int rolled = tried(() -> {
                Row row = world.rows[group];
                int before = row.rolledOff;
                row.keep = setting;
                tidy(row);
                return row.rolledOff - before;
            });
            if (rolled == 0) {
                return keep;
            }
        }
        return 8;
    }

    int put(long characters) {
        StringBuilder text = new StringBuilder();
        long rest = characters;
        for (; (rest & 255) != 0; rest >>>= 8) {
            text.insert(0, (char) (rest & 255));
        }
        if (rest != 0 || text.length() == 0 || !text.chars().allMatch(sign -> sign >= 33 && sign <= 126)) {
            return BAD_VALUE;
        }
        if (pad.length() + text.length() > 80) {
            return TOO_MANY;
        }
        pad += text;
        return pad.length();
    }

    int wipe() {
        int length = pad.length();
        pad = "";
        return length;
    }

    int fault() {
        for (int length = 1; length <= pad.length(); length++) {
            Matcher matcher = TEXT.matcher(pad.substring(0, length));
            if (!matcher.matches() && !matcher.hitEnd()) {
                return length - 1;
            }
        }
        return TEXT.matcher(pad).matches() ? NONE : pad.length();
    }

    int carryOut() {
        if (fault() != NONE) {
            return BAD_TEXT;
        }
        return change(() -> {
            int done = 0;
            for (String order : pad.split(";")) {
                int answer = carryOut(order);
                if (answer < 0 && answer != NONE) {
                    break;
                }
                done++;
            }
            pad = "";
            return done;
        });
    }

    private int carryOut(String order) {
        switch (order.charAt(0)) {
            case 'j': return doBegin();
            case 'g': return doEnd(1);
            case 'f': return doEnd(0);
            case 'a': return doAgain();
            default: break;
        }
        String[] parts = order.substring(2).split("=");
        int group = order.charAt(1) - '0';
        int name = parts[0].equals("+") ? 1 : Integer.parseInt(parts[0]);
        switch (order.charAt(0)) {
            case 'w': return doWrite(group, name, Integer.parseInt(parts[1]));
            case 'r': return doRead(group, name);
            default: return doDelete(group, name);
        }
    }

    int undo() {
        if (history.isEmpty()) {
            return NOT_POSSIBLE;
        }
        world = history.remove(history.size() - 1);
        return history.size();
    }

    int save(int slot) {
        if (slot < 0 || slot > 1) {
            return BAD_VALUE;
        }
        slots[slot] = copy(world);
        return count(3);
    }

    int restore(int slot) {
        if (slot < 0 || slot > 1) {
            return BAD_VALUE;
        }
        if (slots[slot] == null) {
            return NOT_POSSIBLE;
        }
        return change(() -> {
            world = copy(slots[slot]);
            return count(3);
        });
    }
}
