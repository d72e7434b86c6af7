import java.util.Random;

/** Compares GenerationNames with Reference, call by call, in runs of 512 calls that are the same each time. */
public final class ReferenceTest {
    private static final int RUNS = 2500;
    private static final int CALLS = 512;
    private static final String[] CALL_NAMES = {"keep", "write", "read", "delete", "begin", "end", "again", "ofGroup", "generation",
        "named", "count", "groups", "rolls", "ifFailed", "leastKeep", "put", "wipe", "fault", "carryOut", "undo", "save", "restore"};

    private final Random random;
    private final GenerationNames x = new GenerationNames();
    private final Reference y = new Reference();
    private final StringBuilder told = new StringBuilder();
    private final int groupsUsed;
    private final int[] weights = new int[CALL_NAMES.length];
    private int weightOfAll = 0;
    /** The rest of a text that is being put on the pad, a few characters a call. */
    private String untyped = "";
    private String call = "";

    private ReferenceTest(long seed) {
        random = new Random(seed);
        groupsUsed = 1 + random.nextInt(random.nextInt(4) == 0 ? 6 : 2);
        for (int i = 0; i < weights.length; i++) {
            weights[i] = 1 + random.nextInt(6);
        }
        weights[1] *= 1 + random.nextInt(8);
        weights[18] *= 1 + random.nextInt(3);
        // An undo or a restore takes away what a run has reached, so that many of them keep it near its begin.
        weights[19] = random.nextInt(3);
        weights[21] = random.nextInt(2);
        if (seed % 5 == 0) {
            weights[1] += 200;
            weights[4] = 1;
            weights[19] = 0;
            weights[21] = 0;
        }
        for (int weight : weights) {
            weightOfAll += weight;
        }
    }

    public static void main(String[] args) {
        int wrong = 0;
        long calls = 0;
        int wentRound = 0;
        for (int run = 0; run < RUNS && wrong < 5; run++) {
            ReferenceTest test = new ReferenceTest(run);
            if (!test.agrees()) {
                wrong++;
                System.out.println("run " + run + ":" + test.told);
            }
            calls += CALLS;
            wentRound += test.hasGoneRound() ? 1 : 0;
        }
        System.out.println("compared with the reference: " + calls + " calls, " + wrong + " runs differ; in " + wentRound
            + " the numbers had gone round");
        if (wrong != 0 || wentRound == 0) {
            System.exit(1);
        }
    }

    private boolean hasGoneRound() {
        boolean round = false;
        for (int g = 0; g < 6; g++) {
            round |= x.ofGroup(g, 4) + x.ofGroup(g, 5) + x.ofGroup(g, 1) - x.ofGroup(g, 2) > 99;
        }
        return round;
    }

    private boolean agrees() {
        for (int i = 0; i < CALLS; i++) {
            int which = drawCall();
            long seed = random.nextLong();
            String text = untyped;
            int got = answer(which, new Random(seed), true);
            untyped = text;
            int want = answer(which, new Random(seed), false);
            told.append("\n  ").append(call).append(" = ").append(got);
            if (got != want) {
                told.append(", due is ").append(want);
                return false;
            }
        }
        return true;
    }

    private int drawCall() {
        int at = random.nextInt(weightOfAll);
        for (int i = 0; i < weights.length; i++) {
            at -= weights[i];
            if (at < 0) {
                return i;
            }
        }
        return 0;
    }

    private static int odd(Random r, int usual) {
        int[] odd = {-1, 6, 7, 9, -8, 2, 10, Integer.MIN_VALUE, Integer.MAX_VALUE};
        return r.nextInt(40) == 0 ? odd[r.nextInt(odd.length)] : usual;
    }

    private static int name(Random r) {
        int usual = r.nextInt(3) == 0 ? 1 : -r.nextInt(r.nextInt(3) == 0 ? 8 : 3);
        return odd(r, usual);
    }

    private static int data(Random r) {
        int[] edges = {0, 9999, 10000, -1, -6};
        return r.nextInt(12) == 0 ? edges[r.nextInt(edges.length)] : r.nextInt(10000);
    }

    private int answer(int which, Random r, boolean real) {
        int group = odd(r, r.nextInt(groupsUsed));
        int name = name(r);
        int data = data(r);
        int keep = odd(r, 1 + r.nextInt(8));
        int what = odd(r, r.nextInt(10));
        int slot = odd(r, r.nextInt(2));
        call = CALL_NAMES[which] + "(" + group + ", " + name + ", " + data + ", " + keep + ", " + what + ", " + slot + ")";
        switch (which) {
            case 0: return real ? x.keep(group, keep) : y.keep(group, keep);
            case 1: return real ? x.write(group, name, data) : y.write(group, name, data);
            case 2: return real ? x.read(group, name) : y.read(group, name);
            case 3: return real ? x.delete(group, name) : y.delete(group, name);
            case 4: return real ? x.begin() : y.begin();
            case 5: return end(odd(r, r.nextInt(2)), real);
            case 6: return real ? x.again() : y.again();
            case 7: return real ? x.ofGroup(group, what) : y.ofGroup(group, what);
            case 8: return real ? x.generation(group, keep - 1, what % 6) : y.generation(group, keep - 1, what % 6);
            case 9: return real ? x.named(group, name) : y.named(group, name);
            case 10: return real ? x.count(what) : y.count(what);
            case 11: return real ? x.groups(what % 4) : y.groups(what % 4);
            case 12: return real ? x.rolls(group) : y.rolls(group);
            case 13: return real ? x.ifFailed(group) : y.ifFailed(group);
            case 14: return real ? x.leastKeep(group) : y.leastKeep(group);
            case 15: return put(r, real);
            case 16: return r.nextInt(4) > 0 ? put(r, real) : real ? x.wipe() : y.wipe();
            case 17: return real ? x.fault() : y.fault();
            case 18: return carryOut(r, real);
            case 19: return real ? x.undo() : y.undo();
            case 20: return real ? x.save(slot) : y.save(slot);
            default: return real ? x.restore(slot) : y.restore(slot);
        }
    }

    private int end(int well, boolean real) {
        return real ? x.end(well) : y.end(well);
    }

    private int put(Random r, boolean real) {
        if (r.nextInt(20) == 0) {
            long odd = r.nextInt(2) == 0 ? r.nextLong() : r.nextInt(256);
            call = "put(" + odd + ")";
            return real ? x.put(odd) : y.put(odd);
        }
        if (untyped.isEmpty()) {
            untyped = text(r);
        }
        int many = Math.min(untyped.length(), 1 + r.nextInt(8));
        long characters = Due.packed(untyped.substring(0, many));
        call = "put(" + untyped.substring(0, many) + ")";
        untyped = untyped.substring(many);
        return real ? x.put(characters) : y.put(characters);
    }

    /** Mostly with a whole text put just before, else few pads would ever be without a fault. */
    private int carryOut(Random r, boolean real) {
        if (r.nextInt(4) > 0) {
            String text = text(r);
            call = "wipe, put, carryOut: " + text;
            untyped = "";
            if (real) {
                x.wipe();
            } else {
                y.wipe();
            }
            for (int i = 0; i < text.length(); i += 8) {
                long characters = Due.packed(text.substring(i, Math.min(text.length(), i + 8)));
                if (real) {
                    x.put(characters);
                } else {
                    y.put(characters);
                }
            }
            int fault = real ? x.fault() : y.fault();
            if (fault >= 0) {
                return fault;
            }
        }
        return real ? x.carryOut() : y.carryOut();
    }

    private String text(Random r) {
        StringBuilder text = new StringBuilder();
        int orders = 1 + r.nextInt(12);
        for (int i = 0; i < orders; i++) {
            text.append(i == 0 ? "" : ";").append(order(r));
        }
        if (r.nextInt(3) == 0) {
            String signs = "jgfawrd0123456789-+=;;x~!";
            int at = r.nextInt(text.length());
            text.setCharAt(at, signs.charAt(r.nextInt(signs.length())));
        }
        return text.toString();
    }

    private String order(Random r) {
        int group = r.nextInt(groupsUsed);
        int place = r.nextInt(8);
        String name = r.nextInt(3) == 0 ? "+" : place == 0 ? "0" : "-" + place;
        int number = r.nextInt(r.nextInt(2) == 0 ? 10000 : 12000);
        switch (r.nextInt(10)) {
            case 0: return "j";
            case 1: return "g";
            case 2: return "f";
            case 3: return "a";
            case 4: return "r" + group + name;
            case 5: return "d" + group + name;
            case 6: return "w" + group + name + "=" + number;
            default: return "w" + group + "+=" + number;
        }
    }
}
