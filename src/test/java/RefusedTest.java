import java.util.ArrayList;
import java.util.List;
import java.util.function.Consumer;
import java.util.function.ToIntFunction;

/**
 * "A call that returns an error changes nothing": each call with each of many arguments in each of many states. If it
 * is refused there, an object that was asked so and its twin that was not tell the same, now, behind each undo, and
 * behind a restore; and the answer is an error that the document names for that call.
 */
public final class RefusedTest {
    private static final int[] GROUPS = {-1, 0, 1, 2, 5, 6, Integer.MIN_VALUE, Integer.MAX_VALUE};
    private static final int[] NAMES = {-8, -7, -2, -1, 0, 1, 2, Integer.MIN_VALUE, Integer.MAX_VALUE};
    private static final int[] VALUES = {-1, 0, 1, 2, 9, 10000, Integer.MIN_VALUE, Integer.MAX_VALUE};
    private static final long[] CHARACTERS = {0, 'j', ' ', 127, 'j' << 8, -1, Long.MIN_VALUE, Due.packed("j;j;j;j;"), Due.packed("j;j j;j;")};

    /** A call, with the errors that the document names for it. */
    private record Call(String told, String errors, ToIntFunction<GenerationNames> made) {
    }

    private static final List<Call> CALLS = new ArrayList<>();
    private static final List<Consumer<GenerationNames>> STATES = List.of(
        x -> { },
        x -> Look.make(x, 0, 1),
        x -> { Look.make(x, 0, 3); x.delete(0, -1); x.delete(0, 0); x.put(Due.packed("j;x")); },
        x -> { Look.make(x, 0, 9); x.begin(); },
        x -> { Look.make(x, 0, 3); x.begin(); x.write(0, 1, 40); x.write(1, 1, 10); x.delete(1, 1); },
        x -> { Look.make(x, 0, 3); x.begin(); x.write(0, 1, 40); x.delete(0, 1); x.end(0); x.save(1); },
        x -> { Look.make(x, 0, 2); x.begin(); x.end(0); x.again(); x.write(0, 1, 5); x.save(0); Due.type(x, "j".repeat(80)); },
        x -> { x.keep(0, 8); Look.make(x, 0, 8); x.begin(); x.end(1); Due.type(x, "j;".repeat(38) + "j"); },
        x -> { x.keep(5, 1); x.write(5, 1, 1); x.save(0); x.read(5, 0); x.read(5, 1); x.undo(); Due.type(x, "j;w0+"); },
        x -> { Look.make(x, 0, 50); x.begin(); x.write(0, 1, 1); x.end(0); x.write(0, 1, 2); x.again(); x.put('w'); });

    private RefusedTest() {
    }

    public static void main(String[] args) {
        nameCalls();
        Due due = new Due("a call that returns an error");
        boolean[] wasRefused = new boolean[CALLS.size()];
        for (int state = 0; state < STATES.size(); state++) {
            String[] untouched = looks(state, null);
            for (int i = 0; i < CALLS.size(); i++) {
                Call call = CALLS.get(i);
                GenerationNames x = at(state);
                int answer = call.made.applyAsInt(x);
                if (answer <= -1 && answer >= -5) {
                    wasRefused[i] = true;
                    due.holds(call.told + " answers " + answer + " in the state " + state, call.errors.contains("" + answer));
                    String[] told = looks(state, call);
                    for (int look = 0; look < told.length; look++) {
                        due.is("look " + look + " behind " + call.told + " in the state " + state, told[look], untouched[look]);
                    }
                } else {
                    due.holds(call.told + " answers " + answer, answer >= 0 || answer == GenerationNames.NONE);
                }
            }
        }
        int refused = 0;
        for (boolean was : wasRefused) {
            refused += was ? 1 : 0;
        }
        System.out.println("refused calls: " + refused + " of " + CALLS.size() + " in " + STATES.size() + " states, " + due.asked()
            + " looks, " + due.wrong() + " wrong");
        if (due.wrong() != 0 || refused == 0) {
            System.exit(1);
        }
    }

    private static void add(String told, String errors, ToIntFunction<GenerationNames> made) {
        CALLS.add(new Call(told, errors, made));
    }

    private static void nameCalls() {
        for (int g : GROUPS) {
            for (int value : VALUES) {
                add("keep(" + g + ", " + value + ")", "-1 -2", x -> x.keep(g, value));
                add("ofGroup(" + g + ", " + value + ")", "-1 -2", x -> x.ofGroup(g, value));
                add("generation(" + g + ", " + value + ", 0)", "-1", x -> x.generation(g, value, 0));
                add("generation(" + g + ", 0, " + value + ")", "-1 -2", x -> x.generation(g, 0, value));
            }
            for (int name : NAMES) {
                for (int value : VALUES) {
                    add("write(" + g + ", " + name + ", " + value + ")", "-1 -2 -5", x -> x.write(g, name, value));
                }
                add("read(" + g + ", " + name + ")", "-1 -2", x -> x.read(g, name));
                add("delete(" + g + ", " + name + ")", "-1 -2 -5", x -> x.delete(g, name));
                add("named(" + g + ", " + name + ")", "-1 -2", x -> x.named(g, name));
            }
            add("rolls(" + g + ")", "-1", x -> x.rolls(g));
            add("ifFailed(" + g + ")", "-1", x -> x.ifFailed(g));
            add("leastKeep(" + g + ")", "-1", x -> x.leastKeep(g));
        }
        for (int value : VALUES) {
            add("end(" + value + ")", "-2 -5", x -> x.end(value));
            add("count(" + value + ")", "-2", x -> x.count(value));
            add("groups(" + value + ")", "-2", x -> x.groups(value));
            add("save(" + value + ")", "-2", x -> x.save(value));
            add("restore(" + value + ")", "-2 -5", x -> x.restore(value));
        }
        for (long characters : CHARACTERS) {
            add("put(" + characters + ")", "-2 -4", x -> x.put(characters));
        }
        add("begin()", "-5", GenerationNames::begin);
        add("again()", "-5", GenerationNames::again);
        add("undo()", "-5", GenerationNames::undo);
        add("carryOut()", "-3", GenerationNames::carryOut);
        add("wipe()", "", GenerationNames::wipe);
        add("fault()", "", GenerationNames::fault);
    }

    private static GenerationNames at(int state) {
        GenerationNames x = new GenerationNames();
        STATES.get(state).accept(x);
        return x;
    }

    /** An object of its own for each look: one takes most of the calls that an object is used for. */
    private static String[] looks(int state, Call call) {
        String[] told = new String[10];
        for (int look = 0; look < told.length; look++) {
            GenerationNames x = at(state);
            if (call != null) {
                call.made.applyAsInt(x);
            }
            String answers = "";
            for (int i = 1; i <= look && look <= 7; i++) {
                answers += x.undo() + " ";
            }
            if (look > 7) {
                answers += x.restore(look - 8) + " ";
            }
            told[look] = answers + Look.all(x);
        }
        return told;
    }
}
