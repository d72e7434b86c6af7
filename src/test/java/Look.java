/** What the calls that change nothing tell of an object, and how objects are brought to where a test begins. */
final class Look {
    /** So many calls does all() make: a run that asks it has fewer than a hundred of its 512 calls for itself. */
    static final int CALLS = 416;

    private Look() {
    }

    /** Every answer that can be had without a change, in one text. */
    static String all(GenerationNames x) {
        StringBuilder told = new StringBuilder();
        for (int g = 0; g < 6; g++) {
            told.append("\ngroup ").append(g).append(" is");
            for (int what = 0; what <= 6; what++) {
                told.append(' ').append(x.ofGroup(g, what));
            }
            told.append(", named");
            for (int name = -7; name <= 1; name++) {
                told.append(' ').append(x.named(g, name));
            }
            told.append(", if ").append(x.rolls(g)).append(' ').append(x.ifFailed(g)).append(' ').append(x.leastKeep(g));
            for (int place = 0; place < 8; place++) {
                told.append(", at ").append(place);
                for (int what = 0; what <= 5; what++) {
                    told.append(' ').append(x.generation(g, place, what));
                }
            }
        }
        told.append("\ncounts");
        for (int what = 0; what <= 9; what++) {
            told.append(' ').append(x.count(what));
        }
        told.append(", groups ").append(x.groups(0)).append(' ').append(x.groups(1)).append(' ').append(x.groups(2));
        return told.append(", fault ").append(x.fault()).toString();
    }

    /** A new object in which so many generations were made in a group, the first with the data 10, the next with 20. */
    static GenerationNames made(int group, int keep, int many) {
        GenerationNames x = new GenerationNames();
        x.keep(group, keep);
        make(x, group, many);
        return x;
    }

    static void make(GenerationNames x, int group, int many) {
        for (int i = 1; i <= many; i++) {
            x.write(group, 1, 10 * i);
        }
    }

    /** The numbers of a group, the newest one first, a hole's in brackets. */
    static String row(GenerationNames x, int group) {
        StringBuilder told = new StringBuilder();
        for (int place = 0; place < x.ofGroup(group, 1); place++) {
            int number = x.generation(group, place, 0);
            told.append(place == 0 ? "" : " ").append(x.generation(group, place, 2) == 1 ? "(" + number + ")" : number);
        }
        return told.toString();
    }

    /** The numbers that the names 1, 0, -1 to -7 tell, - for none, as far as any tells one. */
    static String names(GenerationNames x, int group) {
        StringBuilder told = new StringBuilder();
        for (int name = 1; name >= -7; name--) {
            int number = x.named(group, name);
            told.append(name == 1 ? "" : " ").append(number == GenerationNames.NONE ? "-" : number);
        }
        return told.toString().replaceAll("( -)+$", "");
    }
}
