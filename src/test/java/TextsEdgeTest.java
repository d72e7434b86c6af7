/** The sentences of promises 17 to 20 and of the pad's grammar that name a boundary case, one test each. */
public final class TextsEdgeTest {
    private static final int BAD_VALUE = GenerationNames.BAD_VALUE;
    private static final int BAD_TEXT = GenerationNames.BAD_TEXT;
    private static final int TOO_MANY = GenerationNames.TOO_MANY;
    private static final int NOT_POSSIBLE = GenerationNames.NOT_POSSIBLE;
    private static final int NONE = GenerationNames.NONE;
    private static final String ORDERS = "jgfawrd";
    private static final String DIGITS = "0123456789";
    /** A text, a blank, and the characters that can stand behind it; a dot stands for the empty text. */
    private static final String[] GRAMMAR = {
        ". " + ORDERS, "j ;", "g ;", "f ;", "a ;", "j; " + ORDERS, "g;f; " + ORDERS, "r00; " + ORDERS, "w0+=5; " + ORDERS,
        "w 012345", "r 012345", "d 012345", "j;a;w 012345", "j;a;r 012345", "j;a;d 012345",
        "w0 0-+", "w5 0-+", "r0 0-+", "r5 0-+", "d0 0-+", "d5 0-+",
        "w0- 1234567", "r3- 1234567", "d5- 1234567",
        "w00 =", "w0+ =", "w0-1 =", "w5-7 =",
        "r00 ;", "r0+ ;", "r0-1 ;", "r5-7 ;", "d00 ;", "d0+ ;", "d0-1 ;", "d5-7 ;",
        "w00= " + DIGITS, "w0+= " + DIGITS, "w0-7= " + DIGITS,
        "w00=0 ;", "w0+=0 ;", "w0-7=0 ;",
        "w00=1 ;" + DIGITS, "w00=9 ;" + DIGITS, "w00=10 ;" + DIGITS, "w00=99 ;" + DIGITS, "w00=100 ;" + DIGITS, "w00=999 ;" + DIGITS,
        "w00=1000 ;", "w00=1001 ;", "w00=9999 ;", "w0-7=9999 ;", "w0+=9999 ;", "j;w0+=9999 ;"};

    private TextsEdgeTest() {
    }

    public static void main(String[] args) {
        Sentences all = new Sentences("Promises 17 to 20");
        all.test("text = order { \";\" order }; order = ..; name = ..: each character behind each beginning", TextsEdgeTest::grammar);
        all.test("A group is 0 to 5, a place 1 to 7", TextsEdgeTest::groupsAndPlaces);
        all.test("a number 0 to 9999, without leading zeros", TextsEdgeTest::numbers);
        all.test("The fault is the index of the first character that cannot stand at its place when the text is read from left to right",
            TextsEdgeTest::firstFault);
        all.test("(also of a digit by which a number would be above 9999)", TextsEdgeTest::above9999);
        all.test("if there is none and the text ends too early (also if it is empty), it is the length of the text",
            TextsEdgeTest::endsTooEarly);
        all.test("\"r\": read() (a name that tells nothing is no error)", TextsEdgeTest::readInVain);
        all.test("17: its lowest 8 bits are the last character, the next 8 bits the one before, and so on", TextsEdgeTest::putOrder);
        all.test("17: characters: 1 to 8 characters", TextsEdgeTest::putOneToEight);
        all.test("17: Returns the length of the pad then", TextsEdgeTest::putLength);
        all.test("17: BAD_VALUE if there is no character", TextsEdgeTest::putNone);
        all.test("17: a code is not 33 to 126", TextsEdgeTest::putCodes);
        all.test("17: or a bit above 8 bits that are 0 is not 0", TextsEdgeTest::putAboveZeros);
        all.test("17: TOO_MANY if the pad would be longer than 80.", TextsEdgeTest::putTooMany);
        all.test("18: Empties the pad, and returns the length that it had.", TextsEdgeTest::wipe);
        all.test("19: Returns the fault of the pad, NONE if there is none.", TextsEdgeTest::fault);
        all.test("20: Carries the orders of the pad out, one after the other", TextsEdgeTest::carryOutEach);
        all.test("20: up to the first one that returns an error, and empties the pad", TextsEdgeTest::carryOutToError);
        all.test("20: up to the first one that returns an error: at each place of the text", TextsEdgeTest::errorAtEachPlace);
        all.test("20: This is a change (one, with all of them; also if none is carried out).", TextsEdgeTest::carryOutIsAChange);
        all.test("20: Returns how many orders were carried out", TextsEdgeTest::carryOutCounts);
        all.test("20: BAD_TEXT if the pad has a fault (then it stays).", TextsEdgeTest::carryOutBadText);
        all.end();
    }

    private static GenerationNames withText(String text) {
        GenerationNames x = new GenerationNames();
        Due.type(x, text);
        return x;
    }

    private static int faultOf(String text) {
        return withText(text).fault();
    }

    private static void grammar(Due due) {
        for (String line : GRAMMAR) {
            String text = line.split(" ")[0].replace(".", "");
            String behind = line.split(" ")[1];
            boolean whole = behind.contains(";");
            due.is("'" + text + "' as it is", faultOf(text), whole ? NONE : text.length());
            for (char sign = 33; sign <= 126; sign++) {
                int fault = faultOf(text + sign);
                boolean can = behind.indexOf(sign) >= 0;
                due.holds("'" + text + "' then " + sign, can ? fault == NONE || fault == text.length() + 1 : fault == text.length());
                if (!can) {
                    due.is("whatever is behind it", faultOf(text + sign + ";j"), text.length());
                }
            }
        }
    }

    private static void groupsAndPlaces(Due due) {
        for (int group = 0; group <= 9; group++) {
            for (int place = 0; place <= 9; place++) {
                String name = group + "-" + place;
                int at = group > 5 ? 1 : place < 1 || place > 7 ? 3 : NONE;
                due.is("r" + name, faultOf("r" + name), at);
                due.is("d" + name, faultOf("d" + name), at);
                due.is("w" + name, faultOf("w" + name + "=0"), at);
            }
            due.is("name 0", faultOf("r" + group + "0"), group > 5 ? 1 : NONE);
            due.is("name +", faultOf("r" + group + "+"), group > 5 ? 1 : NONE);
        }
        GenerationNames x = new GenerationNames();
        for (int g = 0; g <= 5; g++) {
            x.keep(g, 8);
            Look.make(x, g, 8);
        }
        Due.type(x, "w0-7=1;w5-1=2;w10=3;w2-6=4;w3-5=5;d4-4;d3-3;d00");
        due.is("each is what it says", x.carryOut(), 8);
        due.is("0 and -7 of 0", x.generation(0, 7, 1) * 10 + x.generation(0, 0, 2), 11);
        due.is("-1 of 5", x.generation(5, 1, 1), 2);
        due.is("0 of 1", x.generation(1, 0, 1), 3);
        due.is("-6 of 2", x.generation(2, 6, 1), 4);
        due.is("-5 of 3", x.generation(3, 5, 1), 5);
        due.is("-4 of 4", x.generation(4, 4, 2), 1);
        due.is("-3 of 3", x.generation(3, 3, 2), 1);
        due.is("no other one is a hole", x.count(4), 3);
    }

    private static void numbers(Due due) {
        for (int number : new int[] {0, 1, 9, 10, 19, 99, 100, 101, 990, 999, 1000, 1001, 5000, 9990, 9998, 9999}) {
            GenerationNames x = withText("w0+=" + number);
            due.is("number " + number, x.fault(), NONE);
            due.is("carried out", x.carryOut(), 1);
            due.is("data", x.read(0, 0), number);
            x.write(0, 1, 1);
            Due.type(x, "w0-1=" + number + ";w00=0");
            due.is("the same by the name -1", x.carryOut(), 2);
            due.is("data by the name -1", x.read(0, -1), number);
            due.is("a leading zero", faultOf("w0+=0" + number), 5);
            due.is("a leading zero by the name -1", faultOf("w0-1=0" + number), 6);
        }
        due.is("two zeros", faultOf("w00=00"), 5);
        due.is("no number", faultOf("w00="), 4);
        due.is("no number but an order", faultOf("w00=;j"), 4);
        due.is("a sign", faultOf("w00=-1"), 4);
        due.is("a plus", faultOf("w00=+1"), 4);
    }

    private static void firstFault(Due due) {
        String text = "w0+=1;r0-7;d5+;j;g;f;a;w5-1=9999;r00;d10;w20=10;r1+;d2-1;w3-7=0;r50;j;j;g;g;a";
        due.is("none", faultOf(text), NONE);
        for (int at = 0; at < text.length(); at++) {
            String faulty = text.substring(0, at) + "x" + text.substring(at + 1);
            due.is("at " + at, faultOf(faulty), at);
            due.is("at " + at + ", not behind it", faultOf(faulty.substring(0, at + 1) + "xxx"), at);
        }
        due.is("at once", faultOf("xj"), 0);
        due.is("the first of two", faultOf("j;r6;r7"), 3);
    }

    private static void above9999(Due due) {
        for (int number : new int[] {10000, 10001, 12345, 65536, 99990, 99999}) {
            due.is("w0+=" + number, faultOf("w0+=" + number), 8);
            due.is("w0-7=" + number, faultOf("w0-7=" + number), 9);
            due.is("in the middle", faultOf("j;w0+=" + number + ";g"), 10);
            due.is("with more digits", faultOf("w0+=" + number + "000"), 8);
        }
        due.is("as the last of 80", faultOf("w0-1=1000;".repeat(7) + "w0-1=10000"), 79);
        due.is("but for that one", faultOf("w0-1=1000;".repeat(7) + "w0-1=1000"), NONE);
    }

    private static void endsTooEarly(Due due) {
        due.is("empty", faultOf(""), 0);
        String text = "w0+=1;r0-7;d5+;j;w5-1=9999;r00";
        String whole = " 5 10 14 16 23 24 25 26 30 ";
        for (int length = 0; length <= text.length(); length++) {
            boolean ends = whole.contains(" " + length + " ");
            due.is(text.substring(0, length), faultOf(text.substring(0, length)), ends ? NONE : length);
        }
        GenerationNames x = withText("j");
        x.wipe();
        due.is("wiped", x.fault(), 0);
        due.is("79 and a semicolon", faultOf("j;".repeat(40)), 80);
    }

    private static void readInVain(Due due) {
        GenerationNames x = withText("r00;r0-7;r0+;j;r0+;r00;w0+=5;r0+;d0+;r0+;g;r0+;r5-7");
        due.is("all are carried out", x.carryOut(), 13);
        due.is("reads", x.count(5), 9);
        due.is("in vain", x.count(6), 8);
    }

    private static void putOrder(Due due) {
        GenerationNames x = new GenerationNames();
        x.put(('r' << 16) + ('0' << 8) + '5');
        due.is("r05: the 5 is the last one", x.fault(), 2);
        x.wipe();
        due.is("w0-3=871", x.put(0x77302d333d383731L), 8);
        due.is("without a fault", x.fault(), NONE);
        Look.make(x, 0, 1);
        x.keep(0, 4);
        Look.make(x, 0, 3);
        due.is("carried out", x.carryOut(), 1);
        due.is("as it was put", x.generation(0, 3, 1), 871);
        x.put('r');
        x.put('0');
        x.put(('0' << 8) + ';');
        x.put('j');
        due.is("one behind the other", x.fault(), NONE);
        due.is("both", x.carryOut(), 2);
    }

    private static void putOneToEight(Due due) {
        String text = "j;g;j;g;";
        for (int many = 1; many <= 8; many++) {
            GenerationNames x = new GenerationNames();
            due.is("so many", x.put(Due.packed(text.substring(0, many))), many);
            due.is("the text", x.fault(), many % 2 == 1 ? NONE : many);
            due.is("again", x.put(Due.packed(text.substring(0, many))), 2 * many);
        }
    }

    private static void putLength(Due due) {
        GenerationNames x = new GenerationNames();
        for (int i = 1; i <= 80; i++) {
            due.is("length", x.put(32 + i), i);
            due.is("the same", x.count(8), i);
        }
        x.wipe();
        due.is("from the start again", x.put(33), 1);
    }

    private static void putNone(Due due) {
        GenerationNames x = new GenerationNames();
        due.is("none", x.put(0), BAD_VALUE);
        x.put('j');
        due.is("none behind one", x.put(0), BAD_VALUE);
        due.is("a last one of 0", x.put('j' << 8), BAD_VALUE);
        due.is("the first of eight alone", x.put((long) 'j' << 56), BAD_VALUE);
        due.is("nothing is put", x.count(8), 1);
    }

    private static void putCodes(Due due) {
        for (int code = 0; code <= 255; code++) {
            boolean good = code >= 33 && code <= 126;
            for (int at = 0; at < 8; at++) {
                long eight = Due.packed("jjjjjjjj") & ~(255L << 8 * at) | (long) code << 8 * at;
                // A first character of 0 leaves seven good ones.
                int want = good ? 8 : code == 0 && at == 7 ? 7 : BAD_VALUE;
                due.is("code " + code + " at " + at, new GenerationNames().put(eight), want);
            }
            due.is("alone", new GenerationNames().put(code), good ? 1 : BAD_VALUE);
        }
        due.is("all bits", new GenerationNames().put(-1), BAD_VALUE);
        due.is("least", new GenerationNames().put(Long.MIN_VALUE), BAD_VALUE);
        due.is("most", new GenerationNames().put(Long.MAX_VALUE), BAD_VALUE);
    }

    private static void putAboveZeros(Due due) {
        for (int many = 1; many <= 7; many++) {
            long characters = Due.packed("jjjjjjj".substring(0, many));
            due.is("none above", new GenerationNames().put(characters), many);
            for (int bit = 8 * many + 8; bit < 64; bit++) {
                due.is("bit " + bit + " above " + many, new GenerationNames().put(characters | 1L << bit), BAD_VALUE);
            }
        }
        due.is("a character above 8 bits of 0", new GenerationNames().put((long) 'j' << 16 | 'g'), BAD_VALUE);
    }

    private static void putTooMany(Due due) {
        for (int length = 72; length <= 80; length++) {
            for (int more = 1; more <= 8; more++) {
                GenerationNames x = withText("j".repeat(length));
                boolean fits = length + more <= 80;
                due.is(more + " behind " + length, x.put(Due.packed("gggggggg".substring(0, more))), fits ? length + more : TOO_MANY);
                due.is("the length", x.count(8), fits ? length + more : length);
            }
        }
        GenerationNames x = withText("j".repeat(80));
        due.is("a bad character first", x.put(127), BAD_VALUE);
        due.is("none first", x.put(0), BAD_VALUE);
        x.wipe();
        due.is("room again", x.put('j'), 1);
    }

    private static void wipe(Due due) {
        for (int length = 0; length <= 80; length++) {
            GenerationNames x = withText("j".repeat(length));
            due.is("the length that it had", x.wipe(), length);
            due.is("empty", x.count(8), 0);
            due.is("an empty one", x.wipe(), 0);
            due.is("its fault", x.fault(), 0);
            due.is("no change", x.count(9), 0);
        }
    }

    private static void fault(Due due) {
        GenerationNames x = withText("j;r0");
        due.is("too early", x.fault(), 4);
        due.is("the pad stays", x.count(8), 4);
        due.is("the same again", x.fault(), 4);
        x.put('-');
        x.put('8');
        due.is("no such place", x.fault(), 5);
        x.put('x');
        due.is("still the first one", x.fault(), 5);
        x.wipe();
        x.put('a');
        due.is("none, though the order would be an error", x.fault(), NONE);
        due.is("no change", x.count(9), 0);
    }

    private static void carryOutEach(Due due) {
        GenerationNames x = withText("w0+=1;w0+=2;j;w0+=3;w0+=4;w0-1=5;r00;d0-1;f;a;w0+=6;g");
        due.is("all", x.carryOut(), 12);
        due.is("in their order", Look.row(x, 0), "4 (3) 2");
        due.is("began", x.count(0), 2);
        due.is("failed", x.count(2), 1);
        due.is("none runs", x.count(1), 0);
        due.is("read", x.generation(0, 2, 3), 1);
        due.is("deleted", x.ofGroup(0, 5), 2);
        due.is("data", x.ofGroup(0, 6), 8);
        due.is("made by the second job", x.generation(0, 0, 4), 2);
        due.is("the pad is empty", x.count(8), 0);
        x = withText("j");
        due.is("one order", x.carryOut(), 1);
        due.is("a job that begins in a text runs behind it", x.count(1), 1);
        x.write(3, 1, 7);
        Due.type(x, "w3+=8;g");
        due.is("and ends in another one", x.carryOut(), 2);
        due.is("what it made is the same", x.ofGroup(3, 6), 8);
    }

    private static void carryOutToError(Due due) {
        String[] refused = {"g", "f", "a", "w00=1", "w0-7=1", "d00", "d0-1", "d0+"};
        for (String order : refused) {
            GenerationNames x = withText("w5+=1;" + order + ";w5+=2;j");
            due.is("up to " + order, x.carryOut(), 1);
            due.is("not those behind it", x.ofGroup(5, 3), 1);
            due.is("no job", x.count(0), 0);
            due.is("the pad is empty", x.wipe(), 0);
        }
        GenerationNames x = withText("j;j;w5+=1");
        due.is("up to the second j", x.carryOut(), 1);
        due.is("not the write", x.ofGroup(5, 3), 0);
        Due.type(x, "a;w5+=1");
        due.is("none", x.carryOut(), 0);
        due.is("not the write either", x.ofGroup(5, 3), 0);
        Due.type(x, "w5+=1;d5+;w5+=2;g");
        due.is("up to the write to what is gone", x.carryOut(), 2);
        due.is("the job runs", x.count(1), 1);
    }

    private static void errorAtEachPlace(Due due) {
        for (int at = 0; at < 16; at++) {
            GenerationNames x = withText("r00;".repeat(at) + "d00" + ";r00".repeat(15 - at));
            due.is("an error at " + at, x.carryOut(), at);
            due.is("so many are read", x.count(5), at);
            due.is("the pad is empty", x.count(8), 0);
            due.is("one change", x.count(9), 1);
        }
    }

    private static void carryOutIsAChange(Due due) {
        GenerationNames x = Look.made(0, 3, 3);
        due.is("changes", x.count(9), 4);
        Due.type(x, "w0+=1;w0+=2;j;d00;f;r00");
        due.is("six orders", x.carryOut(), 6);
        due.is("are one change", x.count(9), 5);
        Due.type(x, "g");
        due.is("none is carried out", x.carryOut(), 0);
        due.is("it is a change all the same", x.count(9), 6);
        due.is("undone", x.undo(), 5);
        due.is("nothing was different", Look.row(x, 0), "(5) 4 3");
        due.is("all of it undone", x.undo(), 4);
        due.is("as before", Look.row(x, 0), "3 2 1");
        due.is("reads as before", x.count(5), 0);
        due.is("no job began", x.count(0), 0);
        due.is("the pad does not come back", x.count(8), 0);
        due.is("none failed: it can't be run again", x.again(), NOT_POSSIBLE);
        for (int i = 0; i < 9; i++) {
            x.put('g');
            x.carryOut();
        }
        due.is("six at most", x.count(9), 6);
    }

    private static void carryOutCounts(Due due) {
        for (int many = 1; many <= 40; many++) {
            GenerationNames x = withText("j;g;".repeat(20).substring(0, 2 * many - 1));
            due.is("so many", x.carryOut(), many);
            due.is("jobs", x.count(0), (many + 1) / 2);
        }
        for (int many = 1; many <= 11; many++) {
            GenerationNames x = withText("w0+=1" + ";w0+=1".repeat(many - 1));
            due.is("so many writes", x.carryOut(), many);
            due.is("numbers", x.ofGroup(0, 3), many);
        }
        due.is("80 characters", withText("r0-1;".repeat(15) + "w0+=1").carryOut(), 16);
    }

    private static void carryOutBadText(Due due) {
        for (String text : new String[] {"", "x", "j;", "j;w0+=1;", "j;w0+=12345", "w0+=1;x", "j;w0+", "r06", "j".repeat(80)}) {
            GenerationNames x = withText(text);
            int fault = x.fault();
            due.is("BAD_TEXT: " + text, x.carryOut(), BAD_TEXT);
            due.is("it stays", x.count(8), text.length());
            due.is("so does its fault", x.fault(), fault);
            due.is("nothing is carried out", x.count(0) + x.count(3), 0);
            due.is("no change", x.count(9), 0);
        }
        GenerationNames x = withText("w0+=1");
        x.put(';');
        x.carryOut();
        x.put('j');
        due.is("it goes on where it was", x.carryOut(), 2);
    }
}
