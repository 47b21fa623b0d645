import java.util.List;
import java.util.function.Supplier;

/** The sentences on THE WELL and on THE TAPE, and those of promises 9 to 16. */
final class EdgeWell {
    private static final int[] FAR = {Integer.MIN_VALUE, Integer.MIN_VALUE + 1, Integer.MAX_VALUE};

    private EdgeWell() {
    }

    static void run() {
        numbersOfTheWell();
        voices();
        tape();
        tokens();
        statements();
        allOrNothing();
        faults();
        faultsOfNumbers();
        faultsOfRoom();
        tooEarlyAnEnd();
        promise9();
        promise10();
        promise11();
        promise12();
        promise13();
        promise14();
        promise15();
        promise16();
    }

    private static void numberIs(String words, int what, int first, int least, int most) {
        Edge.sentence(Edge.WELL, words);
        Edge.due("at first", new WellIsAskedFirst().status(1 + what), first);
        WellIsAskedFirst x = new WellIsAskedFirst();
        Edge.granted("the greatest", x, first, y -> y.tell(what, most));
        Edge.due("it is so", x.status(1 + what), most);
        Edge.granted("the least", x, most, y -> y.tell(what, least));
        Edge.due("it is so", x.status(1 + what), least);
        Edge.refused("too small", Scene::laid, Check.BAD, y -> y.tell(what, least - 1));
        Edge.refused("too large", Scene::laid, Check.BAD, y -> y.tell(what, most + 1));
    }

    private static void numbersOfTheWell() {
        numberIs("DEPTH (0 to 40: how far down the water is; 10 at first)", 0, 10, 0, 40);
        numberIs("RAIN (0 to 9; 1 at first)", 1, 1, 0, 9);
        numberIs("DAY (0 to 9999; 0 at first)", 2, 0, 0, 9999);
        Edge.sentence(Edge.WELL, "WEIGHT (2 to 9; 5 at first)");
        Edge.due("at first", new WellIsAskedFirst().status(4), 5);
        Edge.granted("the least", new WellIsAskedFirst(), 50, x -> x.weigh(2, 0));
        Edge.granted("the greatest", new WellIsAskedFirst(), 50, x -> x.weigh(9, 0));
        Edge.refused("too small", Scene::laid, Check.BAD, x -> x.weigh(1, 0));
        Edge.refused("too large", Scene::laid, Check.BAD, x -> x.weigh(10, 0));
        Edge.sentence(Edge.WELL, "REST (0 to WEIGHT less 1; 0 at first)");
        Edge.due("at first", new WellIsAskedFirst().status(5), 0);
        for (int weight = 2; weight <= 9; weight++) {
            int w = weight;
            Edge.granted("the greatest by " + w, new WellIsAskedFirst(), 50, x -> x.weigh(w, w - 1));
            Edge.refused("too large by " + w, Scene::laid, Check.BAD, x -> x.weigh(w, w));
            Edge.refused("too small by " + w, Scene::laid, Check.BAD, x -> x.weigh(w, -1));
        }
        Edge.sentence(Edge.WELL, "DONE (yeses in truth; 0 at first)");
        Edge.due("at first", new WellIsAskedFirst().status(6), 0);
        Edge.sentence(Edge.WELL, "REFUSED (noes in truth; 0 at first)");
        Edge.due("at first", new WellIsAskedFirst().status(7), 0);
    }

    private static void voices() {
        Edge.sentence(Edge.WELL, "VOICES have numbers, 0 on, 8 at most");
        WellIsAskedFirst x = new WellIsAskedFirst();
        for (int number = 0; number < 8; number++) {
            Edge.due("the next number", x.voice(0, 0, 0), number);
            Edge.due("how many", x.status(0), number + 1);
        }
        Edge.due("no ninth", x.voice(0, 0, 0), Check.FULL);
        Edge.due("how many then", x.status(0), 8);
        Edge.sentence(Edge.WELL, "each of a KIND: 0 VOICE; 1 DEEP, 2 STUTTERER, 5 CHILD, each under VOICE; "
            + "3 PRIEST, under DEEP; 4 PROPHET, under STUTTERER");
        for (int kind = 0; kind <= 5; kind++) {
            int of = kind;
            Edge.granted("KIND " + kind, new WellIsAskedFirst(), 0, y -> y.voice(of, 0, 0));
        }
        Edge.refused("no KIND -1", Scene::laid, Check.BAD, y -> y.voice(-1, 0, 0));
        Edge.refused("no KIND 6", Scene::laid, Check.BAD, y -> y.voice(6, 0, 0));
        Edge.sentence(Edge.WELL, "a (0 to 9)");
        Edge.granted("the least", new WellIsAskedFirst(), 0, y -> y.voice(0, 0, 0));
        Edge.granted("the greatest", new WellIsAskedFirst(), 0, y -> y.voice(0, 9, 0));
        Edge.refused("too small", Scene::laid, Check.BAD, y -> y.voice(0, -1, 0));
        Edge.refused("too large", Scene::laid, Check.BAD, y -> y.voice(0, 10, 0));
        Edge.sentence(Edge.WELL, "PITCH (0 to 20)");
        Edge.granted("the least", new WellIsAskedFirst(), 0, y -> y.voice(0, 0, 0));
        Edge.granted("the greatest", new WellIsAskedFirst(), 0, y -> y.voice(0, 0, 20));
        Edge.refused("too small", Scene::laid, Check.BAD, y -> y.voice(0, 0, -1));
        Edge.refused("too large", Scene::laid, Check.BAD, y -> y.voice(0, 0, 21));
    }

    private static void wellIs(String text, int statements) {
        WellIsAskedFirst x = Check.wellOf(Check.VOICE, 3);
        Scene.feed(x, text);
        Edge.granted("'" + text + "' is a WELL", x, statements, y -> y.well());
        Edge.due("THE TAPE is empty then", x.status(8), 0);
    }

    private static void faultIs(String text, int place) {
        Supplier<WellIsAskedFirst> wiped = Scene.but(Scene::laid, x -> x.wipe());
        faultIs(wiped, text, place);
    }

    /** The text has a FAULT there; that is refused as BAD, and nothing else changes. */
    private static void faultIs(Supplier<WellIsAskedFirst> scene, String text, int place) {
        Edge.refused("'" + text + "'", scene, Check.BAD, x -> {
            Scene.feed(x, text);
            int answer = x.well();
            return answer == -20 - place ? Check.BAD : answer;
        });
    }

    private static void tape() {
        Edge.sentence(Edge.WELL, "A WELL is read from THE TAPE (bytes, 250 at most).");
        WellIsAskedFirst x = new WellIsAskedFirst();
        Scene.feed(x, "rain 9;".repeat(35));
        Scene.feed(x, "day 7");
        Edge.due("250", x.status(8), 250);
        Edge.due("no 251st", x.feed('0'), Check.FULL);
        Edge.granted("read to the last byte", x, 36, y -> y.well());
        Edge.due("the last byte counts", x.status(3), 7);
        Edge.due("there is room again", x.feed(32), 1);
    }

    private static void tokens() {
        Edge.sentence(Edge.WELL, "TOKENS, each as long as can be: WORDS (a .. z), NUMBERS (digits), the SIGN ; - "
            + "blanks (32) may stand anywhere between.");
        wellIs("rain0", 1);
        wellIs("voice0 0 0", 1);
        wellIs("rain 9;rain 0", 2);
        wellIs(" rain  9 ; rain   0 ", 2);
        wellIs(" ".repeat(244) + "rain 1", 1);
        wellIs("rain" + " ".repeat(245) + "1", 1);
        wellIs("rain 1" + " ".repeat(244), 1);
        faultIs("rains 1", 0);
        faultIs("rainrain 1", 0);
        faultIs("ra in 1", 0);
        faultIs("voice 012", 6);
        faultIs("voice 00 1", 10);
        faultIs("rain 1 0", 7);
        faultIs("rain 1rain 1", 6);
        faultIs("rainz 1", 0);
        faultIs("raina 1", 0);
        faultIs("zrain 1", 0);
        for (String word : new String[] {"voice", "pitch", "depth", "rain", "day", "weigh"}) {
            for (int i = 0; i < word.length(); i++) {
                faultIs(word.substring(0, i) + "q" + word.substring(i + 1) + " 3 1 1", 0);
            }
            for (int i = 1; i < word.length(); i++) {
                faultIs(word.substring(0, i) + " " + word.substring(i) + " 3 1 1", 0);
                faultIs(word.substring(0, i) + " 3 1 1", 0);
            }
        }
        // The bytes that stand next to those that begin a TOKEN, and next to the blank.
        for (int letter : new int[] {0, 9, 10, 13, 31, 33, '/', ':', '<', '@', 'A', 'Z', '[', '`', '{', 127, 128, 160, 255}) {
            faultIs((char) letter + "rain 1", 0);
            faultIs("rain" + (char) letter + "1", 4);
            faultIs("rain 1" + (char) letter, 6);
            faultIs("rain 1;" + (char) letter + "rain 1", 7);
        }
    }

    private static void statements() {
        Edge.sentence(Edge.WELL, "STATEMENTS, one or more, with ; between: voice K A P; pitch X P; depth N; rain N; "
            + "day N (999 at most); weigh W R (WEIGHT, REST).");
        faultIs("", 0);
        faultIs(";", 0);
        faultIs(";rain 1", 0);
        faultIs("rain 1;", 7);
        faultIs("rain 1;;rain 1", 7);
        wellIs("rain 1", 1);
        WellIsAskedFirst x = Check.wellOf(Check.DEEP, 3);
        Scene.feed(x, "voice 5 9 20;pitch 0 20;depth 40;rain 9;day 999;weigh 9 8;pitch 1 20;voice 0 0 0");
        Edge.granted("the greatest of all", x, 8, y -> y.well());
        int[] greatest = {3, 40, 9, 999, 9, 8};
        for (int what = 0; what < greatest.length; what++) {
            Edge.due("status " + what, x.status(what), greatest[what]);
        }
        Edge.due("the new one's KIND", x.voiceOf(1, 0), 5);
        Edge.due("the new one's a", x.voiceOf(1, 1), 9);
        Edge.due("the new one's PITCH", x.voiceOf(1, 2), 20);
        Edge.due("the old one's PITCH", x.voiceOf(0, 2), 20);
        WellIsAskedFirst z = Check.wellOf(Check.DEEP, 3);
        z.tell(2, 5);
        z.weigh(9, 8);
        Scene.feed(z, "voice 0 0 0;pitch 0 0;depth 0;rain 0;day 0;weigh 2 0");
        Edge.granted("the least of all", z, 6, y -> y.well());
        int[] least = {2, 0, 0, 0, 2, 0};
        for (int what = 0; what < least.length; what++) {
            Edge.due("status " + what, z.status(what), least[what]);
        }
        Edge.due("the old one's PITCH", z.voiceOf(0, 2), 0);
        wellIs("weigh 2 1", 1);
        faultIs("day 1000", 4);
    }

    private static void allOrNothing() {
        Edge.sentence(Edge.WELL, "All comes to what there is, or nothing.");
        String all = "voice 1 1 1;pitch 0 9;depth 1;rain 2;day 3;weigh 4 1";
        WellIsAskedFirst x = Check.wellOf(Check.CHILD, 3);
        Scene.feed(x, all);
        Edge.granted("all", x, 6, y -> y.well());
        Edge.due("a VOICE more than there was", x.status(0), 2);
        Edge.due("the VOICE there was", x.voiceOf(0, 0), Check.CHILD);
        Edge.due("its PITCH", x.voiceOf(0, 2), 9);
        for (String last : new String[] {";", ";rain 10", ";voice 6 1 1", " 1", ";x", ";pitch 7 0", ";\u0000"}) {
            String text = all + last;
            Supplier<WellIsAskedFirst> wiped = Scene.but(Scene::laid, y -> y.wipe());
            Edge.refused("nothing of '" + text + "'", wiped, Check.BAD, y -> {
                Scene.feed(y, text);
                return y.well() < -20 ? Check.BAD : 0;
            });
        }
        WellIsAskedFirst z = Check.wellOf(Check.VOICE, 3);
        Scene.feed(z, "depth 1;rain 10");
        z.well();
        Scene.feed(z, "day 4");
        Edge.granted("a WELL behind one that is none", z, 1, y -> y.well());
        Edge.due("nothing of that one comes later", z.status(1), 10);
    }

    private static void faults() {
        Edge.sentence(Edge.WELL, "The FAULT: the place of the first byte of the first TOKEN that can't stand there");
        faultIs("rain rain", 5);
        faultIs("rain ;", 5);
        faultIs("rain 1 ;  ;", 10);
        faultIs("rain   10", 7);
        faultIs("7", 0);
        faultIs("  7", 2);
        faultIs("rain 1 1", 7);
        faultIs("rain 1 rain 1", 7);
        faultIs("voice 0 0;", 9);
        faultIs("voice 0 voice", 8);
        faultIs("weigh 5;", 7);
        faultIs("weigh 5 rest", 8);
        faultIs("pitch 0;", 7);
        faultIs("pitch x 0", 6);
        faultIs("well 1", 0);
        faultIs("word", 0);
        faultIs("Rain 1", 0);
        faultIs("rain 10;#", 5);
        faultIs("# rain 10", 0);
        Edge.sentence(Edge.WELL, "a byte that begins none");
        faultIs("rain -1", 5);
        faultIs("rain +1", 5);
        faultIs("rain 1,", 6);
        faultIs("rain 1.0", 6);
        faultIs("rain\t1", 4);
        faultIs("\u00e9", 0);
        faultIs("rain 1; \u00ff", 8);
        faultIs("rain 1\u0000", 6);
    }

    private static void faultsOfNumbers() {
        Edge.sentence(Edge.WELL, "(also a NUMBER that may not be, or has more than 3 digits;");
        String[] bad = {"voice 6 0 0", "voice 9 0 0", "depth 41", "depth 999", "rain 10", "weigh 0 0", "weigh 1 0",
            "weigh 10 0", "pitch 6 0", "pitch 999 0"};
        for (String text : bad) {
            faultIs(text, text.indexOf(' ') + 1);
        }
        faultIs("voice 0 10 0", 8);
        faultIs("voice 0 9 21", 10);
        faultIs("pitch 0 21", 8);
        faultIs("pitch 5 21", 8);
        for (int w = 2; w <= 9; w++) {
            faultIs("weigh " + w + " " + w, 8);
            wellIs("weigh " + w + " " + (w - 1), 1);
        }
        faultIs(Scene::voiceless, "pitch 0 0", 6);
        wellIs("voice 0 0 0;pitch 1 20", 2);
        wellIs("depth 040", 1);
        wellIs("depth 000", 1);
        wellIs("voice 005 009 020", 1);
        wellIs("weigh 009 008", 1);
        faultIs("depth 0000", 6);
        faultIs("depth 0040", 6);
        faultIs("voice 0000 0 0", 6);
        faultIs("voice 0 0000 0", 8);
        faultIs("voice 0 0 0000", 10);
        faultIs("pitch 0000 0", 6);
        faultIs("pitch 0 0000", 8);
        faultIs("rain 0001", 5);
        faultIs("day 0999", 4);
        faultIs("day 4294967296", 4);
        faultIs("weigh 0005 0", 6);
        faultIs("weigh 5 0000", 8);
        faultIs(Scene::fresh, "day " + "9".repeat(246), 4);
    }

    private static void faultsOfRoom() {
        Edge.sentence(Edge.WELL, "what there is no room for: its word;");
        Supplier<WellIsAskedFirst> full = Scene.but(Scene::full, x -> x.wipe());
        faultIs(full, "voice 0 0 0", 0);
        faultIs(full, "  voice 0 0 0", 2);
        faultIs(full, "rain 1;voice 0 0 0", 7);
        faultIs(full, "voice 9 9 99", 0);
        faultIs(full, "voice", 0);
        // laid() has six VOICES: there is room for two more.
        Supplier<WellIsAskedFirst> six = Scene.but(Scene::laid, x -> x.wipe());
        faultIs(six, "voice 0 0 0;voice 0 0 0; voice 0 0 0", 25);
        WellIsAskedFirst x = six.get();
        Scene.feed(x, "voice 0 0 0;voice 0 0 0;pitch 7 9");
        Edge.granted("just as many as there is room for", x, 3, y -> y.well());
        Edge.due("the eighth", x.voiceOf(7, 2), 9);
    }

    private static void tooEarlyAnEnd() {
        Edge.sentence(Edge.WELL, "THE TAPE's size, if it ends too early.");
        String[] texts = {"", " ", "   ", "rain", "rain ", "rain 1;", "rain 1; ", "rain 1;rain", "voice", "voice 0",
            "voice 0 0", "voice 0 0 ", "pitch", "pitch 0", "weigh", "weigh 5", "weigh 5   ", "depth", "day", "day  "};
        for (String text : texts) {
            faultIs(text, text.length());
        }
        faultIs(Scene::fresh, " ".repeat(250), 250);
        faultIs(Scene::fresh, "rain" + " ".repeat(246), 250);
    }

    private static void promise9() {
        Edge.sentence("9", "A VOICE: the number.");
        WellIsAskedFirst x = new WellIsAskedFirst();
        for (int number = 0; number < 8; number++) {
            int kind = number % 6;
            int a = 9 - number;
            int pitch = 20 - number;
            Edge.granted("one more", x, number, y -> y.voice(kind, a, pitch));
        }
        for (int number = 0; number < 8; number++) {
            Edge.due("KIND of " + number, x.voiceOf(number, 0), number % 6);
            Edge.due("a of " + number, x.voiceOf(number, 1), 9 - number);
            Edge.due("PITCH of " + number, x.voiceOf(number, 2), 20 - number);
        }
        Edge.sentence("9", "BAD; FULL.");
        for (Supplier<WellIsAskedFirst> scene : List.<Supplier<WellIsAskedFirst>>of(Scene::laid, Scene::full)) {
            Edge.refused("KIND -1", scene, Check.BAD, y -> y.voice(-1, 0, 0));
            Edge.refused("KIND 6", scene, Check.BAD, y -> y.voice(6, 0, 0));
            Edge.refused("a -1", scene, Check.BAD, y -> y.voice(0, -1, 0));
            Edge.refused("a 10", scene, Check.BAD, y -> y.voice(0, 10, 0));
            Edge.refused("PITCH -1", scene, Check.BAD, y -> y.voice(0, 0, -1));
            Edge.refused("PITCH 21", scene, Check.BAD, y -> y.voice(0, 0, 21));
            for (int far : FAR) {
                Edge.refused("KIND " + far, scene, Check.BAD, y -> y.voice(far, 0, 0));
                Edge.refused("a " + far, scene, Check.BAD, y -> y.voice(0, far, 0));
                Edge.refused("PITCH " + far, scene, Check.BAD, y -> y.voice(0, 0, far));
            }
        }
        Edge.refused("no room", Scene::full, Check.FULL, y -> y.voice(5, 9, 20));
    }

    private static void promise10() {
        Edge.sentence("10", "PITCH of one becomes v: what it was.");
        WellIsAskedFirst x = Scene.full();
        Edge.granted("the greatest of the first one", x, 0, y -> y.pitch(0, 20));
        Edge.granted("the least of the last one", x, 19, y -> y.pitch(7, 0));
        Edge.due("the first one's", x.voiceOf(0, 2), 20);
        Edge.due("the last one's", x.voiceOf(7, 2), 0);
        Edge.due("its neighbour's", x.voiceOf(6, 2), 20);
        Edge.granted("the least again", x, 20, y -> y.pitch(0, 0));
        Edge.sentence("10", "BAD.");
        for (int voice : new int[] {Integer.MIN_VALUE, -2, -1, 6, 7, 8, Integer.MAX_VALUE}) {
            Edge.refused("VOICE " + voice, Scene::laid, Check.BAD, y -> y.pitch(voice, 1));
        }
        for (int v : new int[] {Integer.MIN_VALUE, -1, 21, Integer.MAX_VALUE}) {
            Edge.refused("PITCH " + v, Scene::laid, Check.BAD, y -> y.pitch(0, v));
        }
        Edge.refused("no VOICE 8", Scene::full, Check.BAD, y -> y.pitch(8, 1));
        Edge.refused("no VOICES", Scene::voiceless, Check.BAD, y -> y.pitch(0, 1));
    }

    private static void promise11() {
        Edge.sentence("11", "DEPTH (what 0), RAIN (1), DAY (2) becomes v: what it was.");
        int[] first = {10, 1, 0};
        int[] most = {40, 9, 9999};
        for (int what = 0; what < 3; what++) {
            WellIsAskedFirst x = new WellIsAskedFirst();
            int of = what;
            Edge.granted("the greatest", x, first[of], y -> y.tell(of, most[of]));
            Edge.granted("the least", x, most[of], y -> y.tell(of, 0));
            for (int other = 0; other < 3; other++) {
                Edge.due("status " + (1 + other), x.status(1 + other), other == of ? 0 : first[other]);
            }
        }
        Edge.sentence("11", "BAD.");
        for (int what = 0; what < 3; what++) {
            int of = what;
            for (int v : new int[] {Integer.MIN_VALUE, -1, most[what] + 1, Integer.MAX_VALUE}) {
                Edge.refused("what " + of + ", v " + v, Scene::laid, Check.BAD, y -> y.tell(of, v));
            }
        }
        for (int what : new int[] {Integer.MIN_VALUE, -1, 3, 4, Integer.MAX_VALUE}) {
            Edge.refused("what " + what, Scene::laid, Check.BAD, y -> y.tell(what, 0));
        }
    }

    private static void promise12() {
        Edge.sentence("12", "WEIGHT and REST become w, r: 10 times what WEIGHT was and REST.");
        WellIsAskedFirst x = new WellIsAskedFirst();
        Edge.granted("the greatest", x, 50, y -> y.weigh(9, 8));
        Edge.granted("the least", x, 98, y -> y.weigh(2, 0));
        Edge.granted("the least, and 1", x, 20, y -> y.weigh(2, 1));
        Edge.due("WEIGHT", x.status(4), 2);
        Edge.due("REST", x.status(5), 1);
        Edge.sentence("12", "BAD.");
        for (int w : new int[] {Integer.MIN_VALUE, -1, 0, 1, 10, 11, Integer.MAX_VALUE}) {
            Edge.refused("w " + w, Scene::laid, Check.BAD, y -> y.weigh(w, 0));
        }
        for (int r : new int[] {Integer.MIN_VALUE, -1, 5, 6, Integer.MAX_VALUE}) {
            Edge.refused("r " + r, Scene::laid, Check.BAD, y -> y.weigh(5, r));
        }
        Edge.refused("r by w, not by WEIGHT as it was", Scene::laid, Check.BAD, y -> y.weigh(2, 4));
    }

    private static void promise13() {
        Edge.sentence("13", "THE TAPE gets one byte (0 to 255) behind it: its size.");
        WellIsAskedFirst x = new WellIsAskedFirst();
        for (int size = 1; size <= 250; size++) {
            int letter = size % 2 == 0 ? 0 : 255;
            Edge.due("size", x.feed(letter), size);
        }
        Edge.due("refused", x.status(12) + x.status(16), 0);
        Edge.sentence("13", "BAD; FULL.");
        Supplier<WellIsAskedFirst> full = Scene.but(Scene::fresh, y -> Scene.feed(y, " ".repeat(250)));
        for (int letter : new int[] {Integer.MIN_VALUE, -1, 256, 257, Integer.MAX_VALUE}) {
            Edge.refused("byte " + letter, Scene::laid, Check.BAD, y -> y.feed(letter));
            Edge.refused("BAD ahead of FULL, byte " + letter, full, Check.BAD, y -> y.feed(letter));
        }
        Edge.refused("no 251st", full, Check.FULL, y -> y.feed(0));
        Edge.refused("no 251st", full, Check.FULL, y -> y.feed(255));
    }

    private static void promise14() {
        Edge.sentence("14", "THE TAPE is empty: its size ahead.");
        Edge.granted("it is empty already", new WellIsAskedFirst(), 0, y -> y.wipe());
        WellIsAskedFirst x = new WellIsAskedFirst();
        Scene.feed(x, "rain 9;".repeat(35) + "rain ");
        Edge.granted("it is full", x, 250, y -> y.wipe());
        Edge.due("size", x.status(8), 0);
        Edge.granted("again", x, 0, y -> y.wipe());
        Scene.feed(x, "day 1");
        Edge.granted("nothing of it is left", x, 1, y -> y.well());
        Edge.due("nothing of it is left", x.status(2), 1);
    }

    private static void promise15() {
        Edge.sentence("15", "THE TAPE is a WELL: how many STATEMENTS;");
        wellIs("day 0", 1);
        wellIs("day 0;day 0", 2);
        wellIs("day0;".repeat(49) + "day 1", 50);
        wellIs("rain0;".repeat(41) + "day1", 42);
        Edge.sentence("15", "-20 less the FAULT (that is refused, too: BAD).");
        WellIsAskedFirst x = new WellIsAskedFirst();
        Edge.due("an empty TAPE", x.well(), -20);
        Edge.due("how many BAD", x.status(12), 1);
        x.feed('#');
        Edge.due("FAULT 0", x.well(), -20);
        Edge.due("how many BAD", x.status(12), 2);
        Scene.feed(x, " ".repeat(249) + "#");
        Edge.due("FAULT 249", x.well(), -269);
        Edge.due("how many BAD", x.status(12), 3);
        WellIsAskedFirst z = new WellIsAskedFirst();
        Scene.feed(z, " ".repeat(250));
        Edge.due("FAULT 250", z.well(), -270);
        Edge.due("no other refusal", z.status(13) + z.status(14) + z.status(15) + z.status(16), 0);
        Edge.sentence("15", "THE TAPE is empty then, either way.");
        Edge.due("behind a FAULT", z.status(8), 0);
        Edge.due("the next byte is the first", z.feed('d'), 1);
        Scene.feed(z, "ay 8");
        Edge.due("a WELL", z.well(), 1);
        Edge.due("behind a WELL", z.status(8), 0);
        Edge.due("read again, it is empty", z.well(), -20);
    }

    private static void promise16() {
        Edge.sentence("16", "Of a VOICE: KIND (0), a (1), PITCH (2), PITCH as it is heard today (3).");
        for (int kind = 0; kind < 6; kind++) {
            int voice = kind;
            Edge.asked("KIND", Scene::laid, voice, x -> x.voiceOf(voice, 0));
            Edge.asked("a", Scene::laid, 9 - voice, x -> x.voiceOf(voice, 1));
            for (int day : new int[] {0, 9, 10, 19, 20, 9989, 9990, 9999}) {
                Supplier<WellIsAskedFirst> scene = Scene.but(Scene::laid, x -> {
                    x.tell(2, day);
                    x.pitch(voice, 20);
                });
                Edge.asked("PITCH on " + day, scene, 20, x -> x.voiceOf(voice, 2));
                int tenth = voice == Check.CHILD ? day / 10 : 0;
                Edge.asked("PITCH as it is heard on " + day, scene, 20 + tenth, x -> x.voiceOf(voice, 3));
            }
        }
        Edge.sentence("16", "BAD.");
        for (int voice : new int[] {Integer.MIN_VALUE, -2, -1, 6, 7, 8, Integer.MAX_VALUE}) {
            Edge.refused("VOICE " + voice, Scene::laid, Check.BAD, x -> x.voiceOf(voice, 0));
        }
        for (int what : new int[] {Integer.MIN_VALUE, -1, 4, 5, Integer.MAX_VALUE}) {
            Edge.refused("what " + what, Scene::laid, Check.BAD, x -> x.voiceOf(0, what));
        }
        Edge.refused("no VOICE 8", Scene::full, Check.BAD, x -> x.voiceOf(8, 0));
        Edge.refused("no VOICES", Scene::voiceless, Check.BAD, x -> x.voiceOf(0, 3));
    }
}
