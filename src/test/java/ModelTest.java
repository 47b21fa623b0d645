import java.lang.reflect.InvocationTargetException;
import java.lang.reflect.Method;
import java.util.Arrays;
import java.util.HashMap;
import java.util.Map;
import java.util.Random;
import java.util.TreeMap;

/** All promises: long runs of calls, drawn from fixed seeds, answered by the class just as by the Model. */
public final class ModelTest {
    /** Each call with what its arguments are. */
    private static final String[] CALLS = {
        "row s sort size", "set s place value", "copy s s place place count", "element s place", "holds s",
        "show s shown", "says s kind", "voice kind a pitch", "pitch voice pitch", "tell what3 told", "weigh w r",
        "feed letter", "wipe", "well", "voiceOf voice what4", "back voice sound", "lost voice", "echo s n voice i",
        "sum s n voice", "weighed s n voice", "heard s n", "when s n voice", "sure s n voice",
        "yeses s n voice what2", "tuned s n voice", "ends s n voice", "ask voice i",
        "depths s n p m voice what3", "fits s n p m voice what2", "below s n p m voice", "next s n p m voice",
        "suits s n i", "buckets s n voice turns what2", "odds s n voice t3 what2", "ahead d200",
        "rains s n voice d60", "fairest s n", "alike s n voice voice", "less s n voice", "best s n what2",
        "mute s n", "like s n voice", "sinks depth", "plain voice", "twins", "ofKind kind", "judge s n p twos",
        "shout s n voice", "days d60", "drawn s n d40", "seed any", "image", "again", "status what17",
    };

    private static final Map<String, Method> OF_CLASS = new HashMap<>();
    private static final Map<String, Method> OF_MODEL = new HashMap<>();
    private static final Map<String, int[]> OUTCOMES = new TreeMap<>();

    private final Random random;
    private final String name;
    private final WellIsAskedFirst x = new WellIsAskedFirst();
    private final Model model = new Model();
    private int calls;
    private final StringBuilder told = new StringBuilder();

    private ModelTest(String name, long seed) {
        this.name = name;
        random = new Random(seed);
    }

    public static void main(String[] args) throws ReflectiveOperationException {
        for (Method method : WellIsAskedFirst.class.getMethods()) {
            OF_CLASS.put(method.getName(), method);
        }
        for (Method method : Model.class.getDeclaredMethods()) {
            OF_MODEL.put(method.getName(), method);
        }
        for (int run = 0; run < 1000; run++) {
            new ModelTest("run " + run, run).runOfCalls();
        }
        for (int run = 0; run < 400; run++) {
            new ModelTest("tape " + run, 10000 + run).runOfTapes();
        }
        for (String call : CALLS) {
            String method = call.split(" ")[0];
            int[] outcomes = OUTCOMES.getOrDefault(method, new int[2]);
            Check.holds(method + " was granted and refused: " + Arrays.toString(outcomes), outcomes[0] > 100
                && (outcomes[1] > 20 || isNeverRefused(method)));
        }
        Check.end("ModelTest");
    }

    private static boolean isNeverRefused(String method) {
        return Arrays.asList("element", "holds", "wipe", "twins", "seed", "image", "status").contains(method);
    }

    /** A long run on one object: what is there is laid first, then anything goes. */
    private void runOfCalls() throws ReflectiveOperationException {
        int voices = random.nextInt(9);
        for (int i = 0; i < voices; i++) {
            call("voice", random.nextInt(6), random.nextInt(10), random.nextInt(21));
        }
        call("tell", 0, random.nextInt(41));
        call("tell", 1, random.nextInt(3));
        call("tell", 2, random.nextInt(300));
        int weight = 2 + random.nextInt(8);
        call("weigh", weight, random.nextInt(weight));
        for (int s = 0; s < 5; s++) {
            layWord(s);
        }
        while (calls < 440) {
            if (random.nextInt(8) == 0) {
                layEcho();
            } else if (random.nextInt(30) == 0) {
                layLog();
            } else if (random.nextInt(20) == 0) {
                layWord(random.nextInt(8));
            } else {
                anyCall();
            }
        }
        lookAtAll();
    }

    /** What refusals and questions must not have changed. */
    private void lookAtAll() throws ReflectiveOperationException {
        for (int what = 0; what <= 16; what++) {
            call("status", what);
        }
        for (int s = 0; s < 8; s++) {
            call("holds", s);
            call("element", s, random.nextInt(40));
        }
        for (int voice = 0; voice < model.status(0); voice++) {
            call("voiceOf", voice, 2);
        }
    }

    private void layWord(int s) throws ReflectiveOperationException {
        int n = random.nextInt(14);
        call("row", s, random.nextInt(4), n);
        for (int i = 0; i < n; i++) {
            call("set", s, i, random.nextInt(60) == 0 ? 40 : random.nextInt(40));
        }
    }

    /** An ECHO that a VOICE may have at some DEPTH, or nearly so, and what is asked by it. */
    private void layEcho() throws ReflectiveOperationException {
        int voices = model.status(0);
        int s = random.nextInt(5);
        int n = random.nextInt(4);
        if (voices == 0 || calls > 400) {
            anyCall();
            return;
        }
        int voice = random.nextInt(voices);
        long depth = call("tell", 0, random.nextInt(41));
        long m = call("echo", s, n, voice, -1);
        call("row", 6, random.nextInt(4), 13);
        for (int i = 0; i < m; i++) {
            long sound = call("echo", s, n, voice, i);
            call("set", 6, i, random.nextInt(20) == 0 ? random.nextInt(41) : sound);
        }
        if (depth >= 0) {
            call("tell", 0, (int) depth);
        }
        int size = (int) Math.max(0, m);
        call("depths", s, n, 6, size, voice, random.nextInt(3));
        call("fits", s, n, 6, size, voice, random.nextInt(2));
        call("below", s, n, 6, size, voice);
        call("next", s, n, 6, size, voice);
    }

    private void layLog() throws ReflectiveOperationException {
        int voices = model.status(0);
        int s = random.nextInt(5);
        int n = random.nextInt(13);
        if (voices == 0 || calls > 360) {
            anyCall();
            return;
        }
        call("image");
        call("row", 7, random.nextInt(4), 40);
        int twos = random.nextInt(21);
        for (int two = 0; two < twos; two++) {
            int voice = random.nextInt(voices);
            call("set", 7, 2 * two, voice);
            call("set", 7, 2 * two + 1, random.nextInt(40) == 0 ? random.nextInt(3) : call("weighed", s, n, voice));
            call("days", 1);
        }
        call("again");
        call("judge", s, n, 7, twos);
    }

    private void anyCall() throws ReflectiveOperationException {
        String[] parts = CALLS[random.nextInt(CALLS.length)].split(" ");
        long[] args = new long[parts.length - 1];
        for (int i = 0; i < args.length; i++) {
            args[i] = random.nextInt(15) == 0 ? oddNumber() : number(parts[i + 1]);
        }
        if (parts[0].equals("weigh") && random.nextInt(10) > 0) {
            args[1] = args[0] > 0 ? random.nextInt((int) Math.min(20, args[0])) : 0;
        }
        if (parts[0].equals("tell") && args[0] >= 0 && args[0] <= 2 && random.nextInt(10) > 0) {
            args[1] = random.nextInt(new int[] {41, 10, 10000}[(int) args[0]]);
        }
        if (parts[0].equals("says") && random.nextInt(3) == 0) {
            call("show", args[0], number("voice"));
        }
        call(parts[0], args);
    }

    private int oddNumber() {
        int[] odd = {-1, -2, 0, 1, 2, 3, 4, 5, 6, 7, 8, 9, 10, 11, 12, 13, 14, 20, 21, 40, 41, 60, 61, 200, 201, 255,
            256, 9999, 10000, Integer.MAX_VALUE, Integer.MIN_VALUE, Integer.MIN_VALUE + 1};
        return odd[random.nextInt(odd.length)];
    }

    private long number(String what) {
        int voices = Math.max(1, model.status(0));
        switch (what) {
            case "s":
                return random.nextInt(8) < 6 ? random.nextInt(5) : random.nextInt(8);
            case "p":
                return 5 + random.nextInt(3);
            case "n":
                return random.nextInt(3) > 0 ? random.nextInt(6) : random.nextInt(13);
            case "m":
                return random.nextInt(3) > 0 ? random.nextInt(4) : random.nextInt(14);
            case "voice":
                return random.nextInt(voices);
            case "shown":
                return random.nextInt(voices + 1) - 1;
            case "value":
                return random.nextInt(4) > 0 ? random.nextInt(40) : random.nextLong();
            case "any":
                return random.nextInt();
            case "i":
                return random.nextInt(5) - 1;
            case "letter":
                return random.nextInt(256);
            default:
                return random.nextInt(LIMITS.get(what));
        }
    }

    private static final Map<String, Integer> LIMITS = new HashMap<>();

    static {
        Object[] limits = {"sort", 5, "size", 41, "place", 8, "count", 6, "kind", 6, "a", 10, "pitch", 21, "told", 41,
            "w", 11, "r", 9, "what2", 2, "what3", 3, "what4", 4, "what17", 18, "sound", 40, "turns", 9, "t3", 4,
            "d200", 201, "d60", 61, "d40", 41, "depth", 41, "twos", 21};
        for (int i = 0; i < limits.length; i += 2) {
            LIMITS.put((String) limits[i], (Integer) limits[i + 1]);
        }
    }

    /** Texts that are WELLS or nearly so, until the calls are spent. */
    private void runOfTapes() throws ReflectiveOperationException {
        int voices = random.nextInt(9);
        for (int i = 0; i < voices; i++) {
            call("voice", random.nextInt(6), random.nextInt(10), random.nextInt(21));
        }
        while (calls < 240) {
            String text = text();
            for (int i = 0; i < text.length() && calls < 470; i++) {
                call("feed", text.charAt(i));
            }
            call("well");
            for (int what = 0; what <= 12; what++) {
                call("status", what);
            }
            for (int voice = 0; voice < model.status(0); voice++) {
                call("voiceOf", voice, random.nextInt(3));
            }
        }
    }

    private String text() {
        StringBuilder text = new StringBuilder();
        int statements = 1 + random.nextInt(6);
        for (int i = 0; i < statements; i++) {
            text.append(i == 0 ? "" : blanks() + ";" + blanks()).append(statement());
        }
        if (random.nextInt(3) == 0) {
            int place = random.nextInt(text.length());
            text.setCharAt(place, "a0 ;9Z{\u00e9z\u0000".charAt(random.nextInt(10)));
        }
        if (random.nextInt(4) == 0) {
            text.setLength(random.nextInt(text.length() + 1));
        }
        return text.append(blanks()).toString();
    }

    private String blanks() {
        return "   ".substring(random.nextInt(4));
    }

    private String statement() {
        String[] shapes = {"voice 6 10 21", "pitch 8 21", "depth 41", "rain 10", "day 999", "weigh 9 9"};
        StringBuilder text = new StringBuilder();
        for (String part : shapes[random.nextInt(shapes.length)].split(" ")) {
            if (text.length() == 0) {
                text.append(part).append(blanks());
            } else {
                int most = Integer.parseInt(part);
                int value = random.nextInt(most + (random.nextInt(12) == 0 ? 2 : 0));
                String number = random.nextInt(15) == 0 ? "00" + value : "" + value;
                text.append(number).append(' ').append(blanks());
            }
        }
        return text.toString();
    }

    private long call(String method, long... args) throws ReflectiveOperationException {
        calls++;
        told.append(told.length() == 0 ? "" : "; ").append(method).append(Arrays.toString(args));
        Object[] given = new Object[args.length];
        Class<?>[] types = OF_CLASS.get(method).getParameterTypes();
        for (int i = 0; i < args.length; i++) {
            given[i] = types[i] == long.class ? (Object) args[i] : (Object) (int) args[i];
        }
        long got = ((Number) OF_CLASS.get(method).invoke(x, given)).longValue();
        int refusals = sumOfRefusals();
        long want;
        try {
            want = ((Number) OF_MODEL.get(method).invoke(model, given)).longValue();
        } catch (InvocationTargetException e) {
            if (!(e.getCause() instanceof Model.No no)) {
                throw e;
            }
            want = model.refuse(no);
        }
        OUTCOMES.computeIfAbsent(method, key -> new int[2])[sumOfRefusals() > refusals ? 1 : 0]++;
        if (got != want) {
            System.out.println(name + ": " + told);
        }
        Check.due(name + ", call " + calls + ", " + method + Arrays.toString(args), got, want);
        return want;
    }

    private int sumOfRefusals() {
        int sum = 0;
        for (int what = 12; what <= 16; what++) {
            sum += model.status(what);
        }
        return sum;
    }
}
