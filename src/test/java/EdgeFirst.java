import java.io.IOException;
import java.lang.reflect.Method;
import java.lang.reflect.Modifier;
import java.nio.charset.StandardCharsets;
import java.nio.file.Files;
import java.nio.file.Path;
import java.util.regex.Matcher;
import java.util.regex.Pattern;

/** The document's first lines: what the well is asked, clause by clause, the public face, and what is left free. */
final class EdgeFirst {
    private static final Pattern SIGNATURE = Pattern.compile("public (int|long) (\\w+)\\(([^)]*)\\)");

    private EdgeFirst() {
    }

    static void run(Path source) throws IOException {
        waterAndVoices();
        answers();
        askedByWord();
        toldBack();
        inTruth();
        calls512();
        face(Files.readString(source, StandardCharsets.UTF_8));
        notPromised();
    }

    /** DEPTH 12: by a third of 17 the VOICE and the DEEP one, by a third of 14 the STUTTERER. SHELF 0: 3, 8, 30. */
    private static WellIsAskedFirst asked() {
        WellIsAskedFirst x = new WellIsAskedFirst();
        x.voice(Check.VOICE, 1, 5);
        x.voice(Check.DEEP, 0, 5);
        x.voice(Check.STUTTERER, 2, 2);
        x.tell(0, 12);
        x.weigh(3, 1);
        Scene.row(x, 0, Check.SHORTS, 3, 8, 30);
        return x;
    }

    private static void waterAndVoices() {
        Edge.sentence(Edge.WHAT, "# WellIsAskedFirst The well is asked first:");
        Edge.holds("the class", WellIsAskedFirst.class.getName().equals("WellIsAskedFirst"));
        Edge.asked("its first answer", Scene::fresh, 10, x -> x.status(1));
        Edge.sentence(Edge.WHAT, "a shaft with water that sinks and rises,");
        WellIsAskedFirst x = asked();
        x.tell(1, 0);
        Edge.granted("it sinks", x, 15, y -> y.days(3));
        x.tell(1, 6);
        Edge.granted("it rises", x, 5, y -> y.days(2));
        Edge.sentence(Edge.WHAT, "voices by kinds and pitch that shout words of sounds down it,");
        Edge.asked("a KIND", EdgeFirst::asked, Check.STUTTERER, y -> y.voiceOf(2, 0));
        Edge.asked("a PITCH", EdgeFirst::asked, 5, y -> y.voiceOf(0, 2));
        Edge.granted("a WORD", asked(), 1, y -> y.shout(0, 3, 0));
    }

    private static void answers() {
        Edge.sentence(Edge.WHAT, "what comes back,");
        Edge.asked("3 and 5", EdgeFirst::asked, 8, x -> x.back(0, 3));
        Edge.asked("8 and three times 5", EdgeFirst::asked, 23, x -> x.echo(0, 3, 0, 1));
        Edge.sentence(Edge.WHAT, "what is lost,");
        Edge.asked("30 and 12 are 42", EdgeFirst::asked, Check.NONE, x -> x.back(0, 30));
        Edge.asked("2, 9, 16, 23, 30, 37", EdgeFirst::asked, 6, x -> x.lost(0));
        Edge.asked("none of a DEEP one", EdgeFirst::asked, 0, x -> x.lost(1));
        Edge.sentence(Edge.WHAT, "answers that are weighed,");
        Edge.asked("31 is 1 modulo 3", EdgeFirst::asked, 1, x -> x.weighed(0, 3, 0));
        Edge.asked("66 is 0", EdgeFirst::asked, 0, x -> x.weighed(0, 3, 1));
        Edge.asked("7, 7 and 20 are 34, which is 1", EdgeFirst::asked, 1, x -> x.weighed(0, 3, 2));
        Edge.asked("no WORD", EdgeFirst::asked, Check.NONE, x -> x.weighed(0, 0, 0));
    }

    private static void askedByWord() {
        Edge.sentence(Edge.WHAT, "who is heard,");
        Edge.asked("the VOICE and the STUTTERER", EdgeFirst::asked, 0b101, x -> x.heard(0, 3));
        Edge.sentence(Edge.WHAT, "on which day,");
        // With RAIN 2 a third of DEPTH and 5 becomes 4 at DEPTH 9: 7, 20 and 34 are 61.
        Edge.asked("in three DAYS", Scene.but(EdgeFirst::asked, x -> x.tell(1, 2)), 3, x -> x.when(0, 3, 1));
        Edge.asked("today", EdgeFirst::asked, 0, x -> x.when(0, 3, 0));
        Edge.sentence(Edge.WHAT, "what word gets a yes,");
        // 26 and three times 5 are 41: 1.
        Edge.asked("one SOUND", EdgeFirst::asked, 1, x -> x.ask(1, Check.NONE));
        Edge.asked("26", EdgeFirst::asked, 26, x -> x.ask(1, 0));
        Edge.sentence(Edge.WHAT, "how long it is sure,");
        // With RAIN 2, 23 and 35 are 58 tomorrow (3 is LOST), and then 66.
        Edge.asked("today and tomorrow", Scene.but(EdgeFirst::asked, x -> x.tell(1, 2)), 2, x -> x.sure(0, 3, 0));
        Edge.sentence(Edge.WHAT, "in which order suits are shouted in a day,");
        // Of 12, 13 and 14, the VOICE and the STUTTERER have YES at 12 alone, the DEEP one at none.
        Edge.asked("one YES", EdgeFirst::asked, 1, x -> x.suits(0, 3, Check.NONE));
        Edge.asked("the VOICE first", EdgeFirst::asked, 0, x -> x.suits(0, 3, 0));
        Edge.sentence(Edge.WHAT, "buckets poured and drawn by turns,");
        Edge.asked("at 12 the VOICE has YES, at 11, too: pour", EdgeFirst::asked, 0, x -> x.buckets(0, 3, 0, 1, 1));
        Edge.sentence(Edge.WHAT, "how likely a yes is by rains,");
        Edge.asked("as it is", EdgeFirst::asked, 1000000, x -> x.odds(0, 3, 0, 0, 0));
        Edge.asked("4 to 13", EdgeFirst::asked, 8500, x -> x.odds(0, 3, 0, 1, 1));
    }

    private static void toldBack() {
        WellIsAskedFirst y = asked();
        Scene.row(y, 1, Check.LONGS, 8, 23, 0, 1, 1, 0);
        Edge.sentence(Edge.WHAT, "how deep the water stands by what came back,");
        // 8 and 23 come back of 3 and 8 by a third of 15, 16, 17 alone; only at 12 is 30 LOST as well.
        Edge.due("12 alone", y.depths(0, 3, 1, 2, 0, 0), 1);
        Edge.due("12", y.depths(0, 3, 1, 2, 0, 1), 12);
        Edge.sentence(Edge.WHAT, "whose voice it was,");
        Edge.due("a VOICE's, or a CHILD's today", y.fits(0, 3, 1, 2, 0, 0), 1 << Check.VOICE | 1 << Check.CHILD);
        Edge.sentence(Edge.WHAT, "at what pitch,");
        Edge.due("3, 4, 5", y.fits(0, 3, 1, 2, 0, 1), 0b111000);
        Edge.sentence(Edge.WHAT, "what to shout next to know more,");
        Edge.due("one DEPTH is left: nothing", y.next(0, 3, 1, 2, 0), Check.NONE);
        Edge.holds("of all of them: a SOUND", y.next(0, 0, 1, 0, 0) >= 0);
        Edge.sentence(Edge.WHAT, "whether it is somebody below who answers,");
        Edge.due("the well can answer so", y.below(0, 3, 1, 2, 0), 0);
        Edge.due("the DEEP one has three SOUNDS back", y.below(0, 3, 1, 2, 1), 1);
        Edge.sentence(Edge.WHAT, "told days judged,");
        y.set(1, 0, 0);
        y.set(1, 1, 1);
        y.set(1, 2, 2);
        y.set(1, 3, 1);
        Edge.due("both are so", y.judge(0, 3, 1, 2), Check.NONE);
        y.set(1, 3, 0);
        Edge.due("the second isn't", y.judge(0, 3, 1, 2), 1);
    }

    private static void inTruth() {
        Edge.sentence(Edge.WHAT, "wells read from texts,");
        WellIsAskedFirst x = new WellIsAskedFirst();
        Scene.feed(x, "voice 1 0 5; depth 12");
        Edge.granted("two STATEMENTS", x, 2, y -> y.well());
        Edge.due("its VOICE", x.status(0), 1);
        Edge.due("its DEPTH", x.status(1), 12);
        Edge.sentence(Edge.WHAT, "shouts in truth and days by draws.");
        WellIsAskedFirst z = asked();
        Edge.granted("a SHOUT", z, 1, y -> y.shout(0, 3, 0));
        Edge.due("it is counted", z.status(6), 1);
        z.drawn(0, 3, 2);
        Edge.due("two more", z.status(6) + z.status(7), 3);
        Edge.due("two DAYS", z.status(3), 2);
    }

    private static void calls512() {
        Edge.sentence(Edge.WHAT, "An object is used for at most 512 calls after it has been made;");
        WellIsAskedFirst x = new WellIsAskedFirst();
        x.row(7, Check.LONGS, 40);
        for (int call = 2; call <= 510; call++) {
            x.set(7, call % 40, call);
        }
        Edge.due("the 511th call", x.voice(5, 0, 9), 0);
        Edge.due("the 512th call", x.element(7, 510 % 40), 510);
        Edge.sentence(Edge.WHAT, "what later calls answer is free.");
        Edge.holds("but they answer", x.element(7, 0) + x.status(0) + x.days(60) + x.well() < Long.MAX_VALUE);
    }

    private static void face(String source) {
        Edge.sentence(Edge.FACE, "public final class WellIsAskedFirst {");
        Edge.holds("final", Modifier.isFinal(WellIsAskedFirst.class.getModifiers()));
        Edge.holds("public", Modifier.isPublic(WellIsAskedFirst.class.getModifiers()));
        Edge.sentence(Edge.FACE, "public static final int NONE = -1;");
        Edge.due("NONE", WellIsAskedFirst.NONE, -1);
        Edge.sentence(Edge.FACE, "public WellIsAskedFirst();");
        Edge.holds("a new one is another one", new WellIsAskedFirst() != new WellIsAskedFirst());
        // The names of what a method takes are seen in the source alone.
        Matcher signature = SIGNATURE.matcher(source);
        while (signature.find()) {
            Edge.sentence(Edge.FACE, signature.group() + ";");
            Edge.holds("a method is there", has(signature.group(1), signature.group(2), signature.group(3)));
        }
        Edge.sentence(Edge.FACE, "public int set(int s, int i, long v);");
        WellIsAskedFirst x = new WellIsAskedFirst();
        x.row(0, Check.LONGS, 2);
        Edge.granted("the least long", x, 1, y -> y.set(0, 0, Long.MIN_VALUE));
        Edge.granted("the greatest long", x, 1, y -> y.set(0, 1, Long.MAX_VALUE));
        Edge.sentence(Edge.FACE, "public long element(int s, int i);");
        Edge.due("the least long", x.element(0, 0), Long.MIN_VALUE);
        Edge.due("the greatest long", x.element(0, 1), Long.MAX_VALUE);
    }

    private static boolean has(String answer, String name, String numbers) {
        int want = numbers.isEmpty() ? 0 : numbers.split(",").length;
        for (Method method : WellIsAskedFirst.class.getDeclaredMethods()) {
            if (method.getName().equals(name) && Modifier.isPublic(method.getModifiers())) {
                return method.getReturnType().getName().equals(answer) && method.getParameterCount() == want;
            }
        }
        return false;
    }

    private static void notPromised() {
        Edge.sentence(Edge.NOT_PROMISED, "How the state is held inside the object is free, as are the speed of each call, "
            + "the text of toString and the behaviour of equals and hashCode.");
        for (Method method : WellIsAskedFirst.class.getDeclaredMethods()) {
            String name = method.getName();
            Edge.holds(name, !name.equals("toString") && !name.equals("equals") && !name.equals("hashCode"));
        }
        Edge.sentence(Edge.NOT_PROMISED, "Use of one object from several threads at once is not promised to be safe.");
        WellIsAskedFirst x = asked();
        WellIsAskedFirst other = new WellIsAskedFirst();
        Edge.due("two objects hold nothing in common: VOICES", other.status(0), 0);
        Edge.due("two objects hold nothing in common: SHELVES", other.holds(0), Check.NONE);
        other.tell(0, 40);
        Edge.due("two objects hold nothing in common: DEPTH", x.status(1), 12);
        Edge.sentence(Edge.NOT_PROMISED, "Nothing is promised beyond the answers and state changes described above, and nothing "
            + "about an object after its 512th call.");
        Edge.due("nothing beyond is there: methods", publicMethods(), FaceTest.FACE.length);
        Edge.due("nothing beyond is there: constants", WellIsAskedFirst.class.getFields().length, 1);
    }

    private static int publicMethods() {
        int count = 0;
        for (Method method : WellIsAskedFirst.class.getDeclaredMethods()) {
            count += Modifier.isPublic(method.getModifiers()) ? 1 : 0;
        }
        return count;
    }
}
