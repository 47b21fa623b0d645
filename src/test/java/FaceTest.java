import java.io.IOException;
import java.lang.reflect.Constructor;
import java.lang.reflect.Field;
import java.lang.reflect.Method;
import java.lang.reflect.Modifier;
import java.nio.charset.StandardCharsets;
import java.nio.file.Files;
import java.nio.file.Path;
import java.util.ArrayList;
import java.util.Arrays;
import java.util.List;
import java.util.Set;
import java.util.TreeSet;
import java.util.regex.Matcher;
import java.util.regex.Pattern;

/** The public face as the document has it, and what of LANGUAGE.md can be seen from outside. Takes the source's path. */
public final class FaceTest {
    static final String[] FACE = {
        "int row int int int", "int set int int long", "int copy int int int int int", "long element int int",
        "int holds int", "int show int int", "int says int int", "int voice int int int", "int pitch int int",
        "int tell int int", "int weigh int int", "int feed int", "int wipe", "int well", "int voiceOf int int",
        "int back int int", "int lost int", "int echo int int int int", "int sum int int int",
        "int weighed int int int", "int heard int int", "int when int int int", "int sure int int int",
        "int yeses int int int int", "int tuned int int int", "int ends int int int", "int ask int int",
        "int depths int int int int int int", "int fits int int int int int int", "int below int int int int int",
        "int next int int int int int", "int suits int int int", "int buckets int int int int int",
        "int odds int int int int int", "int ahead int", "int rains int int int int", "int fairest int int",
        "int alike int int int int", "int less int int int", "int best int int int", "int mute int int",
        "int like int int int", "int sinks int", "int plain int", "int twins", "int ofKind int",
        "int judge int int int int", "int shout int int int", "int days int", "int drawn int int int",
        "int seed int", "int image", "int again", "int status int",
    };

    public static void main(String[] args) throws IOException {
        faceIsJustThat();
        constantsAndConstructor();
        innerClassesAreStaticAndNotPublic();
        noStaticState();
        sourceKeepsToTheLanguage(args[0]);
        Check.end("FaceTest");
    }

    private static void faceIsJustThat() {
        Set<String> want = new TreeSet<>(Arrays.asList(FACE));
        Set<String> got = new TreeSet<>();
        for (Method method : WellIsAskedFirst.class.getDeclaredMethods()) {
            if (Modifier.isPublic(method.getModifiers())) {
                StringBuilder text = new StringBuilder(method.getReturnType() + " " + method.getName());
                for (Class<?> type : method.getParameterTypes()) {
                    text.append(' ').append(type);
                }
                got.add(text.toString());
                Check.holds("no static method: " + text, !Modifier.isStatic(method.getModifiers()));
            } else {
                Check.holds("private: " + method, Modifier.isPrivate(method.getModifiers()));
            }
        }
        Check.holds("the face is " + want + ", not " + got, want.equals(got));
        Check.holds("final", Modifier.isFinal(WellIsAskedFirst.class.getModifiers()));
        Check.holds("public", Modifier.isPublic(WellIsAskedFirst.class.getModifiers()));
    }

    private static void constantsAndConstructor() {
        for (Field field : WellIsAskedFirst.class.getDeclaredFields()) {
            boolean isNone = field.getName().equals("NONE");
            Check.holds("field " + field, isNone == Modifier.isPublic(field.getModifiers()));
            Check.holds("field " + field, isNone || Modifier.isPrivate(field.getModifiers()));
        }
        Check.due("NONE", WellIsAskedFirst.NONE, -1);
        Constructor<?>[] constructors = WellIsAskedFirst.class.getDeclaredConstructors();
        Check.due("constructors", constructors.length, 1);
        Check.holds("public constructor", Modifier.isPublic(constructors[0].getModifiers()));
        Check.due("its parameters", constructors[0].getParameterCount(), 0);
    }

    private static void innerClassesAreStaticAndNotPublic() {
        Class<?>[] inner = WellIsAskedFirst.class.getDeclaredClasses();
        Check.holds("some twelve classes at most", inner.length < 12);
        Set<String> names = new TreeSet<>();
        for (String method : FACE) {
            names.add(method.split(" ")[1]);
        }
        for (Class<?> type : inner) {
            Check.holds("static: " + type, Modifier.isStatic(type.getModifiers()));
            Check.holds("not public: " + type, !Modifier.isPublic(type.getModifiers()));
            for (Method method : type.getDeclaredMethods()) {
                Check.holds("a name of its own: " + method, !names.contains(method.getName()));
                Check.holds("seven parameters at most: " + method, method.getParameterCount() <= 7);
            }
        }
    }

    private static void noStaticState() {
        List<Class<?>> types = new ArrayList<>(Arrays.asList(WellIsAskedFirst.class.getDeclaredClasses()));
        types.add(WellIsAskedFirst.class);
        for (Class<?> type : types) {
            int own = 0;
            for (Field field : type.getDeclaredFields()) {
                if (Modifier.isStatic(field.getModifiers())) {
                    Check.holds("a constant: " + field, Modifier.isFinal(field.getModifiers()));
                    Check.holds("a number: " + field, field.getType().isPrimitive());
                } else {
                    own++;
                }
            }
            Check.holds("some twenty fields at most: " + type, own <= 20);
        }
    }

    private static void sourceKeepsToTheLanguage(String path) throws IOException {
        String source = Files.readString(Path.of(path), StandardCharsets.UTF_8);
        Check.holds("signs 1 to 127 alone", source.chars().allMatch(c -> c >= 1 && c <= 127));
        String code = source.replaceAll("(?s)/\\*.*?\\*/", " ").replaceAll("//[^\n]*", " ");
        String[] banned = {"throw", "throws", "try", "catch", "synchronized", "assert", "package", "native",
            "equals", "hashCode", "toString", "Exact", "System.out", "nanoTime", "currentTimeMillis", "Random",
            "Thread", "NaN", "var"};
        for (String word : banned) {
            Check.holds("no " + word, !Pattern.compile("\\b" + Pattern.quote(word) + "\\b").matcher(code).find());
        }
        Check.holds("no lambda", !code.contains("->"));
        Check.holds("no method reference", !code.contains("::"));
        Matcher imports = Pattern.compile("import ([^;]*);").matcher(code);
        while (imports.find()) {
            Check.holds("import " + imports.group(1), imports.group(1).equals("java.util.Arrays"));
        }
        Matcher made = Pattern.compile("\\bnew \\w+").matcher(code);
        while (made.find()) {
            int line = code.lastIndexOf('\n', made.start());
            String before = code.substring(line + 1, made.start());
            Check.holds("made once, in a field: " + before + made.group(), before.contains("private final"));
        }
    }
}
