import java.io.IOException;
import java.lang.reflect.Constructor;
import java.lang.reflect.Field;
import java.lang.reflect.Method;
import java.lang.reflect.Modifier;
import java.nio.file.Files;
import java.nio.file.Path;
import java.util.ArrayList;
import java.util.Arrays;
import java.util.HashMap;
import java.util.List;
import java.util.Map;
import java.util.Set;
import java.util.TreeSet;
import java.util.regex.Matcher;
import java.util.regex.Pattern;

/** Holds the program against the rules of ../shared/LANGUAGE.md that a reader of its text can see. */
public final class LanguageTest {
    private static final String FACE = "int write(int,long);int wipe();int fault();int room();int about(int,int);"
            + "int mood(int);int up(int,int);int mean(int);int quiet(int);long hands(int,int,boolean);"
            + "long given(int,int,int,boolean);int likely(int,int);long taken(int,int,int,boolean);"
            + "long right(int,int,boolean);int mostly(int,int);int await(int,int);int raised(int,int);"
            + "int silent(int,int);long seed(long);int ask(int,int,int,boolean);int lesson(int);"
            + "int tape(int,int);int untape();int came(int);long due(int,boolean);long luck(int,boolean);"
            + "long boards(int,int,int,int,boolean);int span(int,int,int,boolean);int trial(int,boolean);"
            + "int untrial();long chance(boolean);long until(int,boolean);int keep(int);int again(int);int count(int)";
    private static final Set<String> NO_CALLS = Set.of("if", "for", "while", "switch", "return");

    private static final Check check = new Check();

    public static void main(String[] args) throws IOException {
        String source = Files.readString(Path.of(args[0]));
        String code = source.replaceAll("(?s)/\\*.*?\\*/", "").replaceAll("//[^\n]*", "");
        face();
        nested();
        words(code);
        madeInConstructorsAlone(code);
        methods(code);
        check.end();
    }

    private static void is(String what, boolean holds) {
        check.due(what, holds ? 1 : 0, 1);
    }

    private static void face() {
        Set<String> want = new TreeSet<>(Arrays.asList(FACE.split(";")));
        Set<String> got = new TreeSet<>();
        for (Method method : AHandGoesUp.class.getDeclaredMethods()) {
            if (!Modifier.isPrivate(method.getModifiers())) {
                List<String> types = new ArrayList<>();
                for (Class<?> type : method.getParameterTypes()) {
                    types.add(type.getName());
                }
                got.add(method.getReturnType() + " " + method.getName() + "(" + String.join(",", types) + ")");
            }
        }
        is("the face " + got, got.equals(want));
        List<String> open = new ArrayList<>();
        for (Field field : AHandGoesUp.class.getDeclaredFields()) {
            if (!Modifier.isPrivate(field.getModifiers())) {
                open.add(field.getName());
            }
        }
        is("the constants " + open, open.equals(List.of("UNKNOWN", "OUTSIDE", "STATE", "FULL", "NONE")));
        Constructor<?>[] constructors = AHandGoesUp.class.getDeclaredConstructors();
        is("one public constructor", constructors.length == 1 && Modifier.isPublic(constructors[0].getModifiers()));
        is("public and final", AHandGoesUp.class.getModifiers() == (Modifier.PUBLIC | Modifier.FINAL));
    }

    private static void nested() {
        Class<?>[] inside = AHandGoesUp.class.getDeclaredClasses();
        is("some twelve classes", inside.length <= 11);
        Set<String> publicNames = new TreeSet<>();
        for (String method : FACE.split(";")) {
            publicNames.add(method.replaceAll(".* |\\(.*", ""));
        }
        for (Class<?> one : inside) {
            is(one + " is static", Modifier.isStatic(one.getModifiers()));
            is(one + " is not open", !Modifier.isPublic(one.getModifiers()) && !Modifier.isProtected(one.getModifiers()));
            long fields = Arrays.stream(one.getDeclaredFields()).filter(f -> !Modifier.isStatic(f.getModifiers())).count();
            is(one + " has some twenty fields", fields <= 20);
            for (Method method : one.getDeclaredMethods()) {
                is(method + " bears no public name", !publicNames.contains(method.getName()));
            }
        }
    }

    private static void words(String code) {
        for (String word : List.of("throw", "throws", "try", "catch", "synchronized", "assert", "import static",
                "System", "Random", "Thread", "Object", "String", "null", "native", "volatile", "this::", "var")) {
            is("no word " + word, !Pattern.compile("\\b" + word + "\\b").matcher(code).find());
        }
        for (String sign : List.of("->", "::", "\"", "Exact", "instanceof")) {
            is("no sign " + sign, !code.contains(sign));
        }
        is("one import", code.split("import ").length == 2 && code.contains("import java.util.Arrays;"));
        // rows are reached through at, put, get and set alone, each of which looks at the index first
        is("rows are looked at first", code.split("\\b(?!int\\b|long\\b)[a-z]\\w*\\[[^\\]]").length - 1 == 4);
    }

    private static void madeInConstructorsAlone(String code) {
        for (String line : code.split("\n")) {
            is("made with the object: " + line, !line.contains("new ") || line.matches(" +private final .*"));
        }
    }

    private static void methods(String code) {
        Map<String, Set<String>> calls = new HashMap<>();
        Matcher heads = Pattern.compile("(?m)^( +)(?:public|private)[a-z ]* (\\w+)\\(([^)]*)\\) \\{$").matcher(code);
        while (heads.find()) {
            String name = heads.group(2);
            int end = code.indexOf("\n" + heads.group(1) + "}\n", heads.start());
            String body = code.substring(heads.end(), end);
            is(name + " is short", body.split("\n").length <= 60);
            is(name + " takes at most seven", heads.group(3).split(",").length <= 7);
            Matcher called = Pattern.compile("(?<!Arrays\\.)(?<!Math\\.)(?<!Integer\\.)\\b([a-z]\\w*)\\(").matcher(body);
            while (called.find()) {
                if (!NO_CALLS.contains(called.group(1))) {
                    calls.computeIfAbsent(name, n -> new TreeSet<>()).add(called.group(1));
                }
            }
        }
        is("methods were found", calls.size() > 50);
        for (String name : calls.keySet()) {
            is(name + " goes at most eight deep", depth(name, calls, 0) <= 8);
        }
    }

    /** Methods of one name count as one: so this is never too little. */
    private static int depth(String name, Map<String, Set<String>> calls, int open) {
        int deepest = 0;
        if (open > 20) {
            return open;
        }
        for (String called : calls.getOrDefault(name, Set.of())) {
            deepest = Math.max(deepest, depth(called, calls, open + 1));
        }
        return 1 + deepest;
    }
}
