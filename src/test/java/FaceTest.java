import java.lang.reflect.Constructor;
import java.lang.reflect.Field;
import java.lang.reflect.Method;
import java.lang.reflect.Modifier;
import java.nio.file.Files;
import java.nio.file.Path;
import java.util.ArrayList;
import java.util.List;
import java.util.Set;
import java.util.TreeSet;
import java.util.regex.Matcher;
import java.util.regex.Pattern;

/** The face is that of the document and no more, and the file keeps to the rules that can be seen from outside. */
public final class FaceTest {
    private static final Check check = new Check("FaceTest");
    private static final Set<String> FACE = Set.of("int sign(int)", "boolean end(int)", "int rules()", "int squads()",
        "int rule(int,int)", "int written(int)", "int team(int)", "int squad(int)", "int play(int,int,int)",
        "int move(int,int)", "int swaps(int,int)", "int bans(int,int,int)", "int given()", "int appeal(int)",
        "int decide(int,boolean,int)", "int decides(boolean)", "int pardon(int,int)", "int season()", "int may(int,int)",
        "int out(int,int)", "int misses(int,int)", "int owed(int)", "int sides(int,int,int)", "int until(int,int)",
        "int cautions(int,int)", "int risks(int,int)", "int tempts(int,int,int)", "int costs(int,int)",
        "int played(int,int)", "long plan(int)", "int returns(int)", "int behind()", "int ban(int,int)", "int open(int)",
        "int frees(int,int)", "int sum(int)", "int worst()", "int most(int)", "int longest(int)", "int points(int)",
        "int fair()", "int cards(int)", "int keeps()", "int back()", "int book(int,int)", "int told(int)", "int undo()",
        "int count(int)", "long row(int)");

    public static void main(String[] args) throws Exception {
        methods();
        otherMembers();
        source(Files.readAllLines(Path.of("src/main/java/CardsAndBans.java")));
        check.end();
    }

    private static String signature(Method m) {
        List<String> types = new ArrayList<>();
        for (Class<?> type : m.getParameterTypes()) {
            types.add(type.getName());
        }
        return m.getReturnType().getName() + " " + m.getName() + "(" + String.join(",", types) + ")";
    }

    private static void methods() {
        Set<String> found = new TreeSet<>();
        Set<String> names = new TreeSet<>();
        for (Method m : CardsAndBans.class.getDeclaredMethods()) {
            if (Modifier.isPublic(m.getModifiers())) {
                found.add(signature(m));
                names.add(m.getName());
            }
        }
        check.is("the face", found.equals(FACE), true);
        for (Class<?> c : classes()) {
            for (Method m : c.getDeclaredMethods()) {
                boolean isFace = c == CardsAndBans.class && Modifier.isPublic(m.getModifiers());
                check.is(c.getSimpleName() + "." + m.getName(), !isFace && names.contains(m.getName()), false);
                check.is("parameters of " + m.getName(), m.getParameterCount() <= 7, true);
            }
        }
    }

    private static List<Class<?>> classes() {
        List<Class<?>> all = new ArrayList<>(List.of(CardsAndBans.class.getDeclaredClasses()));
        all.add(CardsAndBans.class);
        return all;
    }

    private static void otherMembers() {
        check.is("final", Modifier.isFinal(CardsAndBans.class.getModifiers()), true);
        Constructor<?>[] constructors = CardsAndBans.class.getDeclaredConstructors();
        check.is("constructors", constructors.length, 1);
        check.is("its parameters", constructors[0].getParameterCount(), 0);
        for (Method m : CardsAndBans.class.getDeclaredMethods()) {
            int kind = m.getModifiers() & (Modifier.PUBLIC | Modifier.PRIVATE);
            check.is("kind of " + m.getName(), kind != 0, true);
        }
        for (Field f : CardsAndBans.class.getDeclaredFields()) {
            check.is("field " + f.getName(), Modifier.isPrivate(f.getModifiers()), !f.getName().equals("NONE"));
        }
        check.is("classes", classes().size() <= 12, true);
        for (Class<?> c : classes()) {
            int own = 0;
            for (Field f : c.getDeclaredFields()) {
                boolean isStatic = Modifier.isStatic(f.getModifiers());
                own += isStatic ? 0 : 1;
                check.is("static " + f.getName(), isStatic && !Modifier.isFinal(f.getModifiers()), false);
            }
            check.is("fields of " + c.getSimpleName(), own <= 20, true);
            check.is("static " + c.getSimpleName(), c == CardsAndBans.class || Modifier.isStatic(c.getModifiers()), true);
        }
    }

    private static void source(List<String> lines) {
        String all = String.join("\n", lines).replaceAll("(?s)/\\*.*?\\*/", "").replaceAll("//[^\n]*", "");
        String[] never = {"try", "catch", "finally", "synchronized", "assert", "->", "::", "hashCode", "toString", "equals",
            "instanceof", "Exact", "while", "double", "float"};
        for (String word : never) {
            Pattern p = Pattern.compile(Character.isLetter(word.charAt(0)) ? "\\b" + word + "\\b" : word);
            check.is("source has " + word, p.matcher(all).find(), false);
        }
        Matcher imports = Pattern.compile("(?m)^import (.*);$").matcher(all);
        while (imports.find()) {
            check.is(imports.group(1), Set.of("java.util.Arrays", "java.util.NoSuchElementException")
                .contains(imports.group(1)), true);
        }
        int start = 0;
        for (int i = 0; i < lines.size(); i++) {
            if (lines.get(i).matches(" +(public|private|[A-Za-z\\[\\]]+) .*\\) (throws \\w+ )?\\{")
                && !lines.get(i).matches(" +(if|for|else|switch|\\}).*")) {
                start = i;
            }
            check.is("a method of sixty lines at " + (i + 1), i - start > 60 && lines.get(i).trim().equals("}"), false);
        }
    }
}
