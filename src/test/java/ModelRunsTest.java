import java.lang.reflect.InvocationTargetException;
import java.lang.reflect.Method;
import java.lang.reflect.Modifier;
import java.util.ArrayList;
import java.util.Arrays;
import java.util.Comparator;
import java.util.HashMap;
import java.util.List;
import java.util.Map;
import java.util.Random;

/** Random runs of 512 calls: each answer, and the whole ROW behind it, is that of the Model. */
public final class ModelRunsTest {
    private static final int RUNS = 1500;
    private static final int CALLS = 512;
    private static final List<String> READERS = List.of("rules", "squads", "play", "given", "plan", "returns", "behind");

    private final Random random;
    private final CardsAndBans x = new CardsAndBans();
    private final Model model = new Model();
    private final List<String> log = new ArrayList<>();
    private final Map<String, Integer> good;
    private final int rareSquads;
    /** In a calm run nothing goes back, so that BANS add up to a hundred. */
    private final boolean calm;
    private int cup;
    private int team;
    private int rival;

    private ModelRunsTest(long seed, Map<String, Integer> good) {
        random = new Random(seed);
        calm = random.nextInt(3) == 0;
        rareSquads = 5 + random.nextInt(calm ? 3000 : 300);
        this.good = good;
    }

    public static void main(String[] args) throws Exception {
        Map<String, Integer> good = new HashMap<>();
        List<Method> all = faceOfClass();
        for (int run = 0; run < RUNS; run++) {
            ModelRunsTest test = new ModelRunsTest(run, good);
            if (!test.runs(all)) {
                System.out.println("run " + run + ":");
                int from = Math.max(0, test.log.size() - 40);
                test.log.subList(from, test.log.size()).forEach(System.out::println);
                System.exit(1);
            }
        }
        for (Method m : all) {
            if (good.getOrDefault(m.getName(), 0) == 0) {
                System.out.println("ModelRunsTest: no run had a good answer of " + m.getName());
                System.exit(1);
            }
        }
        System.out.println("ModelRunsTest: " + RUNS * CALLS + " answers, 0 wrong");
    }

    private static List<Method> faceOfClass() {
        List<Method> all = new ArrayList<>(Arrays.asList(CardsAndBans.class.getDeclaredMethods()));
        all.removeIf(m -> !Modifier.isPublic(m.getModifiers()));
        all.sort(Comparator.comparing(Method::getName));
        return all;
    }

    private boolean runs(List<Method> all) throws Exception {
        for (int i = 0; i < CALLS; i++) {
            Method m = choose(all, i);
            cup = random.nextInt(4);
            team = random.nextInt(4);
            rival = (team + 1 + random.nextInt(3)) % 4;
            if (READERS.contains(m.getName())) {
                putText(textFor(m.getName()));
            }
            if (!asks(m, argumentsFor(m))) {
                return false;
            }
        }
        return true;
    }

    private Method choose(List<Method> all, int i) throws Exception {
        if (i == 0 && random.nextInt(20) > 0) {
            return CardsAndBans.class.getMethod("squads");
        }
        if (i == 1 && random.nextInt(20) > 0) {
            return CardsAndBans.class.getMethod("rules");
        }
        if (random.nextInt(5) == 0) {
            return CardsAndBans.class.getMethod("play", int.class, int.class, int.class);
        }
        Method m = all.get(random.nextInt(all.size()));
        boolean again = m.getName().equals("squads") && random.nextInt(rareSquads) > 0;
        boolean goesBack = calm && (m.getName().equals("back") || m.getName().equals("undo"));
        return again || goesBack ? CardsAndBans.class.getMethod("given") : m;
    }

    private boolean asks(Method m, Object[] arguments) throws Exception {
        Object got = answer(m, x, arguments);
        Object due = answer(Model.class.getMethod(m.getName(), m.getParameterTypes()), model, arguments);
        boolean same = got.equals(due) && sameRows() && x.count(10) == model.count(10) && x.count(5) == model.count(5);
        log.add(m.getName() + Arrays.toString(arguments) + " answered " + got + ", due is " + due
            + (same ? "" : " (or the rows differ)"));
        if (!(got instanceof Number) || ((Number) got).longValue() >= 0) {
            good.merge(m.getName(), 1, Integer::sum);
        }
        return same;
    }

    private static Object answer(Method m, Object on, Object[] arguments) throws Exception {
        try {
            return m.invoke(on, arguments);
        } catch (InvocationTargetException e) {
            return "throws." + e.getCause().getClass().getSimpleName();
        }
    }

    private boolean sameRows() {
        if (x.count(9) != model.count(9)) {
            return false;
        }
        for (int i = 0; i < x.count(9); i++) {
            if (x.row(i) != model.row(i)) {
                return false;
            }
        }
        return true;
    }

    private Object[] argumentsFor(Method m) {
        Object[] arguments = new Object[m.getParameterCount()];
        for (int i = 0; i < arguments.length; i++) {
            arguments[i] = m.getParameterTypes()[i] == boolean.class ? (Object) random.nextBoolean() : number(m.getName(), i);
        }
        return arguments;
    }

    private int number(String name, int place) {
        int chance = random.nextInt(60);
        if (chance < 3) {
            return new int[] {Integer.MIN_VALUE, Integer.MAX_VALUE, -1 - random.nextInt(4)}[chance];
        }
        boolean ofBan = List.of("ban", "appeal", "decide", "pardon").contains(name) && place == 0;
        if (ofBan && model.count(1) > 0) {
            return Math.max(0, model.count(1) - random.nextInt(6));
        }
        if (name.equals("sign")) {
            return random.nextInt();
        }
        if (name.equals("play") && chance < 57) {
            return new int[] {cup, team, rival}[place];
        }
        boolean ofMany = List.of("tempts", "costs", "book", "row", "written", "end").contains(name);
        return ofMany && random.nextBoolean() ? random.nextInt(45) : random.nextInt(chance < 6 ? 13 : chance < 30 ? 7 : 4);
    }

    private void putText(String text) {
        x.end(0);
        model.end(0);
        for (int i = 0; i < text.length() && i < 200; i += 4) {
            int v = 0;
            for (int k = i; k < i + 4; k++) {
                v = v << 8 | (k < text.length() ? text.charAt(k) : 0);
            }
            x.sign(v);
            model.sign(v);
        }
        x.end(text.length());
        model.end(text.length());
        log.add("THE TEXT is " + text);
    }

    private String textFor(String name) {
        StringBuilder text = new StringBuilder();
        int parts = random.nextInt(random.nextInt(8) == 0 ? 40 : 5);
        switch (name) {
            case "rules":
                rulesText(text);
                break;
            case "squads":
                for (int i = random.nextInt(13); i > 0; i--) {
                    text.append(random.nextInt(4));
                }
                break;
            case "play":
                for (int i = 0; i < parts; i++) {
                    text.append(i == 0 ? "" : ",").append(random.nextInt(4) == 0 ? "r" : "y").append(playerOfMatch());
                }
                break;
            case "given":
                for (int i = 0; i < parts; i++) {
                    text.append(i == 0 ? "" : ",").append(player()).append("c").append(random.nextInt(4)).append("n")
                        .append(1 + random.nextInt(random.nextInt(5) == 0 ? 9 : 2));
                }
                break;
            default:
                for (int i = 0; i < 2 * parts; i++) {
                    int a = random.nextInt(4);
                    text.append(i == 0 ? "" : ",").append(random.nextInt(4)).append(a)
                        .append((a + 1 + random.nextInt(3)) % 4);
                }
        }
        for (int i = random.nextInt(6) == 0 ? 1 + random.nextInt(2) : 0; i > 0; i--) {
            spoil(text);
        }
        text.setLength(Math.min(text.length(), 200));
        return text.toString();
    }

    private int player() {
        return random.nextInt(Math.max(1, model.count(0)));
    }

    private int playerOfMatch() {
        int able = model.ableIn(cup, team, rival);
        for (int i = 0; i < 20 && able != 0; i++) {
            int found = player();
            if ((able >> found & 1) != 0 || random.nextInt(100) == 0) {
                return found;
            }
        }
        return player();
    }

    private void rulesText(StringBuilder text) {
        List<Integer> cups = new ArrayList<>(List.of(0, 1, 2, 3));
        for (int i = random.nextInt(5); i > 0; i--) {
            text.append(text.length() == 0 ? "" : ";").append(cups.remove(random.nextInt(cups.size())))
                .append(random.nextBoolean() ? "o" : "a").append(1 + random.nextInt(9)).append("x")
                .append(random.nextInt(3) == 0 ? 0 : random.nextInt(21));
            int shown = 0;
            for (int step = random.nextInt(6); step > 0 && shown < 20; step--) {
                shown = Math.min(20, shown + 1 + random.nextInt(random.nextBoolean() ? 2 : 6));
                text.append(text.charAt(text.length() - 2) == '/' ? "," : ":").append(shown).append("/")
                    .append(1 + random.nextInt(9));
            }
        }
    }

    private void spoil(StringBuilder text) {
        String signs = "0123456789oax:/,;yrcn ";
        int place = random.nextInt(text.length() + 1);
        char sign = signs.charAt(random.nextInt(signs.length()));
        switch (random.nextInt(4)) {
            case 0:
                text.insert(place, sign);
                break;
            case 1:
                text.setLength(place);
                break;
            case 2:
                text.append(sign);
                break;
            default:
                if (place < text.length()) {
                    text.setCharAt(place, sign);
                }
        }
    }
}
