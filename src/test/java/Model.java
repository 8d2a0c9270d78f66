import java.util.ArrayDeque;
import java.util.ArrayList;
import java.util.Arrays;
import java.util.Deque;
import java.util.List;
import java.util.NoSuchElementException;
import java.util.TreeMap;

/**
 * The document written a second time, as plainly as the library allows and without any code of the class: a world of
 * objects that is copied whole for each act, matches in thought that are really played in a copy.
 */
public final class Model {
    private static final class Rule {
        boolean all;
        int red = 1;
        int round;
        final TreeMap<Integer, Integer> steps = new TreeMap<>();

        String written(int cup) {
            StringBuilder line = new StringBuilder();
            line.append(cup).append(all ? "a" : "o").append(red).append("x").append(round);
            String between = ":";
            for (int shown : steps.keySet()) {
                line.append(between).append(shown).append("/").append(steps.get(shown));
                between = ",";
            }
            return line.toString();
        }
    }

    private static final class Ban {
        int player;
        int cup;
        int left;
        boolean all;
        int appeal;
        int first;
        int match;
        int served;

        Ban copy() {
            Ban b = new Ban();
            b.player = player;
            b.cup = cup;
            b.left = left;
            b.all = all;
            b.appeal = appeal;
            b.first = first;
            b.match = match;
            b.served = served;
            return b;
        }

        boolean bars(int c) {
            return left > 0 && appeal != 1 && (all || cup == c);
        }
    }

    private static final class Refused extends RuntimeException {
        private static final long serialVersionUID = 1L;
        final int answer;

        Refused(int answer) {
            super("refused", null, false, false);
            this.answer = answer;
        }
    }

    private static final class World {
        final List<Integer> teams = new ArrayList<>();
        final List<Ban> bans = new ArrayList<>();
        final List<int[]> book = new ArrayList<>();
        int[][] cautions = new int[12][4];
        int[][] played = new int[4][4];
        int[][] ofPlayer = new int[12][3];
        int[][] ofTeam = new int[4][3];
        int matches;

        World copy() {
            World w = new World();
            w.teams.addAll(teams);
            for (Ban b : bans) {
                w.bans.add(b.copy());
            }
            w.book.addAll(book);
            for (int i = 0; i < 12; i++) {
                w.cautions[i] = cautions[i].clone();
                w.ofPlayer[i] = ofPlayer[i].clone();
            }
            for (int i = 0; i < 4; i++) {
                w.played[i] = played[i].clone();
                w.ofTeam[i] = ofTeam[i].clone();
            }
            w.matches = matches;
            return w;
        }

        void enter(int what, int ban) {
            book.add(0, new int[] {what, ban, matches});
            if (book.size() > 60) {
                book.remove(60);
            }
        }

        void ban(int player, int cup, int n, boolean all) {
            if (bans.size() == 100) {
                throw new Refused(-4);
            }
            Ban b = new Ban();
            b.player = player;
            b.cup = cup;
            b.left = n;
            b.first = n;
            b.all = all;
            b.match = matches;
            bans.add(b);
            enter(0, bans.size() - 1);
        }

        int firstBar(int player, int cup) {
            for (int i = 0; i < bans.size(); i++) {
                if (bans.get(i).player == player && bans.get(i).bars(cup)) {
                    return i;
                }
            }
            return -1;
        }

        boolean isOut(int player, int cup) {
            return firstBar(player, cup) >= 0;
        }

        List<Integer> play(Rule[] rules, int cup, int a, int b, List<int[]> cards) {
            List<Integer> outs = new ArrayList<>();
            matches++;
            for (int p = 0; p < teams.size(); p++) {
                if ((teams.get(p) == a || teams.get(p) == b) && isOut(p, cup)) {
                    outs.add(p);
                    int i = firstBar(p, cup);
                    Ban ban = bans.get(i);
                    ban.left--;
                    ban.served++;
                    enter(1, i);
                    if (ban.left == 0) {
                        enter(2, i);
                    }
                }
            }
            List<Integer> cautioned = new ArrayList<>();
            List<Integer> off = new ArrayList<>();
            Rule rule = rules[cup];
            for (int[] card : cards) {
                int p = card[1];
                int t = teams.get(p);
                if (t != a && t != b) {
                    throw new Refused(-2);
                }
                if (outs.contains(p) || off.contains(p)) {
                    throw new Refused(-3);
                }
                if (card[0] == 'r') {
                    off.add(p);
                    ban(p, cup, rule.red, rule.all);
                    ofPlayer[p][1]++;
                    ofTeam[t][1]++;
                } else {
                    ofPlayer[p][0]++;
                    ofTeam[t][0]++;
                    if (cautioned.contains(p)) {
                        off.add(p);
                        cautions[p][cup]--;
                        ban(p, cup, 1, rule.all);
                    } else {
                        cautioned.add(p);
                        cautions[p][cup]++;
                        Integer n = rule.steps.get(cautions[p][cup]);
                        if (n != null) {
                            ban(p, cup, n, rule.all);
                        }
                    }
                }
            }
            for (int p : off) {
                ofPlayer[p][2]++;
                ofTeam[teams.get(p)][2]++;
            }
            for (int t : new int[] {a, b}) {
                played[t][cup]++;
                if (rule.round != 0 && played[t][cup] == rule.round) {
                    for (int p = 0; p < teams.size(); p++) {
                        if (teams.get(p) == t) {
                            cautions[p][cup] = 0;
                        }
                    }
                }
            }
            return outs;
        }
    }

    private Rule[] rules = {new Rule(), new Rule(), new Rule(), new Rule()};
    private World w = new World();
    private World kept;
    private final Deque<World> past = new ArrayDeque<>();
    private String text = "";
    private List<Long> row = new ArrayList<>();
    private int at;
    private String reading = "";

    // ---- texts

    private void read() {
        reading = text;
        text = "";
        at = 0;
    }

    private int bad(int p) {
        throw new Refused(-21 - p);
    }

    private char next(String signs) {
        if (at >= reading.length() || signs.indexOf(reading.charAt(at)) < 0) {
            bad(at);
        }
        return reading.charAt(at++);
    }

    private int digit(String signs) {
        return next(signs) - '0';
    }

    private boolean atDigit() {
        return at < reading.length() && "0123456789".indexOf(reading.charAt(at)) >= 0;
    }

    private int number(int above, int below) {
        int v = digit("0123456789");
        if (v != 0 && atDigit()) {
            v = v * 10 + digit("0123456789");
        }
        return v > above && v < below ? v : bad(at - 1);
    }

    private boolean ended() {
        return at == reading.length();
    }

    public int sign(int v) {
        if (text.length() > 196) {
            return -1;
        }
        text += "" + (char) (v >>> 24) + (char) (v >> 16 & 255) + (char) (v >> 8 & 255) + (char) (v & 255);
        return text.length();
    }

    public boolean end(int n) {
        if (n < 0 || n > text.length()) {
            return false;
        }
        text = text.substring(0, n);
        return true;
    }

    public int rules() {
        read();
        try {
            Rule[] fresh = {new Rule(), new Rule(), new Rule(), new Rule()};
            List<Integer> told = new ArrayList<>();
            while (!ended()) {
                if (!told.isEmpty()) {
                    next(";");
                }
                int cup = digit("0123");
                if (told.contains(cup)) {
                    bad(at - 1);
                }
                told.add(cup);
                Rule r = fresh[cup];
                r.all = next("oa") == 'a';
                r.red = digit("123456789");
                next("x");
                r.round = number(-1, 21);
                boolean more = !ended() && reading.charAt(at) == ':';
                while (more) {
                    if (r.steps.size() == 4) {
                        bad(at);
                    }
                    at++;
                    int shown = number(r.steps.isEmpty() ? 0 : r.steps.lastKey(), 21);
                    next("/");
                    r.steps.put(shown, digit("123456789"));
                    more = !ended() && reading.charAt(at) == ',';
                }
                if (!ended() && at == reading.length() - 1 && reading.charAt(at) == ';') {
                    bad(at + 1);
                }
            }
            rules = fresh;
            return told.size();
        } catch (Refused e) {
            return e.answer;
        }
    }

    public int squads() {
        read();
        try {
            World fresh = new World();
            while (!ended()) {
                if (at == 12) {
                    bad(12);
                }
                fresh.teams.add(digit("0123"));
            }
            w = fresh;
            kept = null;
            past.clear();
            return fresh.teams.size();
        } catch (Refused e) {
            return e.answer;
        }
    }

    // ---- asking for what there is

    private boolean noCup(int cup) {
        return cup < 0 || cup > 3;
    }

    private boolean noTeam(int team) {
        return team < 0 || team > 3;
    }

    private boolean noPlayer(int player) {
        return player < 0 || player >= w.teams.size();
    }

    private boolean noBan(int ban) {
        return ban < 0 || ban >= w.bans.size();
    }

    private void row(List<? extends Number> numbers) {
        row = new ArrayList<>();
        for (Number n : numbers) {
            row.add(n.longValue());
        }
    }

    /** PLAYERS of two TEAMS who may play, without telling a ROW: for a test that makes up a MATCH. */
    int ableIn(int cup, int a, int b) {
        return (bits(members(a)) | bits(members(b))) & ~bits(outs(a, cup)) & ~bits(outs(b, cup));
    }

    private static int bits(List<Integer> places) {
        int all = 0;
        for (int p : places) {
            all |= 1 << p;
        }
        return all;
    }

    private List<Integer> members(int team) {
        List<Integer> found = new ArrayList<>();
        for (int p = 0; p < w.teams.size(); p++) {
            if (w.teams.get(p) == team) {
                found.add(p);
            }
        }
        return found;
    }

    private List<Integer> outs(int team, int cup) {
        List<Integer> found = members(team);
        found.removeIf(p -> !w.isOut(p, cup));
        return found;
    }

    private List<Ban> of(World world, int player) {
        List<Ban> found = new ArrayList<>(world.bans);
        found.removeIf(b -> b.player != player);
        return found;
    }

    /** Plays matches of one cup in a copy until the player is not out. */
    private int missed(int player, int cup, boolean pendingToo) {
        World thought = w.copy();
        for (Ban b : thought.bans) {
            if (pendingToo && b.appeal == 1) {
                b.appeal = 2;
            }
        }
        int n = 0;
        int team = thought.teams.get(player);
        while (thought.isOut(player, cup)) {
            thought.play(rules, cup, team, (team + 1) % 4, new ArrayList<>());
            n++;
        }
        return n;
    }

    private int left(World world, int player) {
        return of(world, player).stream().mapToInt(b -> b.left).sum();
    }

    private void act() {
        past.push(w.copy());
        if (past.size() > 8) {
            past.removeLast();
        }
    }

    public int rule(int cup, int what) {
        if (noCup(cup)) {
            return -1;
        }
        List<Integer> all = new ArrayList<>(Arrays.asList(rules[cup].all ? 1 : 0, rules[cup].red, rules[cup].round,
            rules[cup].steps.size()));
        rules[cup].steps.forEach((k, v) -> {
            all.add(k);
            all.add(v);
        });
        return what < 0 || what >= all.size() ? -1 : all.get(what);
    }

    public int written(int i) {
        String all = rules[0].written(0) + ";" + rules[1].written(1) + ";" + rules[2].written(2) + ";"
            + rules[3].written(3);
        if (i == -1) {
            return all.length();
        }
        return i < 0 || i >= all.length() ? -1 : all.charAt(i);
    }

    public int team(int player) {
        if (noPlayer(player)) {
            return -1;
        }
        List<Ban> had = of(w, player);
        row(Arrays.asList(had.stream().filter(b -> b.left > 0).count(), (long) had.size()));
        return w.teams.get(player);
    }

    public int squad(int team) {
        if (noTeam(team)) {
            return -1;
        }
        row(Arrays.asList(members(team).size()));
        return bits(members(team));
    }

    // ---- acts

    public int play(int cup, int a, int b) {
        read();
        try {
            List<int[]> cards = new ArrayList<>();
            while (!ended() || (!cards.isEmpty() && reading.endsWith(","))) {
                char kind = next("yr");
                cards.add(new int[] {kind, number(-1, w.teams.size())});
                if (ended()) {
                    break;
                }
                next(",");
            }
            if (noCup(cup) || noTeam(a) || noTeam(b) || a == b) {
                return -1;
            }
            World thought = w.copy();
            List<Integer> outs = thought.play(rules, cup, a, b, cards);
            int came = thought.bans.size() - w.bans.size();
            act();
            w = thought;
            row(Arrays.asList(w.matches, outs.size(), bits(outs)));
            return came;
        } catch (Refused e) {
            return e.answer;
        }
    }

    public int move(int player, int team) {
        if (noPlayer(player) || noTeam(team)) {
            return -1;
        }
        if (w.teams.get(player) == team) {
            return -2;
        }
        act();
        return w.teams.set(player, team);
    }

    public int swaps(int player, int other) {
        if (noPlayer(player) || noPlayer(other)) {
            return -1;
        }
        if (w.teams.get(player).equals(w.teams.get(other))) {
            return -2;
        }
        act();
        w.teams.set(other, w.teams.set(player, w.teams.get(other)));
        return w.teams.get(player);
    }

    public int bans(int player, int cup, int n) {
        if (noPlayer(player) || noCup(cup) || n < 1 || n > 9) {
            return -1;
        }
        if (w.bans.size() == 100) {
            return -4;
        }
        act();
        w.ban(player, cup, n, rules[cup].all);
        return w.bans.size() - 1;
    }

    public int given() {
        read();
        try {
            List<int[]> all = new ArrayList<>();
            while (!ended() || (!all.isEmpty() && reading.endsWith(","))) {
                int player = number(-1, w.teams.size());
                next("c");
                int cup = digit("0123");
                next("n");
                all.add(new int[] {player, cup, digit("123456789")});
                if (ended()) {
                    break;
                }
                next(",");
            }
            World thought = w.copy();
            for (int[] g : all) {
                thought.ban(g[0], g[1], g[2], rules[g[1]].all);
            }
            act();
            w = thought;
            return all.size();
        } catch (Refused e) {
            return e.answer;
        }
    }

    public int appeal(int ban) {
        if (noBan(ban)) {
            return -1;
        }
        Ban b = w.bans.get(ban);
        if (b.left == 0) {
            return -2;
        }
        if (b.appeal > 0) {
            return -3;
        }
        act();
        b.appeal = 1;
        w.enter(4, ban);
        return b.left;
    }

    private void settle(int ban, boolean granted, int more) {
        Ban b = w.bans.get(ban);
        b.appeal = 2;
        if (granted) {
            b.left = 0;
        } else {
            b.left += more;
        }
        w.enter(granted ? 3 : 5, ban);
    }

    public int decide(int ban, boolean granted, int more) {
        if (noBan(ban) || more < 0 || more > 3 || (granted && more != 0)) {
            return -1;
        }
        if (w.bans.get(ban).appeal != 1) {
            return -2;
        }
        act();
        settle(ban, granted, more);
        return w.bans.get(ban).left;
    }

    public int decides(boolean granted) {
        List<Integer> pending = new ArrayList<>();
        for (int i = 0; i < w.bans.size(); i++) {
            if (w.bans.get(i).appeal == 1) {
                pending.add(i);
            }
        }
        if (pending.isEmpty()) {
            return -2;
        }
        act();
        pending.forEach(i -> settle(i, granted, 0));
        return pending.size();
    }

    public int pardon(int ban, int n) {
        if (noBan(ban) || n < 1 || (w.bans.get(ban).left > 0 && n > w.bans.get(ban).left)) {
            return -1;
        }
        Ban b = w.bans.get(ban);
        if (b.left == 0) {
            return -2;
        }
        act();
        b.left -= n;
        if (b.left == 0) {
            b.appeal = b.appeal == 1 ? 2 : b.appeal;
            w.enter(3, ban);
        }
        return b.left;
    }

    public int season() {
        int n = count(7);
        act();
        w.cautions = new int[12][4];
        w.played = new int[4][4];
        return n;
    }

    // ---- who may play

    public int may(int player, int cup) {
        if (noPlayer(player) || noCup(cup)) {
            return -1;
        }
        row(Arrays.asList(w.firstBar(player, cup)));
        return w.isOut(player, cup) ? 0 : 1;
    }

    public int out(int team, int cup) {
        if (noTeam(team) || noCup(cup)) {
            return -1;
        }
        List<Integer> numbers = new ArrayList<>();
        numbers.add(outs(team, cup).size());
        outs(team, cup).forEach(p -> numbers.add(missed(p, cup, false)));
        row(numbers);
        return bits(outs(team, cup));
    }

    public int misses(int player, int cup) {
        if (noPlayer(player) || noCup(cup)) {
            return -1;
        }
        row(Arrays.asList(missed(player, cup, true)));
        return missed(player, cup, false);
    }

    public int owed(int player) {
        if (noPlayer(player)) {
            return -1;
        }
        row(Arrays.asList(missed(player, 0, false), missed(player, 1, false), missed(player, 2, false),
            missed(player, 3, false)));
        return left(w, player);
    }

    public int sides(int cup, int a, int b) {
        if (noCup(cup) || noTeam(a) || noTeam(b) || a == b) {
            return -1;
        }
        int outs = bits(outs(a, cup)) | bits(outs(b, cup));
        row(Arrays.asList(members(a).size() - outs(a, cup).size(), members(b).size() - outs(b, cup).size(), outs));
        return (bits(members(a)) | bits(members(b))) ^ outs;
    }

    public int until(int team, int cup) {
        if (noTeam(team) || noCup(cup)) {
            return -1;
        }
        World thought = w.copy();
        int n = 0;
        List<Integer> last = new ArrayList<>();
        while (true) {
            List<Integer> still = members(team);
            still.removeIf(p -> !thought.isOut(p, cup));
            if (still.isEmpty()) {
                row(Arrays.asList(bits(last)));
                return n;
            }
            last = still;
            thought.play(rules, cup, team, (team + 1) % 4, new ArrayList<>());
            n++;
        }
    }

    public int cautions(int player, int cup) {
        if (noPlayer(player) || noCup(cup)) {
            return -1;
        }
        int shown = w.cautions[player][cup];
        Integer next = rules[cup].steps.higherKey(shown);
        row(next == null ? Arrays.asList(-1, -1) : Arrays.asList(next - shown, rules[cup].steps.get(next)));
        return shown;
    }

    public int risks(int team, int cup) {
        if (noTeam(team) || noCup(cup)) {
            return -1;
        }
        List<Integer> near = members(team);
        near.removeIf(p -> !rules[cup].steps.containsKey(w.cautions[p][cup] + 1));
        row(Arrays.asList(near.stream().filter(p -> !w.isOut(p, cup)).count()));
        return bits(near);
    }

    public int tempts(int player, int cup, int n) {
        if (noPlayer(player) || noCup(cup) || n < 1 || n > 40) {
            return -1;
        }
        try {
            World thought = w.copy();
            int team = thought.teams.get(player);
            int missed = 0;
            for (int i = 0; i < n; i++) {
                List<int[]> cards = new ArrayList<>();
                if (thought.isOut(player, cup)) {
                    missed++;
                } else {
                    cards.add(new int[] {'y', player});
                }
                thought.play(rules, cup, team, (team + 1) % 4, cards);
            }
            row(Arrays.asList(thought.bans.size() - w.bans.size(), thought.cautions[player][cup]));
            return missed;
        } catch (Refused e) {
            return e.answer;
        }
    }

    public int costs(int cup, int n) {
        if (noCup(cup) || n < 0 || n > 40) {
            return -1;
        }
        row(Arrays.asList(rules[cup].steps.headMap(n + 1).size()));
        return rules[cup].steps.headMap(n + 1).values().stream().mapToInt(v -> v).sum();
    }

    public int played(int team, int cup) {
        if (noTeam(team) || noCup(cup)) {
            return -1;
        }
        int n = w.played[team][cup];
        row(Arrays.asList(rules[cup].round > n ? rules[cup].round - n : -1));
        return n;
    }

    private List<int[]> matches() {
        read();
        List<int[]> all = new ArrayList<>();
        while (!ended() || (!all.isEmpty() && reading.endsWith(","))) {
            int cup = digit("0123");
            int a = digit("0123");
            all.add(new int[] {cup, a, digit("0123".replace("" + a, ""))});
            if (ended()) {
                break;
            }
            next(",");
        }
        return all;
    }

    public long plan(int player) {
        try {
            List<int[]> all = matches();
            if (noPlayer(player)) {
                return -1;
            }
            World thought = w.copy();
            long bits = 0;
            for (int i = 0; i < all.size(); i++) {
                int[] m = all.get(i);
                if (thought.play(rules, m[0], m[1], m[2], new ArrayList<>()).contains(player)) {
                    bits += 1L << i;
                }
            }
            row(Arrays.asList(Long.bitCount(bits), left(thought, player)));
            return bits;
        } catch (Refused e) {
            return e.answer;
        }
    }

    public int returns(int player) {
        try {
            List<int[]> all = matches();
            if (noPlayer(player)) {
                return -1;
            }
            World thought = w.copy();
            int team = w.teams.get(player);
            int ahead = 0;
            for (int i = 0; i < all.size(); i++) {
                int[] m = all.get(i);
                boolean out = thought.play(rules, m[0], m[1], m[2], new ArrayList<>()).contains(player);
                boolean own = m[1] == team || m[2] == team;
                if (own && !out) {
                    row(Arrays.asList(ahead));
                    return i;
                }
                ahead += own ? 1 : 0;
            }
            return -2;
        } catch (Refused e) {
            return e.answer;
        }
    }

    public int behind() {
        try {
            List<int[]> all = matches();
            World thought = w.copy();
            int served = 0;
            for (int[] m : all) {
                served += thought.play(rules, m[0], m[1], m[2], new ArrayList<>()).size();
            }
            row(Arrays.asList((long) served, thought.bans.stream().filter(b -> b.left > 0).count()));
            return outOfSome(thought);
        } catch (Refused e) {
            return e.answer;
        }
    }

    private static int outOfSome(World world) {
        int all = 0;
        for (Ban b : world.bans) {
            all |= b.left > 0 && b.appeal != 1 ? 1 << b.player : 0;
        }
        return all;
    }

    // ---- bans

    public int ban(int ban, int what) {
        if (noBan(ban) || what < 0 || what > 7) {
            return -1;
        }
        Ban b = w.bans.get(ban);
        return new int[] {b.player, b.cup, b.left, b.all ? 1 : 0, b.appeal, b.first, b.match, b.served}[what];
    }

    public int open(int player) {
        if (noPlayer(player)) {
            return -1;
        }
        List<Integer> found = new ArrayList<>();
        for (int i = 0; i < w.bans.size(); i++) {
            if (w.bans.get(i).player == player && w.bans.get(i).left > 0) {
                found.add(i);
            }
        }
        row(found);
        return found.size();
    }

    public int frees(int player, int cup) {
        if (noPlayer(player) || noCup(cup)) {
            return -1;
        }
        World thought = w.copy();
        List<Integer> found = new ArrayList<>();
        while (thought.isOut(player, cup)) {
            int ban = thought.firstBar(player, cup);
            if (thought.bans.get(ban).appeal != 0) {
                return -2;
            }
            thought.bans.get(ban).appeal = 1;
            found.add(ban);
        }
        row(found);
        return found.size();
    }

    public int sum(int cup) {
        if (noCup(cup)) {
            return -1;
        }
        int[] n = new int[4];
        for (Ban b : w.bans) {
            if (b.cup == cup) {
                n[0]++;
                n[1] += b.left > 0 ? 1 : 0;
                n[2] += b.first;
                n[3] += b.served;
            }
        }
        row(Arrays.asList(n[1], n[2], n[3]));
        return n[0];
    }

    public int worst() {
        if (w.teams.isEmpty()) {
            return -1;
        }
        int best = 0;
        for (int p = w.teams.size() - 1; p >= 0; p--) {
            best = left(w, p) >= left(w, best) ? p : best;
        }
        row(Arrays.asList(left(w, best)));
        return best;
    }

    public int most(int cup) {
        if (noCup(cup)) {
            return -1;
        }
        if (w.teams.isEmpty()) {
            return -2;
        }
        int high = 0;
        for (int p = 0; p < w.teams.size(); p++) {
            high = Math.max(high, w.cautions[p][cup]);
        }
        List<Integer> found = new ArrayList<>();
        for (int p = 0; p < w.teams.size(); p++) {
            if (w.cautions[p][cup] == high) {
                found.add(p);
            }
        }
        row(Arrays.asList(high, found.size()));
        return found.get(0);
    }

    public int longest(int cup) {
        if (noCup(cup)) {
            return -1;
        }
        for (int n = 9; n > 0; n--) {
            for (int i = 0; i < w.bans.size(); i++) {
                Ban b = w.bans.get(i);
                if (b.cup == cup && b.first == n) {
                    row(Arrays.asList(n, b.served * 1000 / n));
                    return i;
                }
            }
        }
        return -2;
    }

    // ---- how fair

    private int pointsOf(int team) {
        return w.ofTeam[team][0] + 3 * w.ofTeam[team][1];
    }

    public int points(int team) {
        if (noTeam(team)) {
            return -1;
        }
        row(Arrays.asList(w.ofTeam[team][0], w.ofTeam[team][1], w.ofTeam[team][2]));
        return pointsOf(team);
    }

    public int fair() {
        List<Integer> all = new ArrayList<>(Arrays.asList(0, 1, 2, 3));
        all.sort((s, t) -> pointsOf(s) != pointsOf(t) ? pointsOf(s) - pointsOf(t) : s - t);
        row(all);
        return all.get(0);
    }

    public int cards(int player) {
        if (noPlayer(player)) {
            return -1;
        }
        row(Arrays.asList(w.ofPlayer[player][1], w.ofPlayer[player][2]));
        return w.ofPlayer[player][0];
    }

    // ---- the book, undone, counted

    public int keeps() {
        kept = w.copy();
        return w.matches;
    }

    public int back() {
        if (kept == null) {
            return -2;
        }
        act();
        w = kept.copy();
        return w.matches;
    }

    public int book(int i, int what) {
        return i < 0 || i >= w.book.size() || what < 0 || what > 2 ? -1 : w.book.get(i)[what];
    }

    public int told(int player) {
        if (noPlayer(player)) {
            return -1;
        }
        Integer[] n = {0, 0, 0, 0, 0, 0};
        int all = 0;
        for (int[] e : w.book) {
            if (w.bans.get(e[1]).player == player) {
                n[e[0]]++;
                all++;
            }
        }
        row(Arrays.asList(n));
        return all;
    }

    public int undo() {
        if (past.isEmpty()) {
            return -2;
        }
        w = past.pop();
        return past.size();
    }

    public int count(int what) {
        int shown = Arrays.stream(w.cautions).flatMapToInt(Arrays::stream).sum();
        int opened = (int) w.bans.stream().filter(b -> b.left > 0).count();
        int pending = (int) w.bans.stream().filter(b -> b.appeal == 1).count();
        int[] all = {w.teams.size(), w.bans.size(), opened, pending, w.matches, past.size(), w.book.size(), shown,
            outOfSome(w), row.size(), text.length()};
        return what < 0 || what >= all.length ? -1 : all[what];
    }

    public long row(int i) {
        if (i < 0 || i >= row.size()) {
            throw new NoSuchElementException();
        }
        return row.get(i);
    }
}
