import java.util.ArrayList;
import java.util.Arrays;
import java.util.List;
import java.util.function.Supplier;

/**
 * "Refused calls answer NONE, or false, and change nothing but THE TEXT", "Calls that ask change nothing but the ROW",
 * "The ROW stays with each answer below 0, and with calls that do not tell of it": every call, in a method for each
 * sentence, and which answer below 0 comes first.
 */
public final class RefusalsTest {
    private static final Check check = new Check("RefusalsTest");
    private static final String TEXT = "abcde";

    private interface Call {
        long of(CardsAndBans x);
    }

    /** A call, what it answers, and the object it is asked of. */
    private record Case(String name, Supplier<CardsAndBans> make, boolean reads, long due, Call call) {
    }

    public static void main(String[] args) {
        List<Case> refused = refusals();
        List<Case> asking = asking();
        List<Case> silent = silent();
        for (Case c : refused) {
            changesNothing(c);
            leavesWhatCanBeUndoneAndWhatIsKept(c);
        }
        for (Case c : asking) {
            changesNothingButTheRow(c);
            leavesWhatCanBeUndoneAndWhatIsKept(c);
        }
        silent.forEach(RefusalsTest::leavesTheRow);
        silent.forEach(RefusalsTest::keepsOrEmptiesTheText);
        asking.forEach(RefusalsTest::keepsOrEmptiesTheText);
        rowThatIsNotThere();
        rowsAreToldWhole();
        wrongSignComesFirst();
        noneComesNext();
        othersAsTheyAreTold();
        check.end();
    }

    /**
     * Six PLAYERS, none of TEAM 3; BAN 0 is OPEN, BAN 1 not, BAN 2 (ALL) PENDING, BAN 3 DECIDED and OPEN; seven ACTS
     * can be undone, and what was four ACTS ago is kept.
     */
    private static CardsAndBans loaded() {
        CardsAndBans x = Check.ordinary();
        Check.play(x, 0, 0, 1, "y0,r3");
        Check.given(x, "1c0n1,2c1n2,3c0n3");
        x.pardon(1, 1);
        x.keeps();
        x.appeal(2);
        Check.play(x, 2, 0, 1, "y0,y2");
        x.appeal(3);
        x.decide(3, false, 0);
        Check.put(x, TEXT);
        return x;
    }

    /** A hundred BANS of PLAYER 0 in CUP 0; PLAYER 5 is one caution away from a STEP of CUP 0. */
    private static CardsAndBans full() {
        CardsAndBans x = Check.ordinary();
        Check.play(x, 0, 2, 1, "y5");
        Check.fill(x, 100);
        x.keeps();
        Check.put(x, TEXT);
        return x;
    }

    private static CardsAndBans empty() {
        CardsAndBans x = new CardsAndBans();
        Check.put(x, TEXT);
        return x;
    }

    private static CardsAndBans withFullText() {
        CardsAndBans x = loaded();
        for (int i = 0; i < 48; i++) {
            x.sign(0);
        }
        return x;
    }

    private static void add(List<Case> all, String name, long due, Call call) {
        all.add(new Case(name, RefusalsTest::loaded, false, due, call));
    }

    private static void addReader(List<Case> all, String name, long due, Call call) {
        all.add(new Case(name, RefusalsTest::loaded, true, due, call));
    }

    private static List<Case> refusals() {
        List<Case> all = new ArrayList<>();
        addRefusedReaders(all);
        addRefusedActs(all);
        addRefusedAsking(all);
        addRefusedOfOthers(all);
        return all;
    }

    private static void addRefusedReaders(List<Case> all) {
        addReader(all, "rules, a wrong sign", -21, x -> Check.rules(x, "4"));
        addReader(all, "rules, wrong behind a good line", -27, x -> Check.rules(x, "3a9x9;"));
        addReader(all, "squads, a wrong sign", -22, x -> Check.squads(x, "04"));
        addReader(all, "squads, thirteen", -33, x -> Check.squads(x, "0000000000000"));
        addReader(all, "play, a wrong sign", -21, x -> Check.play(x, 0, 0, 1, "x"));
        addReader(all, "play, no cup", -1, x -> Check.play(x, 4, 0, 1, "y1"));
        addReader(all, "play, no team", -1, x -> Check.play(x, 0, 0, 4, "y1"));
        addReader(all, "play, a is b", -1, x -> Check.play(x, 0, 1, 1, "y3"));
        addReader(all, "play, of neither", -2, x -> Check.play(x, 0, 1, 2, "y4,y1"));
        addReader(all, "play, out", -3, x -> Check.play(x, 0, 0, 1, "y1,y3"));
        addReader(all, "play, sent off", -3, x -> Check.play(x, 3, 0, 2, "r4,y4"));
        addReader(all, "given, a wrong sign", -25, x -> Check.given(x, "0c0n0"));
        addReader(all, "plan, a wrong sign", -23, x -> Check.plan(x, 0, "000"));
        addReader(all, "plan, no player", -1, x -> Check.plan(x, 6, "001"));
        addReader(all, "returns, a wrong sign", -21, x -> Check.returns(x, 0, "4"));
        addReader(all, "returns, no player", -1, x -> Check.returns(x, 6, "001"));
        addReader(all, "returns, none", -2, x -> Check.returns(x, 0, "012"));
        addReader(all, "behind, a wrong sign", -25, x -> Check.behind(x, "001,"));
    }

    private static void addRefusedActs(List<Case> all) {
        add(all, "move, no player", -1, x -> x.move(6, 1));
        add(all, "move, no team", -1, x -> x.move(0, 4));
        add(all, "move, it is in that", -2, x -> x.move(0, 0));
        add(all, "swaps, no player", -1, x -> x.swaps(0, 6));
        add(all, "swaps, of one", -2, x -> x.swaps(0, 1));
        add(all, "bans, no player", -1, x -> x.bans(6, 0, 1));
        add(all, "bans, no cup", -1, x -> x.bans(0, 4, 1));
        add(all, "bans, another n", -1, x -> x.bans(0, 0, 10));
        add(all, "appeal, no ban", -1, x -> x.appeal(4));
        add(all, "appeal, not open", -2, x -> x.appeal(1));
        add(all, "appeal, pending", -3, x -> x.appeal(2));
        add(all, "appeal, decided", -3, x -> x.appeal(3));
        add(all, "decide, no ban", -1, x -> x.decide(4, true, 0));
        add(all, "decide, another more", -1, x -> x.decide(2, false, 4));
        add(all, "decide, granted and more", -1, x -> x.decide(2, true, 1));
        add(all, "decide, not pending", -2, x -> x.decide(0, true, 0));
        add(all, "decide, decided", -2, x -> x.decide(3, false, 1));
        add(all, "pardon, no ban", -1, x -> x.pardon(4, 1));
        add(all, "pardon, n 0", -1, x -> x.pardon(0, 0));
        add(all, "pardon, above left", -1, x -> x.pardon(2, 3));
        add(all, "pardon, not open", -2, x -> x.pardon(1, 1));
    }

    private static void addRefusedAsking(List<Case> all) {
        add(all, "end, below 0", 0, x -> x.end(-1) ? 1 : 0);
        add(all, "end, not so many", 0, x -> x.end(TEXT.length() + 1) ? 1 : 0);
        add(all, "rule, no cup", -1, x -> x.rule(4, 0));
        add(all, "rule, no step", -1, x -> x.rule(0, 8));
        add(all, "written, no sign", -1, x -> x.written(99));
        add(all, "team", -1, x -> x.team(6));
        add(all, "squad", -1, x -> x.squad(4));
        add(all, "may", -1, x -> x.may(6, 0));
        add(all, "out", -1, x -> x.out(4, 0));
        add(all, "misses", -1, x -> x.misses(0, 4));
        add(all, "owed", -1, x -> x.owed(6));
        add(all, "sides, no cup", -1, x -> x.sides(4, 0, 1));
        add(all, "sides, a is b", -1, x -> x.sides(0, 2, 2));
        add(all, "until", -1, x -> x.until(4, 0));
        add(all, "cautions", -1, x -> x.cautions(6, 0));
        add(all, "risks", -1, x -> x.risks(4, 0));
        add(all, "tempts, n 0", -1, x -> x.tempts(0, 0, 0));
        add(all, "tempts, n 41", -1, x -> x.tempts(0, 0, 41));
        add(all, "costs, n -1", -1, x -> x.costs(0, -1));
        add(all, "costs, n 41", -1, x -> x.costs(0, 41));
        add(all, "played", -1, x -> x.played(4, 0));
        add(all, "ban, no ban", -1, x -> x.ban(4, 0));
        add(all, "ban, another what", -1, x -> x.ban(0, 8));
        add(all, "open", -1, x -> x.open(6));
        add(all, "frees, no player", -1, x -> x.frees(6, 0));
        add(all, "frees, appeals can't", -2, x -> x.frees(3, 0));
        add(all, "sum", -1, x -> x.sum(4));
        add(all, "most", -1, x -> x.most(4));
        add(all, "longest, no cup", -1, x -> x.longest(4));
        add(all, "longest, none of it", -2, x -> x.longest(3));
        add(all, "points", -1, x -> x.points(4));
        add(all, "cards", -1, x -> x.cards(6));
        add(all, "book, none such", -1, x -> x.book(60, 0));
        add(all, "book, another what", -1, x -> x.book(0, 3));
        add(all, "told", -1, x -> x.told(6));
        add(all, "count", -1, x -> x.count(11));
    }

    private static void addRefusedOfOthers(List<Case> all) {
        Supplier<CardsAndBans> full = RefusalsTest::full;
        Supplier<CardsAndBans> empty = RefusalsTest::empty;
        all.add(new Case("sign above 200", RefusalsTest::withFullText, false, -1, x -> x.sign(0)));
        all.add(new Case("play, red", full, true, -4, x -> Check.play(x, 0, 1, 2, "y2,r3")));
        all.add(new Case("play, a step", full, true, -4, x -> Check.play(x, 0, 1, 2, "y2,y5")));
        all.add(new Case("play, a second one", full, true, -4, x -> Check.play(x, 0, 1, 2, "y2,y2")));
        all.add(new Case("bans above 100", full, false, -4, x -> x.bans(5, 3, 1)));
        all.add(new Case("given above 100", full, true, -4, x -> Check.given(x, "5c3n1")));
        all.add(new Case("tempts above 100", full, false, -4, x -> x.tempts(5, 0, 1)));
        all.add(new Case("decides, none pending", full, false, -2, x -> x.decides(true)));
        all.add(new Case("worst of none", empty, false, -1, x -> x.worst()));
        all.add(new Case("most of none", empty, false, -2, x -> x.most(0)));
        all.add(new Case("back to nothing", empty, false, -2, x -> x.back()));
        all.add(new Case("undo of nothing", empty, false, -2, x -> x.undo()));
    }

    /** Calls that ask and tell a ROW, with answers of 0 or more, and some that ask and tell none. */
    private static List<Case> asking() {
        List<Case> all = new ArrayList<>();
        add(all, "team", 1, x -> x.team(2));
        add(all, "squad", 3, x -> x.squad(0));
        add(all, "may", 0, x -> x.may(3, 0));
        add(all, "out", 8, x -> x.out(1, 0));
        add(all, "misses", 0, x -> x.misses(2, 0));
        add(all, "owed", 2, x -> x.owed(2));
        add(all, "sides", 7, x -> x.sides(0, 0, 1));
        add(all, "until", 6, x -> x.until(1, 0));
        add(all, "cautions", 1, x -> x.cautions(0, 0));
        add(all, "risks", 1, x -> x.risks(0, 0));
        add(all, "tempts", 9, x -> x.tempts(3, 0, 40));
        add(all, "costs", 3, x -> x.costs(0, 40));
        add(all, "played", 1, x -> x.played(0, 2));
        addReader(all, "plan", 3, x -> Check.plan(x, 3, "001,012,121"));
        addReader(all, "returns", 2, x -> Check.returns(x, 3, "001,012,121"));
        addReader(all, "behind", 8, x -> Check.behind(x, "001,012,121"));
        add(all, "open", 2, x -> x.open(3));
        add(all, "frees", 0, x -> x.frees(2, 0));
        add(all, "sum", 3, x -> x.sum(0));
        add(all, "worst", 3, x -> x.worst());
        add(all, "most", 0, x -> x.most(0));
        add(all, "longest", 0, x -> x.longest(0));
        add(all, "points", 2, x -> x.points(0));
        add(all, "fair", 2, x -> x.fair());
        add(all, "cards", 2, x -> x.cards(0));
        add(all, "told", 4, x -> x.told(3));
        return all;
    }

    /** Calls that tell no ROW, with answers that are not below 0. */
    private static List<Case> silent() {
        List<Case> all = new ArrayList<>();
        addReader(all, "rules", 1, x -> Check.rules(x, "3a9x9"));
        addReader(all, "rules of none", 0, x -> Check.rules(x, ""));
        addReader(all, "squads", 3, x -> Check.squads(x, "012"));
        addReader(all, "given", 1, x -> Check.given(x, "0c0n1"));
        addReader(all, "given of none", 0, x -> Check.given(x, ""));
        add(all, "end", 1, x -> x.end(TEXT.length()) ? 1 : 0);
        add(all, "rule", 3, x -> x.rule(0, 1));
        add(all, "written", '0', x -> x.written(0));
        add(all, "move", 0, x -> x.move(0, 3));
        add(all, "swaps", 1, x -> x.swaps(0, 2));
        add(all, "bans", 4, x -> x.bans(0, 0, 1));
        add(all, "appeal", 3, x -> x.appeal(0));
        add(all, "decide", 0, x -> x.decide(2, true, 0));
        add(all, "decides", 1, x -> x.decides(false));
        add(all, "pardon", 1, x -> x.pardon(2, 1));
        add(all, "season", 3, x -> x.season());
        add(all, "ban", 3, x -> x.ban(0, 2));
        add(all, "keeps", 2, x -> x.keeps());
        add(all, "back", 1, x -> x.back());
        add(all, "book", 5, x -> x.book(0, 0));
        add(all, "undo", 6, x -> x.undo());
        add(all, "count", 6, x -> x.count(0));
        return all;
    }

    private static int signsBehind(Case c, CardsAndBans x) {
        return c.reads ? 0 : x.count(10);
    }

    private static void changesNothing(Case c) {
        CardsAndBans x = c.make.get();
        check.refuses(x, c.name, c.due, signsBehind(c, x), () -> c.call.of(x));
    }

    private static void changesNothingButTheRow(Case c) {
        CardsAndBans x = c.make.get();
        int acts = x.count(5);
        String was = Snapshot.of(x);
        check.is(c.name, c.call.of(x), c.due);
        check.is(c.name + ": acts stay", x.count(5), acts);
        check.is(c.name + ": nothing changed", Snapshot.of(x).equals(was), true);
    }

    /** Beside a twin that was not asked: what each undo() and back() brings is the same. */
    private static void leavesWhatCanBeUndoneAndWhatIsKept(Case c) {
        CardsAndBans x = c.make.get();
        CardsAndBans twin = c.make.get();
        c.call.of(x);
        check.is(c.name + ": what is kept", x.back(), twin.back());
        check.is(c.name + ": what is kept", Snapshot.of(x).equals(Snapshot.of(twin)), true);
        for (int i = 0; i < 9; i++) {
            check.is(c.name + ": undo", x.undo(), twin.undo());
            check.is(c.name + ": what is undone", Snapshot.of(x).equals(Snapshot.of(twin)), true);
        }
    }

    /** "The ROW stays .. with calls that do not tell of it." */
    private static void leavesTheRow(Case c) {
        CardsAndBans x = c.make.get();
        x.fair();
        long[] row = Check.rowOf(x);
        check.tells(x, c.name, c.call.of(x), c.due, row);
    }

    /** "THE TEXT, which a call that can read it empties, whatever it answers": and no other call does. */
    private static void keepsOrEmptiesTheText(Case c) {
        CardsAndBans x = c.make.get();
        int due = signsBehind(c, x);
        check.is(c.name, c.call.of(x), c.due);
        check.is(c.name + ": signs of the text", x.count(10), due);
    }

    /** "NoSuchElementException: none such": the ROW stays with it, as all does. */
    private static void rowThatIsNotThere() {
        CardsAndBans x = loaded();
        for (int i : new int[] {-1, 4, Integer.MIN_VALUE, Integer.MAX_VALUE}) {
            check.refuses(x, "row(" + i + ")", 0, TEXT.length(), () -> Check.hasRow(x, i) ? 1 : 0);
        }
    }

    /** "ROW of numbers: told last by a call that says so": nothing of a longer one is left behind a shorter one. */
    private static void rowsAreToldWhole() {
        CardsAndBans x = new CardsAndBans();
        check.is("at first it has none", x.count(9), 0);
        check.is("at first it has none", Check.hasRow(x, 0), false);
        Check.squads(x, "01");
        x.told(0);
        check.is("six", x.count(9), 6);
        x.squad(0);
        check.is("one", x.count(9), 1);
        check.is("no second one", Check.hasRow(x, 1), false);
        x.frees(0, 0);
        check.is("none", x.count(9), 0);
        check.is("no first one", Check.hasRow(x, 0), false);
        x.owed(0);
        check.is("four", Arrays.equals(Check.rowOf(x), new long[4]), true);
    }

    /** "-21 - p comes first", ahead of NONE and of the others. */
    private static void wrongSignComesFirst() {
        CardsAndBans x = loaded();
        check.refuses(x, "play, no cup, too", -24, 0, () -> Check.play(x, 4, 0, 1, "y1,"));
        check.refuses(x, "play, a is b, too", -24, 0, () -> Check.play(x, 0, 1, 1, "y1,"));
        check.refuses(x, "play, of neither, too", -24, 0, () -> Check.play(x, 0, 0, 1, "y4,"));
        check.refuses(x, "play, out, too", -24, 0, () -> Check.play(x, 0, 0, 1, "y3,"));
        check.refuses(x, "plan, no player, too", -25, 0, () -> Check.plan(x, 6, "001,"));
        check.refuses(x, "returns, no player, too", -25, 0, () -> Check.returns(x, -1, "001,"));
        check.refuses(x, "returns, none, too", -25, 0, () -> Check.returns(x, 5, "001,"));
        CardsAndBans full = full();
        check.refuses(full, "play, above 100, too", -24, 0, () -> Check.play(full, 0, 1, 2, "r2,"));
        check.refuses(full, "given, above 100, too", -27, 0, () -> Check.given(full, "0c0n1,"));
    }

    /** "then NONE", ahead of the others. */
    private static void noneComesNext() {
        CardsAndBans x = loaded();
        check.refuses(x, "play, no cup, of neither", -1, 0, () -> Check.play(x, 4, 0, 1, "y4"));
        check.refuses(x, "play, a is b, of neither", -1, 0, () -> Check.play(x, 0, 0, 0, "y4"));
        check.refuses(x, "play, no team, out", -1, 0, () -> Check.play(x, 0, 1, 4, "y3"));
        check.refuses(x, "swaps, no player, of one", -1, 0, () -> x.swaps(6, 6));
        check.refuses(x, "decide, another more, not pending", -1, 0, () -> x.decide(0, false, 4));
        check.refuses(x, "decide, below 0, not pending", -1, 0, () -> x.decide(0, false, -1));
        check.refuses(x, "decide, granted and more, not pending", -1, 0, () -> x.decide(0, true, 1));
        check.refuses(x, "pardon, n 0, not open", -1, 0, () -> x.pardon(1, 0));
        check.refuses(x, "pardon, n below 0, not open", -1, 0, () -> x.pardon(1, -1));
        check.refuses(x, "returns, no player, none", -1, 0, () -> Check.returns(x, 6, ""));
        check.refuses(x, "longest, no cup", -1, 0, () -> x.longest(-1));
        CardsAndBans full = full();
        check.refuses(full, "play, no cup, above 100", -1, 0, () -> Check.play(full, -1, 1, 2, "r2"));
        check.refuses(full, "bans, n 0, above 100", -1, 0, () -> full.bans(0, 0, 0));
        check.refuses(full, "bans, n 10, above 100", -1, 0, () -> full.bans(0, 0, 10));
        check.refuses(full, "bans, no player, above 100", -1, 0, () -> full.bans(6, 0, 1));
        check.refuses(full, "bans, no cup, above 100", -1, 0, () -> full.bans(0, 4, 1));
        check.refuses(full, "tempts, n 41, above 100", -1, 0, () -> full.tempts(5, 0, 41));
        check.refuses(full, "tempts, no cup, above 100", -1, 0, () -> full.tempts(5, 4, 1));
        CardsAndBans empty = new CardsAndBans();
        check.refuses(empty, "most, no cup, no players", -1, 0, () -> empty.most(4));
        check.refuses(empty, "longest, no cup, no bans", -1, 0, () -> empty.longest(4));
    }

    /** "then the others as they are told", card by card in play(). */
    private static void othersAsTheyAreTold() {
        CardsAndBans x = loaded();
        x.move(3, 2);
        check.refuses(x, "of neither and out", -2, 0, () -> Check.play(x, 0, 0, 1, "y3"));
        check.refuses(x, "of neither ahead of out", -2, 0, () -> Check.play(x, 0, 2, 1, "y0,y3"));
        check.refuses(x, "out ahead of neither", -3, 0, () -> Check.play(x, 0, 2, 1, "y3,y0"));
        x.pardon(3, x.ban(3, 2));
        check.refuses(x, "appeal, not open, and there was one", -2, 0, () -> x.appeal(3));
        check.refuses(x, "pardon, not open, above left", -2, 0, () -> x.pardon(3, 9));
        CardsAndBans full = full();
        check.refuses(full, "of neither and above 100", -2, 0, () -> Check.play(full, 0, 1, 2, "r0"));
        check.refuses(full, "out and above 100", -3, 0, () -> Check.play(full, 0, 0, 1, "r0"));
        check.refuses(full, "above 100 ahead of neither", -4, 0, () -> Check.play(full, 0, 1, 2, "r2,y0"));
        check.refuses(full, "above 100 ahead of out", -4, 0, () -> Check.play(full, 0, 0, 1, "r2,y0"));
    }
}
