import java.util.function.Supplier;

/** Boundaries of "Terms" 1 and 2: the least and the most of everything there is, a method for each sentence. */
public final class TermsEdgesTest {
    private static final Check check = new Check("TermsEdgesTest");
    private static final int NONE = CardsAndBans.NONE;
    private static final int SIGNS = 3;

    private interface Call {
        long of(CardsAndBans x, int n);
    }

    public static void main(String[] args) {
        fiveHundredAndTwelveCalls();
        cups();
        teams();
        players();
        noPlayers();
        bans();
        atFirst();
        hundredBans();
        openAsLongAsLeftIsAboveNought();
        bars();
        kindAsTheRulesWereWhenItCame();
        matchesFromOneOn();
        servingByNumbers();
        theFirstOfItsBans();
        servingAheadOfCards();
        hadOneInThisMatch();
        oneLess();
        justSoMany();
        redMatches();
        roundAboveNought();
        roundOfAllItsPlayers();
        latestSixtyEntries();
        entriesAreNoBans();
        latestEightActs();
        rulesStay();
        check.end();
    }

    /** "An object is used for at most 512 calls": the 512th is answered as the first. */
    private static void fiveHundredAndTwelveCalls() {
        CardsAndBans x = new CardsAndBans();
        x.sign('0' << 24 | '1' << 16);
        x.end(2);
        x.squads();
        for (int call = 4; call <= 511; call++) {
            check.is("call " + call, x.play(0, 0, 1), 0);
        }
        check.is("call 512", x.count(4), 508);

        x = new CardsAndBans();
        x.sign('0' << 24 | '1' << 16);
        x.end(2);
        x.squads();
        for (int call = 6; call <= 510; call += 3) {
            x.sign('y' << 24 | '0' << 16);
            x.end(2);
            check.is("call " + call, x.play(0, 0, 1), 0);
        }
        check.is("call 511", x.cards(0), 169);
        check.is("call 512", x.cautions(0, 0), 169);
    }

    /** What is taken from least to most and refused with NONE beside that; hi below lo: nothing is taken. */
    private static void range(String name, int signs, int lo, int hi, Supplier<CardsAndBans> make, Call call) {
        if (lo <= hi) {
            check.is(name + " of " + lo, call.of(make.get(), lo) >= 0, true);
            check.is(name + " of " + hi, call.of(make.get(), hi) >= 0, true);
        }
        for (int n : new int[] {lo - 1, hi + 1, Integer.MIN_VALUE, Integer.MAX_VALUE}) {
            CardsAndBans x = make.get();
            check.refuses(x, name + " of " + n, NONE, signs, () -> call.of(x, n));
        }
    }

    private static void range(String name, int lo, int hi, Supplier<CardsAndBans> make, Call call) {
        range(name, SIGNS, lo, hi, make, call);
    }

    /** Twelve PLAYERS, three a TEAM; the first and the last have an OPEN BAN in CUP 0 and CUP 3. */
    private static CardsAndBans lively() {
        CardsAndBans x = new CardsAndBans();
        Check.squads(x, "012301230123");
        Check.rules(x, "0o3x20:2/1,4/2;1a2x0;3o9x0:1/1");
        Check.given(x, "0c0n2,11c3n1,11c0n1,0c3n2");
        Check.put(x, "abc");
        return x;
    }

    /** "CUPS 0 .. 3", "NONE: no such CUP". */
    private static void cups() {
        Supplier<CardsAndBans> make = TermsEdgesTest::lively;
        range("rule", 0, 3, make, (x, c) -> x.rule(c, 0));
        range("play", 0, 0, 3, make, (x, c) -> Check.play(x, c, 0, 1, ""));
        range("bans", 0, 3, make, (x, c) -> x.bans(0, c, 1));
        range("may", 0, 3, make, (x, c) -> x.may(0, c));
        range("out", 0, 3, make, (x, c) -> x.out(0, c));
        range("misses", 0, 3, make, (x, c) -> x.misses(0, c));
        range("sides", 0, 3, make, (x, c) -> x.sides(c, 0, 1));
        range("until", 0, 3, make, (x, c) -> x.until(0, c));
        range("cautions", 0, 3, make, (x, c) -> x.cautions(0, c));
        range("risks", 0, 3, make, (x, c) -> x.risks(0, c));
        range("tempts", 0, 3, make, (x, c) -> x.tempts(0, c, 1));
        range("costs", 0, 3, make, (x, c) -> x.costs(c, 1));
        range("played", 0, 3, make, (x, c) -> x.played(0, c));
        range("frees", 0, 3, make, (x, c) -> x.frees(0, c));
        range("sum", 0, 3, make, (x, c) -> x.sum(c));
        range("most", 0, 3, make, (x, c) -> x.most(c));
        range("longest", 0, 3, make, (x, c) -> x.longest(c));
    }

    /** "TEAMS 0 .. 3", "NONE: no such TEAM". */
    private static void teams() {
        Supplier<CardsAndBans> make = TermsEdgesTest::lively;
        range("squad", 0, 3, make, (x, t) -> x.squad(t));
        range("play, a", 0, 0, 3, make, (x, t) -> Check.play(x, 0, t, 1, ""));
        range("play, b", 0, 0, 3, make, (x, t) -> Check.play(x, 0, 1, t, ""));
        range("move", 0, 3, make, (x, t) -> x.move(1, t));
        range("out", 0, 3, make, (x, t) -> x.out(t, 0));
        range("sides, a", 0, 3, make, (x, t) -> x.sides(0, t, 1));
        range("sides, b", 0, 3, make, (x, t) -> x.sides(0, 1, t));
        range("until", 0, 3, make, (x, t) -> x.until(t, 0));
        range("risks", 0, 3, make, (x, t) -> x.risks(t, 0));
        range("played", 0, 3, make, (x, t) -> x.played(t, 0));
        range("points", 0, 3, make, (x, t) -> x.points(t));
    }

    private static CardsAndBans pair() {
        CardsAndBans x = new CardsAndBans();
        Check.squads(x, "03");
        Check.put(x, "abc");
        return x;
    }

    /** "PLAYERS 0 .. (12 at most)", "NONE: no such PLAYER": the last of two and the last of twelve. */
    private static void players() {
        for (int last : new int[] {1, 11}) {
            Supplier<CardsAndBans> make = last == 1 ? TermsEdgesTest::pair : TermsEdgesTest::lively;
            range("team", 0, last, make, (x, p) -> x.team(p));
            range("move", 0, last, make, (x, p) -> x.move(p, 1));
            range("swaps", 0, last, make, (x, p) -> x.swaps(p, p == 0 ? 1 : 0));
            range("swaps, other", 0, last, make, (x, p) -> x.swaps(p == 0 ? 1 : 0, p));
            range("bans", 0, last, make, (x, p) -> x.bans(p, 0, 1));
            range("may", 0, last, make, (x, p) -> x.may(p, 0));
            range("misses", 0, last, make, (x, p) -> x.misses(p, 0));
            range("owed", 0, last, make, (x, p) -> x.owed(p));
            range("cautions", 0, last, make, (x, p) -> x.cautions(p, 0));
            range("tempts", 0, last, make, (x, p) -> x.tempts(p, 0, 1));
            range("plan", 0, 0, last, make, (x, p) -> Check.plan(x, p, "001"));
            range("returns", 0, 0, last, make, (x, p) -> Check.returns(x, p, "203"));
            range("open", 0, last, make, (x, p) -> x.open(p));
            range("frees", 0, last, make, (x, p) -> x.frees(p, 0));
            range("cards", 0, last, make, (x, p) -> x.cards(p));
            range("told", 0, last, make, (x, p) -> x.told(p));
        }
    }

    /** "no PLAYERS": there is not even a first one. */
    private static void noPlayers() {
        Supplier<CardsAndBans> make = () -> {
            CardsAndBans x = new CardsAndBans();
            Check.put(x, "abc");
            return x;
        };
        range("team of none", 0, -1, make, (x, p) -> x.team(p));
        range("move of none", 0, -1, make, (x, p) -> x.move(p, 1));
        range("swaps of none", 0, -1, make, (x, p) -> x.swaps(p, p));
        range("bans of none", 0, -1, make, (x, p) -> x.bans(p, 0, 1));
        range("may of none", 0, -1, make, (x, p) -> x.may(p, 0));
        range("misses of none", 0, -1, make, (x, p) -> x.misses(p, 0));
        range("owed of none", 0, -1, make, (x, p) -> x.owed(p));
        range("cautions of none", 0, -1, make, (x, p) -> x.cautions(p, 0));
        range("tempts of none", 0, -1, make, (x, p) -> x.tempts(p, 0, 1));
        range("plan of none", 0, 0, -1, make, (x, p) -> Check.plan(x, p, ""));
        range("returns of none", 0, 0, -1, make, (x, p) -> Check.returns(x, p, ""));
        range("open of none", 0, -1, make, (x, p) -> x.open(p));
        range("frees of none", 0, -1, make, (x, p) -> x.frees(p, 0));
        range("cards of none", 0, -1, make, (x, p) -> x.cards(p));
        range("told of none", 0, -1, make, (x, p) -> x.told(p));
    }

    private static CardsAndBans withBans(int bans, boolean pending) {
        CardsAndBans x = new CardsAndBans();
        Check.squads(x, "0");
        for (int ban = 0; ban < bans; ban++) {
            x.bans(0, 0, 2);
            if (pending) {
                x.appeal(ban);
            }
        }
        Check.put(x, "abc");
        return x;
    }

    /** "NONE: no such BAN": of none, of one, of a hundred. */
    private static void bans() {
        for (int bans : new int[] {0, 1, 100}) {
            range("ban of " + bans, 0, bans - 1, () -> withBans(bans, false), (x, b) -> x.ban(b, 0));
            range("appeal of " + bans, 0, bans - 1, () -> withBans(bans, false), (x, b) -> x.appeal(b));
            range("pardon of " + bans, 0, bans - 1, () -> withBans(bans, false), (x, b) -> x.pardon(b, 1));
            range("decide of " + bans, 0, bans - 1, () -> withBans(bans, true), (x, b) -> x.decide(b, false, 0));
            range("decide of " + bans, 0, bans - 1, () -> withBans(bans, true), (x, b) -> x.decide(b, true, 0));
        }
    }

    /** "At first: OWN, RED 1, ROUND 0, no STEPS; no PLAYERS." */
    private static void atFirst() {
        CardsAndBans x = new CardsAndBans();
        for (int cup = 0; cup < 4; cup++) {
            int[] due = {0, 1, 0, 0, NONE};
            for (int what = 0; what < due.length; what++) {
                check.is("rule(" + cup + ", " + what + ") at first", x.rule(cup, what), due[what]);
            }
        }
        check.is("players at first", x.count(0), 0);
    }

    /** "BANS, numbered from 0 on as they come (100 at most)". */
    private static void hundredBans() {
        CardsAndBans x = Check.ordinary();
        for (int ban = 0; ban < 100; ban++) {
            check.is("its number", x.bans(ban % 6, 0, 1), ban);
        }
        check.refuses(x, "a hundred and one", -4, 0, () -> x.bans(0, 0, 1));
        check.is("undone", x.undo(), 7);
        check.is("its number again", x.bans(5, 1, 1), 99);
        x.pardon(0, 1);
        check.refuses(x, "one that is not open counts, too", -4, 0, () -> x.bans(0, 0, 1));
    }

    /** "A BAN is OPEN, as long as LEFT is above 0." */
    private static void openAsLongAsLeftIsAboveNought() {
        CardsAndBans x = Check.ordinary();
        x.bans(0, 2, 2);
        check.tells(x, "left 2", x.open(0), 1, 0);
        Check.play(x, 2, 0, 1, "");
        check.tells(x, "left 1", x.open(0), 1, 0);
        check.is("left 1", x.count(2), 1);
        Check.play(x, 2, 0, 1, "");
        check.tells(x, "left 0", x.open(0), 0);
        check.is("left 0", x.count(2), 0);
        check.tells(x, "left 0", x.team(0), 0, 0, 1);
    }

    /** "It BARS its PLAYER from a CUP if it is OPEN, not PENDING, and OWN of that CUP, or ALL." */
    private static void bars() {
        for (int cup = 0; cup < 4; cup++) {
            CardsAndBans x = Check.ordinary();
            x.bans(0, 0, 1);
            x.bans(2, 1, 1);
            check.is("own of cup 0 in " + cup, x.may(0, cup), cup == 0 ? 0 : 1);
            check.is("all of cup 1 in " + cup, x.may(2, cup), 0);
            check.is("another player in " + cup, x.may(1, cup), 1);
            x.appeal(0);
            x.appeal(1);
            check.is("own, pending, in " + cup, x.may(0, cup), 1);
            check.is("all, pending, in " + cup, x.may(2, cup), 1);
            x.decides(false);
            check.is("own, decided, in " + cup, x.may(0, cup), cup == 0 ? 0 : 1);
            check.is("all, decided, in " + cup, x.may(2, cup), 0);
            x.pardon(0, 1);
            x.pardon(1, 1);
            check.is("own, not open, in " + cup, x.may(0, cup), 1);
            check.is("all, not open, in " + cup, x.may(2, cup), 1);
        }
    }

    /** "OWN or ALL (as the RULES of its CUP were when it came)". */
    private static void kindAsTheRulesWereWhenItCame() {
        CardsAndBans x = Check.ordinary();
        x.bans(0, 0, 1);
        Check.given(x, "1c1n1");
        Check.play(x, 0, 1, 2, "r2");
        Check.rules(x, "0a1x0;1o1x0");
        x.bans(3, 0, 1);
        Check.given(x, "4c1n1");
        Check.play(x, 0, 1, 2, "r5");
        int[] due = {0, 1, 0, 1, 0, 1};
        for (int ban = 0; ban < due.length; ban++) {
            check.is("kind of ban " + ban, x.ban(ban, 3), due[ban]);
        }
        check.is("own as it was", x.may(0, 1), 1);
        check.is("all as it was", x.may(1, 3), 0);
    }

    /** "A MATCH of a CUP between two TEAMS, numbered from 1 on", in whatever CUP. */
    private static void matchesFromOneOn() {
        CardsAndBans x = Check.ordinary();
        for (int match = 1; match <= 5; match++) {
            check.tells(x, "match " + match, Check.play(x, match % 4, match % 3, 3, ""), 0, match, 0, 0);
        }
        x.undo();
        check.tells(x, "its number again", Check.play(x, 0, 0, 1, ""), 0, 5, 0, 0);
        x.season();
        check.tells(x, "behind a season", Check.play(x, 0, 0, 1, ""), 0, 6, 0, 0);
        Check.squads(x, "01");
        check.tells(x, "behind squads", Check.play(x, 0, 0, 1, ""), 0, 1, 0, 0);
    }

    private static void entries(CardsAndBans x, String name, int... due) {
        for (int i = 0; i < due.length / 2; i++) {
            check.is(name + ": what of entry " + i, x.book(i, 0), due[2 * i]);
            check.is(name + ": ban of entry " + i, x.book(i, 1), due[2 * i + 1]);
        }
    }

    /** "each PLAYER of both TEAMS, by numbers, who is OUT of the CUP serves". */
    private static void servingByNumbers() {
        CardsAndBans x = new CardsAndBans();
        Check.squads(x, "10102");
        Check.given(x, "3c0n1,1c0n2,2c0n2,0c0n2,4c0n2");
        check.tells(x, "four serve", Check.play(x, 0, 1, 0, ""), 0, 1, 4, 15);
        entries(x, "by numbers", 2, 0, 1, 0, 1, 2, 1, 1, 1, 3, 0, 4);
        check.is("one of a third team does not", x.ban(4, 2), 2);
        check.tells(x, "none in another cup", Check.play(x, 1, 1, 0, ""), 0, 2, 0, 0);
    }

    /** "of its BANS that BAR it from it the first: LEFT is one less". */
    private static void theFirstOfItsBans() {
        CardsAndBans x = Check.ordinary();
        Check.given(x, "0c0n1,0c1n2,0c0n1");
        Check.play(x, 2, 0, 1, "");
        check.is("the own one of another cup stays", x.ban(0, 2), 1);
        check.is("the first that bars", x.ban(1, 2), 1);
        Check.play(x, 0, 0, 1, "");
        check.is("the first of three", x.ban(0, 2), 0);
        check.is("the second stays", x.ban(1, 2), 1);
        Check.play(x, 0, 0, 1, "");
        check.is("the second is next", x.ban(1, 2), 0);
        check.is("the third stays", x.ban(2, 2), 1);
        Check.play(x, 0, 0, 1, "");
        check.is("the third is last", x.ban(2, 2), 0);
        check.tells(x, "nobody is out", Check.play(x, 0, 0, 1, ""), 0, 5, 0, 0);
    }

    /** (1) comes ahead of (2): a BAN that comes in a MATCH is not served in it, one that is over in it barred yet. */
    private static void servingAheadOfCards() {
        CardsAndBans x = new CardsAndBans();
        Check.squads(x, "01");
        check.tells(x, "a red", Check.play(x, 0, 0, 1, "r0"), 1, 1, 0, 0);
        check.is("not served in it", x.ban(0, 2), 1);
        check.refuses(x, "over in it, out ahead of it", -3, 0, () -> Check.play(x, 0, 0, 1, "y0"));
        check.tells(x, "served", Check.play(x, 0, 0, 1, ""), 0, 2, 1, 1);
        check.tells(x, "free in the next", Check.play(x, 0, 0, 1, "y0"), 0, 3, 0, 0);
    }

    /** "if the PLAYER had one in this MATCH": not in the one ahead, and not another PLAYER. */
    private static void hadOneInThisMatch() {
        CardsAndBans x = new CardsAndBans();
        Check.squads(x, "0011");
        check.is("one each", Check.play(x, 0, 0, 1, "y0,y1,y2,y3"), 0);
        check.is("one more in the next", Check.play(x, 0, 0, 1, "y0,y1,y2,y3"), 0);
        check.is("cautions", x.count(7), 8);
        check.is("two each", Check.play(x, 0, 0, 1, "y0,y3,y1,y2,y2,y0,y3,y1"), 4);
        check.is("one of each does not count", x.count(7), 8);
        int[] due = {2, 0, 3, 1};
        for (int ban = 0; ban < 4; ban++) {
            check.is("in their order", x.ban(ban, 0), due[ban]);
        }
        for (int i = 0; i < 4; i++) {
            x.pardon(i, 1);
        }
        check.refuses(x, "sent off, three of them", -3, 0, () -> Check.play(x, 0, 0, 1, "r0,y1,r2,y1,y0"));
        check.refuses(x, "sent off, the latest", -3, 0, () -> Check.play(x, 0, 0, 1, "r0,y1,r2,y1,y1"));
        check.is("a caution and a red", Check.play(x, 0, 0, 1, "y0,r0"), 1);
        check.is("the caution counts", x.cautions(0, 0), 3);
    }

    /** "CAUTIONS of the CUP are one less (that one does not count any more; a BAN by it stays), a BAN of 1 MATCH". */
    private static void oneLess() {
        CardsAndBans x = new CardsAndBans();
        Check.squads(x, "01");
        Check.rules(x, "0o9x0:1/4,2/5");
        check.is("a step and a second one", Check.play(x, 0, 0, 1, "y0,y0"), 2);
        check.is("none is left", x.cautions(0, 0), 0);
        check.is("the ban of the step stays", x.ban(0, 2), 4);
        check.is("one match, not red's nine", x.ban(1, 2), 1);
        x.pardon(0, 4);
        x.pardon(1, 1);
        Check.play(x, 0, 0, 1, "y0");
        x.pardon(2, 4);
        check.is("to a step by one less", Check.play(x, 0, 0, 1, "y0,y0"), 2);
        check.is("down to the first step", x.cautions(0, 0), 1);
        check.is("of the second step", x.ban(3, 5), 5);
        check.is("of the second caution", x.ban(4, 5), 1);
    }

    /** "if a STEP has just so many": none for one less or one more, the last STEP at 20. */
    private static void justSoMany() {
        CardsAndBans x = new CardsAndBans();
        Check.squads(x, "01");
        Check.rules(x, "0o1x0:3/7,5/8,19/1,20/9");
        for (int shown = 1; shown <= 22; shown++) {
            boolean isStep = shown == 3 || shown == 5 || shown == 19 || shown == 20;
            check.is("caution " + shown, Check.play(x, 0, 0, 1, "y0"), isStep ? 1 : 0);
            int ban = x.count(1) - 1;
            if (isStep) {
                x.pardon(ban, x.ban(ban, 2));
            }
        }
        int[] due = {7, 8, 1, 9};
        for (int ban = 0; ban < 4; ban++) {
            check.is("matches of step " + ban, x.ban(ban, 5), due[ban]);
        }
    }

    /** "A red one: SENT OFF, a BAN of RED MATCHES comes", RED from 1 to 9. */
    private static void redMatches() {
        for (int red = 1; red <= 9; red++) {
            CardsAndBans x = new CardsAndBans();
            Check.squads(x, "01");
            Check.rules(x, "2o" + red + "x0:1/4");
            check.is("red " + red, Check.play(x, 2, 0, 1, "r1"), 1);
            check.is("matches of red " + red, x.ban(0, 2), red);
            check.is("a red is no caution", x.cautions(1, 2), 0);
        }
    }

    /** "Each of the TEAMS has played one more in the CUP; is that ROUND of it (above 0), CAUTIONS .. are 0." */
    private static void roundAboveNought() {
        int[] rounds = {0, 1, 2, 19, 20};
        for (int round : rounds) {
            CardsAndBans x = new CardsAndBans();
            Check.squads(x, "01");
            Check.rules(x, "1o1x" + round);
            int due = 0;
            for (int match = 1; match <= 22; match++) {
                Check.play(x, 1, 0, 1, "y0,y1");
                due = match == round ? 0 : due + 1;
                check.is("round " + round + ", match " + match, x.cautions(0, 1), due);
                check.is("round " + round + ", match " + match + ", b", x.cautions(1, 1), due);
                check.is("played", x.played(1, 1), match);
            }
        }
    }

    /** "CAUTIONS in this CUP of all its PLAYERS are 0", who has moved among them; a BAN in that MATCH stays. */
    private static void roundOfAllItsPlayers() {
        CardsAndBans x = new CardsAndBans();
        Check.squads(x, "000011112222");
        Check.rules(x, "0o1x2:2/3");
        Check.play(x, 0, 0, 1, "y0,y3,y4,y7");
        Check.play(x, 1, 0, 1, "y0,y3,y4,y7");
        x.move(7, 0);
        x.move(3, 2);
        check.is("a step in the round", Check.play(x, 0, 0, 2, "y0,y8"), 1);
        check.is("its ban stays", x.ban(0, 2), 3);
        int[] due = {0, 0, 0, 1, 1, 0, 0, 0, 1, 0, 0, 0};
        for (int player = 0; player < 12; player++) {
            check.is("cautions of " + player, x.cautions(player, 0), due[player]);
        }
        check.is("another cup", x.count(7), 3 + 4);
        Check.rules(x, "0o1x1:2/3");
        Check.play(x, 0, 1, 0, "");
        check.is("a round that is past wipes none", x.cautions(4, 0), 1);
    }

    /** "THE BOOK: entries, the latest 60". */
    private static void latestSixtyEntries() {
        CardsAndBans x = Check.ordinary();
        check.is("an empty book", x.book(0, 0), NONE);
        for (int n = 1; n <= 100; n++) {
            x.bans(n % 6, 0, 1);
            int kept = Math.min(n, 60);
            check.is("entries of " + n, x.count(6), kept);
            check.is("the latest of " + n, x.book(0, 1), n - 1);
            check.is("the earliest of " + n, x.book(kept - 1, 1), n - kept);
            check.is("none such of " + n, x.book(kept, 1), NONE);
        }
        for (int ban = 0; ban < 30; ban++) {
            x.appeal(ban);
        }
        entries(x, "latest of 130", 4, 29, 4, 28);
        check.is("the first appeal", x.book(29, 0) * 100 + x.book(29, 1), 400);
        check.is("the last ban", x.book(30, 1), 99);
        check.is("the earliest of 130", x.book(59, 1), 70);
        check.is("none such of 130", x.book(60, 0), NONE);
    }

    /** A hundred entries and more bring no -4: there are fewer BANS than that. */
    private static void entriesAreNoBans() {
        CardsAndBans x = Check.ordinary();
        Check.fill(x, 97);
        for (int ban = 0; ban < 50; ban++) {
            x.appeal(ban);
        }
        check.is("by hand", x.bans(5, 0, 1), 97);
        check.is("given", Check.given(x, "5c3n1"), 1);
        check.is("by a card", Check.play(x, 2, 0, 1, "r2"), 1);
        check.refuses(x, "a hundred", -4, 0, () -> Check.play(x, 2, 0, 1, "r3"));
        x.undo();
        check.is("in thought", x.tempts(3, 0, 2), 0);
        check.is("in thought", x.row(0), 1);
        check.refuses(x, "a hundred in thought", -4, 0, () -> x.tempts(3, 0, 9));
    }

    /** "ACTS, of which the latest 8 can be undone". */
    private static void latestEightActs() {
        for (int acts = 0; acts <= 20; acts++) {
            CardsAndBans x = Check.ordinary();
            String[] was = new String[acts + 1];
            for (int i = 0; i < acts; i++) {
                was[i] = Snapshot.of(x);
                x.bans(i % 6, i % 4, 1 + i % 9);
                check.is("acts", x.count(5), Math.min(i + 1, 8));
            }
            for (int i = acts - 1; i >= 0 && i >= acts - 8; i--) {
                check.is("undo to " + i + " of " + acts, x.undo(), Math.min(acts, 8) - (acts - i));
                check.is("as it was ahead of " + i, Snapshot.of(x).equals(was[i]), true);
            }
            check.refuses(x, "no more of " + acts, -2, 0, x::undo);
        }
    }

    /** "(An undone one is as if it had never been; RULES stay as they are.)" */
    private static void rulesStay() {
        CardsAndBans x = Check.ordinary();
        x.season();
        Check.rules(x, "3a9x20:1/1");
        x.season();
        Check.rules(x, "2a9x20:1/1");
        x.undo();
        x.undo();
        check.is("rules as told last", Check.written(x).equals("0o1x0;1o1x0;2a9x20:1/1;3o1x0"), true);
    }
}
