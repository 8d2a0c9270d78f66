/** Boundaries of promises 10 to 19, a method for each sentence. */
public final class HappeningsEdgesTest {
    private static final Check check = new Check("HappeningsEdgesTest");
    private static final int NONE = CardsAndBans.NONE;

    public static void main(String[] args) {
        noCards();
        asManyBansAsAMatchCanBring();
        theRowOfAMatch();
        aIsB();
        ofNeitherTeam();
        outAheadOrSentOff();
        hundredBansInAMatch();
        refusedInTheMiddle();
        toAnotherTeam();
        changeTeams();
        bansOfOneToNine();
        noneGiven();
        hundredGiven();
        appealAgainstAnOpenOne();
        thereWasOne();
        moreFromNoughtToThree();
        notPending();
        allPending();
        pardonUpToLeft();
        pardonToNought();
        newSeason();
        check.end();
    }

    private static CardsAndBans twelve(String rules) {
        CardsAndBans x = new CardsAndBans();
        Check.squads(x, "000000111111");
        Check.rules(x, rules);
        return x;
    }

    // ---- promise 10

    /** "(none: an empty one)": a MATCH and an ACT, between TEAMS without a PLAYER, too. */
    private static void noCards() {
        CardsAndBans x = new CardsAndBans();
        check.tells(x, "a match of nobody", x.play(0, 0, 1), 0, 1, 0, 0);
        check.is("an act", x.count(5), 1);
        check.is("played", x.played(0, 0), 1);
        check.is("played", x.played(1, 0), 1);
        check.is("another team", x.played(2, 0), 0);
        check.is("another cup", x.played(0, 1), 0);
        check.tells(x, "the last cup, the last teams", x.play(3, 3, 2), 0, 2, 0, 0);
    }

    /** "how many BANS came": none, one, two of each PLAYER. */
    private static void asManyBansAsAMatchCanBring() {
        CardsAndBans x = twelve("0o9x0:1/1");
        StringBuilder cards = new StringBuilder();
        for (int player = 0; player < 12; player++) {
            cards.append(player == 0 ? "" : ",").append("y").append(player).append(",y").append(player);
        }
        check.tells(x, "two each", Check.play(x, 0, 0, 1, cards.toString()), 24, 1, 0, 0);
        check.is("bans", x.count(1), 24);
        check.is("cautions", x.count(7), 0);
        check.tells(x, "all serve", Check.play(x, 0, 1, 0, ""), 0, 2, 12, 4095);
        check.tells(x, "all serve again", Check.play(x, 0, 1, 0, ""), 0, 3, 12, 4095);
        check.tells(x, "nobody serves", Check.play(x, 0, 1, 0, "y0,y11"), 2, 4, 0, 0);
    }

    /** "the ROW: the number of the MATCH, how many served, PLAYERS of both TEAMS that were OUT, as bits". */
    private static void theRowOfAMatch() {
        CardsAndBans x = Check.ordinary();
        Check.given(x, "0c0n1,2c0n1,3c2n1,4c0n1");
        check.tells(x, "two are out, two of other teams or cups not", Check.play(x, 0, 1, 0, "r1"), 1, 1, 2, 5);
        check.tells(x, "who was sent off is out of the next", Check.play(x, 0, 0, 1, ""), 0, 2, 1, 2);
    }

    /** "NONE: a is b, too". */
    private static void aIsB() {
        CardsAndBans x = Check.ordinary();
        for (int team = 0; team < 4; team++) {
            int t = team;
            check.refuses(x, "of " + team + " and itself", NONE, 0, () -> Check.play(x, 0, t, t, ""));
            for (int other = 0; other < 4; other++) {
                if (other != team) {
                    check.is("of " + team + " and " + other, Check.play(x, 0, team, other, ""), 0);
                }
            }
        }
    }

    /** "-2: its PLAYER is of neither TEAM". */
    private static void ofNeitherTeam() {
        CardsAndBans x = Check.ordinary();
        check.is("of a and of b", Check.play(x, 2, 0, 1, "y0,y1,y2,y3"), 0);
        check.refuses(x, "of a third", -2, 0, () -> Check.play(x, 2, 0, 1, "y4"));
        check.refuses(x, "the last card", -2, 0, () -> Check.play(x, 2, 0, 1, "y0,r1,r2,r3,r5"));
        x.move(4, 1);
        x.move(0, 3);
        check.is("who has come", Check.play(x, 2, 0, 1, "y4"), 0);
        check.refuses(x, "who has gone", -2, 0, () -> Check.play(x, 2, 0, 1, "y0"));
    }

    /** "-3: it was OUT ahead of the MATCH, or SENT OFF by a card ahead". */
    private static void outAheadOrSentOff() {
        CardsAndBans x = Check.ordinary();
        Check.given(x, "0c0n1,2c1n1,4c0n1");
        x.appeal(2);
        check.refuses(x, "out by an own one", -3, 0, () -> Check.play(x, 0, 0, 1, "y0"));
        check.refuses(x, "out by one of all", -3, 0, () -> Check.play(x, 3, 0, 1, "r2"));
        check.is("an own one of another cup", Check.play(x, 3, 0, 2, "y0"), 0);
        check.is("a pending one", Check.play(x, 0, 2, 3, "y4"), 0);
        String[] sentOff = {"r1,r1", "r1,y1", "y1,y1,y1", "y1,y1,r1", "y1,r1,y1", "y1,r1,r1", "r1,y3,y1"};
        for (String cards : sentOff) {
            check.refuses(x, "sent off by " + cards, -3, 0, () -> Check.play(x, 3, 0, 1, cards));
        }
        check.is("each sent off once", Check.play(x, 3, 0, 1, "y1,y3,r0,r3,y1"), 3);
    }

    /** "-4: there would be more than 100 BANS". */
    private static void hundredBansInAMatch() {
        String two = "r6,r7";
        String stepAndSecond = "y8,y8";
        for (int bans = 97; bans <= 100; bans++) {
            CardsAndBans x = twelve("0o1x0:1/1;1o1x0");
            Check.fill(x, bans);
            int room = 100 - bans;
            if (room >= 2) {
                check.is("two reds behind " + bans, Check.play(x, 0, 1, 2, two), 2);
                x.undo();
                check.is("a step and a second one behind " + bans, Check.play(x, 0, 1, 2, stepAndSecond), 2);
                check.is("bans", x.count(1), bans + 2);
                x.undo();
            } else {
                check.refuses(x, "two reds behind " + bans, -4, 0, () -> Check.play(x, 0, 1, 2, two));
                check.refuses(x, "a step and a second one", -4, 0, () -> Check.play(x, 0, 1, 2, stepAndSecond));
            }
            check.is("no ban behind " + bans, Check.play(x, 1, 1, 2, "y6,y7,y8"), 0);
            check.is("a second one behind " + bans, Check.play(x, 1, 1, 2, "y6,y6"), room > 0 ? 1 : -4);
        }
    }

    /** A refused card leaves nothing of the MATCH: no serving, no card ahead of it, no BAN, no entry, no number. */
    private static void refusedInTheMiddle() {
        CardsAndBans x = Check.ordinary();
        Check.rules(x, "0o3x2:1/1");
        Check.play(x, 0, 0, 1, "");
        Check.given(x, "0c0n2");
        check.refuses(x, "of neither, behind bans", -2, 0, () -> Check.play(x, 0, 0, 1, "y1,y1,r2,y3,y4"));
        check.refuses(x, "out, behind bans", -3, 0, () -> Check.play(x, 0, 0, 1, "y1,y1,r2,y3,y0"));
        check.refuses(x, "sent off, behind bans", -3, 0, () -> Check.play(x, 0, 0, 1, "y1,y1,r2,y3,y2"));
        check.tells(x, "its number is free", Check.play(x, 0, 0, 1, "y1,y1,r2,y3"), 4, 2, 1, 1);
    }

    // ---- promises 11 and 12

    /** "A PLAYER goes to another TEAM (CAUTIONS, BANS go with it): the one it was in. -2: it is in that." */
    private static void toAnotherTeam() {
        CardsAndBans x = Check.ordinary();
        Check.play(x, 0, 0, 1, "y0,r1");
        for (int team = 0; team < 4; team++) {
            for (int to = 0; to < 4; to++) {
                int other = to;
                if (to == team) {
                    check.refuses(x, "to " + to + " from it", -2, 0, () -> x.move(0, other));
                } else {
                    check.is("to " + to, x.move(0, to), team);
                    check.is("there", x.team(0), to);
                    check.is("cautions go with it", x.cautions(0, 0), 1);
                    check.is("back", x.move(0, team), to);
                }
            }
            x.move(0, (team + 1) % 4);
        }
        x.move(1, 3);
        check.tells(x, "its ban goes with it", x.out(3, 0), 2, 1, 3);
        check.tells(x, "and is served there", Check.play(x, 0, 3, 2, ""), 0, 2, 1, 2);
        x.move(0, 3);
        check.tells(x, "nobody is left", x.squad(0), 0, 0);
    }

    /** "Two PLAYERS change TEAMS with one another: the TEAM of the first one then. -2: they are of one." */
    private static void changeTeams() {
        CardsAndBans x = Check.ordinary();
        Check.play(x, 0, 0, 1, "y0,r2");
        check.is("first and third", x.swaps(0, 2), 1);
        check.is("the first", x.team(0), 1);
        check.is("the third", x.team(2), 0);
        check.is("its caution", x.cautions(0, 0), 1);
        check.tells(x, "its ban", x.out(0, 0), 4, 1, 3);
        check.is("the other way round", x.swaps(2, 0), 1);
        check.is("as they were", x.team(0), 0);
        for (int player = 0; player < 6; player++) {
            int p = player;
            check.refuses(x, "itself", -2, 0, () -> x.swaps(p, p));
            check.refuses(x, "its mate", -2, 0, () -> x.swaps(p, p ^ 1));
        }
    }

    // ---- promises 13 and 14

    /** "A BAN of n MATCHES (1 .. 9)", "NONE: another n, too". */
    private static void bansOfOneToNine() {
        CardsAndBans x = Check.ordinary();
        Check.play(x, 2, 0, 1, "");
        for (int n = 1; n <= 9; n++) {
            check.is("of " + n, x.bans(5, 3, n), n - 1);
            check.is("left", x.ban(n - 1, 2), n);
            check.is("at first", x.ban(n - 1, 5), n);
            check.is("behind match 1", x.ban(n - 1, 6), 1);
            check.is("entry", x.book(0, 0) * 100 + x.book(0, 1) * 10 + x.book(0, 2), (n - 1) * 10 + 1);
        }
        for (int n : new int[] {0, 10, -1, Integer.MIN_VALUE, Integer.MAX_VALUE}) {
            check.refuses(x, "of " + n, NONE, 0, () -> x.bans(5, 3, n));
        }
    }

    /** "(an empty one: none, an ACT, too)", even of a hundred or without a PLAYER. */
    private static void noneGiven() {
        CardsAndBans x = new CardsAndBans();
        check.is("none of no players", x.given(), 0);
        check.is("an act", x.count(5), 1);
        check.is("undone", x.undo(), 0);
        x = Check.ordinary();
        Check.fill(x, 100);
        check.is("none of a hundred", x.given(), 0);
        check.is("bans", x.count(1), 100);
        x.undo();
        check.is("as if it had never been", x.count(1), 100);
        x.undo();
        check.is("the act ahead of it", x.count(1), 99);
    }

    /** "-4: there would be more than 100 (none comes)". */
    private static void hundredGiven() {
        String all = "0c0n1,".repeat(32) + "0c0n1";
        for (int given = 1; given <= 33; given++) {
            String text = all.substring(0, 6 * given - 1);
            CardsAndBans x = Check.ordinary();
            Check.fill(x, 100 - given);
            check.is(given + " to a hundred", Check.given(x, text), given);
            check.is("a hundred", x.count(1), 100);
            CardsAndBans y = Check.ordinary();
            Check.fill(y, 101 - given);
            check.refuses(y, given + " above a hundred", -4, 0, () -> Check.given(y, text));
        }
        CardsAndBans x = Check.ordinary();
        check.is("in their order", Check.given(x, "5c3n9,0c0n1,5c1n2"), 3);
        int[] due = {5, 3, 9, 0, 0, 0, 1, 0, 5, 1, 2, 1};
        for (int i = 0; i < due.length; i++) {
            check.is("ban " + i / 4 + ", " + i % 4, x.ban(i / 4, i % 4), due[i]);
        }
        check.is("one act", x.undo(), 0);
    }

    // ---- promise 15

    /** "LEFT of it. -2: it is not OPEN": served, struck, forgiven; LEFT 1 is the least. */
    private static void appealAgainstAnOpenOne() {
        CardsAndBans x = Check.ordinary();
        Check.given(x, "0c0n2,1c0n9,2c0n1,3c0n1,4c0n1");
        Check.play(x, 0, 0, 1, "");
        check.is("left 1 of 2", x.appeal(0), 1);
        check.is("left 8 of 9", x.appeal(1), 8);
        check.refuses(x, "served", -2, 0, () -> x.appeal(2));
        x.pardon(4, 1);
        check.refuses(x, "forgiven", -2, 0, () -> x.appeal(4));
        x.decide(0, true, 0);
        check.refuses(x, "struck", -2, 0, () -> x.appeal(0));
        check.is("entry", x.book(1, 0), 3);
        x.bans(5, 0, 1);
        check.is("the least", x.appeal(5), 1);
        check.is("entry", x.book(0, 0), 4);
    }

    /** "-3: there was one." */
    private static void thereWasOne() {
        CardsAndBans x = Check.ordinary();
        x.bans(0, 0, 9);
        x.appeal(0);
        check.refuses(x, "pending", -3, 0, () -> x.appeal(0));
        x.pardon(0, 1);
        check.refuses(x, "pending, a part forgiven", -3, 0, () -> x.appeal(0));
        x.decide(0, false, 3);
        check.refuses(x, "decided", -3, 0, () -> x.appeal(0));
        x.undo();
        x.undo();
        x.undo();
        check.is("undone", x.appeal(0), 9);
    }

    // ---- promises 16 and 17

    /** "else more (0 .. 3; of one that is granted 0) MATCHES are added: LEFT", "NONE: another more, too". */
    private static void moreFromNoughtToThree() {
        for (int more = 0; more <= 3; more++) {
            CardsAndBans x = Check.ordinary();
            x.bans(0, 0, 9);
            x.appeal(0);
            check.is("not granted, " + more, x.decide(0, false, more), 9 + more);
            check.is("left", x.ban(0, 2), 9 + more);
            check.is("at first", x.ban(0, 5), 9);
            check.is("decided", x.ban(0, 4), 2);
            check.is("entry", x.book(0, 0), 5);
            check.is("misses", x.misses(0, 0), 9 + more);
        }
        CardsAndBans x = Check.ordinary();
        x.bans(0, 0, 9);
        x.appeal(0);
        for (int more : new int[] {-1, 4, Integer.MIN_VALUE, Integer.MAX_VALUE}) {
            check.refuses(x, "not granted, " + more, NONE, 0, () -> x.decide(0, false, more));
        }
        for (int more : new int[] {-1, 1, 2, 3, 4, Integer.MIN_VALUE, Integer.MAX_VALUE}) {
            check.refuses(x, "granted, " + more, NONE, 0, () -> x.decide(0, true, more));
        }
        check.is("granted, 0", x.decide(0, true, 0), 0);
        check.is("decided", x.ban(0, 4), 2);
        check.is("entry", x.book(0, 0), 3);
        check.is("it may play", x.may(0, 0), 1);
    }

    /** "-2: it is not PENDING". */
    private static void notPending() {
        CardsAndBans x = Check.ordinary();
        Check.given(x, "0c0n2,1c0n2,2c0n2,3c0n2");
        x.appeal(1);
        x.decide(1, false, 0);
        x.appeal(2);
        x.pardon(2, 2);
        x.appeal(3);
        x.decide(3, true, 0);
        for (int ban = 0; ban < 4; ban++) {
            int b = ban;
            check.refuses(x, "granted, ban " + ban, -2, 0, () -> x.decide(b, true, 0));
            check.refuses(x, "not granted, ban " + ban, -2, 0, () -> x.decide(b, false, 3));
        }
        check.refuses(x, "all, granted", -2, 0, () -> x.decides(true));
        check.refuses(x, "all, not granted", -2, 0, () -> x.decides(false));
    }

    /** "All PENDING APPEALS are DECIDED, by numbers of BANS, granted or not, none added: how many." */
    private static void allPending() {
        for (int pending : new int[] {1, 2, 100}) {
            for (int granted = 0; granted <= 1; granted++) {
                CardsAndBans x = new CardsAndBans();
                Check.squads(x, "0");
                for (int ban = 0; ban < pending; ban++) {
                    x.bans(0, 0, 9);
                }
                for (int ban = pending - 1; ban >= 0; ban--) {
                    x.appeal(ban);
                }
                check.is("decides", x.decides(granted == 1), pending);
                check.is("none is pending", x.count(3), 0);
                check.is("open ones", x.count(2), granted == 1 ? 0 : pending);
                check.is("left", x.owed(0), granted == 1 ? 0 : 9 * pending);
                for (int i = 0; i < Math.min(pending, 60); i++) {
                    check.is("entry " + i, x.book(i, 0), granted == 1 ? 3 : 5);
                    check.is("by numbers " + i, x.book(i, 1), pending - 1 - i);
                }
                x.undo();
                check.is("one act", x.count(3), pending);
            }
        }
    }

    // ---- promise 18

    /** "n MATCHES (1 or more, LEFT at most)", "NONE: n is below 1, or above LEFT of an OPEN one, too". */
    private static void pardonUpToLeft() {
        for (int left = 1; left <= 12; left++) {
            for (int n = 1; n <= left; n++) {
                CardsAndBans x = withLeft(left);
                check.is(n + " of " + left, x.pardon(0, n), left - n);
                check.is("left", x.ban(0, 2), left - n);
                check.is("struck at 0", x.book(0, 0) == 3, n == left);
            }
            CardsAndBans x = withLeft(left);
            for (int n : new int[] {0, -1, left + 1, Integer.MIN_VALUE, Integer.MAX_VALUE}) {
                check.refuses(x, n + " of " + left, NONE, 0, () -> x.pardon(0, n));
            }
        }
    }

    private static CardsAndBans withLeft(int left) {
        CardsAndBans x = Check.ordinary();
        x.bans(0, 0, 9);
        x.appeal(0);
        x.decide(0, false, Math.max(0, left - 9));
        for (int i = left; i < 9; i++) {
            Check.play(x, 0, 0, 1, "");
        }
        return x;
    }

    /** "(if that is 0, the BAN is struck, and an APPEAL that was PENDING DECIDED). -2: it is not OPEN". */
    private static void pardonToNought() {
        CardsAndBans x = Check.ordinary();
        Check.given(x, "0c0n2,1c0n2");
        x.appeal(0);
        int entries = x.count(6);
        check.is("a part", x.pardon(0, 1), 1);
        check.is("pending yet", x.ban(0, 4), 1);
        check.is("no entry", x.count(6), entries);
        check.is("all", x.pardon(0, 1), 0);
        check.is("decided", x.ban(0, 4), 2);
        check.is("struck", x.book(0, 0), 3);
        check.is("one entry", x.count(6), entries + 1);
        check.is("without an appeal", x.pardon(1, 2), 0);
        check.is("none", x.ban(1, 4), 0);
        for (int n : new int[] {1, 2, 9, Integer.MAX_VALUE}) {
            check.refuses(x, n + " of one that is not open", -2, 0, () -> x.pardon(0, n));
        }
        for (int n : new int[] {0, -1, Integer.MIN_VALUE}) {
            check.refuses(x, n + " of one that is not open", NONE, 0, () -> x.pardon(0, n));
        }
    }

    // ---- promise 19

    /** "all CAUTIONS are 0, TEAMS have played none in any CUP (BANS stay): how many CAUTIONS there were." */
    private static void newSeason() {
        CardsAndBans x = new CardsAndBans();
        check.is("none of a new object", x.season(), 0);
        check.is("an act", x.count(5), 1);
        x = twelve("0o1x2");
        Check.given(x, "0c3n9");
        int due = 0;
        for (int cup = 3; cup >= 0; cup--) {
            Check.play(x, cup, 0, 1, "y1,y5,y6,y11");
            due += 4;
        }
        check.is("cautions", x.season(), due);
        check.is("none", x.count(7), 0);
        for (int cup = 0; cup < 4; cup++) {
            check.is("played", x.played(0, cup), 0);
            check.is("played", x.played(1, cup), 0);
        }
        check.is("bans stay", x.ban(0, 2), 8);
        check.is("matches stay", x.count(4), 4);
        Check.play(x, 0, 0, 1, "y1");
        check.is("a round from the start", x.cautions(1, 0), 1);
        Check.play(x, 0, 0, 1, "y1");
        check.is("the round again", x.cautions(1, 0), 0);
        x.undo();
        x.undo();
        x.undo();
        check.is("undone", x.count(7), due);
        check.is("undone", x.played(0, 3), 1);
    }
}
