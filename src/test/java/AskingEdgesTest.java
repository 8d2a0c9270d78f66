/** Boundaries of promises 8, 9 and 20 to 43, a method for each sentence. */
public final class AskingEdgesTest {
    private static final Check check = new Check("AskingEdgesTest");
    private static final int NONE = CardsAndBans.NONE;

    public static void main(String[] args) {
        withoutPlayers();
        teamOfAPlayer();
        squadOfATeam();
        wouldServeFirst();
        outOfATeam();
        missesByLeft();
        owedByLeft();
        sidesOfTwo();
        untilNobodyIsOut();
        nextStep();
        oneAway();
        temptedTimes();
        temptedByRules();
        temptedToAHundred();
        costsOfCautions();
        moreToTheRound();
        planOfMatches();
        returnsAtAPlace();
        behindMatches();
        numbersOfABan();
        openBans();
        fewestAppeals();
        sumOfACup();
        worstOfEqualOnes();
        mostOfEqualOnes();
        longestOfEqualOnes();
        thousandthsCut();
        pointsOfCards();
        fairOfEqualOnes();
        cardsOfAPlayer();
        check.end();
    }

    private static CardsAndBans twelve(String squads, String rules) {
        CardsAndBans x = new CardsAndBans();
        Check.squads(x, squads);
        Check.rules(x, rules);
        return x;
    }

    /** "no PLAYERS": what is asked of TEAMS and CUPS is answered yet. */
    private static void withoutPlayers() {
        CardsAndBans x = new CardsAndBans();
        for (int team = 0; team < 4; team++) {
            for (int cup = 0; cup < 4; cup++) {
                check.tells(x, "squad", x.squad(team), 0, 0);
                check.tells(x, "out", x.out(team, cup), 0, 0);
                check.tells(x, "sides", x.sides(cup, team, (team + 1) % 4), 0, 0, 0, 0);
                check.tells(x, "until", x.until(team, cup), 0, 0);
                check.tells(x, "risks", x.risks(team, cup), 0, 0);
                check.tells(x, "played", x.played(team, cup), 0, NONE);
                check.tells(x, "points", x.points(team), 0, 0, 0, 0);
                check.tells(x, "sum", x.sum(cup), 0, 0, 0, 0);
                check.tells(x, "fair", x.fair(), 0, 0, 1, 2, 3);
                check.tells(x, "costs", x.costs(cup, 40), 0, 0);
                check.tells(x, "behind", Check.behind(x, "001"), 0, 0, 0);
            }
        }
    }

    // ---- promises 8 and 9

    /** "TEAM of a PLAYER; the ROW: BANS that are OPEN, BANS that it ever had": none, and a hundred. */
    private static void teamOfAPlayer() {
        CardsAndBans x = twelve("000000000003", "");
        check.tells(x, "none", x.team(11), 3, 0, 0);
        for (int ban = 0; ban < 100; ban++) {
            x.bans(11, ban % 4, 1);
        }
        check.tells(x, "a hundred", x.team(11), 3, 100, 100);
        x.pardon(0, 1);
        x.appeal(99);
        check.tells(x, "one struck, one pending", x.team(11), 3, 99, 100);
        x.move(11, 0);
        check.tells(x, "they go with it", x.team(11), 0, 99, 100);
        check.tells(x, "another player", x.team(0), 0, 0, 0);
    }

    /** "PLAYERS of a TEAM, as bits; the ROW: how many": nobody, the first, the last, all. */
    private static void squadOfATeam() {
        CardsAndBans x = new CardsAndBans();
        check.tells(x, "no players", x.squad(0), 0, 0);
        for (int team = 0; team < 4; team++) {
            Check.squads(x, String.valueOf(team).repeat(12));
            for (int other = 0; other < 4; other++) {
                check.tells(x, "all of " + team, x.squad(other), other == team ? 4095 : 0, other == team ? 12 : 0);
            }
        }
        Check.squads(x, "011111111112");
        check.tells(x, "the first", x.squad(0), 1, 1);
        check.tells(x, "those between", x.squad(1), 2046, 10);
        check.tells(x, "the last", x.squad(2), 2048, 1);
    }

    // ---- promises 20 to 25

    /** "the BAN that it would serve first there (NONE)". */
    private static void wouldServeFirst() {
        CardsAndBans x = Check.ordinary();
        check.tells(x, "none", x.may(5, 3), 1, NONE);
        Check.given(x, "5c0n1,5c3n1,5c1n1,5c3n1");
        check.tells(x, "own of 0", x.may(5, 0), 0, 0);
        check.tells(x, "all", x.may(5, 1), 0, 2);
        check.tells(x, "all in 2", x.may(5, 2), 0, 2);
        check.tells(x, "own of 3 ahead of all", x.may(5, 3), 0, 1);
        x.appeal(1);
        check.tells(x, "pending aside", x.may(5, 3), 0, 2);
        x.pardon(2, 1);
        check.tells(x, "struck aside", x.may(5, 3), 0, 3);
        Check.play(x, 3, 2, 1, "");
        check.tells(x, "served", x.may(5, 3), 1, NONE);
        x.decides(false);
        check.tells(x, "decided", x.may(5, 3), 0, 1);
    }

    /** "PLAYERS of a TEAM that are OUT of a CUP, as bits; the ROW: how many, then by these PLAYERS how many MATCHES". */
    private static void outOfATeam() {
        CardsAndBans x = twelve("333333333333", "2a1x0");
        check.tells(x, "nobody is out", x.out(3, 0), 0, 0);
        check.tells(x, "a team of nobody", x.out(0, 0), 0, 0);
        for (int player = 0; player < 12; player++) {
            x.bans(player, 2, 1 + player % 9);
        }
        check.tells(x, "all twelve are out", x.out(3, 0), 4095, 12, 1, 2, 3, 4, 5, 6, 7, 8, 9, 1, 2, 3);
        Check.play(x, 1, 3, 0, "");
        check.tells(x, "some have served", x.out(3, 3), 4095 - 1 - 512, 10, 1, 2, 3, 4, 5, 6, 7, 8, 1, 2);
    }

    /** "a PLAYER will miss by the BANS that there are (PENDING ones aside); the ROW: the same, if .. not granted". */
    private static void missesByLeft() {
        CardsAndBans x = Check.ordinary();
        check.tells(x, "none", x.misses(0, 0), 0, 0);
        Check.given(x, "0c0n9,0c1n9,0c2n9");
        check.tells(x, "in cup 0", x.misses(0, 0), 18, 18);
        Check.play(x, 0, 0, 1, "");
        check.tells(x, "one is served", x.misses(0, 0), 17, 17);
        check.tells(x, "none of another cup", x.misses(0, 1), 9, 9);
        x.appeal(0);
        check.tells(x, "an own one pending", x.misses(0, 0), 9, 17);
        check.tells(x, "that is of another cup", x.misses(0, 3), 9, 9);
        x.appeal(1);
        check.tells(x, "both pending", x.misses(0, 0), 0, 17);
        x.decide(0, true, 0);
        check.tells(x, "one granted", x.misses(0, 0), 0, 9);
        x.decide(1, false, 3);
        check.tells(x, "three added", x.misses(0, 0), 12, 12);

        x = twelve("0", "0a1x0");
        for (int ban = 0; ban < 100; ban++) {
            x.bans(0, 0, 9);
        }
        check.tells(x, "a hundred of nine", x.misses(0, 3), 900, 900);
        check.tells(x, "a hundred of nine", x.owed(0), 900, 900, 900, 900, 900);
    }

    /** "LEFT of all BANS of a PLAYER together (PENDING ones, too); the ROW: CUP by CUP what misses() tells." */
    private static void owedByLeft() {
        CardsAndBans x = Check.ordinary();
        check.tells(x, "none", x.owed(5), 0, 0, 0, 0, 0);
        Check.given(x, "5c0n1,5c1n2,5c2n4,5c3n8,4c0n9");
        check.tells(x, "own and all", x.owed(5), 15, 3, 2, 6, 10);
        x.appeal(3);
        check.tells(x, "pending", x.owed(5), 15, 3, 2, 6, 2);
        Check.play(x, 2, 2, 3, "");
        check.tells(x, "the first that bars is served", x.owed(5), 14, 2, 1, 5, 1);
        x.decides(true);
        check.tells(x, "struck", x.owed(5), 6, 2, 1, 5, 1);
    }

    /** "PLAYERS of TEAMS a and b who may play in a CUP .. the ROW: how many of a, of b; who of both are OUT". */
    private static void sidesOfTwo() {
        CardsAndBans x = twelve("000000111111", "3a1x0");
        check.tells(x, "all may", x.sides(0, 0, 1), 4095, 6, 6, 0);
        check.tells(x, "of nobody", x.sides(0, 2, 3), 0, 0, 0, 0);
        check.tells(x, "of nobody and all", x.sides(0, 2, 1), 4032, 0, 6, 0);
        for (int player = 0; player < 12; player++) {
            x.bans(player, player == 11 ? 0 : 3, 1);
        }
        check.tells(x, "none may", x.sides(0, 1, 0), 0, 0, 0, 4095);
        check.tells(x, "the last may", x.sides(1, 1, 0), 2048, 1, 0, 2047);
        check.tells(x, "the last may", x.sides(1, 0, 1), 2048, 0, 1, 2047);
        for (int team = 0; team < 4; team++) {
            int t = team;
            check.refuses(x, "a is b", NONE, 0, () -> x.sides(0, t, t));
        }
    }

    /** "until nobody of a TEAM is OUT of it .. the ROW: PLAYERS who are OUT as long, as bits (0: nobody is)". */
    private static void untilNobodyIsOut() {
        CardsAndBans x = twelve("000000000001", "1a1x0");
        check.tells(x, "nobody is", x.until(0, 0), 0, 0);
        check.tells(x, "a team of nobody", x.until(3, 0), 0, 0);
        Check.given(x, "11c0n9,0c0n1");
        check.tells(x, "one", x.until(0, 0), 1, 1);
        x.bans(10, 1, 1);
        check.tells(x, "as long", x.until(0, 0), 1, 1025);
        x.bans(5, 0, 2);
        check.tells(x, "longer", x.until(0, 0), 2, 32);
        check.tells(x, "another cup", x.until(0, 3), 1, 1024);
        x.appeal(3);
        check.tells(x, "pending aside", x.until(0, 0), 1, 1025);
        Check.play(x, 0, 0, 2, "");
        check.tells(x, "served", x.until(0, 0), 0, 0);
        check.tells(x, "another team", x.until(1, 0), 9, 2048);
    }

    // ---- promises 26 to 30

    /** "how many more to the next STEP (NONE: there is none), its MATCHES (NONE)". */
    private static void nextStep() {
        nextStepWith("0o1x0:1/9,3/8,20/7");
        nextStepWith("1o1x20:1/1;0a9x0:1/9,3/8,20/7;2o1x20:2/2");
        CardsAndBans x = twelve("01", "0o1x20:2/3");
        check.tells(x, "a round is no step", x.cautions(0, 0), 0, 2, 3);
        Check.play(x, 0, 0, 1, "y0");
        check.tells(x, "a round is no step", x.cautions(0, 0), 1, 1, 3);
        Check.play(x, 0, 0, 1, "y0");
        check.tells(x, "a round is no step", x.cautions(0, 0), 2, NONE, NONE);
        Check.rules(x, "0o1x20:1/1,2/2,3/4");
        check.tells(x, "the steps there are now", x.cautions(0, 0), 2, 1, 4);
    }

    private static void nextStepWith(String rules) {
        CardsAndBans x = twelve("01", rules);
        int[] more = {1, 2, 1, 17, 16};
        int[] matches = {9, 8, 8, 7, 7};
        for (int shown = 0; shown <= 21; shown++) {
            long toNext = shown >= 20 ? NONE : shown < more.length ? more[shown] : 20 - shown;
            long itsMatches = shown >= 20 ? NONE : shown < matches.length ? matches[shown] : 7;
            check.tells(x, "at " + shown, x.cautions(1, 0), shown, toNext, itsMatches);
            Check.play(x, 0, 0, 1, "y1");
            if (x.count(2) > 0) {
                x.pardon(x.count(1) - 1, x.ban(x.count(1) - 1, 2));
            }
        }
        check.tells(x, "no steps", x.cautions(1, 3), 0, NONE, NONE);
    }

    /** "PLAYERS of a TEAM that are one caution away from a STEP .. the ROW: how many of these are not OUT of it". */
    private static void oneAway() {
        CardsAndBans x = twelve("000000000001", "0o1x0:3/2;1o1x0:1/1,2/1;3o1x0");
        check.tells(x, "of none, three away", x.risks(0, 0), 0, 0);
        check.tells(x, "of none, one away", x.risks(0, 1), 2047, 11);
        check.tells(x, "one of one", x.risks(1, 1), 2048, 1);
        check.tells(x, "a team of nobody", x.risks(2, 1), 0, 0);
        check.tells(x, "no steps", x.risks(0, 3), 0, 0);
        Check.play(x, 0, 0, 1, "y0,y10");
        check.tells(x, "two away", x.risks(0, 0), 0, 0);
        Check.play(x, 0, 0, 1, "y0,y10");
        check.tells(x, "one away", x.risks(0, 0), 1025, 2);
        x.bans(0, 0, 1);
        check.tells(x, "one is out", x.risks(0, 0), 1025, 1);
        x.appeal(0);
        check.tells(x, "pending", x.risks(0, 0), 1025, 2);
        Check.play(x, 0, 0, 1, "y10");
        check.tells(x, "at the step", x.risks(0, 0), 1, 1);
        Check.play(x, 1, 0, 1, "y0");
        check.tells(x, "at a step, one away from the next", x.risks(0, 1), 2047, 10);
    }

    /** "n (1 .. 40)", "NONE: another n, too". */
    private static void temptedTimes() {
        CardsAndBans x = twelve("01", "0o1x0:1/9,2/9,3/9,4/9");
        check.tells(x, "once", x.tempts(0, 0, 1), 0, 1, 1);
        check.tells(x, "ten times", x.tempts(0, 0, 10), 9, 1, 1);
        check.tells(x, "eleven times", x.tempts(0, 0, 11), 9, 2, 2);
        check.tells(x, "39 times", x.tempts(0, 0, 39), 35, 4, 4);
        check.tells(x, "forty times", x.tempts(0, 0, 40), 36, 4, 4);
        check.tells(x, "no steps", x.tempts(1, 3, 40), 0, 0, 40);
        for (int n : new int[] {0, 41, -1, Integer.MIN_VALUE, Integer.MAX_VALUE}) {
            check.refuses(x, n + " times", NONE, 0, () -> x.tempts(0, 0, n));
        }
        for (int ban = 0; ban < 5; ban++) {
            x.bans(1, 0, 9);
        }
        check.tells(x, "out all the time", x.tempts(1, 0, 40), 40, 0, 0);
    }

    /** MATCHES in thought are as MATCHES that are played: ROUND, BANS of all CUPS, PENDING ones, CAUTIONS there are. */
    private static void temptedByRules() {
        CardsAndBans x = twelve("01", "0o1x3:2/1;1a1x20:20/9;2o1x1:1/2");
        check.tells(x, "wiped in the third", x.tempts(0, 0, 3), 1, 1, 0);
        check.tells(x, "a step again", x.tempts(0, 0, 6), 2, 2, 2);
        check.tells(x, "the 20th is a step, then wiped", x.tempts(0, 1, 20), 0, 1, 0);
        check.tells(x, "and missed behind", x.tempts(0, 1, 30), 9, 1, 1);
        check.tells(x, "19 are not", x.tempts(0, 1, 19), 0, 0, 19);
        check.tells(x, "a round of one", x.tempts(0, 2, 1), 0, 1, 0);
        check.tells(x, "a round of one, once", x.tempts(0, 2, 5), 3, 2, 1);
        Check.play(x, 0, 0, 1, "y0");
        Check.play(x, 0, 0, 1, "");
        check.tells(x, "played two of three", x.tempts(0, 0, 1), 0, 1, 0);
        check.tells(x, "the other team, too", x.tempts(1, 0, 1), 0, 0, 0);
        Check.play(x, 0, 1, 2, "");
        check.tells(x, "the other team is past it", x.tempts(1, 0, 1), 0, 0, 1);
        check.tells(x, "it is not", x.tempts(0, 0, 1), 0, 1, 0);
        x.move(1, 3);
        check.tells(x, "of the team it is in now", x.tempts(1, 0, 3), 1, 1, 0);
        Check.given(x, "0c1n2,0c2n2,0c0n1");
        check.tells(x, "bans of all and of its own", x.tempts(0, 0, 3), 3, 0, 0);
        x.appeal(0);
        check.tells(x, "pending aside", x.tempts(0, 0, 3), 1, 1, 2);
        check.is("nothing changed", x.owed(0), 5);
    }

    /** "-4: there would be more than 100 BANS." */
    private static void temptedToAHundred() {
        for (int bans = 97; bans <= 100; bans++) {
            CardsAndBans x = twelve("01", "0o1x0:1/1,2/1,3/1");
            for (int ban = 0; ban < bans; ban++) {
                x.bans(1, 1, 1);
            }
            for (int came = 1; came <= 3; came++) {
                int n = 2 * came - 1;
                if (bans + came <= 100) {
                    check.tells(x, came + " behind " + bans, x.tempts(0, 0, n), came - 1, came, came);
                } else {
                    check.refuses(x, came + " behind " + bans, -4, 0, () -> x.tempts(0, 0, n));
                }
            }
            check.tells(x, "none behind " + bans, x.tempts(0, 3, 40), 0, 0, 40);
        }
    }

    /** "MATCHES of the BANS that n (0 .. 40) CAUTIONS .. bring .. NONE: another n, too." */
    private static void costsOfCautions() {
        CardsAndBans x = twelve("", "0o1x1:1/1,2/2,19/4,20/9");
        int cost = 0;
        int bans = 0;
        for (int n = 0; n <= 40; n++) {
            cost += n == 1 ? 1 : n == 2 ? 2 : n == 19 ? 4 : n == 20 ? 9 : 0;
            bans += n == 1 || n == 2 || n == 19 || n == 20 ? 1 : 0;
            check.tells(x, "of " + n, x.costs(0, n), cost, bans);
            check.tells(x, "of " + n + " without steps", x.costs(3, n), 0, 0);
        }
        for (int n : new int[] {-1, 41, Integer.MIN_VALUE, Integer.MAX_VALUE}) {
            check.refuses(x, "of " + n, NONE, 0, () -> x.costs(0, n));
        }
    }

    /** "the ROW: in how many more CAUTIONS are wiped (NONE: never more)". */
    private static void moreToTheRound() {
        for (int round : new int[] {0, 1, 2, 20}) {
            CardsAndBans x = twelve("01", "3o1x" + round);
            for (int played = 0; played <= 22; played++) {
                check.tells(x, played + " of " + round, x.played(3, 3), played, played < round ? round - played : NONE);
                check.tells(x, "another team", x.played(1, 3), 0, round > 0 ? round : NONE);
                check.tells(x, "another cup", x.played(3, 2), 0, NONE);
                Check.play(x, 3, 3, 0, "");
            }
            x.season();
            check.tells(x, "a new season", x.played(3, 3), 0, round > 0 ? round : NONE);
        }
    }

    // ---- promises 31 to 33

    /** "those that a PLAYER misses, as bits; the ROW: how many it misses, LEFT of all its BANS behind". */
    private static void planOfMatches() {
        CardsAndBans x = twelve("0123", "1a1x0");
        check.tells(x, "none of none", Check.plan(x, 0, ""), 0, 0, 0);
        String fifty = "201,".repeat(49) + "201";
        check.tells(x, "fifty, no ban", Check.plan(x, 0, fifty), 0, 0, 0);
        for (int ban = 0; ban < 6; ban++) {
            x.bans(0, 1, 9);
        }
        check.tells(x, "fifty of 54", Check.plan(x, 0, fifty), (1L << 50) - 1, 50, 4);
        check.tells(x, "none of 54", Check.plan(x, 0, ""), 0, 0, 54);
        check.tells(x, "its rival", Check.plan(x, 1, fifty), 0, 0, 0);
        x.pardon(0, 5);
        check.tells(x, "fifty less one", Check.plan(x, 0, fifty), (1L << 49) - 1, 49, 0);
        check.tells(x, "the last alone", Check.plan(x, 0, "212,".repeat(49) + "230"), 1L << 49, 1, 48);
        x.bans(3, 2, 2);
        x.bans(3, 0, 1);
        x.appeal(7);
        check.tells(x, "own and pending", Check.plan(x, 3, "003,203,103,230,231,012"), 10, 2, 1);
        check.is("nothing changed", x.owed(3), 3);
        check.is("no match", x.count(4), 0);
    }

    /** "the place (0 the first) .. that a PLAYER may play; the ROW: how many of its TEAM are ahead of it", "-2: none". */
    private static void returnsAtAPlace() {
        CardsAndBans x = twelve("0123", "1a1x0");
        check.tells(x, "at once", Check.returns(x, 0, "001"), 0, 0);
        check.tells(x, "as b", Check.returns(x, 0, "010"), 0, 0);
        check.tells(x, "behind others", Check.returns(x, 3, "001,001,003"), 2, 0);
        check.refuses(x, "none of none", -2, 0, () -> Check.returns(x, 0, ""));
        check.refuses(x, "none of others", -2, 0, () -> Check.returns(x, 3, "001,002,012"));
        x.bans(0, 1, 1);
        check.refuses(x, "one, missed", -2, 0, () -> Check.returns(x, 0, "001"));
        check.tells(x, "the second", Check.returns(x, 0, "012,201,312,302"), 3, 1);
        for (int ban = 0; ban < 5; ban++) {
            x.bans(0, 1, 9);
        }
        x.bans(0, 0, 3);
        check.tells(x, "the fiftieth", Check.returns(x, 0, "001,".repeat(49) + "001"), 49, 49);
        check.tells(x, "the 47th", Check.returns(x, 0, "101,".repeat(46) + "101"), 46, 46);
        x.bans(0, 0, 1);
        check.refuses(x, "fifty, missed", -2, 0, () -> Check.returns(x, 0, "001,".repeat(49) + "001"));
    }

    /** "PLAYERS that are OUT of some CUP then, as bits; the ROW: MATCHES served by all, BANS that are OPEN then". */
    private static void behindMatches() {
        CardsAndBans none = new CardsAndBans();
        check.tells(none, "nobody", Check.behind(none, "001,323"), 0, 0, 0);
        CardsAndBans x = twelve("012301230123", "3a1x0");
        for (int player = 0; player < 12; player++) {
            x.bans(player, player % 4, 2);
        }
        check.tells(x, "ahead of all", Check.behind(x, ""), 4095, 0, 12);
        check.tells(x, "behind two", Check.behind(x, "001,123"), 4095, 6, 12);
        check.tells(x, "own ones of another cup", Check.behind(x, "201"), 4095, 0, 12);
        check.tells(x, "of team 2 alone", Check.behind(x, "201,212,220"), 4095 - 0x444, 6, 9);
        check.tells(x, "teams 0 and 3 are through", Check.behind(x, "003,003"), 4095 - 0x999, 12, 6);
        check.tells(x, "no more than there is", Check.behind(x, "003,".repeat(49) + "003"), 4095 - 0x999, 12, 6);
        x.appeal(0);
        check.tells(x, "a pending one is open, its player not out", Check.behind(x, "003,003"), 4095 - 0x999, 10, 7);
        check.is("nothing changed", x.count(2), 12);
    }

    // ---- promises 34 to 40

    /** "Of a BAN what 0 .. 7", "6: the MATCH in or behind which it came (0: ahead of any)", "NONE: another what". */
    private static void numbersOfABan() {
        CardsAndBans x = Check.ordinary();
        x.bans(5, 3, 9);
        Check.play(x, 0, 0, 1, "r1");
        x.bans(4, 1, 2);
        Check.play(x, 1, 2, 0, "");
        x.appeal(0);
        int[][] due = {{5, 3, 9, 0, 1, 9, 0, 0}, {1, 0, 3, 0, 0, 3, 1, 0}, {4, 1, 1, 1, 0, 2, 1, 1}};
        for (int ban = 0; ban < due.length; ban++) {
            for (int what = 0; what < 8; what++) {
                check.is("ban(" + ban + ", " + what + ")", x.ban(ban, what), due[ban][what]);
            }
        }
        for (int what : new int[] {-1, 8, Integer.MIN_VALUE, Integer.MAX_VALUE}) {
            check.refuses(x, "ban(0, " + what + ")", NONE, 0, () -> x.ban(0, what));
        }
        x.pardon(2, 1);
        check.is("forgiven is not served", x.ban(2, 7), 1);
        x.decide(0, false, 3);
        check.is("added is not at first", x.ban(0, 5), 9);
    }

    /** "OPEN BANS of a PLAYER (in their order): how many; the ROW: their numbers": none, and a hundred. */
    private static void openBans() {
        CardsAndBans x = Check.ordinary();
        x.fair();
        check.tells(x, "none", x.open(0), 0);
        Check.fill(x, 100);
        long[] all = new long[100];
        for (int ban = 0; ban < 100; ban++) {
            all[ban] = ban;
        }
        check.tells(x, "a hundred", x.open(0), 100, all);
        x.pardon(0, 1);
        x.pardon(99, 1);
        check.is("98", x.open(0), 98);
        check.is("the first", x.row(0), 1);
        check.is("the last", x.row(97), 98);
        check.is("no more", Check.hasRow(x, 98), false);
    }

    /** "The fewest BANS .. 0: it may play; -2: appeals can't." */
    private static void fewestAppeals() {
        CardsAndBans x = Check.ordinary();
        x.fair();
        check.tells(x, "it may play", x.frees(0, 0), 0);
        Check.given(x, "0c0n1,0c1n1,0c2n1");
        x.fair();
        check.tells(x, "own and all", x.frees(0, 0), 2, 0, 1);
        check.tells(x, "all alone", x.frees(0, 3), 1, 1);
        x.appeal(0);
        check.tells(x, "pending aside", x.frees(0, 0), 1, 1);
        x.appeal(1);
        check.tells(x, "all pending", x.frees(0, 0), 0);
        check.tells(x, "one of another cup", x.frees(0, 2), 1, 2);
        x.decide(0, false, 0);
        check.refuses(x, "a decided one", -2, 0, () -> x.frees(0, 0));
        check.tells(x, "in another cup it does not bar", x.frees(0, 3), 0);
        Check.play(x, 0, 0, 1, "");
        check.tells(x, "it is served", x.frees(0, 0), 0);
        CardsAndBans full = Check.ordinary();
        Check.fill(full, 100);
        check.is("a hundred", full.frees(0, 0), 100);
        check.is("the last", full.row(99), 99);
        full.appeal(99);
        full.decide(99, false, 0);
        check.refuses(full, "the last one is decided", -2, 0, () -> full.frees(0, 0));
    }

    /** "Of all BANS that came in a CUP: how many; the ROW: how many of these are OPEN, MATCHES of all, served of all." */
    private static void sumOfACup() {
        CardsAndBans x = Check.ordinary();
        check.tells(x, "none", x.sum(0), 0, 0, 0, 0);
        Check.given(x, "0c3n9,1c3n1,2c3n2,3c0n4");
        check.tells(x, "three", x.sum(3), 3, 3, 12, 0);
        Check.play(x, 3, 0, 1, "");
        check.tells(x, "three served, one over", x.sum(3), 3, 2, 12, 3);
        x.appeal(0);
        check.tells(x, "a pending one is open", x.sum(3), 3, 2, 12, 3);
        x.decide(0, true, 0);
        check.tells(x, "a struck one is not", x.sum(3), 3, 1, 12, 3);
        check.tells(x, "another cup", x.sum(0), 1, 1, 4, 0);
        CardsAndBans full = twelve("0", "");
        for (int ban = 0; ban < 100; ban++) {
            full.bans(0, 2, 9);
        }
        check.tells(full, "a hundred", full.sum(2), 100, 100, 900, 0);
    }

    /** "(LEFT of all BANS, PENDING ones too), of equal ones the first .. NONE: there are no PLAYERS." */
    private static void worstOfEqualOnes() {
        CardsAndBans none = new CardsAndBans();
        check.refuses(none, "no players", NONE, 0, none::worst);
        CardsAndBans x = twelve("000000111111", "");
        check.tells(x, "all equal", x.worst(), 0, 0);
        x.bans(11, 3, 1);
        check.tells(x, "the last", x.worst(), 11, 1);
        x.bans(5, 2, 1);
        check.tells(x, "the first of two", x.worst(), 5, 1);
        x.bans(11, 0, 1);
        check.tells(x, "two of one", x.worst(), 11, 2);
        x.appeal(2);
        check.tells(x, "pending, too", x.worst(), 11, 2);
        x.decides(true);
        check.tells(x, "struck", x.worst(), 5, 1);
        check.tells(x, "one player", Check.squads(x, "3") + x.worst(), 1, 0);
    }

    /** "of equal ones the first: it; the ROW: how many, of how many PLAYERS there are so many. -2: there are no PLAYERS." */
    private static void mostOfEqualOnes() {
        CardsAndBans none = new CardsAndBans();
        check.refuses(none, "no players", -2, 0, () -> none.most(0));
        check.refuses(none, "no players", -2, 0, () -> none.most(3));
        CardsAndBans x = twelve("000000111111", "");
        check.tells(x, "all equal", x.most(0), 0, 0, 12);
        Check.play(x, 0, 0, 1, "y5,y11");
        check.tells(x, "two", x.most(0), 5, 1, 2);
        Check.play(x, 0, 0, 1, "y11");
        check.tells(x, "one", x.most(0), 11, 2, 1);
        check.tells(x, "another cup", x.most(3), 0, 0, 12);
        x.season();
        check.tells(x, "a new season", x.most(0), 0, 0, 12);
        check.is("one player", Check.squads(x, "3"), 1);
        check.tells(x, "one player", x.most(3), 0, 0, 1);
    }

    /** "The BAN of a CUP that was the most MATCHES at first, of equal ones the first .. -2: there is none of it." */
    private static void longestOfEqualOnes() {
        CardsAndBans x = Check.ordinary();
        check.refuses(x, "no bans", -2, 0, () -> x.longest(0));
        x.bans(0, 3, 1);
        check.refuses(x, "of another cup", -2, 0, () -> x.longest(0));
        check.tells(x, "the very first", x.longest(3), 0, 1, 0);
        x.bans(1, 3, 1);
        check.tells(x, "the first of two", x.longest(3), 0, 1, 0);
        x.bans(1, 3, 8);
        x.bans(2, 3, 9);
        x.bans(3, 3, 9);
        check.tells(x, "the most", x.longest(3), 3, 9, 0);
        x.pardon(3, 9);
        check.tells(x, "struck, as at first", x.longest(3), 3, 9, 0);
        x.appeal(2);
        x.decide(2, false, 3);
        check.tells(x, "added does not count", x.longest(3), 3, 9, 0);
        CardsAndBans full = twelve("0", "");
        Check.fill(full, 99);
        full.bans(0, 0, 2);
        check.tells(full, "the hundredth", full.longest(0), 99, 2, 0);
    }

    /** "what is served of it in thousandths of that, cut". */
    private static void thousandthsCut() {
        for (int first = 1; first <= 9; first++) {
            CardsAndBans x = Check.ordinary();
            x.bans(0, 0, first);
            x.appeal(0);
            x.decide(0, false, 3);
            for (int served = 0; served <= first + 3; served++) {
                check.tells(x, served + " of " + first, x.longest(0), 0, first, 1000 * served / first);
                Check.play(x, 0, 0, 1, "");
            }
            check.tells(x, "no more than all", x.longest(0), 0, first, 1000 * (first + 3) / first);
        }
    }

    // ---- promises 41 to 43

    /** "a caution 1 (the second of a MATCH, too), a red 3; the ROW: cautions, reds, PLAYERS sent off". */
    private static void pointsOfCards() {
        CardsAndBans x = Check.ordinary();
        check.tells(x, "none", x.points(0), 0, 0, 0, 0);
        check.tells(x, "a team of nobody", x.points(3), 0, 0, 0, 0);
        Check.play(x, 2, 0, 2, "y0");
        check.tells(x, "a caution", x.points(0), 1, 1, 0, 0);
        Check.play(x, 2, 0, 2, "y0,y0");
        check.tells(x, "two in one match", x.points(0), 3, 3, 0, 1);
        Check.play(x, 2, 0, 2, "r1");
        check.tells(x, "a red", x.points(0), 6, 3, 1, 2);
        check.refuses(x, "a refused match", -2, 0, () -> Check.play(x, 3, 0, 2, "y1,r1,y2"));
        Check.play(x, 3, 0, 2, "y1,r1");
        check.tells(x, "a caution and a red", x.points(0), 10, 4, 2, 3);
        check.tells(x, "the other team", x.points(2), 0, 0, 0, 0);
        x.swaps(0, 4);
        x.season();
        check.tells(x, "as they were of it then", x.points(0), 10, 4, 2, 3);
        check.tells(x, "not of the new one", x.points(2), 0, 0, 0, 0);
        x.undo();
        x.undo();
        x.undo();
        check.tells(x, "undone", x.points(0), 6, 3, 1, 2);
    }

    /** "TEAMS by points, the fewest first, of equal ones the lesser number first: the first one; the ROW: all four." */
    private static void fairOfEqualOnes() {
        CardsAndBans x = twelve("0123", "");
        check.tells(x, "all equal", x.fair(), 0, 0, 1, 2, 3);
        Check.play(x, 0, 0, 1, "y0");
        check.tells(x, "the first is last", x.fair(), 1, 1, 2, 3, 0);
        Check.play(x, 0, 2, 1, "y2");
        check.tells(x, "two and two", x.fair(), 1, 1, 3, 0, 2);
        Check.play(x, 0, 3, 1, "r3,r1");
        check.tells(x, "one, one, three, three", x.fair(), 0, 0, 2, 1, 3);
        Check.play(x, 0, 0, 2, "r0,y2");
        check.tells(x, "two, three, three, four", x.fair(), 2, 2, 1, 3, 0);
        Check.play(x, 1, 3, 2, "r2");
        check.tells(x, "the last first", x.fair(), 1, 1, 3, 0, 2);
        Check.play(x, 1, 1, 2, "y1,y1");
        check.tells(x, "each its own", x.fair(), 3, 3, 0, 1, 2);
    }

    /** "Cards of a PLAYER since squads(): cautions; the ROW: reds, how often SENT OFF." */
    private static void cardsOfAPlayer() {
        CardsAndBans x = twelve("000000111111", "");
        check.tells(x, "none", x.cards(11), 0, 0, 0);
        Check.play(x, 0, 0, 1, "y11");
        check.tells(x, "a caution", x.cards(11), 1, 0, 0);
        Check.play(x, 0, 0, 1, "y11,y11");
        check.tells(x, "two in one match", x.cards(11), 3, 0, 1);
        Check.play(x, 1, 0, 1, "r11");
        check.tells(x, "a red", x.cards(11), 3, 1, 2);
        Check.play(x, 2, 0, 1, "y11,r11");
        check.tells(x, "a caution and a red", x.cards(11), 4, 2, 3);
        x.move(11, 3);
        x.season();
        check.tells(x, "a new team, a new season", x.cards(11), 4, 2, 3);
        check.tells(x, "another player", x.cards(10), 0, 0, 0);
        Check.squads(x, "000000111111");
        check.tells(x, "since squads()", x.cards(11), 0, 0, 0);
    }
}
