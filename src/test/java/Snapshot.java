/**
 * All that can be asked of an object without a text, but its ROW, its TEXT and how many ACTS can be undone, as one text.
 */
final class Snapshot {
    private final CardsAndBans x;
    private final StringBuilder all = new StringBuilder();

    private Snapshot(CardsAndBans x) {
        this.x = x;
    }

    /** The ROW behind it is that of fair(). */
    static String of(CardsAndBans x) {
        Snapshot s = new Snapshot(x);
        s.all.append(Check.written(x));
        s.addCups();
        for (int what = 0; what <= 8; what++) {
            s.add(what == 5 ? 0 : x.count(what));
        }
        s.addPlayers();
        s.addTeams();
        s.addBansAndBook();
        s.add(x.fair());
        return s.all.toString();
    }

    private void add(long answer) {
        all.append(' ').append(answer);
    }

    private void addWithRow(long answer) {
        add(answer);
        for (long number : Check.rowOf(x)) {
            all.append(',').append(number);
        }
    }

    private void addCups() {
        for (int cup = 0; cup < 4; cup++) {
            for (int what = 0; what <= 12; what++) {
                add(x.rule(cup, what));
            }
            addWithRow(x.costs(cup, 40));
            addWithRow(x.sum(cup));
            addIfTold(x.most(cup));
            addIfTold(x.longest(cup));
        }
        addIfTold(x.worst());
    }

    /** The ROW stays with an answer below 0, so that it tells nothing of that. */
    private void addIfTold(long answer) {
        if (answer < 0) {
            add(answer);
        } else {
            addWithRow(answer);
        }
    }

    private void addPlayers() {
        for (int player = 0; player < x.count(0); player++) {
            addWithRow(x.team(player));
            addWithRow(x.cards(player));
            addWithRow(x.owed(player));
            addWithRow(x.open(player));
            addWithRow(x.told(player));
            for (int cup = 0; cup < 4; cup++) {
                addWithRow(x.cautions(player, cup));
                addWithRow(x.may(player, cup));
                addWithRow(x.misses(player, cup));
                addIfTold(x.frees(player, cup));
                addIfTold(x.tempts(player, cup, 3));
                addIfTold(x.tempts(player, cup, 40));
            }
        }
    }

    private void addTeams() {
        for (int team = 0; team < 4; team++) {
            addWithRow(x.squad(team));
            addWithRow(x.points(team));
            for (int cup = 0; cup < 4; cup++) {
                addWithRow(x.played(team, cup));
                addWithRow(x.out(team, cup));
                addWithRow(x.until(team, cup));
                addWithRow(x.risks(team, cup));
                addWithRow(x.sides(cup, team, (team + 1) % 4));
            }
        }
    }

    private void addBansAndBook() {
        for (int ban = 0; ban < x.count(1); ban++) {
            for (int what = 0; what < 8; what++) {
                add(x.ban(ban, what));
            }
        }
        for (int i = 0; i < x.count(6); i++) {
            for (int what = 0; what < 3; what++) {
                add(x.book(i, what));
            }
        }
    }
}
