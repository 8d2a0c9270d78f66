/** All that can be asked of an object but its ROW, its TEXT and how many ACTS can be undone, as one text. */
final class Snapshot {
    private final CardsAndBans x;
    private final StringBuilder all = new StringBuilder();

    private Snapshot(CardsAndBans x) {
        this.x = x;
    }

    /** The ROW behind it is that of fair(). */
    static String of(CardsAndBans x) {
        Snapshot s = new Snapshot(x);
        s.all.append(Check.written(x));
        for (int what = 0; what <= 8; what++) {
            s.add(what == 5 ? 0 : x.count(what));
        }
        s.addPlayers();
        s.addTeams();
        s.addBansAndBook();
        s.add(x.fair());
        return s.all.toString();
    }

    private void add(long answer) {
        all.append(' ').append(answer);
    }

    private void addWithRow(long answer) {
        add(answer);
        for (long number : Check.rowOf(x)) {
            all.append(',').append(number);
        }
    }

    private void addPlayers() {
        for (int player = 0; player < x.count(0); player++) {
            addWithRow(x.team(player));
            addWithRow(x.cards(player));
            for (int cup = 0; cup < 4; cup++) {
                addWithRow(x.cautions(player, cup));
            }
        }
    }

    private void addTeams() {
        for (int team = 0; team < 4; team++) {
            addWithRow(x.squad(team));
            addWithRow(x.points(team));
            for (int cup = 0; cup < 4; cup++) {
                addWithRow(x.played(team, cup));
            }
        }
    }

    private void addBansAndBook() {
        for (int ban = 0; ban < x.count(1); ban++) {
            for (int what = 0; what < 8; what++) {
                add(x.ban(ban, what));
            }
        }
        for (int i = 0; i < x.count(6); i++) {
            for (int what = 0; what < 3; what++) {
                add(x.book(i, what));
            }
        }
    }
}
