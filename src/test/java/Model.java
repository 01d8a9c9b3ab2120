import java.util.ArrayList;
import java.util.List;
import java.util.TreeSet;

/**
 * The document said once more, as plainly as can be and by other ways than ParityGame's: winners by measures of
 * progress, staying as what the other player can't pull out of, coming back as a game with the calls 1 and 2.
 */
final class Model {
    static final int FAR = 1_000_000;

    final List<Integer> owners = new ArrayList<>();
    final List<Integer> calls = new ArrayList<>();
    final List<int[]> moves = new ArrayList<>();
    int token;
    int made;
    final int[] heard = new int[10];

    Model twin() {
        Model other = new Model();
        other.owners.addAll(owners);
        other.calls.addAll(calls);
        for (int[] move : moves) {
            other.moves.add(move.clone());
        }
        other.token = token;
        other.made = made;
        System.arraycopy(heard, 0, other.heard, 0, 10);
        return other;
    }

    static Model first() {
        Model model = new Model();
        model.owners.addAll(List.of(0, 0, 1, 1));
        model.calls.addAll(List.of(0, 1, 2, 3));
        int[][] pairs = {{0, 1}, {0, 2}, {1, 0}, {1, 3}, {2, 0}, {2, 3}, {3, 2}};
        for (int[] pair : pairs) {
            model.moves.add(pair);
        }
        model.lay(0);
        return model;
    }

    int places() {
        return owners.size();
    }

    int all() {
        return (1 << places()) - 1;
    }

    List<Integer> from(int place) {
        List<Integer> found = new ArrayList<>();
        for (int i = 0; i < moves.size(); i++) {
            if (moves.get(i)[0] == place) {
                found.add(i);
            }
        }
        return found;
    }

    List<Integer> ends(int place) {
        List<Integer> found = new ArrayList<>();
        for (int move : from(place)) {
            found.add(moves.get(move)[1]);
        }
        return found;
    }

    int between(int from, int to) {
        for (int i = 0; i < moves.size(); i++) {
            if (moves.get(i)[0] == from && moves.get(i)[1] == to) {
                return i;
            }
        }
        return -1;
    }

    void lay(int place) {
        token = place;
        made = 0;
        java.util.Arrays.fill(heard, 0);
        heard[calls.get(place)]++;
    }

    void go(int move) {
        token = moves.get(move)[1];
        made++;
        heard[calls.get(token)]++;
    }

    int deadEnds() {
        int quantity = 0;
        for (int place = 0; place < places(); place++) {
            quantity += from(place).isEmpty() ? 1 : 0;
        }
        return quantity;
    }

    int differentCalls() {
        return new TreeSet<>(calls).size();
    }

    // ---- winners: the measure of a place counts, for each odd call, how often player 0 may have to hear it
    // before a greater one; null: without end

    int won(int player) {
        int[][] measures = new int[places()][10];
        int[] most = new int[10];
        for (int call : calls) {
            most[call]++;
        }
        boolean lifted = true;
        while (lifted) {
            lifted = false;
            for (int place = 0; place < places(); place++) {
                int[] now = measures[place];
                if (now != null) {
                    int[] next = lift(place, measures, most);
                    if (compare(next, now, 0) > 0) {
                        measures[place] = next;
                        lifted = true;
                    }
                }
            }
        }
        int set = 0;
        for (int place = 0; place < places(); place++) {
            if ((measures[place] != null) == (player == 0)) {
                set |= 1 << place;
            }
        }
        return set;
    }

    private int[] lift(int place, int[][] measures, int[] most) {
        boolean mine = owners.get(place) == 0;
        List<Integer> ends = ends(place);
        if (ends.isEmpty()) {
            return mine ? null : new int[10];
        }
        int[] best = null;
        boolean any = false;
        for (int end : ends) {
            int[] one = progress(measures[end], calls.get(place), most);
            if (!any || (mine ? compare(one, best, 0) < 0 : compare(one, best, 0) > 0)) {
                best = one;
                any = true;
            }
        }
        return best;
    }

    private static int[] progress(int[] measure, int call, int[] most) {
        if (measure == null) {
            return null;
        }
        int[] next = new int[10];
        System.arraycopy(measure, call, next, call, 10 - call);
        if (call % 2 == 0) {
            return next;
        }
        for (int c = call; c < 10; c += 2) {
            if (next[c] < most[c]) {
                next[c]++;
                return next;
            }
            next[c] = 0;
        }
        return null;
    }

    private static int compare(int[] a, int[] b, int least) {
        if (a == null || b == null) {
            return a == b ? 0 : a == null ? 1 : -1;
        }
        for (int call = 9; call >= least; call--) {
            if (a[call] != b[call]) {
                return a[call] > b[call] ? 1 : -1;
            }
        }
        return 0;
    }

    int winner(int place) {
        return (won(0) >> place & 1) == 1 ? 0 : 1;
    }

    double meanCall(int player) {
        int set = won(player);
        double sum = 0;
        double quantity = 0;
        for (int place = 0; place < places(); place++) {
            if ((set >> place & 1) == 1) {
                sum += calls.get(place);
                quantity++;
            }
        }
        return quantity == 0 ? 0.0 : sum / quantity;
    }

    /** Word for word as in the document: every move is tried, and all but the chosen ones are taken away. */
    int[] plan() {
        int[] plan = new int[places()];
        int zero = won(0);
        for (int place = 0; place < places(); place++) {
            plan[place] = from(place).isEmpty() ? -1 : from(place).get(0);
        }
        for (int player = 0; player < 2; player++) {
            int due = player == 0 ? zero : all() & ~zero;
            Model bound = twin();
            for (int place = 0; place < places(); place++) {
                if (owners.get(place) != player || (due >> place & 1) == 0) {
                    continue;
                }
                boolean found = false;
                for (int move : from(place)) {
                    Model tried = bound.twin();
                    int to = moves.get(move)[1];
                    int here = place;
                    tried.moves.removeIf(m -> m[0] == here && m[1] != to);
                    if ((due & ~tried.won(player)) == 0) {
                        plan[place] = move;
                        bound = tried;
                        found = true;
                        break;
                    }
                }
                if (!found) {
                    throw new AssertionError("no move of the plan");
                }
            }
        }
        return plan;
    }

    int follow(int place, int steps) {
        int[] plan = plan();
        int at = place;
        for (int i = 0; i < steps; i++) {
            if (plan[at] < 0) {
                return -1;
            }
            at = moves.get(plan[at])[1];
        }
        return at;
    }

    int play(int place, int what) {
        int[] plan = plan();
        List<Integer> path = new ArrayList<>();
        int at = place;
        while (!path.contains(at)) {
            path.add(at);
            if (plan[at] < 0) {
                return what == 0 ? path.size() - 1 : what == 1 ? 0 : -1;
            }
            at = moves.get(plan[at])[1];
        }
        int begin = path.indexOf(at);
        if (what == 0) {
            return begin;
        }
        if (what == 1) {
            return path.size() - begin;
        }
        int greatest = -1;
        for (int one : path.subList(begin, path.size())) {
            greatest = Math.max(greatest, calls.get(one));
        }
        return greatest;
    }

    // ---- sets

    private int[] distances(int player, int set) {
        int[] far = new int[places()];
        for (int place = 0; place < places(); place++) {
            far[place] = (set >> place & 1) == 1 ? 0 : FAR;
        }
        boolean better = true;
        while (better) {
            better = false;
            for (int place = 0; place < places(); place++) {
                if ((set >> place & 1) == 1 || ends(place).isEmpty()) {
                    continue;
                }
                int least = FAR;
                int most = 0;
                for (int end : ends(place)) {
                    least = Math.min(least, far[end]);
                    most = Math.max(most, far[end]);
                }
                int one = owners.get(place) == player ? least : most;
                int now = one >= FAR ? FAR : one + 1;
                if (now < far[place]) {
                    far[place] = now;
                    better = true;
                }
            }
        }
        return far;
    }

    int pull(int player, int set) {
        int found = 0;
        int[] far = distances(player, set);
        for (int place = 0; place < places(); place++) {
            if (far[place] < FAR) {
                found |= 1 << place;
            }
        }
        return found;
    }

    int pullIn(int place, int player, int set) {
        int far = distances(player, set)[place];
        return far < FAR ? far : -1;
    }

    int stay(int player, int set) {
        return set & ~pull(1 - player, all() & ~set);
    }

    int comeBack(int player, int set) {
        Model game = new Model();
        for (int place = 0; place < places(); place++) {
            game.owners.add(owners.get(place) == player ? 0 : 1);
            game.calls.add((set >> place & 1) == 1 ? 2 : 1);
            if (ends(place).isEmpty()) {
                // An ended play has not come back, whoever owns its end.
                game.owners.set(place, 0);
            }
        }
        for (int[] move : moves) {
            game.moves.add(move.clone());
        }
        return game.won(0);
    }

    boolean isTrap(int player, int set) {
        for (int place = 0; place < places(); place++) {
            if ((set >> place & 1) == 0) {
                continue;
            }
            boolean inside = false;
            boolean outside = false;
            for (int end : ends(place)) {
                if ((set >> end & 1) == 1) {
                    inside = true;
                } else {
                    outside = true;
                }
            }
            if (owners.get(place) == player ? outside : !inside) {
                return false;
            }
        }
        return true;
    }

    int calling(int call) {
        int set = 0;
        for (int place = 0; place < places(); place++) {
            if (calls.get(place) == call) {
                set |= 1 << place;
            }
        }
        return set;
    }

    // ---- what would be

    Model withCall(int place, int call) {
        Model other = twin();
        other.calls.set(place, call);
        return other;
    }

    Model withOther(int place) {
        Model other = twin();
        other.owners.set(place, 1 - owners.get(place));
        return other;
    }

    Model without(int move) {
        Model other = twin();
        other.moves.remove(move);
        return other;
    }

    Model with(int from, int to) {
        Model other = twin();
        if (between(from, to) < 0) {
            other.moves.add(new int[] {from, to});
        }
        return other;
    }

    int leastCall(int player, int place, int start) {
        for (int call = 0; call < 10; call++) {
            if ((withCall(place, call).won(player) >> start & 1) == 1) {
                return call;
            }
        }
        return -1;
    }

    int neededMoves() {
        int needed = 0;
        for (int move = 0; move < moves.size(); move++) {
            if (without(move).won(0) != won(0)) {
                needed++;
            }
        }
        return needed;
    }

    int keyPlace() {
        int most = 0;
        int key = -1;
        for (int place = 0; place < places(); place++) {
            int changed = 0;
            Model other = withOther(place);
            for (int one = 0; one < places(); one++) {
                if (other.winner(one) != winner(one)) {
                    changed++;
                }
            }
            if (changed > most) {
                most = changed;
                key = place;
            }
        }
        return key;
    }

    // ---- changes

    int removePlace(int place) {
        int before = moves.size();
        moves.removeIf(m -> m[0] == place || m[1] == place);
        for (int[] move : moves) {
            move[0] -= move[0] > place ? 1 : 0;
            move[1] -= move[1] > place ? 1 : 0;
        }
        owners.remove(place);
        calls.remove(place);
        lay(0);
        return before - moves.size();
    }

    int exchange() {
        for (int place = 0; place < places(); place++) {
            owners.set(place, 1 - owners.get(place));
            calls.set(place, calls.get(place) + 1);
        }
        lay(0);
        return java.util.Collections.max(calls);
    }

    int run(int steps) {
        int[] plan = plan();
        int done = 0;
        while (done < steps && plan[token] >= 0) {
            go(plan[token]);
            done++;
        }
        return done;
    }

    String written() {
        StringBuilder text = new StringBuilder();
        int[] plan = plan();
        for (int place = 0; place < places(); place++) {
            text.append(place == 0 ? "" : " ");
            text.append(owners.get(place) == 0 ? "e" : "o").append(calls.get(place));
            text.append(winner(place) == owners.get(place) ? "*" : "");
            text.append(plan[place] < 0 ? "" : ">" + moves.get(plan[place])[1]);
        }
        return text.toString();
    }
}
